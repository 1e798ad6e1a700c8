/-! ===== pure layer: a play begins; a choice is taken ===== -/
def FX (m m1 : St) : Prop := (∀ q, q ≠ 0 → q ≠ 26 → q ≠ 29 → q ≠ 30 → q ≠ 31 → m1 q = m q) ∧ (∀ i, i ≠ 48 → i ≠ 49 → m1 0 i = m 0 i) ∧ (m 0 44 = 0 → m1 29 = m 29 ∧ m1 30 = m 30 ∧ m1 31 = m 31)
/-- the end of a flow, with the set of offered choices -/
def FLX (c m c' m' : St) (P D nd ck H : Nat) (K : Int) : Prop := FRP P c c' ∧ FX m m' ∧ PW c' m' P D nd ck H ∧ BX m' ∧ m' 26 10 ≤ K + 150 ∧ 1 ≤ m' 26 0 ∧ m' 26 0 ≤ 4 ∧ (m' 26 0 = 1 ↔ m' 26 9 ≠ 0) ∧ (m 0 44 ≠ 0 → ∀ i, i < ck → m' 31 i = if m' 26 0 = 1 ∧ (m' 26 9).toNat.testBit i = true then 1 else m 31 i)
section BEG
variable {D P N S B nd ck ts tm H : Nat} {c m : St} {φ : Nat → Nat} {e : Nat → Int}
theorem flow_all {x : Int} (hP : isP P) (hD : D = 2 ∨ D = 20) (h : SRx D c m φ e N S B nd ck ts tm) (hH : HM c D ck H) (hw : PW c m P D nd ck H) (hX : BX m) (hat : AT c m D φ e N B (m 0 48) (m 0 49) x) (hK : m 26 10 < 800000000) : ∃ c' m' : St, FLX c m c' m' P D nd ck H (m 26 10) ∧ (∀ Q : St → Prop, Q c' → f_X5_run P x c Q) ∧ ∀ Q : St → Prop, Q m' → f_X10_flows m Q := by
  obtain ⟨c1, m1, ⟨a1, a2, a3, a4, a5, a6, a7, a8⟩, goc, gom⟩ := flow_main (N := N) (S := S) (B := B) (ts := ts) (tm := tm) (φ := φ) (e := e) hP hD 301 150 0 0 0 c m x rfl (by decide) rfl rfl h hH hw hX hat (fun g => absurd g (by decide)) (by omega)
  have h' := h
  obtain ⟨⟨-, -, -, -, n32, -, -, -, -, -, -, -, -, ck16, -⟩, -⟩ := h'
  have hpow2 : 2 ^ ck ≤ 2 ^ 16 := Nat.pow_le_pow_right (by decide) ck16
  have hpow3 : (2 : Nat) ^ 16 = 65536 := rfl
  have b13 : 0 ≤ m1 26 9 := a3.2.1.2.2.2.2.2.2.2.2.2.2.2.2.1
  have b14 : m1 26 9 < ((2 ^ ck : Nat) : Int) := a3.2.1.2.2.2.2.2.2.2.2.2.2.2.2.2.1
  have h32 : m1 0 32 = (ck : Int) := by rw [a2.2.1 32 (by decide) (by decide), n32]
  have h44 : m1 0 44 = m 0 44 := a2.2.1 44 (by decide) (by decide)
  obtain ⟨m', i1, i2, i3⟩ := r_L54 (O := (m1 26 9).toNat) ck 0 m1 (by omega) ck16 h32 (by omega) (by omega) ⟨by omega, by omega⟩ a4.1 a4.2.2.2
  have r26 := i1 26 (by decide)
  have r0 := i1 0 (by decide)
  rw [h44, a2.2.2.2] at i2
  refine ⟨c1, m', ⟨a1, ⟨fun q a b d f g => by rw [i1 q g, a2.1 q a b d f g], fun i a b => by rw [r0, a2.2.1 i a b], fun g => ⟨by rw [i1 29 (by decide), (a2.2.2.1 g).1], by rw [i1 30 (by decide), (a2.2.2.1 g).2], ?_⟩⟩, ?_, ⟨?_, ?_, ?_, ?_⟩, ?_, ?_, ?_, ?_, fun g i hi => ?_⟩, fun Q hQ => ?_, fun Q hQ => ?_⟩
  · funext i
    rw [i2 i, if_neg (fun u => u.2.2.1 g)]
  · unfold PW PWx at *
    rw [r26, r0, i1 29 (by decide), i1 30 (by decide)]; exact a3
  · rw [r0]; exact a4.1
  · rw [i1 29 (by decide)]; exact a4.2.1
  · rw [i1 30 (by decide)]; exact a4.2.2.1
  · intro v hv
    rw [i2 v]
    split
    · exact Or.inr rfl
    · exact hX.2.2.2 v hv
  · rw [r26]; exact a5
  · rw [r26]; exact a6
  · rw [r26]; exact a7
  · rw [r26]; exact a8
  · rw [i2 i, r26]
    by_cases q : m1 26 0 = 1 ∧ (m1 26 9).toNat.testBit i = true
    · rw [if_pos q, if_pos ⟨Nat.zero_le _, hi, g, q⟩]
    · rw [if_neg q, if_neg (fun u => q u.2.2.2)]
  · exact goc Q FU (by show 150 + 3 - 0 ≤ 100000; decide) hQ
  · exact gom Q FU (by show 402 * (150 + 2 - 0) + 1 ≤ 100000; decide) (i3 Q FU (by show ck < 100000; omega) hQ)
/-- the class forgets its lines -/
theorem t_lempty (hP : isP P) : ∃ c1 : St, c1 (P + 1) = va_up (c (P + 1)) 0 0 ∧ (∀ i, i < 100 → c1 (P + 3) i = 0) ∧ (∀ q, q ≠ P + 1 → q ≠ P + 3 → c1 q = c q) ∧ ∀ Q : St → Prop, Q c1 → f_X4_empty (P + 1) c Q := by
  have hN : isN (P + 1) := by rcases hP with rfl | rfl; exact Or.inl rfl; exact Or.inr rfl
  have key : ∀ (j k : Nat) (c : St), k + j = 100 → ∃ c1 : St, (∀ q, q ≠ P + 3 → c1 q = c q) ∧ (∀ i, c1 (P + 3) i = if k ≤ i ∧ i < 100 then 0 else c (P + 3) i) ∧ ∀ (Q : St → Prop) (fu : Nat), j < fu → Q c1 → f_X4_empty_L7 Q fu c (P + 1) (k : Int) := by
    intro j
    induction j with
    | zero =>
      intro k c hk
      refine ⟨c, fun _ _ => rfl, fun i => by rw [if_neg (by omega)], fun Q fu hf hQ => ?_⟩
      cases fu with
      | zero => omega
      | succ fu =>
        unfold f_X4_empty_L7
        exact ⟨⟨by omega, by omega⟩, fun _ => hQ, fun g => by omega⟩
    | succ j ih =>
      intro k c hk
      obtain ⟨c1, i1, i2, i3⟩ := ih (k + 1) (sset c (P + 3) k 0) (by omega)
      refine ⟨c1, fun q hq => by rw [i1 q hq, sset_row _ _ _ hq], fun i => ?_, fun Q fu hf hQ => ?_⟩
      · rw [i2 i, sset_at]
        by_cases g : i = k
        · subst g; rw [if_neg (by omega), vu_eq, if_pos ⟨Nat.le_refl _, by omega⟩]
        · rw [vu_ne _ _ g]
          by_cases g2 : k + 1 ≤ i ∧ i < 100
          · rw [if_pos g2, if_pos ⟨by omega, g2.2⟩]
          · rw [if_neg g2, if_neg (by omega)]
      · cases fu with
        | zero => omega
        | succ fu =>
          unfold f_X4_empty_L7
          refine ⟨⟨by omega, by omega⟩, fun g => by omega, fun _ => ⟨hN, by omega, by omega, fun σ1 e1 => ?_⟩⟩
          rw [Int.toNat_natCast] at e1
          rw [e1]
          exact i3 Q fu (by omega) hQ
  obtain ⟨c1, i1, i2, i3⟩ := key 100 0 (sset c (P + 1) 0 0) (by omega)
  refine ⟨c1, by rw [i1 (P + 1) (by omega), sset_at], fun i hi => by rw [i2 i, if_pos ⟨Nat.zero_le _, hi⟩], fun q a b => by rw [i1 q b, sset_row _ _ _ a], fun Q hQ => ?_⟩
  unfold f_X4_empty
  refine ⟨hN, fun σ1 e1 => ?_⟩
  rw [e1]
  exact i3 Q FU (by show 100 < 100000; decide) hQ
/-- the play's numbers behind forget -/
def cFg (c : St) (P D : Nat) : St := sset (sset (sset (sset (sset (sset (sset (sset (sset (sset c P 0 (D : Int)) P 1 0) P 2 (-1)) P 3 (-1)) P 4 (-1)) P 5 0) P 6 0) P 7 0) P 8 0) P 9 0
theorem t_pforget (hP : isP P) : ∃ c1 : St, (c1 P 0 = (D : Int) ∧ c1 P 1 = 0 ∧ c1 P 3 = -1 ∧ c1 P 4 = -1 ∧ c1 P 5 = 0 ∧ c1 P 6 = 0 ∧ c1 P 7 = 0 ∧ c1 P 8 = 0 ∧ c1 P 9 = 0 ∧ c1 (P + 1) 0 = 0 ∧ (∀ i, i < 100 → c1 (P + 3) i = 0)) ∧ FRP P c c1 ∧ ∀ Q : St → Prop, Q c1 → f_X5_forget P D c Q := by
  obtain ⟨c1, i1, i2, i3, i4⟩ := t_lempty (c := cFg c P D) hP
  have rP : c1 P = cFg c P D P := i3 P (by omega) (by omega)
  refine ⟨c1, ⟨?_, ?_, ?_, ?_, ?_, ?_, ?_, ?_, ?_, ?_, i2⟩, fun q a b d f => ?_, fun Q hQ => ?_⟩
  · rw [rP]; unfold cFg; simp [sset_ap]
  · rw [rP]; unfold cFg; simp [sset_ap]
  · rw [rP]; unfold cFg; simp [sset_ap]
  · rw [rP]; unfold cFg; simp [sset_ap]
  · rw [rP]; unfold cFg; simp [sset_ap]
  · rw [rP]; unfold cFg; simp [sset_ap]
  · rw [rP]; unfold cFg; simp [sset_ap]
  · rw [rP]; unfold cFg; simp [sset_ap]
  · rw [rP]; unfold cFg; simp [sset_ap]
  · rw [i1, vu_eq]
  · rw [i3 q b f]; unfold cFg
    rw [sset_row _ _ _ a, sset_row _ _ _ a, sset_row _ _ _ a, sset_row _ _ _ a, sset_row _ _ _ a, sset_row _ _ _ a, sset_row _ _ _ a, sset_row _ _ _ a, sset_row _ _ _ a, sset_row _ _ _ a]
  · unfold f_X5_forget
    refine ⟨hP, fun σ1 e1 σ2 e2 σ3 e3 σ4 e4 σ5 e5 σ6 e6 σ7 e7 σ8 e8 σ9 e9 σ10 e10 => ?_⟩
    have es : σ10 = cFg c P D := by rw [e10, e9, e8, e7, e6, e5, e4, e3, e2, e1]; rfl
    rw [es]
    exact i4 Q hQ
/-- both begin the story -/
theorem J_begin (hP : isP P) (hD : D = 2 ∨ D = 20) (h : SRx D c m φ e N S B nd ck ts tm) (hH : HM c D ck H) (hX : BX m) (hx : m 0 44 ≠ 0 → (∀ v, v < 12 → m 30 v = 0) ∧ ∀ v, v < 100 → m 29 v = 0) : ∃ c' m' : St, FLX c m c' m' P D nd ck H 0 ∧ (∀ Q : St → Prop, Q c' → f_X5_begin P D c Q) ∧ ∀ Q : St → Prop, Q m' → f_X10_starts m Q := by
  obtain ⟨c1, ⟨g0, g1, g3, g4, g5, g6, g7, g8, g9, g10, g11⟩, gf, goc⟩ := t_pforget (c := c) (D := D) hP
  have key : ∀ (j k : Nat) (m : St), k + j = 31 → ∃ m1 : St, (∀ q, q ≠ 26 → m1 q = m q) ∧ (∀ i, m1 26 i = if k ≤ i ∧ i < 31 then 0 else m 26 i) ∧ ∀ (Q : St → Prop) (fu : Nat), j < fu → f_X10_enters 0 (sset m1 26 3 (-1)) (fun σ2 => f_X10_flows σ2 (fun σ3 => Q σ3)) → f_X10_starts_L2 Q fu m (k : Int) := by
    intro j
    induction j with
    | zero =>
      intro k m hk
      refine ⟨m, fun _ _ => rfl, fun i => by rw [if_neg (by omega)], fun Q fu hf hQ => ?_⟩
      cases fu with
      | zero => omega
      | succ fu =>
        unfold f_X10_starts_L2
        exact ⟨⟨by omega, by omega⟩, fun _ σ1 e1 => by rw [e1]; exact hQ, fun g => by omega⟩
    | succ j ih =>
      intro k m hk
      obtain ⟨m1, i1, i2, i3⟩ := ih (k + 1) (sset m 26 k 0) (by omega)
      refine ⟨m1, fun q hq => by rw [i1 q hq, sset_row _ _ _ hq], fun i => ?_, fun Q fu hf hQ => ?_⟩
      · rw [i2 i, sset_at]
        by_cases g : i = k
        · subst g; rw [if_neg (by omega), vu_eq, if_pos ⟨Nat.le_refl _, by omega⟩]
        · rw [vu_ne _ _ g]
          by_cases g2 : k + 1 ≤ i ∧ i < 31
          · rw [if_pos g2, if_pos ⟨by omega, g2.2⟩]
          · rw [if_neg g2, if_neg (by omega)]
      · cases fu with
        | zero => omega
        | succ fu =>
          unfold f_X10_starts_L2
          refine ⟨⟨by omega, by omega⟩, fun g => by omega, fun _ => ⟨by omega, by omega, fun σ1 e1 => ?_⟩⟩
          rw [Int.toNat_natCast] at e1
          rw [e1]
          exact i3 Q fu (by omega) hQ
  obtain ⟨m1, z1, z2, z3⟩ := key 31 0 m (by omega)
  obtain ⟨ma, hma⟩ : ∃ ma : St, ma = sset m1 26 3 (-1) := ⟨_, rfl⟩
  have ar : ∀ q, q ≠ 26 → ma q = m q := fun q hq => by rw [hma, sset_row _ _ _ hq, z1 q hq]
  have az : ∀ i, i < 31 → i ≠ 3 → ma 26 i = 0 := fun i a b => by rw [hma, sset_place _ _ _ b, z2 i, if_pos ⟨Nat.zero_le _, a⟩]
  have a3 : ma 26 3 = -1 := by rw [hma, sset_self]
  have afm : FM m ma := ⟨fun q a b d f g => ar q b, fun i a b => by rw [ar 0 (by decide)], fun _ => ⟨ar 29 (by decide), ar 30 (by decide)⟩, ar 31 (by decide)⟩
  have h1 := SRx_FPM hP hD h gf afm
  have h1' := h1
  obtain ⟨⟨-, -, -, -, -, -, -, -, -, -, -, nd0, nd12, -⟩, -⟩ := h1'
  have a0 := ar 0 (by decide)
  have hXa : BX ma := BX_same hX (by rw [a0]) (ar 29 (by decide)) (ar 30 (by decide)) (ar 31 (by decide))
  have pwe : PWe c1 ma P D nd ck H := by
    refine ⟨⟨g0, by rw [g1, az 0 (by decide) (by decide)], by rw [g4, a3], by rw [g5, az 4 (by decide) (by decide)], by rw [g6, az 5 (by decide) (by decide), az 6 (by decide) (by decide), az 7 (by decide) (by decide)]; rfl, by rw [g10, az 10 (by decide) (by decide)], fun g => ?_⟩, ⟨?_, ?_, ?_, ?_, ?_, ?_, ?_, ?_, ?_, ?_, ?_⟩, ⟨0, by rw [az 8 (by decide) (by decide)]; rfl, by decide, by rw [g7, Nat.zero_and]; rfl⟩, fun j h1 h2 => ?_, ⟨0, by decide, by rw [g9]; rfl, fun g => ?_⟩⟩
    · rw [az 0 (by decide) (by decide)] at g; exact absurd g (by decide)
    · rw [a3]; omega
    · rw [a3]; omega
    · rw [az 4 (by decide) (by decide)]; omega
    · rw [az 4 (by decide) (by decide)]; omega
    · rw [az 5 (by decide) (by decide)]; omega
    · rw [az 5 (by decide) (by decide)]; omega
    · rw [az 6 (by decide) (by decide)]; omega
    · rw [az 6 (by decide) (by decide)]; omega
    · rw [az 7 (by decide) (by decide)]; omega
    · rw [az 7 (by decide) (by decide)]; omega
    · rw [az 10 (by decide) (by decide)]; omega
    · rw [az 10 (by decide) (by decide)] at h2; omega
    · rw [a0] at g
      obtain ⟨u1, u2⟩ := hx g
      refine ⟨fun v hv => ?_, fun v hv => ?_⟩
      · rw [ar 30 (by decide), u1 v (by omega), Nat.zero_testBit]; rfl
      · rw [g11 v hv, ar 29 (by decide), u2 v hv]
  obtain ⟨c2, m2, j1, j2, j3, j4, j5, j6, j7, j8, j9, j10⟩ := J_enter (v := 0) (ma := ma) hP hD h1 pwe hXa nd0 (fun _ _ _ => rfl) (fun _ _ _ => rfl) (by rw [up_same (az 9 (by decide) (by decide))])
  obtain ⟨at1, -⟩ := AT_node h1 (v := 0) nd0
  have h2 := SRx_FPM hP hD h1 j1 j2
  have hat2 : AT c2 m2 D φ e N B (m2 0 48) (m2 0 49) (c1 (D + 14) 0) := by
    rw [j7, j8]
    exact AT_frame at1 (j1 (D + 4) (by unfold isP at hP; omega) (by unfold isP at hP; omega) (by unfold isP at hP; omega) (by unfold isP at hP; omega)) (j2.1 7 (by decide) (by decide) (by decide) (by decide) (by decide)) (j2.1 15 (by decide) (by decide) (by decide) (by decide) (by decide)) (j2.1 16 (by decide) (by decide) (by decide) (by decide) (by decide))
  rw [az 10 (by decide) (by decide)] at j5
  obtain ⟨c', m', ⟨k1, k2, k3, k4, k5, k6, k7, k8, k9⟩, goc2, gom2⟩ := flow_all hP hD h2 (HM_FRP hP hD (HM_FRP hP hD hH gf) j1) j3 j4 hat2 (by omega)
  have f2 := FM_trans afm j2
  have e44 : m2 0 44 = m 0 44 := f2.2.1 44 (by decide) (by decide)
  refine ⟨c', m', ⟨FRP_trans gf (FRP_trans j1 k1), ⟨fun q a b d f g => by rw [k2.1 q a b d f g, f2.1 q a b d f g], fun i a b => by rw [k2.2.1 i a b, f2.2.1 i a b], fun g => ?_⟩, k3, k4, by omega, k6, k7, k8, fun g i hi => ?_⟩, fun Q hQ => ?_, fun Q hQ => ?_⟩
  · obtain ⟨u1, u2, u3⟩ := k2.2.2 (by rw [e44]; exact g)
    exact ⟨by rw [u1, (f2.2.2.1 g).1], by rw [u2, (f2.2.2.1 g).2], by rw [u3, f2.2.2.2]⟩
  · rw [k9 (by rw [e44]; exact g) i hi, f2.2.2.2]
  · unfold f_X5_begin
    exact ⟨hP, goc _ (j9 _ (goc2 Q hQ))⟩
  · refine z3 Q FU (by show 31 < 100000; decide) ?_
    rw [← hma]
    exact j10 _ (gom2 Q hQ)
theorem and_pow (k H : Nat) : 2 ^ k &&& H = if H.testBit k then 2 ^ k else 0 := by
  apply Nat.eq_of_testBit_eq
  intro i
  rw [Nat.testBit_and, Nat.testBit_two_pow]
  by_cases g : k = i
  · subst g
    cases q : H.testBit k
    · simp
    · simp
  · rw [decide_eq_false g, Bool.false_and]
    cases q : H.testBit k
    · simp
    · simp [Nat.testBit_two_pow, g]
/-- both take a choice -/
theorem J_take {O pos k : Nat} (hP : isP P) (hD : D = 2 ∨ D = 20) (h : SRx D c m φ e N S B nd ck ts tm) (hH : HM c D ck H) (hw : PW c m P D nd ck H) (hX : BX m) (hO : m 26 9 = (O : Int)) (hpos : pos < 2147483648) (hk : nthb O ck 0 pos = (k : Int)) (hK : m 26 10 < 800000000) : ∃ c' m' : St, FLX c m c' m' P D nd ck H (m 26 10) ∧ (∀ Q : St → Prop, Q c' → f_X5_take P (pos : Int) c Q) ∧ ∀ Q : St → Prop, Q m' → f_X10_takes (k : Int) m Q := by
  have h' := h
  obtain ⟨⟨-, -, -, -, -, -, -, -, -, n14, -, -, nd12, ck16, -, nS, nB, -⟩, ⟨hYP, -, -, -, hYD, -, hYF, -⟩, -, -, -, -, -, -, -, -, hYH, hYQ, -⟩ := h'
  have hpow2 : 2 ^ ck ≤ 2 ^ 16 := Nat.pow_le_pow_right (by decide) ck16
  have hpow3 : (2 : Nat) ^ 16 = 65536 := rfl
  obtain ⟨⟨w0, w1, w3, w4, w5, w6, w8, w9, w10⟩, ⟨a1, a2, a3, a4, a5, a6, a7, a8, a9, a10, a11, a12, a13, a14, a15⟩, ⟨T, t1, t2, t3⟩, hl, hx⟩ := hw
  have hOc : O < 2 ^ ck := by omega
  have hkc : k < ck := by
    rcases nthb_r (O := O) ck 0 pos with u | ⟨i, u1, u2, u3, u4⟩
    · omega
    · omega
  have hpk : 2 ^ k < 2 ^ 16 := Nat.pow_lt_pow_right (by decide) (by omega)
  obtain ⟨at1, at2⟩ := AT_choice h hkc
  obtain ⟨f1, f2, f3, f4⟩ := hYF.1 k hkc
  have b1 := at1.1
  have b2 := at1.2.1
  have hge := phi_ge hYP (m 24 k).toNat (by omega)
  have hφ := hYP.1 (m 24 k).toNat (by omega)
  have hH' := hH
  obtain ⟨hH1, hh, hh1, hh2, hh3⟩ := hH'
  have hb := hh3 k hkc
  have hTH : T &&& H < 2 ^ 16 := Nat.and_lt_two_pow T hH1
  have hTk : T ||| 2 ^ k < 2 ^ 16 := Nat.or_lt_two_pow t2 hpk
  have q16 := (hYQ k hkc).2
  have n16 : 0 ≤ c (D + 16) k ∧ c (D + 16) k < 12 := by
    have a7 := h.2.1.2.1 (m 24 k).toNat (by omega)
    have d := hYD.1 (m 7 (m 24 k).toNat).toNat (by omega)
    rw [q16]; omega
  -- the class, before its flow
  obtain ⟨w, hw7⟩ : ∃ w : Int, w = ((((T ||| 2 ^ k) &&& H : Nat)) : Int) := ⟨_, rfl⟩
  obtain ⟨c1, hc1⟩ : ∃ c1 : St, c1 = sset (sset c P 7 w) P 8 0 := ⟨_, rfl⟩
  have cr : ∀ q, q ≠ P → c1 q = c q := fun q hq => by rw [hc1, sset_row _ _ _ hq, sset_row _ _ _ hq]
  have ci : ∀ i, i ≠ 7 → i ≠ 8 → c1 P i = c P i := fun i a b => by rw [hc1, sset_place _ _ _ b, sset_place _ _ _ a]
  have c7 : c1 P 7 = w := by rw [hc1, sset_place _ _ _ (by decide), sset_self]
  have c8 : c1 P 8 = 0 := by rw [hc1, sset_self]
  have cf : FRP P c c1 := fun q a b d f => cr q a
  -- the reference, before its flow
  obtain ⟨m1, hm1⟩ : ∃ m1 : St, m1 = sset (sset (sset (sset m 26 9 0) 26 8 ((T ||| 2 ^ k : Nat) : Int)) 0 49 (m 8 (m 24 k).toNat)) 0 48 (m 17 (m 8 (m 24 k).toNat).toNat) := ⟨_, rfl⟩
  have mr : ∀ q, q ≠ 0 → q ≠ 26 → m1 q = m q := fun q a b => by rw [hm1, sset_row _ _ _ a, sset_row _ _ _ a, sset_row _ _ _ b, sset_row _ _ _ b]
  have m0 : ∀ i, i ≠ 48 → i ≠ 49 → m1 0 i = m 0 i := fun i a b => by rw [hm1, sset_place _ _ _ a, sset_place _ _ _ b, sset_cell _ _ _ _ (by decide), sset_cell _ _ _ _ (by decide)]
  have mp : ∀ i, i ≠ 8 → i ≠ 9 → m1 26 i = m 26 i := fun i a b => by rw [hm1, sset_cell _ _ _ _ (by decide), sset_cell _ _ _ _ (by decide), sset_place _ _ _ a, sset_place _ _ _ b]
  have m8 : m1 26 8 = ((T ||| 2 ^ k : Nat) : Int) := by rw [hm1, sset_cell _ _ _ _ (by decide), sset_cell _ _ _ _ (by decide), sset_self]
  have m9 : m1 26 9 = 0 := by rw [hm1, sset_cell _ _ _ _ (by decide), sset_cell _ _ _ _ (by decide), sset_place _ _ _ (by decide), sset_self]
  have m48 : m1 0 48 = m 17 (m 8 (m 24 k).toNat).toNat := by rw [hm1, sset_self]
  have m49 : m1 0 49 = m 8 (m 24 k).toNat := by rw [hm1, sset_place _ _ _ (by decide), sset_self]
  have mf : FM m m1 := ⟨fun q a b d f g => mr q a b, m0, fun _ => ⟨mr 29 (by decide) (by decide), mr 30 (by decide) (by decide)⟩, mr 31 (by decide) (by decide)⟩
  have hpos2 : 0 < 2 ^ ck := Nat.pow_pos (by decide)
  have pw1 : PW c1 m1 P D nd ck H := by
    refine ⟨⟨?_, ?_, ?_, ?_, ?_, ?_, ?_, ?_, ?_⟩, ⟨?_, ?_, ?_, ?_, ?_, ?_, ?_, ?_, ?_, ?_, ?_, ?_, ?_, ?_, ?_⟩, ?_, ?_, ?_⟩
    · rw [ci 0 (by decide) (by decide), w0]
    · rw [ci 1 (by decide) (by decide), w1, mp 0 (by decide) (by decide)]
    · rw [ci 3 (by decide) (by decide), w3, mp 2 (by decide) (by decide)]
    · rw [ci 4 (by decide) (by decide), w4, mp 3 (by decide) (by decide)]
    · rw [ci 5 (by decide) (by decide), w5, mp 4 (by decide) (by decide)]
    · rw [ci 6 (by decide) (by decide), w6, mp 5 (by decide) (by decide), mp 6 (by decide) (by decide), mp 7 (by decide) (by decide)]
    · rw [c8, m9]
    · rw [cr (P + 1) (by omega), w9, mp 10 (by decide) (by decide)]
    · rw [ci 2 (by decide) (by decide), mp 0 (by decide) (by decide), mp 1 (by decide) (by decide)]; exact w10
    · rw [mp 2 (by decide) (by decide)]; exact a1
    · rw [mp 2 (by decide) (by decide)]; exact a2
    · rw [mp 3 (by decide) (by decide)]; exact a3
    · rw [mp 3 (by decide) (by decide)]; exact a4
    · rw [mp 4 (by decide) (by decide)]; exact a5
    · rw [mp 4 (by decide) (by decide)]; exact a6
    · rw [mp 5 (by decide) (by decide)]; exact a7
    · rw [mp 5 (by decide) (by decide)]; exact a8
    · rw [mp 6 (by decide) (by decide)]; exact a9
    · rw [mp 6 (by decide) (by decide)]; exact a10
    · rw [mp 7 (by decide) (by decide)]; exact a11
    · rw [mp 7 (by decide) (by decide)]; exact a12
    · rw [m9]; omega
    · rw [m9]; omega
    · rw [mp 10 (by decide) (by decide)]; exact a15
    · exact ⟨T ||| 2 ^ k, m8, by omega, by rw [c7, hw7]⟩
    · exact PWl_same hl (cr _ (by omega)) (fun i hi => mp i (by omega) (by omega))
    · exact PWx_same hx (ci 9 (by decide) (by decide)) (cr _ (by omega)) (m0 44 (by decide) (by decide)) (mr 29 (by decide) (by decide)) (mr 30 (by decide) (by decide))
  have hX1 : BX m1 := BX_same hX (m0 44 (by decide) (by decide)) (mr 29 (by decide) (by decide)) (mr 30 (by decide) (by decide)) (mr 31 (by decide) (by decide))
  have h1 := SRx_FPM hP hD h cf mf
  have hat1 : AT c1 m1 D φ e N B (m1 0 48) (m1 0 49) (c (D + 17) k) := by
    rw [m48, m49]
    exact AT_frame at1 (cr (D + 4) (by unfold isP at hP; omega)) (mr 7 (by decide) (by decide)) (mr 15 (by decide) (by decide)) (mr 16 (by decide) (by decide))
  obtain ⟨c', m', ⟨k1, k2, k3, k4, k5, k6, k7, k8, k9⟩, goc, gom⟩ := flow_all hP hD h1 (HM_FRP hP hD hH cf) pw1 hX1 hat1 (by rw [mp 10 (by decide) (by decide)]; exact hK)
  have e44 : m1 0 44 = m 0 44 := m0 44 (by decide) (by decide)
  rw [mp 10 (by decide) (by decide)] at k5
  refine ⟨c', m', ⟨FRP_trans cf k1, ⟨fun q a b d f g => by rw [k2.1 q a b d f g, mf.1 q a b d f g], fun i a b => by rw [k2.2.1 i a b, mf.2.1 i a b], fun g => ?_⟩, k3, k4, k5, k6, k7, k8, fun g i hi => ?_⟩, fun Q hQ => ?_, fun Q hQ => ?_⟩
  · obtain ⟨u1, u2, u3⟩ := k2.2.2 (by rw [e44]; exact g)
    exact ⟨by rw [u1, (mf.2.2.1 g).1], by rw [u2, (mf.2.2.1 g).2], by rw [u3, mf.2.2.2]⟩
  · rw [k9 (by rw [e44]; exact g) i hi, mf.2.2.2]
  · have last : ∀ σ : St, sset σ P 8 0 = c1 → σ P 0 = (D : Int) → f_X5_take_J40 Q σ P (k : Int) := by
      intro σ e1 e2
      unfold f_X5_take_J40
      refine ⟨hP, fun σ1 e3 => ?_⟩
      rw [e1] at e3
      rw [e3, ci 0 (by decide) (by decide), w0, Int.toNat_natCast, Int.toNat_natCast, cr (D + 17) (by unfold isP at hP; omega)]
      exact ⟨hD, by omega, by omega, goc Q hQ⟩
    have bt := bit_nat (x := hh) (k := (c (D + 16) k).toNat) (by omega) (by omega)
    rw [show (((c (D + 16) k).toNat : Nat) : Int) = c (D + 16) k by omega] at bt
    unfold f_X5_take
    refine ⟨hP, t_choiceAt hP (by rw [w8, hO]) (by omega) hpos ?_⟩
    rw [nthb_16 hOc ck16, hk]
    refine ⟨⟨by omega, by omega⟩, fun g => by omega, fun _ => ⟨⟨by omega, by omega⟩, fun _ => ?_, fun g => by omega⟩⟩
    rw [w0, Int.toNat_natCast]
    refine ⟨hD, ?_⟩
    unfold f_X7_standsInHub f_X7_standsAsHub
    rw [n14, Int.toNat_natCast, hh1, bt]
    refine ⟨⟨by omega, by omega⟩, fun g => by omega, fun _ => ⟨hD, ⟨by omega, by omega⟩, ⟨by omega, by omega⟩, fun g => by omega, fun _ => ⟨⟨by omega, by omega⟩, fun g => by omega, fun _ => ⟨by omega, by omega, hD, ?_⟩⟩⟩⟩
    have dis : (T ||| 2 ^ k) &&& H = (T &&& H) ||| (2 ^ k &&& H) := Nat.and_or_distrib_right ..
    rw [and_pow, hb] at dis
    by_cases q : hh.testBit (c (D + 16) k).toNat = true
    · rw [if_pos q] at dis ⊢
      refine ⟨⟨by decide, by decide⟩, fun g => absurd rfl g, fun _ => ⟨⟨by decide, by decide⟩, fun g => absurd g (by decide), fun _ => ⟨⟨by decide, by decide⟩, fun g => absurd g (by decide), fun _ σ3 e3 => ?_⟩⟩⟩
      rw [t3, ishl_1 (by omega), ior_nat (by omega) (by omega), ← dis, ← hw7] at e3
      refine last σ3 (by rw [e3, hc1]) (by rw [e3, sset_place _ _ _ (by decide), w0])
    · rw [if_neg q] at dis ⊢
      rw [Nat.or_zero] at dis
      refine ⟨⟨by decide, by decide⟩, fun _ => ⟨⟨by decide, by decide⟩, fun _ => ⟨⟨by decide, by decide⟩, fun _ => ?_, fun g => absurd rfl g⟩, fun g => absurd rfl g⟩, fun g => absurd g (by decide)⟩
      refine last c ?_ w0
      rw [hc1, sset_id c P 7 (by rw [t3, hw7, dis])]
  · unfold f_X10_takes
    intro σ1 e1 σ2 e2
    have s8 : σ1 26 8 = (T : Int) := by rw [e1, sset_place _ _ _ (by decide), t1]
    rw [s8, ishl_1 (by omega), ior_nat (by omega) (by omega)] at e2
    have rr : ∀ q, q ≠ 26 → σ2 q = m q := fun q hq => by rw [e2, sset_row _ _ _ hq, e1, sset_row _ _ _ hq]
    rw [Int.toNat_natCast, rr 24 (by decide), rr 8 (by decide)]
    refine ⟨by omega, by omega, f1, by omega, fun σ3 e3 => ?_⟩
    have s49 : σ3 0 49 = m 8 (m 24 k).toNat := by rw [e3, sset_self]
    have s17 : σ3 17 = m 17 := by rw [e3, sset_row _ _ _ (by decide), rr 17 (by decide)]
    rw [s49, s17]
    refine ⟨b1, by omega, fun σ4 e4 => ?_⟩
    have es : σ4 = m1 := by rw [e4, e3, e2, e1, hm1]
    rw [es]
    exact gom Q hQ
end BEG
