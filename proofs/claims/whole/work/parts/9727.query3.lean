/-! ===== pure layer: calls that only look: what was explored ===== -/
section QEX
variable {c m : St} {KB a b : Int}
theorem J_expl (h : Jx KB c m) : (c 52 1 = 0 ∧ m 0 53 = 0) ∨ (c 52 1 = 1 ∧ m 0 53 = 1 ∧ ∃ D nd ck H n li : Nat, (D = 2 ∨ D = 20) ∧ c 0 2 = (D : Int) ∧ c D 10 = (nd : Int) ∧ c D 14 = (ck : Int) ∧ nd ≤ 12 ∧ ck ≤ 16 ∧ m 0 30 = (nd : Int) ∧ m 0 32 = (ck : Int) ∧ EXR c m nd ck H n li 5000 ∧ EOF c m ck ∧ PWy c m 61 nd ∧ BX m) := by
  obtain ⟨-, -, D, ⟨hD, h2, -, hX, -⟩, hB⟩ := h
  rcases hB with ⟨-, -, -, -, n1, -⟩ | ⟨-, φ, e, N, S, B, nd, ck, ts, tm, H, hS, -, -, -, -, -, hE, -⟩
  · exact Or.inl n1
  · rcases hE with hE | ⟨e1, e2, ⟨n, li, e3⟩, e4, e5⟩
    · exact Or.inl hE
    · obtain ⟨⟨a1, a2, a3, a4, a5, a6, a7, a8, a9, a10, a11, a12, a13, a14, a15, a16, a17, a18⟩, -⟩ := hS
      exact Or.inr ⟨e1, e2, D, nd, ck, H, n, li, hD, h2, a9, a10, a13, a14, a4, a5, e3, e4, e5, hX⟩
theorem t_needEx (h1 : c 52 1 = 0 ∨ c 52 1 = 1) (Q : St → Prop) (E : String → St → Prop) : (c 52 1 = 1 → Q c → f_X9_needExploration c Q E) ∧ (c 52 1 = 0 → E ISE c → f_X9_needExploration c Q E) := by
  unfold f_X9_needExploration
  exact ⟨fun u q => ⟨inR_01 h1, fun _ => q, fun w => by omega⟩, fun u q => ⟨inR_01 h1, fun w => absurd u w, fun _ => q⟩⟩
theorem t_needOut (ha : inR a) (Q : St → Prop) (E : String → St → Prop) : (0 ≤ a → a < 12 → Q c → f_X9_needOutcome a c Q E) ∧ ((a < 0 ∨ 12 ≤ a) → E IAE c → f_X9_needOutcome a c Q E) := by
  unfold f_X9_needOutcome f_X9_needOutcome_J10
  exact ⟨fun u w q => ⟨ha, fun y => by omega, fun _ => ⟨ha, fun _ => q, fun y => by omega⟩⟩, fun u q => ⟨ha, fun _ => q, fun _ => ⟨ha, fun y => by omega, fun _ => q⟩⟩⟩
theorem r_no {Q : St → Int → Prop} (ha : inR a) (h53 : m 0 53 = 0 ∨ m 0 53 = 1) (h1 : (a < 0 ∨ 12 ≤ a) → Q m 1) (h2 : 0 ≤ a → a < 12 → m 0 53 = 0 → Q m 2) (h0 : 0 ≤ a → a < 12 → m 0 53 = 1 → Q m 0) : f_X10_no a m Q := by
  unfold f_X10_no
  refine s_in ha ⟨by decide, by decide⟩ ⟨by decide, by decide⟩ (fun u w => ⟨⟨by decide, by decide⟩, fun _ => ⟨inR_01 h53, fun z => h0 u (by omega) (by omega), fun z => h2 u (by omega) z⟩, fun z => absurd z (by decide)⟩) (fun u => ⟨⟨by decide, by decide⟩, fun z => absurd rfl z, fun _ => h1 (by omega)⟩)
theorem Q_isComplete (hJ : Jx KB c m) : JRb (Jx KB) (f_X9_isComplete c) (f_X10_isComplete m) (fun e v => e = ISE ∧ v = 1) := by
  rcases J_expl hJ with ⟨h1, h2⟩ | ⟨h1, h2, D, nd, ck, H, n, li, -, -, -, -, -, -, -, -, ⟨⟨x1, x2, x3, x4, x5, x6, x7, x8⟩, -⟩, -⟩
  · refine qb_thr (r := 0) (v := 1) (e := ISE) hJ (Or.inl rfl) ⟨rfl, rfl⟩ (fun Q hQ => ?_) (fun Q E hE => ?_)
    · unfold f_X10_isComplete f_X10_isComplete_J13
      rw [h2]
      refine ⟨⟨by decide, by decide⟩, fun _ => ?_, fun u => absurd rfl u⟩
      rintro σ1 rfl
      rw [sset_place _ _ _ (by decide), h2]
      exact ⟨⟨by decide, by decide⟩, fun _ => hQ, fun u => absurd rfl u⟩
    · unfold f_X9_isComplete
      exact (t_needEx (Or.inl h1) _ E).2 h1 hE
  · refine qb_ret (r := m 0 54) hJ x8 (fun Q hQ => ?_) (fun Q E hQ => ?_)
    · unfold f_X10_isComplete f_X10_isComplete_J13
      rw [h2]
      refine ⟨⟨by decide, by decide⟩, fun u => absurd u (by decide), fun _ => ?_⟩
      rintro σ1 rfl
      rw [sset_place _ _ _ (by decide), sset_place _ _ _ (by decide), h2]
      refine ⟨⟨by decide, by decide⟩, fun u => absurd u (by decide), fun _ => ⟨inR_01 x8, fun u => ?_, fun u => ?_⟩⟩
      · rw [u] at hQ; exact hQ
      · rcases x8 with y | y
        · exact absurd y u
        · rw [y] at hQ; exact hQ
    · unfold f_X9_isComplete
      refine (t_needEx (Or.inr h1) _ E).1 h1 ?_
      rw [x7]
      exact ⟨x8, hQ⟩
theorem r_farOf {nd ck H n li : Nat} {Q : St → Int → Prop} (ha : 0 ≤ a ∧ a < 12) (hx : EXR c m nd ck H n li 5000) {m' : St} (hm : ∀ q, q ≠ 0 → m' q = m q) (hQ : Q m' (c 60 a.toNat)) : f_X10_farOf a m' Q := by
  obtain ⟨⟨x1, x2, x3, x4, -⟩, xs, xo⟩ := hx
  obtain ⟨o1, o2, o3, o4, o5⟩ := xo a.toNat (by omega)
  unfold f_X10_farOf
  rw [hm 33 (by decide), hm 34 (by decide), hm 32 (by decide)]
  refine ⟨ha.1, ha.2, ⟨by omega, by omega⟩, fun u => ⟨ha.1, ha.2, ?_⟩, fun u => by rw [o4 u] at hQ; exact hQ⟩
  rintro x1' rfl
  obtain ⟨p1, p2⟩ := o5 u
  rcases p2 with ⟨p2, p3⟩ | ⟨p2, p3, p4, -⟩
  · rw [p2]
    refine ⟨⟨by decide, by decide⟩, fun w => absurd w (by decide), fun _ => by rw [p3] at hQ; exact hQ⟩
  · have e : (11 * m 34 a.toNat + 10).toNat = 11 * (m 34 a.toNat).toNat + 10 := by omega
    rw [e, ← p4]
    exact ⟨⟨by omega, by omega⟩, fun _ => ⟨by omega, by omega, hQ⟩, fun w => absurd p2 w⟩
theorem Q_wayLength (hJ : Jx KB c m) (ha : inR a) : JRi (Jx KB) (f_X9_wayLength a c) (f_X10_wayLength a m) (fun e v => (e = IAE ∧ v = 1) ∨ (e = ISE ∧ v = 2)) := by
  have h53 : m 0 53 = 0 ∨ m 0 53 = 1 := by rcases J_expl hJ with ⟨-, h⟩ | ⟨-, h, -⟩; exact Or.inl h; exact Or.inr h
  have h52 : c 52 1 = 0 ∨ c 52 1 = 1 := by rcases J_expl hJ with ⟨h, -⟩ | ⟨h, -⟩; exact Or.inl h; exact Or.inr h
  by_cases ok : 0 ≤ a ∧ a < 12
  · rcases J_expl hJ with ⟨h1, h2⟩ | ⟨h1, h2, D, nd, ck, H, n, li, -, -, -, -, -, -, -, -, hx, -⟩
    · refine q_thr (r := 0) (v := 2) (e := ISE) hJ (Or.inr (Or.inl rfl)) (Or.inr ⟨rfl, rfl⟩) (fun Q hQ => ?_) (fun Q E hE => ?_)
      · unfold f_X10_wayLength
        refine r_no ha h53 (fun u => by omega) (fun _ _ _ => ?_) (fun _ _ u => by omega)
        rintro σ2 rfl
        have e5 : sset m 0 5 2 0 5 = 2 := by rw [sset_at, vu_eq]
        rw [e5]
        exact ⟨⟨by decide, by decide⟩, fun u => absurd u (by decide), fun _ => hQ⟩
      · unfold f_X9_wayLength
        exact (t_needOut ha _ E).1 ok.1 ok.2 ((t_needEx h52 _ E).2 h1 hE)
    · refine q_ret (r := c 60 a.toNat) hJ (fun Q hQ => ?_) (fun Q E hQ => ?_)
      · unfold f_X10_wayLength
        refine r_no ha h53 (fun u => by omega) (fun _ _ u => by omega) (fun _ _ _ => ?_)
        rintro σ2 rfl
        have e5 : sset m 0 5 0 0 5 = 0 := by rw [sset_at, vu_eq]
        rw [e5]
        exact ⟨⟨by decide, by decide⟩, fun _ => r_farOf ok hx (fun q hq => sset_row _ _ _ hq) hQ, fun u => absurd (by decide) u⟩
      · unfold f_X9_wayLength
        exact (t_needOut ha _ E).1 ok.1 ok.2 ((t_needEx h52 _ E).1 h1 ⟨ok.1, ok.2, hQ⟩)
  · refine q_thr (r := 0) (v := 1) (e := IAE) hJ (Or.inl rfl) (Or.inl ⟨rfl, rfl⟩) (fun Q hQ => ?_) (fun Q E hE => ?_)
    · unfold f_X10_wayLength
      refine r_no ha h53 (fun _ => ?_) (fun u w _ => by omega) (fun u w _ => by omega)
      rintro σ2 rfl
      have e5 : sset m 0 5 1 0 5 = 1 := by rw [sset_at, vu_eq]
      rw [e5]
      exact ⟨⟨by decide, by decide⟩, fun u => absurd u (by decide), fun _ => hQ⟩
    · unfold f_X9_wayLength
      exact (t_needOut ha _ E).2 (by omega) hE
theorem Q_outcomes (hJ : Jx KB c m) (ha : inR a) : JRi (Jx KB) (f_X9_outcomes a c) (f_X10_outcomes a m) (fun e v => (e = IAE ∧ v = 1) ∨ (e = ISE ∧ v = 2)) := by
  have h53 : m 0 53 = 0 ∨ m 0 53 = 1 := by rcases J_expl hJ with ⟨-, h⟩ | ⟨-, h, -⟩; exact Or.inl h; exact Or.inr h
  have h52 : c 52 1 = 0 ∨ c 52 1 = 1 := by rcases J_expl hJ with ⟨h, -⟩ | ⟨h, -⟩; exact Or.inl h; exact Or.inr h
  by_cases ok : 0 ≤ a ∧ a < 12
  · rcases J_expl hJ with ⟨h1, h2⟩ | ⟨h1, h2, D, nd, ck, H, n, li, -, -, -, -, -, -, -, -, hx, -⟩
    · refine q_thr (r := 0) (v := 2) (e := ISE) hJ (Or.inr (Or.inl rfl)) (Or.inr ⟨rfl, rfl⟩) (fun Q hQ => ?_) (fun Q E hE => ?_)
      · unfold f_X10_outcomes
        refine r_no ha h53 (fun u => by omega) (fun _ _ _ => ?_) (fun _ _ u => by omega)
        rintro σ2 rfl
        have e5 : sset m 0 5 2 0 5 = 2 := by rw [sset_at, vu_eq]
        rw [e5]
        exact ⟨⟨by decide, by decide⟩, fun u => absurd u (by decide), fun _ => hQ⟩
      · unfold f_X9_outcomes
        exact (t_needOut ha _ E).1 ok.1 ok.2 ((t_needEx h52 _ E).2 h1 hE)
    · obtain ⟨-, -, xo⟩ := hx
      obtain ⟨-, -, o3, -⟩ := xo a.toNat (by omega)
      refine q_ret (r := m 33 a.toNat) hJ (fun Q hQ => ?_) (fun Q E hQ => ?_)
      · unfold f_X10_outcomes
        refine r_no ha h53 (fun u => by omega) (fun _ _ u => by omega) (fun _ _ _ => ?_)
        rintro σ2 rfl
        have e5 : sset m 0 5 0 0 5 = 0 := by rw [sset_at, vu_eq]
        rw [e5, sset_row _ _ _ (by decide)]
        exact ⟨⟨by decide, by decide⟩, fun _ => ⟨ok.1, ok.2, hQ⟩, fun u => absurd (by decide) u⟩
      · unfold f_X9_outcomes
        refine (t_needOut ha _ E).1 ok.1 ok.2 ((t_needEx h52 _ E).1 h1 ⟨ok.1, ok.2, ?_⟩)
        rw [o3]; exact hQ
  · refine q_thr (r := 0) (v := 1) (e := IAE) hJ (Or.inl rfl) (Or.inl ⟨rfl, rfl⟩) (fun Q hQ => ?_) (fun Q E hE => ?_)
    · unfold f_X10_outcomes
      refine r_no ha h53 (fun _ => ?_) (fun u w _ => by omega) (fun u w _ => by omega)
      rintro σ2 rfl
      have e5 : sset m 0 5 1 0 5 = 1 := by rw [sset_at, vu_eq]
      rw [e5]
      exact ⟨⟨by decide, by decide⟩, fun u => absurd u (by decide), fun _ => hQ⟩
    · unfold f_X9_outcomes
      exact (t_needOut ha _ E).2 (by omega) hE
/-- an entry of a row of the class -/
theorem t_entryOf {r l i : Nat} {Q : St → Int → Prop} (h : isIA KC r ∧ alen KC r = l) (hl : l ≤ 1000) (hi : i < l) (hQ : Q c (c r i)) : f_X9_entryOf r (i : Int) c Q := by
  unfold f_X9_entryOf
  rw [h.2, Int.toNat_natCast]
  exact ⟨⟨by omega, by omega⟩, fun u => by omega, fun _ => ⟨h.1, ⟨by omega, by omega⟩, ⟨by omega, by omega⟩, fun u => by omega, fun _ => ⟨by omega, by omega, hQ⟩⟩⟩
/-- back along a way -/
theorem way_back {n li nd ck H : Nat} {p : Nat} {m' : St} (hx : EXR c m nd ck H n li 5000) (hm : ∀ q, q ≠ 0 → m' q = m q) (hp : p < 2147483648) : ∀ (j s : Nat) (v : Int), s < n → m 32 (11 * s + 10) = ((p + j : Nat) : Int) → inR v → ∃ r : Int, inR r ∧ (∀ (Q : St → Int → Prop) (fu : Nat) (K : Nat), j < fu → j ≤ K → K ≤ 1000 → Q c r → f_X1_positionOnWay_L36 Q fu c v (s : Int) (K : Int) ((K - j : Nat) : Int)) ∧ ∀ (Q : St → Int → Prop) (fu : Nat), j < fu → Q m' r → f_X10_way_L62 Q fu m' (p : Int) (s : Int) v ((p + j : Nat) : Int) := by
  obtain ⟨⟨x1, x2, x3, x4, -⟩, xs, -⟩ := hx
  intro j
  induction j with
  | zero =>
    intro s v hs hd hv
    have ds := (xs s hs).2.2
    refine ⟨v, hv, fun Q fu K hf hK hK2 hQ => ?_, fun Q fu hf hQ => ?_⟩
    · cases fu with
      | zero => omega
      | succ fu =>
        unfold f_X1_positionOnWay_L36
        exact ⟨⟨by omega, by omega⟩, ⟨by omega, by omega⟩, fun _ => hQ, fun u => by omega⟩
    · cases fu with
      | zero => omega
      | succ fu =>
        unfold f_X10_way_L62
        exact ⟨⟨by omega, by omega⟩, ⟨by omega, by omega⟩, fun _ => hQ, fun u => by omega⟩
  | succ j ih =>
    intro s v hs hd hv
    obtain ⟨d1, d2, d3, d4, d5⟩ := (xs s hs).2.2
    rcases d5 with ⟨-, d6⟩ | ⟨d6, d7, d8, d9, d10, d11⟩
    · omega
    · obtain ⟨t, et⟩ : ∃ t : Nat, m 32 (11 * s + 8) = (t : Int) := ⟨(m 32 (11 * s + 8)).toNat, by omega⟩
      rw [et, Int.toNat_natCast] at d8
      rw [et] at d1 d7
      obtain ⟨r, r0, r1, r2⟩ := ih t (m 32 (11 * s + 9)) (by omega) (by omega) ⟨by omega, by omega⟩
      refine ⟨r, r0, fun Q fu K hf hK hK2 hQ => ?_, fun Q fu hf hQ => ?_⟩
      · cases fu with
        | zero => omega
        | succ fu =>
          have nx := r1 Q fu K (by omega) (by omega) hK2 hQ
          rw [show ((K - j : Nat) : Int) = ((K - (j + 1) : Nat) : Int) + 1 by omega] at nx
          unfold f_X1_positionOnWay_L36
          refine ⟨⟨by omega, by omega⟩, ⟨by omega, by omega⟩, fun u => by omega, fun _ => ⟨⟨by omega, by omega⟩, fun u => by omega, fun _ => t_entryOf (l := 300) ⟨by unfold isIA; decide, by decide⟩ (by decide) (by omega) (t_entryOf (l := 300) ⟨by unfold isIA; decide, by decide⟩ (by decide) (by omega) ?_)⟩⟩
          rw [d9, d1]
          exact nx
      · cases fu with
        | zero => omega
        | succ fu =>
          have nx := r2 Q fu (by omega) hQ
          rw [show ((p + j : Nat) : Int) = ((p + (j + 1) : Nat) : Int) + (-1) by omega] at nx
          have e9 : (11 * (s : Int) + 9).toNat = 11 * s + 9 := by omega
          have e8 : (11 * (s : Int) + 8).toNat = 11 * s + 8 := by omega
          unfold f_X10_way_L62
          rw [e9, e8, hm 32 (by decide), et]
          refine ⟨⟨by omega, by omega⟩, ⟨by omega, by omega⟩, fun u => by omega, fun _ => ⟨by omega, by omega, ?_⟩⟩
          rintro y1 rfl
          refine ⟨by omega, by omega, ?_⟩
          rintro y2 rfl
          exact nx
theorem Q_way (hJ : Jx KB c m) (ha : inR a) (hb : inR b) : JRi (Jx KB) (f_X9_way a b c) (f_X10_way a b m) (fun e v => (e = IAE ∧ v = 1) ∨ (e = ISE ∧ v = 2) ∨ (e = IOE ∧ v = 3)) := by
  have h53 : m 0 53 = 0 ∨ m 0 53 = 1 := by rcases J_expl hJ with ⟨-, h⟩ | ⟨-, h, -⟩; exact Or.inl h; exact Or.inr h
  have h52 : c 52 1 = 0 ∨ c 52 1 = 1 := by rcases J_expl hJ with ⟨h, -⟩ | ⟨h, -⟩; exact Or.inl h; exact Or.inr h
  by_cases ok : 0 ≤ a ∧ a < 12
  · rcases J_expl hJ with ⟨h1, h2⟩ | ⟨h1, h2, D, nd, ck, H, n, li, -, -, -, -, -, -, -, -, hx, -⟩
    · refine q_thr (r := 0) (v := 2) (e := ISE) hJ (Or.inr (Or.inl rfl)) (Or.inr (Or.inl ⟨rfl, rfl⟩)) (fun Q hQ => ?_) (fun Q E hE => ?_)
      · unfold f_X10_way
        refine r_no ha h53 (fun u => by omega) (fun _ _ _ => ?_) (fun _ _ u => by omega)
        rintro σ2 rfl
        have e5 : sset m 0 5 2 0 5 = 2 := by rw [sset_at, vu_eq]
        rw [e5]
        exact ⟨⟨by decide, by decide⟩, fun u => absurd u (by decide), fun _ => hQ⟩
      · unfold f_X9_way
        exact (t_needOut ha _ E).1 ok.1 ok.2 ((t_needEx h52 _ E).2 h1 hE)
    · have hx' := hx
      obtain ⟨⟨x1, x2, x3, x4, -⟩, xs, xo⟩ := hx'
      obtain ⟨o1, o2, o3, o4, o5⟩ := xo a.toNat (by omega)
      have r60 : -1 ≤ c 60 a.toNat ∧ c 60 a.toNat ≤ 400 := by
        by_cases z : m 33 a.toNat = 0
        · rw [o4 z]; exact ⟨by decide, by decide⟩
        · rcases (o5 z).2 with ⟨-, w⟩ | ⟨w1, w2, w3, -⟩
          · omega
          · have := (xs (m 34 a.toNat).toNat (by omega)).2.2
            obtain ⟨-, -, y1, y2, -⟩ := this
            omega
      have i60 : inR (c 60 a.toNat) := ⟨by omega, by omega⟩
      by_cases inside : 0 ≤ b ∧ b < c 60 a.toNat
      · have nz : m 33 a.toNat ≠ 0 := by
          intro z
          have := o4 z
          omega
        obtain ⟨p1, p2⟩ := o5 nz
        rcases p2 with ⟨-, p2⟩ | ⟨p2, p3, p4, p5, p6, p7⟩
        · omega
        · obtain ⟨s, es⟩ : ∃ s : Nat, m 34 a.toNat = (s : Int) := ⟨(m 34 a.toNat).toNat, by omega⟩
          obtain ⟨p, ep⟩ : ∃ p : Nat, b = (p : Int) := ⟨b.toNat, by omega⟩
          rw [es, Int.toNat_natCast] at p4
          rw [es] at p1 p3
          subst ep
          obtain ⟨j, ej⟩ : ∃ j : Nat, m 32 (11 * s + 10) = ((p + j : Nat) : Int) := ⟨(m 32 (11 * s + 10) - (p : Int)).toNat, by omega⟩
          have hj : j ≤ 400 := by omega
          obtain ⟨r, r0, r1, r2⟩ := way_back (p := p) (m' := sset m 0 5 0) hx (fun q hq => sset_row _ _ _ hq) (by omega) j s (m 35 a.toNat) (by omega) ej ⟨by omega, by omega⟩
          obtain ⟨na, ena⟩ : ∃ na : Nat, a = (na : Int) := ⟨a.toNat, by omega⟩
          refine q_ret (r := r) hJ (fun Q hQ => ?_) (fun Q E hQ => ?_)
          · unfold f_X10_way
            refine r_no ha h53 (fun u => by omega) (fun _ _ u => by omega) (fun _ _ _ => ?_)
            rintro σ2 rfl
            have e5 : sset m 0 5 0 0 5 = 0 := by rw [sset_at, vu_eq]
            rw [e5]
            refine ⟨⟨by decide, by decide⟩, fun _ => r_farOf ok hx (fun q hq => sset_row _ _ _ hq) (s_in hb ⟨by decide, by decide⟩ ⟨by omega, by omega⟩ (fun _ _ => ⟨⟨by decide, by decide⟩, fun _ => ⟨ok.1, ok.2, ?_⟩, fun u => absurd u (by decide)⟩) (fun u => by omega)), fun u => absurd (by decide) u⟩
            rintro y1 rfl
            refine ⟨ok.1, ok.2, ?_⟩
            rintro y2 rfl
            rintro y3 rfl
            rw [sset_row _ _ _ (by decide), sset_row _ _ _ (by decide), es]
            have := r2 Q FU (by show j < 100000; omega) hQ
            rw [← ej] at this
            rw [show c 60 a.toNat - 1 = m 32 (11 * s + 10) by omega]
            exact this
          · unfold f_X9_way
            refine (t_needOut ha _ E).1 ok.1 ok.2 ((t_needEx h52 _ E).1 h1 ⟨hb, fun u => by omega, fun _ => ⟨ok.1, ok.2, hb, i60, fun _ => ?_, fun u => by omega⟩⟩)
            unfold f_X1_positionOnWay
            rw [ena]
            rw [ena, Int.toNat_natCast] at p1 p4 p5 r1
            refine t_entryOf (l := 12) ⟨by unfold isIA; decide, by decide⟩ (by decide) (by omega) (t_entryOf (l := 12) ⟨by unfold isIA; decide, by decide⟩ (by decide) (by omega) (t_entryOf (l := 12) ⟨by unfold isIA; decide, by decide⟩ (by decide) (by omega) ?_))
            rintro y1 rfl
            rw [p5, p1]
            have := r1 Q FU j (by show j < 100000; omega) (Nat.le_refl _) (by omega) hQ
            rw [Nat.sub_self] at this
            rw [show c 60 na - 1 - (p : Int) = (j : Int) by omega]
            exact this
      · refine q_thr (r := 0) (v := 3) (e := IOE) hJ (Or.inr (Or.inr rfl)) (Or.inr (Or.inr ⟨rfl, rfl⟩)) (fun Q hQ => ?_) (fun Q E hE => ?_)
        · unfold f_X10_way
          refine r_no ha h53 (fun u => by omega) (fun _ _ u => by omega) (fun _ _ _ => ?_)
          rintro σ2 rfl
          have e5 : sset m 0 5 0 0 5 = 0 := by rw [sset_at, vu_eq]
          rw [e5]
          exact ⟨⟨by decide, by decide⟩, fun _ => r_farOf ok hx (fun q hq => sset_row _ _ _ hq) (s_in hb ⟨by decide, by decide⟩ ⟨by omega, by omega⟩ (fun _ _ => by omega) (fun _ => ⟨⟨by decide, by decide⟩, fun u => absurd rfl u, fun _ => fail_c hQ⟩)), fun u => absurd (by decide) u⟩
        · unfold f_X9_way f_X9_way_J25
          exact (t_needOut ha _ E).1 ok.1 ok.2 ((t_needEx h52 _ E).1 h1 ⟨hb, fun _ => hE, fun u => ⟨ok.1, ok.2, hb, i60, fun w => by omega, fun _ => hE⟩⟩)
  · refine q_thr (r := 0) (v := 1) (e := IAE) hJ (Or.inl rfl) (Or.inl ⟨rfl, rfl⟩) (fun Q hQ => ?_) (fun Q E hE => ?_)
    · unfold f_X10_way
      refine r_no ha h53 (fun _ => ?_) (fun u w _ => by omega) (fun u w _ => by omega)
      rintro σ2 rfl
      have e5 : sset m 0 5 1 0 5 = 1 := by rw [sset_at, vu_eq]
      rw [e5]
      exact ⟨⟨by decide, by decide⟩, fun u => absurd u (by decide), fun _ => hQ⟩
    · unfold f_X9_way
      exact (t_needOut ha _ E).2 (by omega) hE
theorem Q_occurred (hJ : Jx KB c m) (ha : inR a) (hb : inR b) : JRb (Jx KB) (f_X9_occurred a b c) (f_X10_occurred a b m) (fun e v => (e = IAE ∧ v = 1) ∨ (e = ISE ∧ v = 2) ∨ (e = IOE ∧ v = 3)) := by
  have h53 : m 0 53 = 0 ∨ m 0 53 = 1 := by rcases J_expl hJ with ⟨-, h⟩ | ⟨-, h, -⟩; exact Or.inl h; exact Or.inr h
  have h52 : c 52 1 = 0 ∨ c 52 1 = 1 := by rcases J_expl hJ with ⟨h, -⟩ | ⟨h, -⟩; exact Or.inl h; exact Or.inr h
  have j67 : ∀ (Q : St → Int → Prop) (v : Int), (v = 1 ∨ v = 2 ∨ v = 3) → Q (sset m 0 5 v) 0 → f_X10_occurred_J67 Q m a b v := by
    intro Q v hv hQ
    unfold f_X10_occurred_J67
    rintro σ1 rfl
    have e5 : sset m 0 5 v 0 5 = v := by rw [sset_at, vu_eq]
    rw [e5]
    exact ⟨⟨by omega, by omega⟩, fun u => by omega, fun _ => hQ⟩
  by_cases ok : 0 ≤ a ∧ a ≤ 2
  · rcases J_expl hJ with ⟨h1, h2⟩ | ⟨h1, h2, D, nd, ck, H, n, li, hD, d2, d10, d14, n12, k16, m30, m32, -, ⟨EO, e1, e2, e3⟩, ⟨EE, f1, f2, f3, f4⟩, -, bx1, bx2, bx3⟩
    · refine qb_thr (r := 0) (v := 2) (e := ISE) hJ (Or.inr (Or.inl rfl)) (Or.inr (Or.inl ⟨rfl, rfl⟩)) (fun Q hQ => ?_) (fun Q E hE => ?_)
      · unfold f_X10_occurred
        refine s_in ha ⟨by decide, by decide⟩ ⟨by decide, by decide⟩ (fun _ _ => ⟨⟨by decide, by decide⟩, fun _ => ⟨inR_01 h53, fun u => absurd h2 u, fun _ => j67 Q 2 (by omega) hQ⟩, fun u => absurd u (by decide)⟩) (fun u => by omega)
      · unfold f_X9_occurred
        exact ⟨ha, fun u => by omega, fun _ => ⟨ha, fun _ => (t_needEx h52 _ E).2 h1 hE, fun u => by omega⟩⟩
    · obtain ⟨lim', el⟩ : ∃ li : Int, li = if a = 0 then 100 else if a = 1 then (nd : Int) else (ck : Int) := ⟨_, rfl⟩
      have refM : ∀ Q : St → Int → Prop, f_X10_occurred_J56 Q m a b b 0 (lim' - 1) → f_X10_occurred a b m Q := by
        intro Q w
        unfold f_X10_occurred
        refine s_in ha ⟨by decide, by decide⟩ ⟨by decide, by decide⟩ (fun _ _ => ⟨⟨by decide, by decide⟩, fun _ => ⟨inR_01 h53, fun _ => ⟨ha, fun u => ⟨ha, fun u2 => ?_, fun u2 => ?_⟩, fun u => ?_⟩, fun u => by omega⟩, fun u => absurd u (by decide)⟩) (fun u => by omega)
        · rw [if_neg u, if_neg u2] at el
          rw [m32, ← el]; exact w
        · rw [if_neg u, if_pos u2] at el
          rw [m30, ← el]; exact w
        · rw [if_pos u] at el
          rw [el] at w; exact w
      have lr : 0 ≤ lim' ∧ lim' ≤ 100 := by rw [el]; split; exact ⟨by decide, by decide⟩; split <;> omega
      by_cases inside : 0 ≤ b ∧ b < lim'
      · obtain ⟨p, ep⟩ : ∃ p : Nat, b = (p : Int) := ⟨b.toNat, by omega⟩
        subst ep
        obtain ⟨r, er⟩ : ∃ r : Int, r = if a = 0 then m 29 p else if a = 1 then m 30 p else m 31 p := ⟨_, rfl⟩
        have r01 : r = 0 ∨ r = 1 := by
          rw [er]
          by_cases z0 : a = 0
          · rw [if_pos z0] at el ⊢; exact bx1 p (by omega)
          · rw [if_neg z0] at el ⊢
            by_cases z1 : a = 1
            · rw [if_pos z1] at el ⊢; exact bx2 p (by omega)
            · rw [if_neg z1] at el ⊢; exact bx3 p (by omega)
        refine qb_ret (r := r) hJ r01 (fun Q hQ => refM Q ?_) (fun Q E hQ => ?_)
        · unfold f_X10_occurred_J56
          refine s_in hb ⟨by decide, by decide⟩ ⟨by omega, by omega⟩ (fun _ _ => ⟨⟨by decide, by decide⟩, fun _ => ?_, fun u => absurd u (by decide)⟩) (fun u => by omega)
          unfold f_X10_occurred_J67
          rintro σ1 rfl
          have e5 : sset m 0 5 0 0 5 = 0 := by rw [sset_at, vu_eq]
          rw [e5, sset_row _ _ _ (show (31 : Nat) ≠ 0 by decide), sset_row _ _ _ (show (30 : Nat) ≠ 0 by decide), sset_row _ _ _ (show (29 : Nat) ≠ 0 by decide), Int.toNat_natCast]
          refine ⟨⟨by decide, by decide⟩, fun _ => ⟨ha, fun u => ⟨ha, fun u2 => ?_, fun u2 => ?_⟩, fun u => ?_⟩, fun u => absurd (by decide) u⟩
          · rw [if_neg u, if_neg u2] at er el
            rw [← er]
            exact ⟨by omega, by omega, r01, hQ⟩
          · rw [if_neg u, if_pos u2] at er el
            rw [← er]
            exact ⟨by omega, by omega, r01, hQ⟩
          · rw [if_pos u] at er el
            rw [← er]
            exact ⟨by omega, by omega, r01, hQ⟩
        · unfold f_X9_occurred
          refine ⟨ha, fun u => by omega, fun _ => ⟨ha, fun _ => (t_needEx h52 _ E).1 h1 ⟨ha, fun u => ⟨ha, fun u2 => ?_, fun u2 => ?_⟩, fun u => ?_⟩, fun u => by omega⟩⟩
          · rw [if_neg u, if_neg u2] at er el
            refine (t_needChoice hD d2 d14 k16 hb _ E).1 inside.1 (by omega) ?_
            rw [e2, bit_nat (by omega) (by omega)]
            rw [e3 p (by omega)] at er
            cases q : EO.testBit p
            · rw [q] at er
              rw [er] at hQ
              exact ⟨⟨by decide, by decide⟩, fun _ => hQ, fun w => absurd w (by decide)⟩
            · rw [q] at er
              rw [er] at hQ
              exact ⟨⟨by decide, by decide⟩, fun w => absurd rfl w, fun _ => hQ⟩
          · rw [if_neg u, if_pos u2] at er el
            refine (t_needNode hD d2 d10 n12 hb _ E).1 inside.1 (by omega) ?_
            rw [f2, bit_nat (by omega) (by omega)]
            rw [f3 p (by omega)] at er
            cases q : EE.testBit p
            · rw [q] at er
              rw [er] at hQ
              exact ⟨⟨by decide, by decide⟩, fun _ => hQ, fun w => absurd w (by decide)⟩
            · rw [q] at er
              rw [er] at hQ
              exact ⟨⟨by decide, by decide⟩, fun w => absurd rfl w, fun _ => hQ⟩
          · rw [if_pos u] at er el
            have f4' : c 64 p = m 29 p := f4 p (by omega)
            have er' : r = c 64 p := by rw [f4']; exact er
            rw [er'] at r01 hQ
            unfold f_X9_needLine
            rw [Int.toNat_natCast]
            exact ⟨hb, fun w => by omega, fun _ => ⟨hb, fun _ => ⟨by omega, by omega, r01, hQ⟩, fun w => by omega⟩⟩
      · refine qb_thr (r := 0) (v := 3) (e := IOE) hJ (Or.inr (Or.inr rfl)) (Or.inr (Or.inr ⟨rfl, rfl⟩)) (fun Q hQ => refM Q ?_) (fun Q E hE => ?_)
        · unfold f_X10_occurred_J56
          exact s_in hb ⟨by decide, by decide⟩ ⟨by omega, by omega⟩ (fun u w => by omega) (fun _ => ⟨⟨by decide, by decide⟩, fun u => absurd rfl u, fun _ => j67 Q 3 (by omega) hQ⟩)
        · unfold f_X9_occurred
          refine ⟨ha, fun u => by omega, fun _ => ⟨ha, fun _ => (t_needEx h52 _ E).1 h1 ⟨ha, fun u => ⟨ha, fun u2 => ?_, fun u2 => ?_⟩, fun u => ?_⟩, fun u => by omega⟩⟩
          · rw [if_neg u, if_neg u2] at el
            exact (t_needChoice hD d2 d14 k16 hb _ E).2 (by omega) hE
          · rw [if_neg u, if_pos u2] at el
            exact (t_needNode hD d2 d10 n12 hb _ E).2 (by omega) hE
          · rw [if_pos u] at el
            unfold f_X9_needLine f_X9_needLine_J10
            exact ⟨hb, fun _ => hE, fun _ => ⟨hb, fun w => by omega, fun _ => hE⟩⟩
  · refine qb_thr (r := 0) (v := 1) (e := IAE) hJ (Or.inl rfl) (Or.inl ⟨rfl, rfl⟩) (fun Q hQ => ?_) (fun Q E hE => ?_)
    · unfold f_X10_occurred
      exact s_in ha ⟨by decide, by decide⟩ ⟨by decide, by decide⟩ (fun u w => by omega) (fun _ => ⟨⟨by decide, by decide⟩, fun u => absurd rfl u, fun _ => j67 Q 1 (by omega) hQ⟩)
    · unfold f_X9_occurred f_X9_occurred_J9
      exact ⟨ha, fun _ => hE, fun _ => ⟨ha, fun u => by omega, fun _ => hE⟩⟩
end QEX
