/-! ===== pure layer: calls that only look: the story and the play ===== -/
section QRY
variable {c m : St} {KB a : Int}
theorem J_facts (h : Jx KB c m) : ∃ D nd ck ts : Nat, (D = 2 ∨ D = 20) ∧ c 0 2 = (D : Int) ∧ (c D 10 = (nd : Int) ∧ c D 14 = (ck : Int) ∧ c D 18 = (ts : Int)) ∧ (nd ≤ 12 ∧ ck ≤ 16 ∧ ts ≤ 16) ∧ ((m 0 4 = 0 ∧ nd = 0 ∧ ck = 0 ∧ ts = 0) ∨ (m 0 4 = 1 ∧ m 0 30 = (nd : Int) ∧ m 0 32 = (ck : Int) ∧ m 0 33 = (ts : Int) ∧ 0 < nd)) ∧ (∀ n, n < nd → c (D + 13) n = m 20 n ∧ ∃ h : Nat, c D 13 = (h : Int) ∧ h < 4096 ∧ m 21 n = if h.testBit n then 1 else 0) ∧ ∀ k, k < ck → (0 ≤ m 24 k ∧ m 24 k < 401) ∧ (0 ≤ m 7 (m 24 k).toNat ∧ m 7 (m 24 k).toNat < 64) ∧ c (D + 15) k = m 5 (m 24 k).toNat ∧ c (D + 16) k = m 19 (m 7 (m 24 k).toNat).toNat := by
  obtain ⟨-, -, D, ⟨hD, h2, -⟩, hB⟩ := h
  rcases hB with ⟨n4, ⟨n1, n2, n3⟩, -⟩ | ⟨n4, φ, e, N, S, B, nd, ck, ts, tm, H, hS, -⟩
  · exact ⟨D, 0, 0, 0, hD, h2, ⟨n1, n2, n3⟩, ⟨by decide, by decide, by decide⟩, Or.inl ⟨n4, rfl, rfl, rfl⟩, fun n hn => by omega, fun k hk => by omega⟩
  · have N4 : N ≤ 400 := by
      apply Classical.byContradiction
      intro u
      have := (S_s401 hS (s := 400) (by omega)).1
      omega
    obtain ⟨⟨a1, a2, a3, a4, a5, a6, a7, a8, a9, a10, a11, a12, a13, a14, a15, a16, a17, a18⟩, ⟨-, hYA, -, -, -, -, hYF, -⟩, -, -, -, -, -, -, -, hnm, hYH, hYQ, -⟩ := hS
    refine ⟨D, nd, ck, ts, hD, h2, ⟨a9, a10, a11⟩, ⟨a13, a14, a15⟩, Or.inr ⟨n4, a4, a5, a6, a12⟩, fun n hn => ⟨hnm n hn, ?_⟩, fun k hk => ?_⟩
    · obtain ⟨h, b1, b2, b3⟩ := hYH
      have : 2 ^ nd ≤ 2 ^ 12 := Nat.pow_le_pow_right (by decide) a13
      have e12 : (2 : Nat) ^ 12 = 4096 := rfl
      exact ⟨h, b1, by omega, b3 n hn⟩
    · obtain ⟨f1, f2, -⟩ := hYF.1 k hk
      have a7 := hYA (m 24 k).toNat (by omega)
      obtain ⟨q1, q2⟩ := hYQ k hk
      exact ⟨⟨by omega, by omega⟩, ⟨by omega, by omega⟩, q1, q2⟩
theorem J_play (h : Jx KB c m) (hK : KB < 1000000) : ∃ O ck : Nat, (O < 2 ^ ck ∧ ck ≤ 16 ∧ m 0 32 = (ck : Int)) ∧ c 44 8 = (O : Int) ∧ m 26 9 = (O : Int) ∧ (c 44 1 = m 26 0 ∧ 0 ≤ m 26 0 ∧ m 26 0 ≤ 4) ∧ (c 44 5 = m 26 4 ∧ 0 ≤ m 26 4 ∧ m 26 4 < 64) ∧ (c 45 0 = m 26 10 ∧ 0 ≤ m 26 10 ∧ m 26 10 < 1000000) ∧ (m 26 0 = 0 → c 44 3 = -1 ∧ c 44 4 = -1) ∧ (m 26 0 ≠ 0 → c 44 3 = m 26 2 ∧ c 44 4 = m 26 3 ∧ inR (m 26 2) ∧ inR (m 26 3)) ∧ (m 26 0 = 2 → c 44 2 = m 26 1 ∧ inR (m 26 1)) ∧ (∃ x y z : Nat, x < 10 ∧ y < 10 ∧ z < 10 ∧ m 26 5 = (x : Int) ∧ m 26 6 = (y : Int) ∧ m 26 7 = (z : Int) ∧ c 44 6 = ((mt x y z : Nat) : Int)) ∧ ∀ j : Nat, j < 20 → (j : Int) < m 26 10 → c 46 ((m 26 10 - 1 - j).toNat % 20) = m 26 (11 + j) := by
  obtain ⟨-, -, D, -, hB⟩ := h
  have none : ∀ ck : Nat, ck ≤ 16 → m 0 32 = (ck : Int) → PN c m D → ∃ O ck : Nat, (O < 2 ^ ck ∧ ck ≤ 16 ∧ m 0 32 = (ck : Int)) ∧ c 44 8 = (O : Int) ∧ m 26 9 = (O : Int) ∧ (c 44 1 = m 26 0 ∧ 0 ≤ m 26 0 ∧ m 26 0 ≤ 4) ∧ (c 44 5 = m 26 4 ∧ 0 ≤ m 26 4 ∧ m 26 4 < 64) ∧ (c 45 0 = m 26 10 ∧ 0 ≤ m 26 10 ∧ m 26 10 < 1000000) ∧ (m 26 0 = 0 → c 44 3 = -1 ∧ c 44 4 = -1) ∧ (m 26 0 ≠ 0 → c 44 3 = m 26 2 ∧ c 44 4 = m 26 3 ∧ inR (m 26 2) ∧ inR (m 26 3)) ∧ (m 26 0 = 2 → c 44 2 = m 26 1 ∧ inR (m 26 1)) ∧ (∃ x y z : Nat, x < 10 ∧ y < 10 ∧ z < 10 ∧ m 26 5 = (x : Int) ∧ m 26 6 = (y : Int) ∧ m 26 7 = (z : Int) ∧ c 44 6 = ((mt x y z : Nat) : Int)) ∧ ∀ j : Nat, j < 20 → (j : Int) < m 26 10 → c 46 ((m 26 10 - 1 - j).toNat % 20) = m 26 (11 + j) := by
    rintro ck hck h32 ⟨⟨p0, p1, p3, p4, p5, p6, p8, q0⟩, pz⟩
    have z0 := pz 0 (by decide)
    have z4 := pz 4 (by decide)
    have z9 := pz 9 (by decide)
    have z10 := pz 10 (by decide)
    refine ⟨0, ck, ⟨Nat.two_pow_pos ck, hck, h32⟩, p8, z9, ⟨by rw [p1, z0], by omega, by omega⟩, ⟨by rw [p5, z4], by omega, by omega⟩, ⟨by rw [q0, z10], by omega, by omega⟩, fun _ => ⟨p3, p4⟩, fun u => absurd z0 u, fun u => by omega, ⟨0, 0, 0, by decide, by decide, by decide, pz 5 (by decide), pz 6 (by decide), pz 7 (by decide), p6⟩, fun j _ hj => by omega⟩
  rcases hB with ⟨-, -, hp, -, -, -, n1, n2⟩ | ⟨-, φ, e, N, S, B, nd, ck, ts, tm, H, hS, -, -, -, hp, -⟩
  · exact none (m 0 32).toNat (by omega) (by omega) hp
  · have h32 : m 0 32 = (ck : Int) := hS.1.2.2.2.2.1
    have ck16 : ck ≤ 16 := hS.1.2.2.2.2.2.2.2.2.2.2.2.2.2.1
    have nd12 : nd ≤ 12 := hS.1.2.2.2.2.2.2.2.2.2.2.2.2.1
    rcases hp with hp | ⟨⟨⟨w0, w1, w3, w4, w5, w6, w8, w10, w2⟩, ⟨v1, v2, v3, v4, v5, v6, v7, v8, v9, v10, v11, v12, v13, v14, v15⟩, -, hl, -⟩, s1, s2, s3, s4⟩
    · exact none ck ck16 h32 hp
    · refine ⟨(m 26 9).toNat, ck, ⟨by omega, ck16, h32⟩, by rw [w8]; omega, by omega, ⟨w1, by omega, s2⟩, ⟨w5, v5, v6⟩, ⟨w10, v15, by omega⟩, fun u => by omega, fun _ => ⟨w3, w4, ⟨by omega, by omega⟩, ⟨by omega, by omega⟩⟩, fun u => ⟨(w2 u).1, ⟨by have := w2 u; omega, by have := w2 u; omega⟩⟩, ⟨(m 26 5).toNat, (m 26 6).toNat, (m 26 7).toNat, by omega, by omega, by omega, by omega, by omega, by omega, by unfold mt; omega⟩, hl⟩
variable {D nd ck : Nat}
theorem t_needNode (hD : D = 2 ∨ D = 20) (h2 : c 0 2 = (D : Int)) (h10 : c D 10 = (nd : Int)) (hn : nd ≤ 12) (ha : inR a) (Q : St → Prop) (E : String → St → Prop) : (0 ≤ a → a < nd → Q c → f_X9_needNode a c Q E) ∧ ((a < 0 ∨ (nd : Int) ≤ a) → E IOE c → f_X9_needNode a c Q E) := by
  have iS : isS D := hD
  unfold f_X9_needNode f_X9_needNode_J21
  rw [h2, Int.toNat_natCast, h10]
  exact ⟨fun u1 u2 q => ⟨ha, fun w => by omega, fun _ => ⟨iS, ha, ⟨by omega, by omega⟩, fun w => by omega, fun _ => ⟨ha, fun _ => q, fun w => by omega⟩⟩⟩, fun u q => ⟨ha, fun _ => q, fun w => ⟨iS, ha, ⟨by omega, by omega⟩, fun _ => q, fun w' => by omega⟩⟩⟩
theorem t_needChoice (hD : D = 2 ∨ D = 20) (h2 : c 0 2 = (D : Int)) (h14 : c D 14 = (ck : Int)) (hn : ck ≤ 16) (ha : inR a) (Q : St → Prop) (E : String → St → Prop) : (0 ≤ a → a < ck → Q c → f_X9_needChoice a c Q E) ∧ ((a < 0 ∨ (ck : Int) ≤ a) → E IOE c → f_X9_needChoice a c Q E) := by
  have iS : isS D := hD
  unfold f_X9_needChoice f_X9_needChoice_J21
  rw [h2, Int.toNat_natCast, h14]
  exact ⟨fun u1 u2 q => ⟨ha, fun w => by omega, fun _ => ⟨iS, ha, ⟨by omega, by omega⟩, fun w => by omega, fun _ => ⟨ha, fun _ => q, fun w => by omega⟩⟩⟩, fun u q => ⟨ha, fun _ => q, fun w => ⟨iS, ha, ⟨by omega, by omega⟩, fun _ => q, fun w' => by omega⟩⟩⟩
theorem r_isNode {Q : St → Int → Prop} (hs : (m 0 4 = 0 ∧ nd = 0) ∨ (m 0 4 = 1 ∧ m 0 30 = (nd : Int))) (hn : nd ≤ 12) (ha : inR a) (h1 : 0 ≤ a → a < nd → Q m 1) (h0 : a < 0 ∨ (nd : Int) ≤ a → Q m 0) : f_X10_isNode a m Q := by
  unfold f_X10_isNode
  rcases hs with ⟨s1, s2⟩ | ⟨s1, s2⟩
  · rw [s1]
    exact ⟨⟨by decide, by decide⟩, fun _ => h0 (by omega), fun u => absurd rfl u⟩
  · rw [s1, s2]
    refine ⟨⟨by decide, by decide⟩, fun u => absurd u (by decide), fun _ => s_in ha ⟨by decide, by decide⟩ ⟨by omega, by omega⟩ (fun u w => ?_) (fun u => ?_)⟩
    · exact ⟨⟨by decide, by decide⟩, fun z => absurd z (by decide), fun _ => h1 u (by omega)⟩
    · exact ⟨⟨by decide, by decide⟩, fun _ => h0 (by omega), fun z => absurd rfl z⟩
theorem r_isChoice {Q : St → Int → Prop} (hs : (m 0 4 = 0 ∧ ck = 0) ∨ (m 0 4 = 1 ∧ m 0 32 = (ck : Int))) (hn : ck ≤ 16) (ha : inR a) (h1 : 0 ≤ a → a < ck → Q m 1) (h0 : a < 0 ∨ (ck : Int) ≤ a → Q m 0) : f_X10_isChoice a m Q := by
  unfold f_X10_isChoice
  rcases hs with ⟨s1, s2⟩ | ⟨s1, s2⟩
  · rw [s1]
    exact ⟨⟨by decide, by decide⟩, fun _ => h0 (by omega), fun u => absurd rfl u⟩
  · rw [s1, s2]
    refine ⟨⟨by decide, by decide⟩, fun u => absurd u (by decide), fun _ => s_in ha ⟨by decide, by decide⟩ ⟨by omega, by omega⟩ (fun u w => ?_) (fun u => ?_)⟩
    · exact ⟨⟨by decide, by decide⟩, fun z => absurd z (by decide), fun _ => h1 u (by omega)⟩
    · exact ⟨⟨by decide, by decide⟩, fun _ => h0 (by omega), fun z => absurd rfl z⟩
theorem fail_c {Q : St → Int → Prop} {v : Int} (h : Q (sset m 0 5 v) 0) : f_X10_fails v (sset m 0 5 0) Q := s_fails (by rw [sset_twice]; exact h)
/-- count -/
theorem Q_count (hJ : Jx KB c m) (ha : inR a) : JRi (Jx KB) (f_X9_count a c) (f_X10_count a m) (fun e v => e = IAE ∧ v = 1) := by
  obtain ⟨D, nd, ck, ts, hD, h2, ⟨h10, h14, h18⟩, ⟨n12, k16, t16⟩, hs, -⟩ := J_facts hJ
  have iS : isS D := hD
  have p4 : sset m 0 5 0 0 4 = m 0 4 := sset_place _ _ _ (by decide)
  have p30 : sset m 0 5 0 0 30 = m 0 30 := sset_place _ _ _ (by decide)
  have p32 : sset m 0 5 0 0 32 = m 0 32 := sset_place _ _ _ (by decide)
  have p33 : sset m 0 5 0 0 33 = m 0 33 := sset_place _ _ _ (by decide)
  by_cases ok : 0 ≤ a ∧ a ≤ 2
  · obtain ⟨r, er⟩ : ∃ r : Int, r = if a = 0 then (nd : Int) else if a = 1 then (ck : Int) else (ts : Int) := ⟨_, rfl⟩
    refine q_ret (r := r) hJ (fun Q hQ => ?_) (fun Q E hQ => ?_)
    · unfold f_X10_count
      rintro σ1 rfl
      refine s_in ha ⟨by decide, by decide⟩ ⟨by decide, by decide⟩ (fun _ _ => ⟨⟨by decide, by decide⟩, fun _ => ?_, fun u => absurd u (by decide)⟩) (fun u => by omega)
      rw [p4, p30, p32, p33]
      rcases hs with ⟨s1, s2, s3, s4⟩ | ⟨s1, s2, s3, s4, -⟩
      · have e0 : r = 0 := by rw [er, s2, s3, s4]; split; rfl; split; rfl; rfl
        rw [e0] at hQ
        rw [s1]
        exact ⟨⟨by decide, by decide⟩, fun u => absurd rfl u, fun _ => hQ⟩
      · rw [s1, s2, s3, s4]
        refine ⟨⟨by decide, by decide⟩, fun _ => ⟨ha, fun u => ⟨ha, fun w => ?_, fun w => ?_⟩, fun u => ?_⟩, fun u => absurd u (by decide)⟩
        · rw [if_neg u, if_neg w] at er; rw [← er]; exact hQ
        · rw [if_neg u, if_pos w] at er; rw [← er]; exact hQ
        · rw [if_pos u] at er; rw [← er]; exact hQ
    · unfold f_X9_count
      rw [h2, Int.toNat_natCast, h10, h14, h18]
      refine ⟨ha, fun u => ⟨iS, ?_⟩, fun u => ⟨iS, ?_⟩, fun u => ⟨iS, ?_⟩, fun u => by omega⟩
      · rw [if_pos u] at er; rw [← er]; exact hQ
      · rw [if_neg (by omega), if_pos u] at er; rw [← er]; exact hQ
      · rw [if_neg (by omega), if_neg (by omega)] at er; rw [← er]; exact hQ
  · refine q_thr (r := 0) (v := 1) (e := IAE) hJ (Or.inl rfl) ⟨rfl, rfl⟩ (fun Q hQ => ?_) (fun Q E hE => ?_)
    · unfold f_X10_count
      rintro σ1 rfl
      refine s_in ha ⟨by decide, by decide⟩ ⟨by decide, by decide⟩ (fun u w => by omega) (fun _ => ⟨⟨by decide, by decide⟩, fun u => absurd rfl u, fun _ => fail_c hQ⟩)
    · unfold f_X9_count
      exact ⟨ha, fun u => by omega, fun u => by omega, fun u => by omega, fun _ => hE⟩
/-- name -/
theorem Q_name (hJ : Jx KB c m) (ha : inR a) : JRi (Jx KB) (f_X9_name a c) (f_X10_name a m) (fun e v => e = IOE ∧ v = 1) := by
  obtain ⟨D, nd, ck, ts, hD, h2, ⟨h10, h14, h18⟩, ⟨n12, k16, t16⟩, hs, hN, -⟩ := J_facts hJ
  have iS : isS D := hD
  have hs' : (sset m 0 5 0 0 4 = 0 ∧ nd = 0) ∨ (sset m 0 5 0 0 4 = 1 ∧ sset m 0 5 0 0 30 = (nd : Int)) := by
    rw [sset_place _ _ _ (by decide), sset_place _ _ _ (by decide)]
    rcases hs with ⟨s1, s2, -⟩ | ⟨s1, s2, -⟩
    · exact Or.inl ⟨s1, s2⟩
    · exact Or.inr ⟨s1, s2⟩
  by_cases ok : 0 ≤ a ∧ a < nd
  · have hn := hN a.toNat (by omega)
    refine q_ret (r := m 20 a.toNat) hJ (fun Q hQ => ?_) (fun Q E hQ => ?_)
    · unfold f_X10_name
      rintro σ1 rfl
      refine r_isNode hs' n12 ha (fun _ _ => ⟨⟨by decide, by decide⟩, fun u => absurd u (by decide), fun _ => ⟨by omega, by omega, ?_⟩⟩) (fun u => by omega)
      rw [sset_row _ _ _ (by decide)]; exact hQ
    · unfold f_X9_name
      refine (t_needNode hD h2 h10 n12 ha _ E).1 ok.1 ok.2 ?_
      rw [h2, Int.toNat_natCast, hn.1]
      exact ⟨iS, by omega, by omega, hQ⟩
  · refine q_thr (r := 0) (v := 1) (e := IOE) hJ (Or.inl rfl) ⟨rfl, rfl⟩ (fun Q hQ => ?_) (fun Q E hE => ?_)
    · unfold f_X10_name
      rintro σ1 rfl
      exact r_isNode hs' n12 ha (fun u w => by omega) (fun _ => ⟨⟨by decide, by decide⟩, fun _ => fail_c hQ, fun u => absurd rfl u⟩)
    · unfold f_X9_name
      exact (t_needNode hD h2 h10 n12 ha _ E).2 (by omega) hE
/-- isHub -/
theorem Q_isHub (hJ : Jx KB c m) (ha : inR a) : JRb (Jx KB) (f_X9_isHub a c) (f_X10_isHub a m) (fun e v => e = IOE ∧ v = 1) := by
  obtain ⟨D, nd, ck, ts, hD, h2, ⟨h10, h14, h18⟩, ⟨n12, k16, t16⟩, hs, hN, -⟩ := J_facts hJ
  have iS : isS D := hD
  have hs' : (sset m 0 5 0 0 4 = 0 ∧ nd = 0) ∨ (sset m 0 5 0 0 4 = 1 ∧ sset m 0 5 0 0 30 = (nd : Int)) := by
    rw [sset_place _ _ _ (by decide), sset_place _ _ _ (by decide)]
    rcases hs with ⟨s1, s2, -⟩ | ⟨s1, s2, -⟩
    · exact Or.inl ⟨s1, s2⟩
    · exact Or.inr ⟨s1, s2⟩
  by_cases ok : 0 ≤ a ∧ a < nd
  · obtain ⟨-, h, e1, e2, e3⟩ := hN a.toNat (by omega)
    have r01 : m 21 a.toNat = 0 ∨ m 21 a.toNat = 1 := by rw [e3]; split; exact Or.inr rfl; exact Or.inl rfl
    refine qb_ret (r := m 21 a.toNat) hJ r01 (fun Q hQ => ?_) (fun Q E hQ => ?_)
    · unfold f_X10_isHub
      rintro σ1 rfl
      refine r_isNode hs' n12 ha (fun _ _ => ⟨⟨by decide, by decide⟩, fun _ => ⟨by omega, by omega, ?_, ?_⟩, fun u => absurd u (by decide)⟩) (fun u => by omega)
      · rw [sset_row _ _ _ (by decide)]; exact r01
      · rw [sset_row _ _ _ (by decide)]; exact hQ
    · unfold f_X9_isHub
      refine (t_needNode hD h2 h10 n12 ha _ E).1 ok.1 ok.2 ?_
      rw [h2, Int.toNat_natCast]
      refine ⟨iS, ?_⟩
      obtain ⟨n, en⟩ : ∃ n : Nat, a = (n : Int) := ⟨a.toNat, by omega⟩
      rw [en, Int.toNat_natCast] at e3 r01 hQ
      unfold f_X7_standsAsHub
      rw [e1, en, bit_nat (by omega) (by omega)]
      rw [e3] at hQ
      cases q : h.testBit n
      · rw [q] at hQ
        exact ⟨iS, ⟨by decide, by decide⟩, fun _ => ⟨Or.inl rfl, hQ⟩, fun u => absurd u (by decide)⟩
      · rw [q] at hQ
        exact ⟨iS, ⟨by decide, by decide⟩, fun u => absurd rfl u, fun _ => ⟨Or.inr rfl, hQ⟩⟩
  · refine qb_thr (r := 0) (v := 1) (e := IOE) hJ (Or.inl rfl) ⟨rfl, rfl⟩ (fun Q hQ => ?_) (fun Q E hE => ?_)
    · unfold f_X10_isHub
      rintro σ1 rfl
      exact r_isNode hs' n12 ha (fun u w => by omega) (fun _ => ⟨⟨by decide, by decide⟩, fun u => absurd rfl u, fun _ => fail_c hQ⟩)
    · unfold f_X9_isHub
      exact (t_needNode hD h2 h10 n12 ha _ E).2 (by omega) hE
/-- label -/
theorem Q_label (hJ : Jx KB c m) (ha : inR a) : JRi (Jx KB) (f_X9_label a c) (f_X10_label a m) (fun e v => e = IOE ∧ v = 1) := by
  obtain ⟨D, nd, ck, ts, hD, h2, ⟨h10, h14, h18⟩, ⟨n12, k16, t16⟩, hs, -, hC⟩ := J_facts hJ
  have iS : isS D := hD
  have hs' : (sset m 0 5 0 0 4 = 0 ∧ ck = 0) ∨ (sset m 0 5 0 0 4 = 1 ∧ sset m 0 5 0 0 32 = (ck : Int)) := by
    rw [sset_place _ _ _ (by decide), sset_place _ _ _ (by decide)]
    rcases hs with ⟨s1, -, s2, -⟩ | ⟨s1, -, s2, -⟩
    · exact Or.inl ⟨s1, s2⟩
    · exact Or.inr ⟨s1, s2⟩
  by_cases ok : 0 ≤ a ∧ a < ck
  · obtain ⟨c1, c2, c3, c4⟩ := hC a.toNat (by omega)
    refine q_ret (r := m 5 (m 24 a.toNat).toNat) hJ (fun Q hQ => ?_) (fun Q E hQ => ?_)
    · unfold f_X10_label
      rintro σ1 rfl
      refine r_isChoice hs' k16 ha (fun _ _ => ⟨⟨by decide, by decide⟩, fun u => absurd u (by decide), fun _ => ⟨by omega, by omega, ?_, ?_, ?_⟩⟩) (fun u => by omega)
      · rw [sset_row _ _ _ (by decide)]; omega
      · rw [sset_row _ _ _ (by decide)]; omega
      · rw [sset_row _ _ _ (by decide), sset_row _ _ _ (by decide)]; exact hQ
    · unfold f_X9_label
      refine (t_needChoice hD h2 h14 k16 ha _ E).1 ok.1 ok.2 ?_
      rw [h2, Int.toNat_natCast, c3]
      exact ⟨iS, by omega, by omega, hQ⟩
  · refine q_thr (r := 0) (v := 1) (e := IOE) hJ (Or.inl rfl) ⟨rfl, rfl⟩ (fun Q hQ => ?_) (fun Q E hE => ?_)
    · unfold f_X10_label
      rintro σ1 rfl
      exact r_isChoice hs' k16 ha (fun u w => by omega) (fun _ => ⟨⟨by decide, by decide⟩, fun _ => fail_c hQ, fun u => absurd rfl u⟩)
    · unfold f_X9_label
      exact (t_needChoice hD h2 h14 k16 ha _ E).2 (by omega) hE
/-- nodeOf -/
theorem Q_nodeOf (hJ : Jx KB c m) (ha : inR a) : JRi (Jx KB) (f_X9_nodeOf a c) (f_X10_nodeOf a m) (fun e v => e = IOE ∧ v = 1) := by
  obtain ⟨D, nd, ck, ts, hD, h2, ⟨h10, h14, h18⟩, ⟨n12, k16, t16⟩, hs, -, hC⟩ := J_facts hJ
  have iS : isS D := hD
  have hs' : (sset m 0 5 0 0 4 = 0 ∧ ck = 0) ∨ (sset m 0 5 0 0 4 = 1 ∧ sset m 0 5 0 0 32 = (ck : Int)) := by
    rw [sset_place _ _ _ (by decide), sset_place _ _ _ (by decide)]
    rcases hs with ⟨s1, -, s2, -⟩ | ⟨s1, -, s2, -⟩
    · exact Or.inl ⟨s1, s2⟩
    · exact Or.inr ⟨s1, s2⟩
  by_cases ok : 0 ≤ a ∧ a < ck
  · obtain ⟨c1, c2, c3, c4⟩ := hC a.toNat (by omega)
    refine q_ret (r := m 19 (m 7 (m 24 a.toNat).toNat).toNat) hJ (fun Q hQ => ?_) (fun Q E hQ => ?_)
    · unfold f_X10_nodeOf
      rintro σ1 rfl
      refine r_isChoice hs' k16 ha (fun _ _ => ⟨⟨by decide, by decide⟩, fun u => absurd u (by decide), fun _ => ?_⟩) (fun u => by omega)
      unfold f_X10_nodeOfChoice
      rw [sset_row _ _ _ (by decide), sset_row _ _ _ (by decide), sset_row _ _ _ (by decide)]
      exact ⟨by omega, by omega, c1.1, c1.2, c2.1, c2.2, hQ⟩
    · unfold f_X9_nodeOf
      refine (t_needChoice hD h2 h14 k16 ha _ E).1 ok.1 ok.2 ?_
      rw [h2, Int.toNat_natCast, c4]
      exact ⟨iS, by omega, by omega, hQ⟩
  · refine q_thr (r := 0) (v := 1) (e := IOE) hJ (Or.inl rfl) ⟨rfl, rfl⟩ (fun Q hQ => ?_) (fun Q E hE => ?_)
    · unfold f_X10_nodeOf
      rintro σ1 rfl
      exact r_isChoice hs' k16 ha (fun u w => by omega) (fun _ => ⟨⟨by decide, by decide⟩, fun _ => fail_c hQ, fun u => absurd rfl u⟩)
    · unfold f_X9_nodeOf
      exact (t_needChoice hD h2 h14 k16 ha _ E).2 (by omega) hE
end QRY
