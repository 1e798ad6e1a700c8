/-! ===== pure layer: calls that only look: what was analysed ===== -/
section QAN
variable {c m : St} {KB a b : Int}
theorem J_ana (h : Jx KB c m) : (c 65 1 = 0 ∧ m 0 70 = 0) ∨ (c 65 1 = 1 ∧ m 0 70 = 1 ∧ ∃ D nd ck ts : Nat, (D = 2 ∨ D = 20) ∧ c 0 2 = (D : Int) ∧ (c D 10 = (nd : Int) ∧ c D 14 = (ck : Int) ∧ c D 18 = (ts : Int)) ∧ (nd ≤ 12 ∧ ck ≤ 16 ∧ ts ≤ 16) ∧ (m 0 30 = (nd : Int) ∧ m 0 32 = (ck : Int) ∧ m 0 33 = (ts : Int)) ∧ ANx c m) := by
  obtain ⟨-, -, D, ⟨hD, h2, -⟩, hB⟩ := h
  rcases hB with ⟨-, -, -, -, -, n1, -⟩ | ⟨-, φ, e, N, S, B, nd, ck, ts, tm, H, hS, -, -, -, -, -, -, hA⟩
  · exact Or.inl n1
  · rcases hA with hA | ⟨e1, e2, e3⟩
    · exact Or.inl hA
    · obtain ⟨⟨a1, a2, a3, a4, a5, a6, a7, a8, a9, a10, a11, a12, a13, a14, a15, a16, a17, a18⟩, -⟩ := hS
      exact Or.inr ⟨e1, e2, D, nd, ck, ts, hD, h2, ⟨a9, a10, a11⟩, ⟨a13, a14, a15⟩, ⟨a4, a5, a6⟩, e3⟩
theorem t_needAn (h1 : c 65 1 = 0 ∨ c 65 1 = 1) (Q : St → Prop) (E : String → St → Prop) : (c 65 1 = 1 → Q c → f_X9_needAnalysis c Q E) ∧ (c 65 1 = 0 → E ISE c → f_X9_needAnalysis c Q E) := by
  unfold f_X9_needAnalysis
  exact ⟨fun u q => ⟨inR_01 h1, fun _ => q, fun w => by omega⟩, fun u q => ⟨inR_01 h1, fun w => absurd u w, fun _ => q⟩⟩
theorem t_needFl (ha : inR a) (Q : St → Prop) (E : String → St → Prop) : (0 ≤ a → a ≤ 5 → Q c → f_X9_needFlag a c Q E) ∧ ((a < 0 ∨ 5 < a) → E IAE c → f_X9_needFlag a c Q E) := by
  unfold f_X9_needFlag f_X9_needFlag_J10
  exact ⟨fun u w q => ⟨ha, fun y => by omega, fun _ => ⟨ha, fun _ => q, fun y => by omega⟩⟩, fun u q => ⟨ha, fun _ => q, fun _ => ⟨ha, fun y => by omega, fun _ => q⟩⟩⟩
theorem t_needMt (ha : inR a) (Q : St → Prop) (E : String → St → Prop) : (0 ≤ a → a ≤ 2 → Q c → f_X9_needMeter a c Q E) ∧ ((a < 0 ∨ 2 < a) → E IAE c → f_X9_needMeter a c Q E) := by
  unfold f_X9_needMeter f_X9_needMeter_J9
  exact ⟨fun u w q => ⟨ha, fun y => by omega, fun _ => ⟨ha, fun _ => q, fun y => by omega⟩⟩, fun u q => ⟨ha, fun _ => q, fun _ => ⟨ha, fun y => by omega, fun _ => q⟩⟩⟩
theorem ent_eq {g g' : Nat → Nat} (h : KLE g g') (h' : KLE g' g) (hz : g 0 ≠ 0) : ∀ i, i < 9 → g i = g' i := by
  rcases h with u | u
  · exact absurd u hz
  · rcases h' with w | w
    · exact absurd ((KLE_zz (Or.inr u) (Or.inl w)).2 w) hz
    · exact KL_eq w.1 u w
theorem Q_verdict (hJ : Jx KB c m) (ha : inR a) : JRi (Jx KB) (f_X9_verdict a c) (f_X10_verdict a m) (fun e v => (e = ISE ∧ v = 1) ∨ (e = IOE ∧ v = 2)) := by
  have h65 : c 65 1 = 0 ∨ c 65 1 = 1 := by rcases J_ana hJ with ⟨h, -⟩ | ⟨h, -⟩; exact Or.inl h; exact Or.inr h
  have j31 : ∀ (Q : St → Int → Prop) (v : Int), (v = 1 ∨ v = 2) → Q (sset m 0 5 v) 0 → f_X10_verdict_J31 Q m a v := by
    intro Q v hv hQ
    unfold f_X10_verdict_J31
    rintro σ1 rfl
    have e5 : sset m 0 5 v 0 5 = v := by rw [sset_at, vu_eq]
    rw [e5]
    exact ⟨⟨by omega, by omega⟩, fun u => by omega, fun _ => hQ⟩
  rcases J_ana hJ with ⟨h1, h2⟩ | ⟨h1, h2, D, nd, ck, ts, hD, d2, ⟨d10, d14, d18⟩, ⟨n12, k16, t16⟩, ⟨m30, m32, m33⟩, E0, Em, -, -, -, hv, -⟩
  · refine q_thr (r := 0) (v := 1) (e := ISE) hJ (Or.inl rfl) (Or.inl ⟨rfl, rfl⟩) (fun Q hQ => ?_) (fun Q E hE => ?_)
    · unfold f_X10_verdict
      rw [h2]
      exact ⟨⟨by decide, by decide⟩, fun u => absurd rfl u, fun _ => j31 Q 1 (Or.inl rfl) hQ⟩
    · unfold f_X9_verdict
      exact (t_needAn h65 _ E).2 h1 hE
  · have iS : isS D := hD
    by_cases ok : 0 ≤ a ∧ a < ts
    · have e := (hv a.toNat (by omega)).1
      refine q_ret (r := m 44 a.toNat) hJ (fun Q hQ => ?_) (fun Q E hQ => ?_)
      · unfold f_X10_verdict
        rw [h2, m33]
        refine ⟨⟨by decide, by decide⟩, fun _ => s_in ha ⟨by decide, by decide⟩ ⟨by omega, by omega⟩ (fun _ _ => ⟨⟨by decide, by decide⟩, fun _ => ?_, fun u => absurd u (by decide)⟩) (fun u => by omega), fun u => absurd u (by decide)⟩
        unfold f_X10_verdict_J31
        rintro σ1 rfl
        have e5 : sset m 0 5 0 0 5 = 0 := by rw [sset_at, vu_eq]
        rw [e5, sset_row _ _ _ (by decide)]
        exact ⟨⟨by decide, by decide⟩, fun _ => ⟨by omega, by omega, hQ⟩, fun u => absurd (by decide) u⟩
      · unfold f_X9_verdict
        refine (t_needAn h65 _ E).1 h1 ⟨ha, fun u => by omega, fun _ => ?_⟩
        rw [d2, Int.toNat_natCast, d18, ← e]
        exact ⟨iS, ha, ⟨by omega, by omega⟩, fun u => by omega, fun _ => ⟨ha, fun _ => ⟨by omega, by omega, hQ⟩, fun u => by omega⟩⟩
    · refine q_thr (r := 0) (v := 2) (e := IOE) hJ (Or.inr (Or.inl rfl)) (Or.inr ⟨rfl, rfl⟩) (fun Q hQ => ?_) (fun Q E hE => ?_)
      · unfold f_X10_verdict
        rw [h2, m33]
        exact ⟨⟨by decide, by decide⟩, fun _ => s_in ha ⟨by decide, by decide⟩ ⟨by omega, by omega⟩ (fun u w => by omega) (fun _ => ⟨⟨by decide, by decide⟩, fun u => absurd rfl u, fun _ => j31 Q 2 (Or.inr rfl) hQ⟩), fun u => absurd u (by decide)⟩
      · unfold f_X9_verdict f_X9_verdict_J25
        refine (t_needAn h65 _ E).1 h1 ⟨ha, fun _ => hE, fun u => ?_⟩
        rw [d2, Int.toNat_natCast, d18]
        exact ⟨iS, ha, ⟨by omega, by omega⟩, fun _ => hE, fun w => by omega⟩
theorem Q_possible (hJ : Jx KB c m) (ha : inR a) : JRi (Jx KB) (f_X9_possible a c) (f_X10_possible a m) (fun e v => (e = IAE ∧ v = 1) ∨ (e = ISE ∧ v = 2)) := by
  have h65 : c 65 1 = 0 ∨ c 65 1 = 1 := by rcases J_ana hJ with ⟨h, -⟩ | ⟨h, -⟩; exact Or.inl h; exact Or.inr h
  have h70 : m 0 70 = 0 ∨ m 0 70 = 1 := by rcases J_ana hJ with ⟨-, h⟩ | ⟨-, h, -⟩; exact Or.inl h; exact Or.inr h
  have j26 : ∀ (Q : St → Int → Prop) (v : Int), (v = 1 ∨ v = 2) → Q (sset m 0 5 v) 0 → f_X10_possible_J26 Q m a v := by
    intro Q v hv hQ
    unfold f_X10_possible_J26
    rintro σ1 rfl
    have e5 : sset m 0 5 v 0 5 = v := by rw [sset_at, vu_eq]
    rw [e5]
    exact ⟨⟨by omega, by omega⟩, fun u => by omega, fun _ => hQ⟩
  by_cases ok : 0 ≤ a ∧ a ≤ 1
  · rcases J_ana hJ with ⟨h1, h2⟩ | ⟨h1, h2, D, nd, ck, ts, -, -, -, -, -, E0, Em, -, -, -, -, ⟨x, x1, x2, -⟩, ⟨y, y1, y2, -⟩⟩
    · refine q_thr (r := 0) (v := 2) (e := ISE) hJ (Or.inr (Or.inl rfl)) (Or.inr ⟨rfl, rfl⟩) (fun Q hQ => ?_) (fun Q E hE => ?_)
      · unfold f_X10_possible
        exact s_in ha ⟨by decide, by decide⟩ ⟨by decide, by decide⟩ (fun _ _ => ⟨⟨by decide, by decide⟩, fun _ => ⟨inR_01 h70, fun u => absurd h2 u, fun _ => j26 Q 2 (Or.inr rfl) hQ⟩, fun u => absurd u (by decide)⟩) (fun u => by omega)
      · unfold f_X9_possible
        exact ⟨ha, fun u => by omega, fun _ => ⟨ha, fun _ => (t_needAn h65 _ E).2 h1 hE, fun u => by omega⟩⟩
    · obtain ⟨r, er⟩ : ∃ r : Int, r = if a = 0 then (x : Int) else (y : Int) := ⟨_, rfl⟩
      refine q_ret (r := r) hJ (fun Q hQ => ?_) (fun Q E hQ => ?_)
      · unfold f_X10_possible
        refine s_in ha ⟨by decide, by decide⟩ ⟨by decide, by decide⟩ (fun _ _ => ⟨⟨by decide, by decide⟩, fun _ => ⟨inR_01 h70, fun _ => ?_, fun u => by omega⟩, fun u => absurd u (by decide)⟩) (fun u => by omega)
        unfold f_X10_possible_J26
        rintro σ1 rfl
        have e5 : sset m 0 5 0 0 5 = 0 := by rw [sset_at, vu_eq]
        rw [e5, sset_place _ _ _ (by decide), sset_place _ _ _ (by decide), x1, y1]
        refine ⟨⟨by decide, by decide⟩, fun _ => ⟨ha, fun u => ?_, fun u => ?_⟩, fun u => absurd (by decide) u⟩
        · rw [if_neg u] at er; rw [← er]; exact hQ
        · rw [if_pos u] at er; rw [← er]; exact hQ
      · unfold f_X9_possible
        refine ⟨ha, fun u => by omega, fun _ => ⟨ha, fun _ => (t_needAn h65 _ E).1 h1 ⟨ha, fun u => ?_, fun u => ?_⟩, fun u => by omega⟩⟩
        · rw [if_neg u] at er; rw [y2, ← er]; exact hQ
        · rw [if_pos u] at er; rw [x2, ← er]; exact hQ
  · refine q_thr (r := 0) (v := 1) (e := IAE) hJ (Or.inl rfl) (Or.inl ⟨rfl, rfl⟩) (fun Q hQ => ?_) (fun Q E hE => ?_)
    · unfold f_X10_possible
      exact s_in ha ⟨by decide, by decide⟩ ⟨by decide, by decide⟩ (fun u w => by omega) (fun _ => ⟨⟨by decide, by decide⟩, fun u => absurd rfl u, fun _ => j26 Q 1 (Or.inl rfl) hQ⟩)
    · unfold f_X9_possible f_X9_possible_J9
      exact ⟨ha, fun _ => hE, fun _ => ⟨ha, fun u => by omega, fun _ => hE⟩⟩
theorem Q_hubs (hJ : Jx KB c m) (ha : inR a) : JRi (Jx KB) (f_X9_hubs a c) (f_X10_hubs a m) (fun e v => (e = ISE ∧ v = 1) ∨ (e = IOE ∧ v = 2)) := by
  have h65 : c 65 1 = 0 ∨ c 65 1 = 1 := by rcases J_ana hJ with ⟨h, -⟩ | ⟨h, -⟩; exact Or.inl h; exact Or.inr h
  have j31 : ∀ (Q : St → Int → Prop) (v : Int), (v = 1 ∨ v = 2) → Q (sset m 0 5 v) 0 → f_X10_hubs_J31 Q m a v := by
    intro Q v hv hQ
    unfold f_X10_hubs_J31
    rintro σ1 rfl
    have e5 : sset m 0 5 v 0 5 = v := by rw [sset_at, vu_eq]
    rw [e5]
    exact ⟨⟨by omega, by omega⟩, fun _ => hQ, fun u => by omega⟩
  rcases J_ana hJ with ⟨h1, h2⟩ | ⟨h1, h2, D, nd, ck, ts, hD, d2, ⟨d10, d14, d18⟩, ⟨n12, k16, t16⟩, ⟨m30, m32, m33⟩, E0, Em, hC, hM, hKL, -⟩
  · refine q_thr (r := 0) (v := 1) (e := ISE) hJ (Or.inl rfl) (Or.inl ⟨rfl, rfl⟩) (fun Q hQ => ?_) (fun Q E hE => ?_)
    · unfold f_X10_hubs
      rw [h2]
      exact ⟨⟨by decide, by decide⟩, fun u => absurd rfl u, fun _ => j31 Q 1 (Or.inl rfl) hQ⟩
    · unfold f_X9_hubs
      exact (t_needAn h65 _ E).2 h1 hE
  · by_cases ok : 0 ≤ a ∧ a < nd
    · obtain ⟨n, en⟩ : ∃ n : Nat, a = (n : Int) := ⟨a.toNat, by omega⟩
      subst en
      have hn : n < 12 := by omega
      obtain ⟨kl1, kl2⟩ := hKL n (by omega)
      have kv := hC.2.2 n (by omega)
      obtain ⟨-, -, k3⟩ := hM n (by omega)
      have v0 : m 36 (9 * n) = ((Em n 0 : Nat) : Int) := k3 0 (by decide)
      have v8 := k3 8 (by decide)
      have i0 : (9 * (n : Int)).toNat = 9 * n := by omega
      have i8 : (9 * (n : Int) + 8).toNat = 9 * n + 8 := by omega
      have c66 := hC.1 n hn
      by_cases z : E0 n 0 = 0
      · have zm := (KLE_zz kl1 kl2).1 z
        refine q_ret (r := 0) hJ (fun Q hQ => ?_) (fun Q E hQ => ?_)
        · unfold f_X10_hubs
          rw [h2, m30]
          refine ⟨⟨by decide, by decide⟩, fun _ => s_in ha ⟨by decide, by decide⟩ ⟨by omega, by omega⟩ (fun _ _ => ⟨⟨by decide, by decide⟩, fun _ => ?_, fun u => absurd u (by decide)⟩) (fun u => by omega), fun u => absurd u (by decide)⟩
          unfold f_X10_hubs_J31
          rintro σ1 rfl
          have e5 : sset m 0 5 0 0 5 = 0 := by rw [sset_at, vu_eq]
          rw [e5, sset_row _ _ _ (by decide), i0, v0, zm]
          exact ⟨⟨by decide, by decide⟩, fun u => absurd u (by decide), fun _ => ⟨by omega, by omega, ⟨by decide, by decide⟩, fun u => absurd rfl u, fun _ => hQ⟩⟩
        · unfold f_X9_hubs
          refine (t_needAn h65 _ E).1 h1 ((t_needNode hD d2 d10 n12 ha _ E).1 ok.1 ok.2 ⟨by omega, by omega, ?_⟩)
          rw [Int.toNat_natCast, c66, pkg_0 z]
          exact t_hubSet (a := fun _ => 0) (V := 0) (U := 0) (fun _ _ => by decide) (by decide) (by decide) hQ
      · have eq := ent_eq kl1 kl2 z
        obtain ⟨b1, b2, b3, -⟩ := KV_16 kv z
        have zm : Em n 0 ≠ 0 := fun u => z ((KLE_zz kl1 kl2).2 u)
        refine q_ret (r := ((E0 n 8 : Nat) : Int)) hJ (fun Q hQ => ?_) (fun Q E hQ => ?_)
        · unfold f_X10_hubs
          rw [h2, m30]
          refine ⟨⟨by decide, by decide⟩, fun _ => s_in ha ⟨by decide, by decide⟩ ⟨by omega, by omega⟩ (fun _ _ => ⟨⟨by decide, by decide⟩, fun _ => ?_, fun u => absurd u (by decide)⟩) (fun u => by omega), fun u => absurd u (by decide)⟩
          unfold f_X10_hubs_J31
          rintro σ1 rfl
          have e5 : sset m 0 5 0 0 5 = 0 := by rw [sset_at, vu_eq]
          rw [e5, sset_row _ _ _ (by decide), i0, i8, v0, v8, ← eq 8 (by decide), ← eq 0 (by decide)]
          refine ⟨⟨by decide, by decide⟩, fun u => absurd u (by decide), fun _ => ⟨by omega, by omega, ?_, fun _ => ⟨by omega, by omega, hQ⟩, fun u => by omega⟩⟩
          rcases KV_01 kv with y | y <;> rw [y] <;> exact ⟨by decide, by decide⟩
        · unfold f_X9_hubs
          refine (t_needAn h65 _ E).1 h1 ((t_needNode hD d2 d10 n12 ha _ E).1 ok.1 ok.2 ⟨by omega, by omega, ?_⟩)
          rw [Int.toNat_natCast, c66, pkg_1 z]
          exact t_hubSet b1 b2 b3 hQ
    · refine q_thr (r := 0) (v := 2) (e := IOE) hJ (Or.inr (Or.inl rfl)) (Or.inr ⟨rfl, rfl⟩) (fun Q hQ => ?_) (fun Q E hE => ?_)
      · unfold f_X10_hubs
        rw [h2, m30]
        exact ⟨⟨by decide, by decide⟩, fun _ => s_in ha ⟨by decide, by decide⟩ ⟨by omega, by omega⟩ (fun u w => by omega) (fun _ => ⟨⟨by decide, by decide⟩, fun u => absurd rfl u, fun _ => j31 Q 2 (Or.inr rfl) hQ⟩), fun u => absurd u (by decide)⟩
      · unfold f_X9_hubs
        exact (t_needAn h65 _ E).1 h1 ((t_needNode hD d2 d10 n12 ha _ E).2 (by omega) hE)
/-- the reference looks a part of an entry up -/
theorem r_ofE {Q : St → Int → Prop} {most what : Int} (hm0 : 0 ≤ most) (hm1 : most ≤ 5) (ha : inR a) (hb : inR b) (h70 : m 0 70 = 0 ∨ m 0 70 = 1) (h30 : m 0 70 = 1 → 0 ≤ m 0 30 ∧ m 0 30 ≤ 12) (h1 : (b < 0 ∨ most < b) → Q (sset m 0 5 1) 0) (h2 : 0 ≤ b → b ≤ most → m 0 70 = 0 → Q (sset m 0 5 2) 0) (h3 : 0 ≤ b → b ≤ most → m 0 70 = 1 → (a < 0 ∨ m 0 30 ≤ a) → Q (sset m 0 5 3) 0) (h0 : 0 ≤ b → b ≤ most → m 0 70 = 1 → 0 ≤ a → a < m 0 30 → f_X10_ofEntry_J44 Q m a what 0) : f_X10_ofEntry a b most what m Q := by
  have j44 : ∀ v : Int, (v = 1 ∨ v = 2 ∨ v = 3) → Q (sset m 0 5 v) 0 → f_X10_ofEntry_J44 Q m a what v := by
    intro v hv hQ
    unfold f_X10_ofEntry_J44
    rintro σ1 rfl
    have e5 : sset m 0 5 v 0 5 = v := by rw [sset_at, vu_eq]
    rw [e5]
    exact ⟨⟨by omega, by omega⟩, fun u => by omega, fun _ => hQ⟩
  unfold f_X10_ofEntry
  refine s_in hb ⟨by decide, by decide⟩ ⟨by omega, by omega⟩ (fun u w => ⟨⟨by decide, by decide⟩, fun _ => ⟨inR_01 h70, fun z => ?_, fun z => j44 2 (by omega) (h2 u w z)⟩, fun z => absurd z (by decide)⟩) (fun u => ⟨⟨by decide, by decide⟩, fun z => absurd rfl z, fun _ => j44 1 (by omega) (h1 u)⟩)
  have z1 : m 0 70 = 1 := by omega
  have := h30 z1
  exact s_in ha ⟨by decide, by decide⟩ ⟨by omega, by omega⟩ (fun x y => ⟨⟨by decide, by decide⟩, fun _ => h0 u w z1 x (by omega), fun q => absurd q (by decide)⟩) (fun x => ⟨⟨by decide, by decide⟩, fun q => absurd rfl q, fun _ => j44 3 (by omega) (h3 u w z1 (by omega))⟩)
theorem r_J44 {Em : Nat → Nat → Nat} {n w : Nat} {Q : St → Int → Prop} (hn : n < 12) (hw : w < 9) (hM : MEr m Em) (h0 : Em n 0 = 0 → Q (sset m 0 5 0) (-1)) (h1 : Em n 0 ≠ 0 → Q (sset m 0 5 0) ((Em n w : Nat) : Int)) : f_X10_ofEntry_J44 Q m (n : Int) (w : Int) 0 := by
  obtain ⟨kv, -, k3⟩ := hM n (by omega)
  have v0 : m 36 (9 * n) = ((Em n 0 : Nat) : Int) := k3 0 (by decide)
  have vw := k3 w hw
  have i0 : (9 * (n : Int)).toNat = 9 * n := by omega
  have iw : (9 * (n : Int) + (w : Int)).toNat = 9 * n + w := by omega
  unfold f_X10_ofEntry_J44
  rintro σ1 rfl
  have e5 : sset m 0 5 0 0 5 = 0 := by rw [sset_at, vu_eq]
  rw [e5, sset_row _ _ _ (by decide), i0, iw, v0, vw]
  refine ⟨⟨by decide, by decide⟩, fun _ => ⟨by omega, by omega, ?_, fun u => ⟨by omega, by omega, h1 (fun z => u (by rw [z]; rfl))⟩, fun u => h0 (by omega)⟩, fun u => absurd (by decide) u⟩
  rcases KV_01 kv with y | y <;> rw [y] <;> exact ⟨by decide, by decide⟩
theorem Q_lowest (hJ : Jx KB c m) (ha : inR a) (hb : inR b) : JRi (Jx KB) (f_X9_lowest a b c) (f_X10_lowest a b m) (fun e v => (e = IAE ∧ v = 1) ∨ (e = ISE ∧ v = 2) ∨ (e = IOE ∧ v = 3)) := by
  have h65 : c 65 1 = 0 ∨ c 65 1 = 1 := by rcases J_ana hJ with ⟨h, -⟩ | ⟨h, -⟩; exact Or.inl h; exact Or.inr h
  have h70 : m 0 70 = 0 ∨ m 0 70 = 1 := by rcases J_ana hJ with ⟨-, h⟩ | ⟨-, h, -⟩; exact Or.inl h; exact Or.inr h
  have h30 : m 0 70 = 1 → 0 ≤ m 0 30 ∧ m 0 30 ≤ 12 := by
    intro u
    rcases J_ana hJ with ⟨-, h⟩ | ⟨-, -, D, nd, ck, ts, -, -, -, ⟨n12, -⟩, ⟨m30, -⟩, -⟩
    · omega
    · omega
  by_cases ok : 0 ≤ b ∧ b ≤ 2
  · rcases J_ana hJ with ⟨h1, h2⟩ | ⟨h1, h2, D, nd, ck, ts, hD, d2, ⟨d10, d14, d18⟩, ⟨n12, k16, t16⟩, ⟨m30, m32, m33⟩, E0, Em, hC, hM, hKL, -⟩
    · refine q_thr (r := 0) (v := 2) (e := ISE) hJ (Or.inr (Or.inl rfl)) (Or.inr (Or.inl ⟨rfl, rfl⟩)) (fun Q hQ => ?_) (fun Q E hE => ?_)
      · unfold f_X10_lowest
        exact r_ofE (by decide) (by decide) ha hb h70 h30 (fun u => by omega) (fun _ _ _ => hQ) (fun _ _ u => by omega) (fun _ _ u => by omega)
      · unfold f_X9_lowest
        exact (t_needMt hb _ E).1 ok.1 ok.2 ((t_needAn h65 _ E).2 h1 hE)
    · by_cases inside : 0 ≤ a ∧ a < nd
      · obtain ⟨n, en⟩ : ∃ n : Nat, a = (n : Int) := ⟨a.toNat, by omega⟩
        obtain ⟨p, ep⟩ : ∃ p : Nat, b = (p : Int) := ⟨b.toNat, by omega⟩
        subst en
        subst ep
        have hn : n < 12 := by omega
        obtain ⟨kl1, kl2⟩ := hKL n (by omega)
        have kv := hC.2.2 n (by omega)
        have c66 := hC.1 n hn
        have zz := KLE_zz kl1 kl2
        have ew : (1 : Int) + (p : Int) = ((1 + p : Nat) : Int) := by omega
        have lz := lcmp_pkg0 kv
        refine q_ret (r := if E0 n 0 = 0 then -1 else ((E0 n (1 + p) : Nat) : Int)) hJ (fun Q hQ => ?_) (fun Q E hQ => ?_)
        · unfold f_X10_lowest
          refine r_ofE (by decide) (by decide) ha hb h70 h30 (fun u => by omega) (fun _ _ u => by omega) (fun _ _ _ u => by omega) (fun _ _ _ _ _ => ?_)
          rw [ew]
          refine r_J44 hn (by omega) hM (fun z => ?_) (fun z => ?_)
          · rw [if_pos (zz.2 z)] at hQ; exact hQ
          · have z0 : E0 n 0 ≠ 0 := fun u => z (zz.1 u)
            rw [if_neg z0, ent_eq kl1 kl2 z0 (1 + p) (by omega)] at hQ
            exact hQ
        · unfold f_X9_lowest
          refine (t_needMt hb _ E).1 ok.1 ok.2 ((t_needAn h65 _ E).1 h1 ((t_needNode hD d2 d10 n12 ha _ E).1 inside.1 inside.2 ⟨by omega, by omega, ?_⟩))
          rintro x1 rfl
          rw [Int.toNat_natCast, c66]
          refine ⟨lcmp_r _ _, fun z => ?_, fun z => ?_⟩
          · have z0 : E0 n 0 ≠ 0 := fun u => z (lz.2 u)
            rw [if_neg z0] at hQ
            obtain ⟨b1, b2, b3, -⟩ := KV_16 kv z0
            rw [pkg_1 z0]
            exact t_low b1 b2 b3 (by omega) hQ
          · rw [if_pos (lz.1 z)] at hQ; exact hQ
      · refine q_thr (r := 0) (v := 3) (e := IOE) hJ (Or.inr (Or.inr rfl)) (Or.inr (Or.inr ⟨rfl, rfl⟩)) (fun Q hQ => ?_) (fun Q E hE => ?_)
        · unfold f_X10_lowest
          exact r_ofE (by decide) (by decide) ha hb h70 h30 (fun u => by omega) (fun _ _ u => by omega) (fun _ _ _ _ => hQ) (fun _ _ _ u w => by omega)
        · unfold f_X9_lowest
          exact (t_needMt hb _ E).1 ok.1 ok.2 ((t_needAn h65 _ E).1 h1 ((t_needNode hD d2 d10 n12 ha _ E).2 (by omega) hE))
  · refine q_thr (r := 0) (v := 1) (e := IAE) hJ (Or.inl rfl) (Or.inl ⟨rfl, rfl⟩) (fun Q hQ => ?_) (fun Q E hE => ?_)
    · unfold f_X10_lowest
      exact r_ofE (by decide) (by decide) ha hb h70 h30 (fun _ => hQ) (fun u w _ => by omega) (fun u w _ _ => by omega) (fun u w _ _ _ => by omega)
    · unfold f_X9_lowest
      exact (t_needMt hb _ E).2 (by omega) hE
theorem Q_greatest (hJ : Jx KB c m) (ha : inR a) (hb : inR b) : JRi (Jx KB) (f_X9_greatest a b c) (f_X10_greatest a b m) (fun e v => (e = IAE ∧ v = 1) ∨ (e = ISE ∧ v = 2) ∨ (e = IOE ∧ v = 3)) := by
  have h65 : c 65 1 = 0 ∨ c 65 1 = 1 := by rcases J_ana hJ with ⟨h, -⟩ | ⟨h, -⟩; exact Or.inl h; exact Or.inr h
  have h70 : m 0 70 = 0 ∨ m 0 70 = 1 := by rcases J_ana hJ with ⟨-, h⟩ | ⟨-, h, -⟩; exact Or.inl h; exact Or.inr h
  have h30 : m 0 70 = 1 → 0 ≤ m 0 30 ∧ m 0 30 ≤ 12 := by
    intro u
    rcases J_ana hJ with ⟨-, h⟩ | ⟨-, -, D, nd, ck, ts, -, -, -, ⟨n12, -⟩, ⟨m30, -⟩, -⟩
    · omega
    · omega
  by_cases ok : 0 ≤ b ∧ b ≤ 2
  · rcases J_ana hJ with ⟨h1, h2⟩ | ⟨h1, h2, D, nd, ck, ts, hD, d2, ⟨d10, d14, d18⟩, ⟨n12, k16, t16⟩, ⟨m30, m32, m33⟩, E0, Em, hC, hM, hKL, -⟩
    · refine q_thr (r := 0) (v := 2) (e := ISE) hJ (Or.inr (Or.inl rfl)) (Or.inr (Or.inl ⟨rfl, rfl⟩)) (fun Q hQ => ?_) (fun Q E hE => ?_)
      · unfold f_X10_greatest
        exact r_ofE (by decide) (by decide) ha hb h70 h30 (fun u => by omega) (fun _ _ _ => hQ) (fun _ _ u => by omega) (fun _ _ u => by omega)
      · unfold f_X9_greatest
        exact (t_needMt hb _ E).1 ok.1 ok.2 ((t_needAn h65 _ E).2 h1 hE)
    · by_cases inside : 0 ≤ a ∧ a < nd
      · obtain ⟨n, en⟩ : ∃ n : Nat, a = (n : Int) := ⟨a.toNat, by omega⟩
        obtain ⟨p, ep⟩ : ∃ p : Nat, b = (p : Int) := ⟨b.toNat, by omega⟩
        subst en
        subst ep
        have hn : n < 12 := by omega
        obtain ⟨kl1, kl2⟩ := hKL n (by omega)
        have kv := hC.2.2 n (by omega)
        have c66 := hC.1 n hn
        have zz := KLE_zz kl1 kl2
        have ew : (4 : Int) + (p : Int) = ((4 + p : Nat) : Int) := by omega
        have lz := lcmp_pkg0 kv
        refine q_ret (r := if E0 n 0 = 0 then -1 else ((E0 n (4 + p) : Nat) : Int)) hJ (fun Q hQ => ?_) (fun Q E hQ => ?_)
        · unfold f_X10_greatest
          refine r_ofE (by decide) (by decide) ha hb h70 h30 (fun u => by omega) (fun _ _ u => by omega) (fun _ _ _ u => by omega) (fun _ _ _ _ _ => ?_)
          rw [ew]
          refine r_J44 hn (by omega) hM (fun z => ?_) (fun z => ?_)
          · rw [if_pos (zz.2 z)] at hQ; exact hQ
          · have z0 : E0 n 0 ≠ 0 := fun u => z (zz.1 u)
            rw [if_neg z0, ent_eq kl1 kl2 z0 (4 + p) (by omega)] at hQ
            exact hQ
        · unfold f_X9_greatest
          refine (t_needMt hb _ E).1 ok.1 ok.2 ((t_needAn h65 _ E).1 h1 ((t_needNode hD d2 d10 n12 ha _ E).1 inside.1 inside.2 ⟨by omega, by omega, ?_⟩))
          rintro x1 rfl
          rw [Int.toNat_natCast, c66]
          refine ⟨lcmp_r _ _, fun z => ?_, fun z => ?_⟩
          · have z0 : E0 n 0 ≠ 0 := fun u => z (lz.2 u)
            rw [if_neg z0] at hQ
            obtain ⟨b1, b2, b3, -⟩ := KV_16 kv z0
            rw [pkg_1 z0]
            refine t_high b1 b2 b3 (by omega) ?_
            show Q c ((E0 n (1 + (3 + p)) : Nat) : Int)
            rw [show 1 + (3 + p) = 4 + p by omega]
            exact hQ
          · rw [if_pos (lz.1 z)] at hQ; exact hQ
      · refine q_thr (r := 0) (v := 3) (e := IOE) hJ (Or.inr (Or.inr rfl)) (Or.inr (Or.inr ⟨rfl, rfl⟩)) (fun Q hQ => ?_) (fun Q E hE => ?_)
        · unfold f_X10_greatest
          exact r_ofE (by decide) (by decide) ha hb h70 h30 (fun u => by omega) (fun _ _ u => by omega) (fun _ _ _ _ => hQ) (fun _ _ _ u w => by omega)
        · unfold f_X9_greatest
          exact (t_needMt hb _ E).1 ok.1 ok.2 ((t_needAn h65 _ E).1 h1 ((t_needNode hD d2 d10 n12 ha _ E).2 (by omega) hE))
  · refine q_thr (r := 0) (v := 1) (e := IAE) hJ (Or.inl rfl) (Or.inl ⟨rfl, rfl⟩) (fun Q hQ => ?_) (fun Q E hE => ?_)
    · unfold f_X10_greatest
      exact r_ofE (by decide) (by decide) ha hb h70 h30 (fun _ => hQ) (fun u w _ => by omega) (fun u w _ _ => by omega) (fun u w _ _ _ => by omega)
    · unfold f_X9_greatest
      exact (t_needMt hb _ E).2 (by omega) hE
theorem Q_values (hJ : Jx KB c m) (ha : inR a) (hb : inR b) : JRi (Jx KB) (f_X9_values a b c) (f_X10_values a b m) (fun e v => (e = IAE ∧ v = 1) ∨ (e = ISE ∧ v = 2) ∨ (e = IOE ∧ v = 3)) := by
  have h65 : c 65 1 = 0 ∨ c 65 1 = 1 := by rcases J_ana hJ with ⟨h, -⟩ | ⟨h, -⟩; exact Or.inl h; exact Or.inr h
  have h70 : m 0 70 = 0 ∨ m 0 70 = 1 := by rcases J_ana hJ with ⟨-, h⟩ | ⟨-, h, -⟩; exact Or.inl h; exact Or.inr h
  have h30 : m 0 70 = 1 → 0 ≤ m 0 30 ∧ m 0 30 ≤ 12 := by
    intro u
    rcases J_ana hJ with ⟨-, h⟩ | ⟨-, -, D, nd, ck, ts, -, -, -, ⟨n12, -⟩, ⟨m30, -⟩, -⟩
    · omega
    · omega
  have bad : ∀ (Q : St → Int → Prop) (v : Int), (v = 1 ∨ v = 2 ∨ v = 3) → Q (sset m 0 5 v) 0 → (fun (σ1 : St) (r1 : Int) => inR (σ1 0 5) ∧ ((0 < (σ1 0 5) → Q σ1 0) ∧ (¬ 0 < (σ1 0 5) → inR r1 ∧ ((¬ r1 = (-1) → Q σ1 (iand32 (ishr32 r1 (2 * b)) 3)) ∧ (r1 = (-1) → Q σ1 0))))) (sset m 0 5 v) 0 := by
    intro Q v hv hQ
    have e5 : sset m 0 5 v 0 5 = v := by rw [sset_at, vu_eq]
    show inR (sset m 0 5 v 0 5) ∧ _
    rw [e5]
    exact ⟨⟨by omega, by omega⟩, fun _ => hQ, fun u => by omega⟩
  have e50 : sset m 0 5 0 0 5 = 0 := by rw [sset_at, vu_eq]
  by_cases ok : 0 ≤ b ∧ b ≤ 5
  · rcases J_ana hJ with ⟨h1, h2⟩ | ⟨h1, h2, D, nd, ck, ts, hD, d2, ⟨d10, d14, d18⟩, ⟨n12, k16, t16⟩, ⟨m30, m32, m33⟩, E0, Em, hC, hM, hKL, -⟩
    · refine q_thr (r := 0) (v := 2) (e := ISE) hJ (Or.inr (Or.inl rfl)) (Or.inr (Or.inl ⟨rfl, rfl⟩)) (fun Q hQ => ?_) (fun Q E hE => ?_)
      · unfold f_X10_values
        exact r_ofE (by decide) (by decide) ha hb h70 h30 (fun u => by omega) (fun _ _ _ => bad Q 2 (by omega) hQ) (fun _ _ u => by omega) (fun _ _ u => by omega)
      · unfold f_X9_values
        exact (t_needFl hb _ E).1 ok.1 ok.2 ((t_needAn h65 _ E).2 h1 hE)
    · by_cases inside : 0 ≤ a ∧ a < nd
      · obtain ⟨n, en⟩ : ∃ n : Nat, a = (n : Int) := ⟨a.toNat, by omega⟩
        obtain ⟨p, ep⟩ : ∃ p : Nat, b = (p : Int) := ⟨b.toNat, by omega⟩
        subst en
        subst ep
        have hn : n < 12 := by omega
        obtain ⟨kl1, kl2⟩ := hKL n (by omega)
        have kv := hC.2.2 n (by omega)
        have c66 := hC.1 n hn
        have zz := KLE_zz kl1 kl2
        refine q_ret (r := if E0 n 0 = 0 then 0 else ((E0 n 7 / 2 ^ (2 * p) % 4 : Nat) : Int)) hJ (fun Q hQ => ?_) (fun Q E hQ => ?_)
        · unfold f_X10_values
          refine r_ofE (by decide) (by decide) ha hb h70 h30 (fun u => by omega) (fun _ _ u => by omega) (fun _ _ _ u => by omega) (fun _ _ _ _ _ => ?_)
          refine r_J44 (w := 7) hn (by decide) hM (fun z => ?_) (fun z => ?_)
          · rw [if_pos (zz.2 z)] at hQ
            rw [e50]
            exact ⟨⟨by decide, by decide⟩, fun u => absurd u (by decide), fun _ => ⟨⟨by decide, by decide⟩, fun u => absurd rfl u, fun _ => hQ⟩⟩
          · have z0 : E0 n 0 ≠ 0 := fun u => z (zz.1 u)
            obtain ⟨b1, b2, b3, -⟩ := KV_16 kv z0
            rw [if_neg z0] at hQ
            rw [e50, ← ent_eq kl1 kl2 z0 7 (by decide)]
            refine ⟨⟨by decide, by decide⟩, fun u => absurd u (by decide), fun _ => ⟨⟨by omega, by omega⟩, fun _ => ?_, fun u => by omega⟩⟩
            rw [ishr_m4 (by omega) (by omega)]
            exact hQ
        · unfold f_X9_values
          refine (t_needFl hb _ E).1 ok.1 ok.2 ((t_needAn h65 _ E).1 h1 ((t_needNode hD d2 d10 n12 ha _ E).1 inside.1 inside.2 ⟨by omega, by omega, ?_⟩))
          rw [Int.toNat_natCast, c66]
          by_cases z0 : E0 n 0 = 0
          · rw [if_pos z0] at hQ
            rw [pkg_0 z0]
            refine t_flagSet (a := fun _ => 0) (V := 0) (U := 0) (fun _ _ => by decide) (by decide) (by decide) (by omega) ?_
            rw [Nat.zero_div]
            exact hQ
          · rw [if_neg z0] at hQ
            obtain ⟨b1, b2, b3, -⟩ := KV_16 kv z0
            rw [pkg_1 z0]
            exact t_flagSet b1 b2 b3 (by omega) hQ
      · refine q_thr (r := 0) (v := 3) (e := IOE) hJ (Or.inr (Or.inr rfl)) (Or.inr (Or.inr ⟨rfl, rfl⟩)) (fun Q hQ => ?_) (fun Q E hE => ?_)
        · unfold f_X10_values
          exact r_ofE (by decide) (by decide) ha hb h70 h30 (fun u => by omega) (fun _ _ u => by omega) (fun _ _ _ _ => bad Q 3 (by omega) hQ) (fun _ _ _ u w => by omega)
        · unfold f_X9_values
          exact (t_needFl hb _ E).1 ok.1 ok.2 ((t_needAn h65 _ E).1 h1 ((t_needNode hD d2 d10 n12 ha _ E).2 (by omega) hE))
  · refine q_thr (r := 0) (v := 1) (e := IAE) hJ (Or.inl rfl) (Or.inl ⟨rfl, rfl⟩) (fun Q hQ => ?_) (fun Q E hE => ?_)
    · unfold f_X10_values
      exact r_ofE (by decide) (by decide) ha hb h70 h30 (fun _ => bad Q 1 (by omega) hQ) (fun u w _ => by omega) (fun u w _ _ => by omega) (fun u w _ _ _ => by omega)
    · unfold f_X9_values
      exact (t_needFl hb _ E).2 (by omega) hE
theorem Q_isReached (hJ : Jx KB c m) (ha : inR a) (hb : inR b) : JRb (Jx KB) (f_X9_isReached a b c) (f_X10_isReached a b m) (fun e v => (e = IAE ∧ v = 1) ∨ (e = ISE ∧ v = 2) ∨ (e = IOE ∧ v = 3)) := by
  have h65 : c 65 1 = 0 ∨ c 65 1 = 1 := by rcases J_ana hJ with ⟨h, -⟩ | ⟨h, -⟩; exact Or.inl h; exact Or.inr h
  have h70 : m 0 70 = 0 ∨ m 0 70 = 1 := by rcases J_ana hJ with ⟨-, h⟩ | ⟨-, h, -⟩; exact Or.inl h; exact Or.inr h
  have j57 : ∀ (Q : St → Int → Prop) (v : Int), (v = 1 ∨ v = 2 ∨ v = 3) → Q (sset m 0 5 v) 0 → f_X10_isReached_J57 Q m a b v := by
    intro Q v hv hQ
    unfold f_X10_isReached_J57
    rintro σ1 rfl
    have e5 : sset m 0 5 v 0 5 = v := by rw [sset_at, vu_eq]
    rw [e5]
    exact ⟨⟨by omega, by omega⟩, fun _ => hQ, fun u => by omega⟩
  by_cases ok : 0 ≤ a ∧ a ≤ 1
  · rcases J_ana hJ with ⟨h1, h2⟩ | ⟨h1, h2, D, nd, ck, ts, hD, d2, ⟨d10, d14, d18⟩, ⟨n12, k16, t16⟩, ⟨m30, m32, m33⟩, E0, Em, hC, hM, hKL, -⟩
    · refine qb_thr (r := 0) (v := 2) (e := ISE) hJ (Or.inr (Or.inl rfl)) (Or.inr (Or.inl ⟨rfl, rfl⟩)) (fun Q hQ => ?_) (fun Q E hE => ?_)
      · unfold f_X10_isReached
        exact s_in ha ⟨by decide, by decide⟩ ⟨by decide, by decide⟩ (fun _ _ => ⟨⟨by decide, by decide⟩, fun _ => ⟨inR_01 h70, fun u => absurd h2 u, fun _ => j57 Q 2 (by omega) hQ⟩, fun u => absurd u (by decide)⟩) (fun u => by omega)
      · unfold f_X9_isReached
        exact ⟨ha, fun u => by omega, fun _ => ⟨ha, fun _ => (t_needAn h65 _ E).2 h1 hE, fun u => by omega⟩⟩
    · obtain ⟨li, el⟩ : ∃ li : Int, li = if a = 0 then (nd : Int) else (ck : Int) := ⟨_, rfl⟩
      have lr : 0 ≤ li ∧ li ≤ 16 := by rw [el]; split <;> omega
      have refM : ∀ Q : St → Int → Prop, f_X10_isReached_J46 Q m a b b 0 (li - 1) → f_X10_isReached a b m Q := by
        intro Q w
        unfold f_X10_isReached
        refine s_in ha ⟨by decide, by decide⟩ ⟨by decide, by decide⟩ (fun _ _ => ⟨⟨by decide, by decide⟩, fun _ => ⟨inR_01 h70, fun _ => ⟨ha, fun u => ?_, fun u => ?_⟩, fun u => by omega⟩, fun u => absurd u (by decide)⟩) (fun u => by omega)
        · rw [if_neg u] at el
          rw [m32, ← el]; exact w
        · rw [if_pos u] at el
          rw [m30, ← el]; exact w
      by_cases inside : 0 ≤ b ∧ b < li
      · obtain ⟨p, ep⟩ : ∃ p : Nat, b = (p : Int) := ⟨b.toNat, by omega⟩
        subst ep
        obtain ⟨i, ei⟩ : ∃ i : Nat, i = (12 * a + (p : Int)).toNat := ⟨_, rfl⟩
        have i28 : i < 28 ∧ (12 * a + (p : Int)) = (i : Int) := by
          by_cases z : a = 0
          · rw [if_pos z] at el; omega
          · rw [if_neg z] at el; omega
        have kv := hC.2.2 i i28.1
        obtain ⟨kl1, kl2⟩ := hKL i i28.1
        have zz := KLE_zz kl1 kl2
        obtain ⟨kvm, -, k3⟩ := hM i i28.1
        have v0 : m 36 (9 * i) = ((Em i 0 : Nat) : Int) := k3 0 (by decide)
        have i9 : (9 * (i : Int)).toNat = 9 * i := by omega
        have lz := lcmp_pkg0 kv
        refine qb_ret (r := if E0 i 0 = 0 then 0 else 1) hJ (by split; exact Or.inl rfl; exact Or.inr rfl) (fun Q hQ => refM Q ?_) (fun Q E hQ => ?_)
        · unfold f_X10_isReached_J46
          refine s_in hb ⟨by decide, by decide⟩ ⟨by omega, by omega⟩ (fun _ _ => ⟨⟨by decide, by decide⟩, fun _ => ?_, fun u => absurd u (by decide)⟩) (fun u => by omega)
          unfold f_X10_isReached_J57
          rintro σ1 rfl
          have e5 : sset m 0 5 0 0 5 = 0 := by rw [sset_at, vu_eq]
          rw [e5, i28.2, sset_row _ _ _ (by decide), i9, v0]
          refine ⟨⟨by decide, by decide⟩, fun u => absurd rfl u, fun _ => ⟨by omega, by omega, ?_, fun u => ?_, fun u => ?_⟩⟩
          · rcases KV_01 kvm with y | y <;> rw [y] <;> exact ⟨by decide, by decide⟩
          · have : Em i 0 = 0 := by
              rcases KV_01 kvm with y | y
              · exact y
              · exact absurd (by rw [y]; rfl) u
            rw [if_pos (zz.2 this)] at hQ; exact hQ
          · have : ¬ E0 i 0 = 0 := fun z => by rw [zz.1 z] at u; exact absurd u (by decide)
            rw [if_neg this] at hQ; exact hQ
        · unfold f_X9_isReached
          refine ⟨ha, fun u => by omega, fun _ => ⟨ha, fun _ => (t_needAn h65 _ E).1 h1 ⟨ha, fun u => ?_, fun u => ?_⟩, fun u => by omega⟩⟩
          · rw [if_neg u] at el
            have i12 : i = 12 + p := by omega
            have c67 := hC.2.1 p (by omega)
            rw [← i12] at c67
            refine (t_needChoice hD d2 d14 k16 hb _ E).1 inside.1 (by omega) ⟨by omega, by omega, ?_⟩
            rw [Int.toNat_natCast, c67]
            refine ⟨lcmp_r _ _, fun z => ?_, fun z => ?_⟩
            · rw [if_pos (lz.1 z)] at hQ; exact hQ
            · rw [if_neg (fun w => z (lz.2 w))] at hQ; exact hQ
          · rw [if_pos u] at el
            have i12 : i = p := by omega
            have c66 := hC.1 p (by omega)
            rw [← i12] at c66
            refine (t_needNode hD d2 d10 n12 hb _ E).1 inside.1 (by omega) ⟨by omega, by omega, ?_⟩
            rw [Int.toNat_natCast, ← i12, c66]
            refine ⟨lcmp_r _ _, fun z => ?_, fun z => ?_⟩
            · rw [if_pos (lz.1 z)] at hQ; exact hQ
            · rw [if_neg (fun w => z (lz.2 w))] at hQ; exact hQ
      · refine qb_thr (r := 0) (v := 3) (e := IOE) hJ (Or.inr (Or.inr rfl)) (Or.inr (Or.inr ⟨rfl, rfl⟩)) (fun Q hQ => refM Q ?_) (fun Q E hE => ?_)
        · unfold f_X10_isReached_J46
          exact s_in hb ⟨by decide, by decide⟩ ⟨by omega, by omega⟩ (fun u w => by omega) (fun _ => ⟨⟨by decide, by decide⟩, fun u => absurd rfl u, fun _ => j57 Q 3 (by omega) hQ⟩)
        · unfold f_X9_isReached
          refine ⟨ha, fun u => by omega, fun _ => ⟨ha, fun _ => (t_needAn h65 _ E).1 h1 ⟨ha, fun u => ?_, fun u => ?_⟩, fun u => by omega⟩⟩
          · rw [if_neg u] at el
            exact (t_needChoice hD d2 d14 k16 hb _ E).2 (by omega) hE
          · rw [if_pos u] at el
            exact (t_needNode hD d2 d10 n12 hb _ E).2 (by omega) hE
  · refine qb_thr (r := 0) (v := 1) (e := IAE) hJ (Or.inl rfl) (Or.inl ⟨rfl, rfl⟩) (fun Q hQ => ?_) (fun Q E hE => ?_)
    · unfold f_X10_isReached
      exact s_in ha ⟨by decide, by decide⟩ ⟨by decide, by decide⟩ (fun u w => by omega) (fun _ => ⟨⟨by decide, by decide⟩, fun u => absurd rfl u, fun _ => j57 Q 1 (by omega) hQ⟩)
    · unfold f_X9_isReached f_X9_isReached_J9
      exact ⟨ha, fun _ => hE, fun _ => ⟨ha, fun u => by omega, fun _ => hE⟩⟩
end QAN
