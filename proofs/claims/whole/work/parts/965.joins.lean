/-! ===== pure layer: the class joins what is known to entries ===== -/
/-- how much is known to be possible -/
def rnk (g : Nat → Nat) : Nat := if g 0 = 0 then 0 else 1 + (9 - g 1) + (9 - g 2) + (9 - g 3) + g 4 + g 5 + g 6 + pcr (g 7) 12 0 + pcr (g 8) 13 0
theorem pcr_mono {a b : Nat} (h : sub2 a b) : ∀ (j k : Nat), pcr a j k ≤ pcr b j k := by
  intro j
  induction j with
  | zero => intro k; exact Nat.le_refl _
  | succ j ih =>
    intro k
    have := ih (k + 1)
    unfold pcr
    cases q : a.testBit k
    · simp; omega
    · rw [h k q]; simp; omega
theorem pcr_eq {a b : Nat} (h : sub2 a b) : ∀ (j k : Nat), pcr a j k = pcr b j k → ∀ i, k ≤ i → i < k + j → a.testBit i = b.testBit i := by
  intro j
  induction j with
  | zero => intro k _ i h1 h2; omega
  | succ j ih =>
    intro k e i h1 h2
    have m := pcr_mono h j (k + 1)
    unfold pcr at e
    cases q : a.testBit k
    · cases q2 : b.testBit k
      · rw [q, q2] at e
        by_cases z : i = k
        · rw [z, q, q2]
        · exact ih (k + 1) (by simpa using e) i (by omega) (by omega)
      · rw [q, q2] at e
        simp at e
        omega
    · have q2 := h k q
      rw [q, q2] at e
      by_cases z : i = k
      · rw [z, q, q2]
      · exact ih (k + 1) (by simp at e; omega) i (by omega) (by omega)
theorem rnk_le {g g' : Nat → Nat} (hv : KV g) (hv' : KV g') (h : KLE g g') : rnk g ≤ rnk g' ∧ (rnk g = rnk g' → pkg g = pkg g') := by
  unfold rnk
  by_cases u : g 0 = 0
  · rw [if_pos u]
    refine ⟨Nat.zero_le _, fun e => ?_⟩
    by_cases w : g' 0 = 0
    · rw [pkg_0 u, pkg_0 w]
    · rw [if_neg w] at e; omega
  · rcases h with z | ⟨k1, k2, k3, k4, k5⟩
    · exact absurd z u
    · have w : g' 0 ≠ 0 := by omega
      rw [if_neg u, if_neg w]
      have p7 := pcr_mono k4 12 0
      have p8 := pcr_mono k5 13 0
      have l0 := k2 0 (by decide); have l1 := k2 1 (by decide); have l2 := k2 2 (by decide)
      have h0 := k3 0 (by decide); have h1 := k3 1 (by decide); have h2 := k3 2 (by decide)
      have b0 := KV_hi hv u (o := 0) (by decide); have b1 := KV_hi hv u (o := 1) (by decide); have b2 := KV_hi hv u (o := 2) (by decide)
      rw [show 1 + 0 = 1 from rfl, show 4 + 0 = 4 from rfl] at *
      rw [show 1 + 1 = 2 from rfl, show 4 + 1 = 5 from rfl] at *
      rw [show 1 + 2 = 3 from rfl, show 4 + 2 = 6 from rfl] at *
      refine ⟨by omega, fun e => ?_⟩
      obtain ⟨a1, a2, a3, -⟩ := KV_16 hv u
      obtain ⟨c1, c2, c3, -⟩ := KV_16 hv' w
      have e7 : pcr (g 7) 12 0 = pcr (g' 7) 12 0 := by omega
      have e8 : pcr (g 8) 13 0 = pcr (g' 8) 13 0 := by omega
      have v7 : g 7 = g' 7 := by
        apply Nat.eq_of_testBit_eq
        intro i
        by_cases z : i < 12
        · exact pcr_eq k4 12 0 e7 i (Nat.zero_le _) (by omega)
        · rw [tb_hi (ck := 12) a2 (by omega), tb_hi (ck := 12) c2 (by omega)]
      have v8 : g 8 = g' 8 := by
        apply Nat.eq_of_testBit_eq
        intro i
        by_cases z : i < 13
        · exact pcr_eq k5 13 0 e8 i (Nat.zero_le _) (by omega)
        · rw [tb_hi (ck := 13) a3 (by omega), tb_hi (ck := 13) c3 (by omega)]
      rw [pkg_1 u, pkg_1 w, v7, v8]
      refine pk_congr (fun i hi => ?_)
      show g (1 + i) = g' (1 + i)
      have : i = 0 ∨ i = 1 ∨ i = 2 ∨ i = 3 ∨ i = 4 ∨ i = 5 := by omega
      rcases this with rfl | rfl | rfl | rfl | rfl | rfl
      · show g 1 = g' 1; omega
      · show g 2 = g' 2; omega
      · show g 3 = g' 3; omega
      · show g 4 = g' 4; omega
      · show g 5 = g' 5; omega
      · show g 6 = g' 6; omega
theorem rnk_80 {g : Nat → Nat} (hv : KV g) : rnk g ≤ 80 := by
  unfold rnk
  by_cases u : g 0 = 0
  · rw [if_pos u]; decide
  · rw [if_neg u]
    have b0 := KV_hi hv u (o := 0) (by decide); have b1 := KV_hi hv u (o := 1) (by decide); have b2 := KV_hi hv u (o := 2) (by decide)
    rw [show 1 + 0 = 1 from rfl, show 4 + 0 = 4 from rfl] at b0
    rw [show 1 + 1 = 2 from rfl, show 4 + 1 = 5 from rfl] at b1
    rw [show 1 + 2 = 3 from rfl, show 4 + 2 = 6 from rfl] at b2
    have p7 := pcr_le (O := g 7) 12 0
    have p8 := pcr_le (O := g 8) 13 0
    omega
/-- of all entries together -/
def mu (E : Nat → Nat → Nat) : Nat → Nat
  | 0 => 0
  | n + 1 => mu E n + rnk (E n)
theorem mu_le {E E' : Nat → Nat → Nat} : ∀ n, (∀ i, i < n → KV (E i) ∧ KV (E' i) ∧ KLE (E i) (E' i)) → mu E n ≤ mu E' n ∧ (mu E n = mu E' n → ∀ i, i < n → pkg (E i) = pkg (E' i)) := by
  intro n
  induction n with
  | zero => intro _; exact ⟨Nat.le_refl _, fun _ i hi => by omega⟩
  | succ n ih =>
    intro h
    obtain ⟨i1, i2⟩ := ih (fun i hi => h i (by omega))
    obtain ⟨h1, h2, h3⟩ := h n (by omega)
    obtain ⟨r1, r2⟩ := rnk_le h1 h2 h3
    show mu E n + rnk (E n) ≤ mu E' n + rnk (E' n) ∧ (mu E n + rnk (E n) = mu E' n + rnk (E' n) → _)
    refine ⟨by omega, fun e i hi => ?_⟩
    by_cases z : i = n
    · rw [z]; exact r2 (by omega)
    · exact i2 (by omega) i (by omega)
theorem mu_80 {E : Nat → Nat → Nat} : ∀ n, (∀ i, i < n → KV (E i)) → mu E n ≤ 80 * n := by
  intro n
  induction n with
  | zero => intro _; exact Nat.le_refl _
  | succ n ih =>
    intro h
    have := ih (fun i hi => h i (by omega))
    have := rnk_80 (h n (by omega))
    show mu E n + rnk (E n) ≤ _
    omega
/-- entries have grown by knowledge at some places -/
def EST (c c1 : St) (E E1 : Nat → Nat → Nat) (g : Nat → Nat) (P : Nat → Prop) : Prop := CEr c1 E1 ∧ (∀ i, i < 28 → KLE (E i) (E1 i)) ∧ (∀ i, i < 28 → P i → KLE g (E1 i)) ∧ (∀ E2 : Nat → Nat → Nat, (∀ i, i < 28 → KLE (E i) (E2 i)) → (∀ i, i < 28 → P i → KLE g (E2 i)) → ∀ i, i < 28 → KLE (E1 i) (E2 i)) ∧ (∀ q, q ≠ 65 → q ≠ 66 → q ≠ 67 → c1 q = c q) ∧ (∀ i, i ≠ 2 → c1 65 i = c 65 i) ∧ (c1 65 2 = 0 ∨ c1 65 2 = 1) ∧ (c 65 2 ≠ 0 → c1 65 2 ≠ 0) ∧ (c1 65 2 = 0 → ∀ i, i < 28 → pkg (E1 i) = pkg (E i)) ∧ (c 65 2 = 0 → c1 65 2 ≠ 0 → mu E 28 < mu E1 28)
theorem EST_refl {c : St} {E : Nat → Nat → Nat} {g : Nat → Nat} (h : CEr c E) (h2 : c 65 2 = 0 ∨ c 65 2 = 1) : EST c c E E g (fun _ => False) := ⟨h, fun i hi => KLE_refl (KV_01 (h.2.2 i hi)), fun _ _ u => u.elim, fun _ u _ => u, fun _ _ _ _ => rfl, fun _ _ => rfl, h2, fun u => u, fun _ _ _ => rfl, fun u w => absurd u w⟩
theorem EST_trans {c c1 c2 : St} {E E1 E2 : Nat → Nat → Nat} {g : Nat → Nat} {P P' : Nat → Prop} (hE : CEr c E) (h : EST c c1 E E1 g P) (h' : EST c1 c2 E1 E2 g P') : EST c c2 E E2 g (fun i => P i ∨ P' i) := by
  obtain ⟨a1, a2, a3, a4, a5, a6, a7, a8, a9, a10⟩ := h
  obtain ⟨b1, b2, b3, b4, b5, b6, b7, b8, b9, b10⟩ := h'
  have m1 := mu_le (E := E) (E' := E1) 28 (fun i hi => ⟨hE.2.2 i hi, a1.2.2 i hi, a2 i hi⟩)
  have m2 := mu_le (E := E1) (E' := E2) 28 (fun i hi => ⟨a1.2.2 i hi, b1.2.2 i hi, b2 i hi⟩)
  refine ⟨b1, fun i hi => KLE_trans (a2 i hi) (b2 i hi), fun i hi u => ?_, fun E3 u1 u2 => ?_, fun q x y z => by rw [b5 q x y z, a5 q x y z], fun i hi => by rw [b6 i hi, a6 i hi], b7, fun u => b8 (a8 u), fun u i hi => ?_, fun u w => ?_⟩
  · rcases u with u | u
    · exact KLE_trans (a3 i hi u) (b2 i hi)
    · exact b3 i hi u
  · exact b4 E3 (a4 E3 u1 (fun i hi v => u2 i hi (Or.inl v))) (fun i hi v => u2 i hi (Or.inr v))
  · have : c1 65 2 = 0 := by
      by_cases z : c1 65 2 = 0
      · exact z
      · exact absurd u (b8 z)
    rw [b9 u i hi, a9 this i hi]
  · by_cases z : c1 65 2 = 0
    · have := b10 z w; omega
    · have := a10 u z; omega
section JOINS
variable {c : St} {E : Nat → Nat → Nat} {g : Nat → Nat}
theorem JE_pure {i : Nat} (hi : i < 28) (hE : ∀ i, i < 28 → KV (E i)) (hg : KV g) : (∀ k, k < 28 → KV (va_up E i (jn (E i) g) k)) ∧ (∀ k, k < 28 → KLE (E k) (va_up E i (jn (E i) g) k)) ∧ KLE g (va_up E i (jn (E i) g) i) ∧ (∀ E2 : Nat → Nat → Nat, (∀ k, k < 28 → KLE (E k) (E2 k)) → KLE g (E2 i) → ∀ k, k < 28 → KLE (va_up E i (jn (E i) g) k) (E2 k)) := by
  have e1 : va_up E i (jn (E i) g) i = jn (E i) g := vu_eq _ _ _
  refine ⟨fun k hk => ?_, fun k hk => ?_, ?_, fun E2 u1 u2 k hk => ?_⟩
  · by_cases z : k = i
    · rw [z, e1]; exact jn_KV (hE i hi) hg
    · rw [vu_ne _ _ z]; exact hE k hk
  · by_cases z : k = i
    · rw [z, e1]; exact SLE_K (jn_l (KV_01 (hE i hi)) (KV_01 hg))
    · rw [vu_ne _ _ z]; exact KLE_refl (KV_01 (hE k hk))
  · rw [e1]; exact SLE_K (jn_r (KV_01 (hE i hi)) (KV_01 hg))
  · by_cases z : k = i
    · rw [z, e1]; exact jn_lubK (u1 i hi) u2
    · rw [vu_ne _ _ z]; exact u1 k hk
theorem JE_mu {i : Nat} (hi : i < 28) (hE : ∀ i, i < 28 → KV (E i)) (hg : KV g) (hne : pkg (jn (E i) g) ≠ pkg (E i)) : mu E 28 < mu (va_up E i (jn (E i) g)) 28 := by
  obtain ⟨p1, p2, -⟩ := JE_pure hi hE hg
  obtain ⟨m1, m2⟩ := mu_le (E := E) (E' := va_up E i (jn (E i) g)) 28 (fun k hk => ⟨hE k hk, p1 k hk, p2 k hk⟩)
  rcases Nat.lt_or_ge (mu E 28) (mu (va_up E i (jn (E i) g)) 28) with z | z
  · exact z
  · have := m2 (by omega) i hi
    rw [vu_eq] at this
    exact absurd this.symm hne
theorem t_joinNode {n : Nat} (hn : n < 12) (hE : CEr c E) (hg : KV g) (h2 : c 65 2 = 0 ∨ c 65 2 = 1) : ∃ (c1 : St) (E1 : Nat → Nat → Nat), EST c c1 E E1 g (fun i => i = n) ∧ ∀ Q : St → Prop, Q c1 → f_X0_joinNode (n : Int) ((pkg g : Nat) : Int) c Q := by
  obtain ⟨p1, p2, p3, p4⟩ := JE_pure (i := n) (by omega) hE.2.2 hg
  have hEn := hE.2.2 n (by omega)
  obtain ⟨w, hw⟩ : ∃ w : Int, w = if c 65 2 = 0 ∧ pkg (jn (E n) g) = pkg (E n) then 0 else 1 := ⟨_, rfl⟩
  have w01 : w = 0 ∨ w = 1 := by rw [hw]; split; exact Or.inl rfl; exact Or.inr rfl
  obtain ⟨c1, hc1⟩ : ∃ c1 : St, c1 = sset (sset c 65 2 w) 66 n ((pkg (jn (E n) g) : Nat) : Int) := ⟨_, rfl⟩
  have r66 : c1 66 = va_up (c 66) n ((pkg (jn (E n) g) : Nat) : Int) := by rw [hc1, sset_at, sset_row _ _ _ (by decide)]
  have r65 : c1 65 = va_up (c 65) 2 w := by rw [hc1, sset_row _ _ _ (by decide), sset_at]
  have rr : ∀ q, q ≠ 65 → q ≠ 66 → c1 q = c q := fun q u v => by rw [hc1, sset_row _ _ _ v, sset_row _ _ _ u]
  have e2 : c1 65 2 = w := by rw [r65, vu_eq]
  refine ⟨c1, va_up E n (jn (E n) g), ⟨⟨fun k hk => ?_, fun k hk => ?_, p1⟩, p2, fun i hi u => by rw [u]; exact p3, fun E2 u1 u2 => p4 E2 u1 (u2 n (by omega) rfl), fun q x y _ => rr q x y, fun i hi => by rw [r65, vu_ne _ _ hi], by rw [e2]; exact w01, fun u => ?_, fun u i hi => ?_, fun u v => ?_⟩, fun Q hQ => ?_⟩
  · by_cases z : k = n
    · rw [z, vu_eq, r66, vu_eq]
    · rw [vu_ne _ _ z, r66, vu_ne _ _ z]; exact hE.1 k hk
  · rw [vu_ne _ _ (by omega), rr 67 (by decide) (by decide)]; exact hE.2.1 k hk
  · rw [e2, hw, if_neg (fun z => u z.1)]; decide
  · rw [e2, hw] at u
    by_cases z : c 65 2 = 0 ∧ pkg (jn (E n) g) = pkg (E n)
    · by_cases y : i = n
      · rw [y, vu_eq]; exact z.2
      · rw [vu_ne _ _ y]
    · rw [if_neg z] at u; exact absurd u (by decide)
  · rw [e2, hw] at v
    by_cases z : pkg (jn (E n) g) = pkg (E n)
    · rw [if_pos ⟨u, z⟩] at v; exact absurd rfl v
    · exact JE_mu (by omega) hE.2.2 hg z
  · unfold f_X0_joinNode f_X0_joinNode_J43 f_X0_joinNode_J48
    rw [Int.toNat_natCast, hE.1 n hn]
    refine ⟨⟨by omega, by omega⟩, fun u => by omega, fun _ => ⟨⟨by omega, by omega⟩, fun _ => ⟨by omega, by omega, t_union hEn hg ?_⟩, fun u => by omega⟩⟩
    rw [hE.1 n hn]
    refine ⟨inR_01 h2, fun u => ⟨Or.inr rfl, fun σ1 f1 => ⟨by omega, by omega, fun σ2 f2 => ?_⟩⟩, fun u => ⟨by omega, by omega, lcmp_r _ _, fun v => ⟨Or.inl rfl, fun σ1 f1 => ⟨by omega, by omega, fun σ2 f2 => ?_⟩⟩, fun v => ⟨Or.inr rfl, fun σ1 f1 => ⟨by omega, by omega, fun σ2 f2 => ?_⟩⟩⟩⟩
    · have : w = 1 := by rw [hw, if_neg (fun z => u z.1)]
      rw [this] at hc1
      rw [f2, f1, ← hc1]; exact hQ
    · rw [lcmp_iff (pkg_lt (jn_KV hEn hg)) (pkg_lt hEn)] at v
      have : w = 0 := by rw [hw, if_pos ⟨u, v⟩]
      rw [this] at hc1
      rw [f2, f1, ← hc1]; exact hQ
    · rw [lcmp_iff (pkg_lt (jn_KV hEn hg)) (pkg_lt hEn)] at v
      have : w = 1 := by rw [hw, if_neg (fun z => v z.2)]
      rw [this] at hc1
      rw [f2, f1, ← hc1]; exact hQ
theorem EST_weak {c c1 : St} {E E1 : Nat → Nat → Nat} {P P' : Nat → Prop} (h : EST c c1 E E1 g P) (hP : ∀ i, i < 28 → (P i ↔ P' i)) : EST c c1 E E1 g P' := by
  obtain ⟨a1, a2, a3, a4, a5, a6, a7, a8, a9, a10⟩ := h
  exact ⟨a1, a2, fun i hi u => a3 i hi ((hP i hi).2 u), fun E2 u1 u2 => a4 E2 u1 (fun i hi v => u2 i hi ((hP i hi).1 v)), a5, a6, a7, a8, a9, a10⟩
/-- to all choices of a set -/
theorem t_joinChoices {O : Nat} (hO : O < 65536) (hE : CEr c E) (hg : KV g) (h2 : c 65 2 = 0 ∨ c 65 2 = 1) : ∃ (c1 : St) (E1 : Nat → Nat → Nat), EST c c1 E E1 g (fun i => 12 ≤ i ∧ O.testBit (i - 12) = true) ∧ ∀ Q : St → Prop, Q c1 → f_X0_joinChoices (O : Int) ((pkg g : Nat) : Int) c Q := by
  have key : ∀ (j k : Nat) (c : St) (E : Nat → Nat → Nat), k + j = 16 → CEr c E → (c 65 2 = 0 ∨ c 65 2 = 1) → ∃ (c1 : St) (E1 : Nat → Nat → Nat), EST c c1 E E1 g (fun i => 12 + k ≤ i ∧ O.testBit (i - 12) = true) ∧ ∀ (Q : St → Prop) (fu : Nat), j < fu → Q c1 → f_X0_joinChoices_L3 Q fu c (O : Int) ((pkg g : Nat) : Int) (k : Int) := by
    intro j
    induction j with
    | zero =>
      intro k c E hk hE h2
      refine ⟨c, E, EST_weak (EST_refl hE h2) (fun i hi => ⟨fun u => u.elim, fun u => by omega⟩), fun Q fu hf hQ => ?_⟩
      cases fu with
      | zero => omega
      | succ fu =>
        unfold f_X0_joinChoices_L3
        exact ⟨⟨by omega, by omega⟩, fun _ => hQ, fun u => by omega⟩
    | succ j ih =>
      intro k c E hk hE h2
      cases q : O.testBit k
      · obtain ⟨c1, E1, i1, i2⟩ := ih (k + 1) c E (by omega) hE h2
        refine ⟨c1, E1, EST_weak i1 (fun i hi => ⟨fun u => ⟨by omega, u.2⟩, fun u => ⟨?_, u.2⟩⟩), fun Q fu hf hQ => ?_⟩
        · by_cases z : i = 12 + k
          · rw [z, show 12 + k - 12 = k by omega, q] at u; exact absurd u.2 (by decide)
          · omega
        · cases fu with
          | zero => omega
          | succ fu =>
            unfold f_X0_joinChoices_L3
            rw [bit_nat (by omega) (by omega), q]
            refine ⟨⟨by omega, by omega⟩, fun u => by omega, fun _ => ⟨⟨by decide, by decide⟩, fun _ => ?_, fun u => absurd u (by decide)⟩⟩
            exact i2 Q fu (by omega) hQ
      · obtain ⟨p1, p2, p3, p4⟩ := JE_pure (i := 12 + k) (by omega) hE.2.2 hg
        have hEn := hE.2.2 (12 + k) (by omega)
        obtain ⟨w, hw⟩ : ∃ w : Int, w = if c 65 2 = 0 ∧ pkg (jn (E (12 + k)) g) = pkg (E (12 + k)) then 0 else 1 := ⟨_, rfl⟩
        have w01 : w = 0 ∨ w = 1 := by rw [hw]; split; exact Or.inl rfl; exact Or.inr rfl
        obtain ⟨c2, hc2⟩ : ∃ c2 : St, c2 = sset (sset c 65 2 w) 67 k ((pkg (jn (E (12 + k)) g) : Nat) : Int) := ⟨_, rfl⟩
        have r67 : c2 67 = va_up (c 67) k ((pkg (jn (E (12 + k)) g) : Nat) : Int) := by rw [hc2, sset_at, sset_row _ _ _ (by decide)]
        have r65 : c2 65 = va_up (c 65) 2 w := by rw [hc2, sset_row _ _ _ (by decide), sset_at]
        have rr : ∀ q, q ≠ 65 → q ≠ 67 → c2 q = c q := fun q u v => by rw [hc2, sset_row _ _ _ v, sset_row _ _ _ u]
        have e2 : c2 65 2 = w := by rw [r65, vu_eq]
        have st : EST c c2 E (va_up E (12 + k) (jn (E (12 + k)) g)) g (fun i => i = 12 + k) := by
          refine ⟨⟨fun n hn => ?_, fun n hn => ?_, p1⟩, p2, fun i hi u => by rw [u]; exact p3, fun E2 u1 u2 => p4 E2 u1 (u2 (12 + k) (by omega) rfl), fun q x _ y => rr q x y, fun i hi => by rw [r65, vu_ne _ _ hi], by rw [e2]; exact w01, fun u => ?_, fun u i hi => ?_, fun u v => ?_⟩
          · rw [vu_ne _ _ (by omega), rr 66 (by decide) (by decide)]; exact hE.1 n hn
          · by_cases z : n = k
            · rw [z, vu_eq, r67, vu_eq]
            · rw [vu_ne _ _ (by omega), r67, vu_ne _ _ z]; exact hE.2.1 n hn
          · rw [e2, hw, if_neg (fun z => u z.1)]; decide
          · rw [e2, hw] at u
            by_cases z : c 65 2 = 0 ∧ pkg (jn (E (12 + k)) g) = pkg (E (12 + k))
            · by_cases y : i = 12 + k
              · rw [y, vu_eq]; exact z.2
              · rw [vu_ne _ _ y]
            · rw [if_neg z] at u; exact absurd u (by decide)
          · rw [e2, hw] at v
            by_cases z : pkg (jn (E (12 + k)) g) = pkg (E (12 + k))
            · rw [if_pos ⟨u, z⟩] at v; exact absurd rfl v
            · exact JE_mu (by omega) hE.2.2 hg z
        obtain ⟨c1, E1, i1, i2⟩ := ih (k + 1) c2 _ (by omega) st.1 (by rw [e2]; exact w01)
        refine ⟨c1, E1, EST_weak (EST_trans hE st i1) (fun i hi => ⟨fun u => ?_, fun u => ?_⟩), fun Q fu hf hQ => ?_⟩
        · rcases u with u | u
          · exact ⟨by omega, by rw [u, show 12 + k - 12 = k by omega]; exact q⟩
          · exact ⟨by omega, u.2⟩
        · by_cases z : i = 12 + k
          · exact Or.inl z
          · exact Or.inr ⟨by omega, u.2⟩
        · cases fu with
          | zero => omega
          | succ fu =>
            have nx := i2 Q fu (by omega) hQ
            have nx' : f_X0_joinChoices_L3 Q fu c2 (O : Int) ((pkg g : Nat) : Int) ((k : Int) + 1) := nx
            rw [hc2] at nx'
            unfold f_X0_joinChoices_L3 f_X0_joinChoices_J54 f_X0_joinChoices_J59
            rw [bit_nat (by omega) (by omega), q, Int.toNat_natCast, hE.2.1 k (by omega)]
            refine ⟨⟨by omega, by omega⟩, fun u => by omega, fun _ => ⟨⟨by decide, by decide⟩, fun u => absurd rfl u, fun _ => ⟨by omega, by omega, t_union hEn hg ?_⟩⟩⟩
            rw [hE.2.1 k (by omega)]
            refine ⟨inR_01 h2, fun u => ⟨Or.inr rfl, fun σ1 f1 => ⟨by omega, by omega, fun σ2 f2 => ?_⟩⟩, fun u => ⟨by omega, by omega, lcmp_r _ _, fun v => ⟨Or.inl rfl, fun σ1 f1 => ⟨by omega, by omega, fun σ2 f2 => ?_⟩⟩, fun v => ⟨Or.inr rfl, fun σ1 f1 => ⟨by omega, by omega, fun σ2 f2 => ?_⟩⟩⟩⟩
            · have : w = 1 := by rw [hw, if_neg (fun z => u z.1)]
              rw [this] at nx'
              rw [f2, f1]; exact nx'
            · rw [lcmp_iff (pkg_lt (jn_KV hEn hg)) (pkg_lt hEn)] at v
              have : w = 0 := by rw [hw, if_pos ⟨u, v⟩]
              rw [this] at nx'
              rw [f2, f1]; exact nx'
            · rw [lcmp_iff (pkg_lt (jn_KV hEn hg)) (pkg_lt hEn)] at v
              have : w = 1 := by rw [hw, if_neg (fun z => v z.2)]
              rw [this] at nx'
              rw [f2, f1]; exact nx'
  obtain ⟨c1, E1, i1, i2⟩ := key 16 0 c E (by omega) hE h2
  exact ⟨c1, E1, EST_weak i1 (fun i hi => ⟨fun u => ⟨by omega, u.2⟩, fun u => ⟨by omega, u.2⟩⟩), fun Q hQ => i2 Q FU (by show 16 < 100000; decide) hQ⟩
/-- to all nodes of a set of hubs -/
theorem t_toHubs {U n : Nat} (hU : U < 8192) (hE : CEr c E) (hg : KV g) (h2 : c 65 2 = 0 ∨ c 65 2 = 1) : ∃ (c1 : St) (E1 : Nat → Nat → Nat), EST c c1 E E1 g (fun i => i < 12 ∧ U.testBit i = true) ∧ ∀ Q : St → Prop, (U.testBit 12 = true → Q (sset c1 65 10 (ior32 (c1 65 10) (ishl32 1 (n : Int))))) → (U.testBit 12 = false → Q c1) → f_X0_goToHubs_L9 Q FU c ((pkg g : Nat) : Int) (n : Int) (U : Int) 0 := by
  have key : ∀ (j k : Nat) (c : St) (E : Nat → Nat → Nat), k + j = 12 → CEr c E → (c 65 2 = 0 ∨ c 65 2 = 1) → ∃ (c1 : St) (E1 : Nat → Nat → Nat), EST c c1 E E1 g (fun i => k ≤ i ∧ i < 12 ∧ U.testBit i = true) ∧ ∀ (Q : St → Prop) (fu : Nat), j < fu → (U.testBit 12 = true → Q (sset c1 65 10 (ior32 (c1 65 10) (ishl32 1 (n : Int))))) → (U.testBit 12 = false → Q c1) → f_X0_goToHubs_L9 Q fu c ((pkg g : Nat) : Int) (n : Int) (U : Int) (k : Int) := by
    intro j
    induction j with
    | zero =>
      intro k c E hk hE h2
      refine ⟨c, E, EST_weak (EST_refl hE h2) (fun i hi => ⟨fun u => u.elim, fun u => by omega⟩), fun Q fu hf h1 h0 => ?_⟩
      cases fu with
      | zero => omega
      | succ fu =>
        unfold f_X0_goToHubs_L9
        have e := iand_nat (x := U) (y := 4096) (by omega) (by decide)
        rw [show ((4096 : Nat) : Int) = 4096 from rfl] at e
        have ap : U &&& 4096 = if U.testBit 12 then 4096 else 0 := by
          have := and_pow 12 U
          rw [Nat.and_comm, show (2 : Nat) ^ 12 = 4096 from rfl] at this
          exact this
        rw [e, ap]
        cases q : U.testBit 12
        · exact ⟨⟨by omega, by omega⟩, fun _ => ⟨⟨by decide, by decide⟩, fun _ => h0 q, fun u => absurd rfl u⟩, fun u => by omega⟩
        · exact ⟨⟨by omega, by omega⟩, fun _ => ⟨⟨by decide, by decide⟩, fun u => absurd u (by decide), fun _ σ1 f1 => by rw [f1]; exact h1 q⟩, fun u => by omega⟩
    | succ j ih =>
      intro k c E hk hE h2
      cases q : U.testBit k
      · obtain ⟨c1, E1, i1, i2⟩ := ih (k + 1) c E (by omega) hE h2
        refine ⟨c1, E1, EST_weak i1 (fun i hi => ⟨fun u => ⟨by omega, u.2⟩, fun u => ⟨?_, u.2⟩⟩), fun Q fu hf h1 h0 => ?_⟩
        · by_cases z : i = k
          · rw [z, q] at u; exact absurd u.2.2 (by decide)
          · omega
        · cases fu with
          | zero => omega
          | succ fu =>
            unfold f_X0_goToHubs_L9
            rw [bit_nat (x := U) (k := k) (by omega) (by omega), q]
            refine ⟨⟨by omega, by omega⟩, fun u => by omega, fun _ => ⟨⟨by decide, by decide⟩, fun _ => ?_, fun u => absurd u (by decide)⟩⟩
            exact i2 Q fu (by omega) h1 h0
      · obtain ⟨c2, E2, j1, j2⟩ := t_joinNode (n := k) (by omega) hE hg h2
        obtain ⟨c1, E1, i1, i2⟩ := ih (k + 1) c2 E2 (by omega) j1.1 j1.2.2.2.2.2.2.1
        refine ⟨c1, E1, EST_weak (EST_trans hE j1 i1) (fun i hi => ⟨fun u => ?_, fun u => ?_⟩), fun Q fu hf h1 h0 => ?_⟩
        · rcases u with u | u
          · exact ⟨by omega, by omega, by rw [u]; exact q⟩
          · exact ⟨by omega, u.2⟩
        · by_cases z : i = k
          · exact Or.inl z
          · exact Or.inr ⟨by omega, u.2⟩
        · cases fu with
          | zero => omega
          | succ fu =>
            unfold f_X0_goToHubs_L9
            rw [bit_nat (x := U) (k := k) (by omega) (by omega), q]
            refine ⟨⟨by omega, by omega⟩, fun u => by omega, fun _ => ⟨⟨by decide, by decide⟩, fun u => absurd rfl u, fun _ => j2 _ ?_⟩⟩
            exact i2 Q fu (by omega) h1 h0
  obtain ⟨c1, E1, i1, i2⟩ := key 12 0 c E (by omega) hE h2
  exact ⟨c1, E1, EST_weak i1 (fun i hi => ⟨fun u => u.2, fun u => ⟨Nat.zero_le _, u⟩⟩), fun Q h1 h0 => i2 Q FU (by show 12 < 100000; decide) h1 h0⟩
end JOINS
