/-! ===== pure layer: the reading begins ===== -/
section START
variable {T : Nat → Int} {n D a : Nat} {z c c0 m : St} {b : Int} {Q : St → Int → Prop}
theorem m_fill2 : ∀ (k i fu : Nat) (σ : St), 12 - i = k → i ≤ 12 → k < fu → PS T n z σ → σ 0 36 = 0 → σ 0 37 = 1 → σ 0 15 = 0 → σ 0 19 = 0 → σ 0 25 = 0 → σ 0 30 = 0 → σ 0 32 = 0 → σ 0 33 = 0 → σ 0 39 = 0 → (∀ j, j < i → σ 23 j = -1) → ∃ σ', SS T n z σ' ∧ ∀ Q : St → Int → Prop, f_X10_readsNode σ' (fun σ1 => ∀ x1 : Int, x1 = (σ1 0 37) → f_X10_readsAll_L99 Q FU σ1 x1) → f_X10_readsAll_L71 Q fu σ (i : Int) := by
  intro k
  induction k with
  | zero =>
    intro i fu σ hk hi hf hP h1 h2 h3 h4 h5 h6 h7 h8 h9 h10
    cases fu with
    | zero => omega
    | succ fu =>
      have : i = 12 := by omega
      subst this
      refine ⟨σ, ⟨hP, h1, h2, h3, h4, h5, h6, h7, h8, h9, h10⟩, fun Q h => ?_⟩
      unfold f_X10_readsAll_L71
      exact ⟨⟨by decide, by decide⟩, fun _ => h, fun c => absurd (by decide) c⟩
  | succ k ih =>
    intro i fu σ hk hi hf hP h1 h2 h3 h4 h5 h6 h7 h8 h9 h10
    cases fu with
    | zero => omega
    | succ fu =>
      have r0 : sset σ 23 i (-1) 0 = σ 0 := sset_row _ _ _ (by decide)
      obtain ⟨σ', hS, hrun⟩ := ih (i + 1) fu (sset σ 23 i (-1)) (by omega) (by omega) (by omega) (PS_cell hP _ _ _ (by decide) (by decide)) (by rw [r0]; exact h1) (by rw [r0]; exact h2) (by rw [r0]; exact h3) (by rw [r0]; exact h4) (by rw [r0]; exact h5) (by rw [r0]; exact h6) (by rw [r0]; exact h7) (by rw [r0]; exact h8) (by rw [r0]; exact h9) (fun j hj => by
        by_cases q : j = i
        · rw [q, sset_self]
        · rw [sset_place _ _ _ q]; exact h10 j (by omega))
      refine ⟨σ', hS, fun Q h => ?_⟩
      unfold f_X10_readsAll_L71
      refine ⟨⟨by omega, by omega⟩, fun c => by omega, fun _ => ⟨by omega, by omega, fun σ2 e2 => ?_⟩⟩
      rw [Int.toNat_natCast] at e2
      rw [e2]
      exact hrun Q h
theorem m_all2 (hS : SRC T n b z) : ∃ σ, SS T n z σ ∧ ∀ Q : St → Int → Prop, f_X10_readsNode σ (fun σ1 => ∀ x1 : Int, x1 = (σ1 0 37) → f_X10_readsAll_L99 Q FU σ1 x1) → f_X10_readsAll b z Q := by
  obtain ⟨hn, hT, hb⟩ := hS
  have ht : ∃ τ, τ = sset (sset (sset (sset (sset (sset (sset (sset (sset (sset (sset z 0 34 b) 0 35 (n : Int)) 0 36 0) 0 37 1) 0 15 0) 0 19 0) 0 25 0) 0 30 0) 0 32 0) 0 33 0) 0 39 0 := ⟨_, rfl⟩
  obtain ⟨τ, hτ⟩ := ht
  have r : ∀ c, c ≠ 0 → τ c = z c := by
    intro c hc
    rw [hτ, sset_row _ _ _ hc, sset_row _ _ _ hc, sset_row _ _ _ hc, sset_row _ _ _ hc, sset_row _ _ _ hc, sset_row _ _ _ hc, sset_row _ _ _ hc, sset_row _ _ _ hc, sset_row _ _ _ hc, sset_row _ _ _ hc, sset_row _ _ _ hc]
  have f : ∀ j, τ 0 j = if j = 39 then 0 else if j = 33 then 0 else if j = 32 then 0 else if j = 30 then 0 else if j = 25 then 0 else if j = 19 then 0 else if j = 15 then 0 else if j = 37 then 1 else if j = 36 then 0 else if j = 35 then (n : Int) else if j = 34 then b else z 0 j := by
    intro j
    rw [hτ]
    simp only [sset_ap, true_and]
  have hP : PS T n z τ := by
    refine ⟨⟨hn, hT, by rw [f]; rfl, ?_⟩, ?_⟩
    · have f34 : τ 0 34 = b := by rw [f]; rfl
      rw [f34, r 1 (by decide), r 2 (by decide)]
      rcases hb with ⟨q, -, w⟩ | ⟨q, -, w⟩
      · exact Or.inl ⟨q, w⟩
      · exact Or.inr ⟨q, w⟩
    · have f32 : τ 0 32 = 0 := by rw [f]; rfl
      refine ⟨r 1 (by decide), r 2 (by decide), fun c hc => r c (by omega), fun j hj => ?_, by rw [f32]; decide⟩
      rw [f]
      have nj : ∀ k, pf k = true → j ≠ k := fun k hk q => by subst q; rw [hk] at hj; cases hj
      rw [if_neg (nj 39 rfl), if_neg (nj 33 rfl), if_neg (nj 32 rfl), if_neg (nj 30 rfl), if_neg (nj 25 rfl), if_neg (nj 19 rfl), if_neg (nj 15 rfl), if_neg (nj 37 rfl), if_neg (nj 36 rfl), if_neg (nj 35 rfl), if_neg (nj 34 rfl)]
  obtain ⟨σ', hSS, hrun⟩ := m_fill2 12 0 FU τ rfl (by decide) (by decide) hP (by rw [f]; rfl) (by rw [f]; rfl) (by rw [f]; rfl) (by rw [f]; rfl) (by rw [f]; rfl) (by rw [f]; rfl) (by rw [f]; rfl) (by rw [f]; rfl) (by rw [f]; rfl) (fun j hj => absurd hj (Nat.not_lt_zero _))
  refine ⟨σ', hSS, fun Q h => ?_⟩
  have key : ∀ σ1, σ1 = sset z 0 34 b → f_X10_readsAll_J21 Q σ1 (n : Int) := by
    intro σ1 e1
    unfold f_X10_readsAll_J21
    intro τ1 d1 τ2 d2 τ3 d3 τ4 d4 τ5 d5 τ6 d6 τ7 d7 τ8 d8 τ9 d9 τ10 d10
    have : τ10 = τ := by rw [d10, d9, d8, d7, d6, d5, d4, d3, d2, d1, e1, hτ]
    rw [this]
    exact hrun Q h
  unfold f_X10_readsAll
  refine ⟨by omega, fun σ1 e1 => ⟨inR_01 (by omega), fun c => ?_, fun c => ?_⟩⟩
  · have : σ1 0 1 = (n : Int) := by rw [e1, sset_place _ _ _ (by decide)]; omega
    rw [this]; exact key σ1 e1
  · have : σ1 0 3 = (n : Int) := by rw [e1, sset_place _ _ _ (by decide)]; omega
    rw [this]; exact key σ1 e1
/-- the class fills a row -/
theorem t_fill39 {R : St → Prop} (h : ∀ σ', (∀ q, q ≠ 39 → σ' q = c q) → (∀ k, k < 12 → σ' 39 k = -1) → R σ') : f_JA_fillI 39 (-1) c R := by
  have loop : ∀ (k i fu : Nat) (σ : St), 12 - i = k → i ≤ 12 → k < fu → (∀ q, q ≠ 39 → σ q = c q) → (∀ j, j < i → σ 39 j = -1) → f_JA_fillI_L5 R fu σ 39 (-1) (i : Int) 12 := by
    intro k
    induction k with
    | zero =>
      intro i fu σ hk hi hf h1 h2
      cases fu with
      | zero => omega
      | succ fu =>
        have : i = 12 := by omega
        subst this
        unfold f_JA_fillI_L5
        exact ⟨⟨by decide, by decide⟩, ⟨by decide, by decide⟩, fun _ => h σ h1 h2, fun g => absurd (by decide) g⟩
    | succ k ih =>
      intro i fu σ hk hi hf h1 h2
      cases fu with
      | zero => omega
      | succ fu =>
        unfold f_JA_fillI_L5
        rw [ia39.2]
        refine ⟨⟨by omega, by omega⟩, ⟨by decide, by decide⟩, fun g => by omega, fun _ => ⟨ia39.1, by omega, by omega, fun σ2 e2 => ?_⟩⟩
        rw [Int.toNat_natCast] at e2
        refine ih (i + 1) fu σ2 (by omega) (by omega) (by omega) (fun q hq => by rw [e2, sset_row _ _ _ hq]; exact h1 q hq) (fun j hj => ?_)
        rw [e2]
        by_cases q : j = i
        · rw [q, sset_self]
        · rw [sset_place _ _ _ q]; exact h2 j (by omega)
  unfold f_JA_fillI
  rw [ia39.2]
  refine ⟨ia39.1, ?_⟩
  rintro x1 rfl
  exact loop 12 0 FU c rfl (by decide) (by decide) (fun _ _ => rfl) (fun j hj => absurd hj (Nat.not_lt_zero _))
theorem nc_0 {r : Nat → Int} : ∀ k, (∀ j, j < k → r j = -1) → nc r k = 0 := by
  intro k
  induction k with
  | zero => intro _; rfl
  | succ k ih =>
    intro h
    show nc r k + (if r k = -1 then 0 else 1) = 0
    rw [ih (fun j hj => h j (by omega)), if_pos (h k (by omega))]
/-- nothing has been read -/
theorem SY_0 (hm : ∀ k, k < 12 → m 23 k = -1) (hc : ∀ k, k < 12 → c 39 k = -1) (h13 : c D 13 = 0) : SY c m D (fun _ => 0) (fun _ => -1) 0 0 0 0 0 0 0 0 := by
  refine ⟨⟨fun s hs => by omega, fun s t _ ht => by omega⟩, fun s hs => by omega, fun s hs => by omega, fun q hq => by omega, ⟨fun q hq => by omega, fun s hs => by omega⟩, fun s hs => by omega, ⟨fun k hk => by omega, fun v hv => by omega⟩, ⟨by omega, fun d hd => by omega, fun d d' _ hd => by omega, fun hd => by omega, fun d hd => by omega, fun q hq => by omega, ⟨fun _ => 0, fun _ => 0, fun d hd => by omega, fun q hq => by omega, fun s hs => by omega, fun s hs => by omega, fun s t _ ht => by omega⟩⟩, fun s hs => by omega, fun v hv => by omega, fun s hs => by omega, ⟨fun d hd => by omega, fun d hd => by omega, fun d hd => by omega⟩, fun s hs => by omega, fun s hs => by omega, ⟨fun t ht => by omega, fun s hs => by omega⟩, ⟨fun k hk => ?_, nc_0 12 hm, fun v hv => by omega⟩, ⟨0, h13, by decide, fun v hv => by omega⟩, fun k hk => by omega, fun q hq => by omega, fun x hx => by omega, ⟨fun x hx => by omega, fun x hx => by omega, fun x k hx => by omega⟩⟩
  rw [hc k hk, hm k hk]
  exact ⟨rfl, by omega, by omega⟩
/-- a text is read by the class as by the reference -/
theorem t_read (hD : D = 2 ∨ D = 20) (hT : CT T n c) (HQ : ∀ c' (r : Int), FC D c c' → PR (SR D) T n c' r → Q c' r) : f_X6_read 1 (n : Int) D c Q := by
  have hn := hT.1
  unfold f_X6_read f_X6_begin
  intro σ1 e1
  have a0 : σ1 38 0 = (D : Int) := by rw [e1, sset_self]
  rw [a0, Int.toNat_natCast]
  refine ⟨hD, ?_⟩
  unfold f_X7_empty
  refine ⟨hD, fun τ1 d1 τ2 d2 τ3 d3 τ4 d4 τ5 d5 τ6 d6 τ7 d7 τ8 d8 τ9 d9 => t_fill39 (fun τ hτ hτ39 => ?_)⟩
  have rw9 : ∀ q, q ≠ 38 → q ≠ D → q ≠ D + 9 → τ9 q = c q := fun q q1 q2 q3 => by
    rw [d9, sset_row _ _ _ q1, d8, sset_row _ _ _ q1, d7, sset_row _ _ _ q1, d6, sset_row _ _ _ q2, d5, sset_row _ _ _ q2, d4, sset_row _ _ _ q2, d3, sset_row _ _ _ q2, d2, sset_row _ _ _ q3, d1, sset_row _ _ _ q2, e1, sset_row _ _ _ q1]
  have r38 : ∀ j, τ9 38 j = if j = 3 then 0 else if j = 2 then 0 else if j = 1 then 0 else if j = 0 then (D : Int) else c 38 j := by
    intro j
    have e6 : τ6 38 j = if j = 0 then (D : Int) else c 38 j := by
      rw [d6, sset_row _ _ _ (by omega), d5, sset_row _ _ _ (by omega), d4, sset_row _ _ _ (by omega), d3, sset_row _ _ _ (by omega), d2, sset_row _ _ _ (by omega), d1, sset_row _ _ _ (by omega), e1, sset_ap]
      simp
    rw [d9, d8, d7]
    simp only [sset_ap, true_and]
    rw [e6]
  have rD : ∀ j, τ9 D j = if j = 18 then 0 else if j = 14 then 0 else if j = 13 then 0 else if j = 10 then 0 else if j = 0 then 0 else c D j := by
    intro j
    have e2 : τ2 D j = if j = 0 then 0 else c D j := by
      rw [d2, sset_row _ _ _ (by omega), d1, sset_ap, e1, sset_row _ _ _ (by omega)]
      simp
    rw [d9, sset_row _ _ _ (by omega), d8, sset_row _ _ _ (by omega), d7, sset_row _ _ _ (by omega), d6, d5, d4, d3]
    simp only [sset_ap, true_and]
    rw [e2]
  have r9 : τ9 (D + 9) 0 = 0 := by
    rw [d9, sset_row _ _ _ (by omega), d8, sset_row _ _ _ (by omega), d7, sset_row _ _ _ (by omega), d6, sset_row _ _ _ (by omega), d5, sset_row _ _ _ (by omega), d4, sset_row _ _ _ (by omega), d3, sset_row _ _ _ (by omega), d2, sset_self]
  have h38 : ∀ j, τ 38 j = τ9 38 j := fun j => by rw [hτ 38 (by decide)]
  have hTD : ∀ j, τ D j = τ9 D j := fun j => by rw [hτ D (by omega)]
  have hT9 : τ (D + 9) 0 = 0 := by rw [hτ (D + 9) (by omega)]; exact r9
  have hF : FC D c τ := fun q u1 u2 => by rw [hτ q (by omega)]; exact rw9 q (by omega) (by omega) (by omega)
  have hTτ : CT T n τ := CT_row hT (by rw [hτ 1 (by decide)]; exact rw9 1 (by decide) (by omega) (by omega))
  have w0 : τ 38 0 = (D : Int) := by rw [h38, r38]; rfl
  have w1 : τ 38 1 = 0 := by rw [h38, r38]; rfl
  have w2 : τ 38 2 = 0 := by rw [h38, r38]; rfl
  have w3 : τ 38 3 = ((0 : Nat) : Int) := by rw [h38, r38]; rfl
  unfold f_JM_min
  rw [ia1.2]
  have fin : CLB Q n τ 0 := by
    have bad : ∀ c', ch T n (sk T n 0) ≠ 61 → PR (SR D) T n c' ((sk T n 0 : Nat) : Int) := by
      intro c' hne
      have hsk0 := sk_le (T := T) (Nat.zero_le n)
      refine ⟨⟨by omega, by omega⟩, ?_⟩
      intro b z Qm hs _ h2
      obtain ⟨σ, hSS, hrun⟩ := m_all2 hs
      obtain ⟨s1, s2, s3, s4, s5, s6, s7, s8, s9, s10, s11⟩ := hSS
      refine hrun Qm (r_node (a := 0) s1 (by rw [s10]; exact ⟨by decide, by decide⟩) (Nat.zero_le _) s2 s3 (by rw [s6]; decide) (fun k hk => by rw [s11 k hk]; exact ⟨by decide, by decide⟩) (by rw [s7]; decide) (fun k _ _ => by rw [s7, s6]; decide) (fun _ => ?_) (fun g => absurd g hne) (fun g => absurd g hne) (fun g => absurd g hne))
      intro m' hP' e6 e7 _ x1 hx
      rw [hx, e7]
      show f_X10_readsAll_L99 Qm (99999 + 1) m' 0
      exact L99_dead e7 (h2 (by omega) m' hP' e6)
    refine c_next hTτ (Nat.zero_le _) w3 (fun hen c3 hc3 h33 => ?_) (fun hlt c3 hc3 h33 h34 _ _ K' hK' => ?_)
    · have x3 := CX_ce hc3
      have u1 : c3 38 1 = 0 := by rw [hc3.2 1 (by omega)]; exact w1
      refine j100_no (by rw [x3.2.2, w2]; exact ⟨by decide, by decide⟩) (by rw [u1]; exact ⟨by decide, by decide⟩) (by rw [u1]; decide) (HQ _ _ (FC_cx x3 hF) ?_)
      have := bad c3 (by rw [hen, ch_ge (by omega)]; decide)
      rw [hen] at this; exact this
    · have x3 := CX_ce hc3
      have u1 : c3 38 1 = 0 := by rw [hc3.2 1 (by omega)]; exact w1
      have hr := hT.2.1 (sk T n 0)
      have hch := ch_lt (T := T) hlt
      refine g_0 u1 ⟨⟨by omega, by omega⟩, fun g => hK' _ _ (KT_no h33 (HQ _ _ (FC_cx x3 hF) (bad c3 (by omega)))), fun g => t_await ⟨⟨by decide, by decide⟩, fun g' => absurd g' (by decide), fun _ => hK' _ _ ?_⟩⟩
      refine KT_ok (w := 1) (by rw [sset_place _ _ _ (by decide)]; exact h33) (by rw [sset_place _ _ _ (by decide)]; exact h34) (by decide) ?_
      have x5 : CX τ (sset (sset c3 38 1 1) 38 3 ((sk T n 0 + 1 : Nat) : Int)) := CX_tr x3 (CX_tr (CX_set (by decide) (by decide)) (CX_set (by decide) (by decide)))
      refine H_name hD (CT_cx x5 hTτ) (FC_cx x5 hF) (by rw [sset_place _ _ _ (by decide), sset_self]) (sset_self _ _ _ _) (by omega) (by rw [x5.2.2, w2]; exact ⟨by decide, by decide⟩) ?_ HQ (fun c' a' _ v2 v3 v4 v5 v6 v7 => H_loop hD HQ _ a' c' (Nat.lt_succ_self _) v2 v3 v4 v5 v6 v7)
      intro b z hs
      obtain ⟨σ, hSS, hrun⟩ := m_all2 hs
      obtain ⟨s1, s2, s3, s4, s5, s6, s7, s8, s9, s10, s11⟩ := hSS
      refine ⟨σ, 0, fun _ => 0, fun _ => -1, 0, 0, 0, 0, 0, 0, 0, 0, NH_cx hD x5 ⟨s1, s2, s3, Nat.zero_le _, by rw [hch]; exact g, rfl, by decide, ?_, SY_0 s11 hτ39 (by rw [hTD, rD]; rfl), fun s hs' => by omega, by decide, by omega, by omega⟩, fun Qm hq => hrun Qm (hq _ (fun m' am' e37 _ _ hf x1 hx => ?_) (fun m' e37 hq0 x1 hx => ?_))⟩
      · refine ⟨s4, s5, s6, s7, s8, s9, s10, by rw [hTD, rD]; rfl, hT9, by rw [hTD, rD]; rfl, by rw [hTD, rD]; rfl, by rw [hTD, rD]; rfl, w0, by decide, by decide, by decide⟩
      · rw [hx, e37]
        exact hf FU (by show 500 ≤ 100000 + am'; omega)
      · rw [hx, e37]
        show f_X10_readsAll_L99 Qm (99999 + 1) m' 0
        exact L99_dead e37 hq0
  refine ⟨ia1.1, ⟨by omega, by omega⟩, ⟨by decide, by decide⟩, fun g => by omega, fun _ => ?_⟩
  exact fin FU 0 (Nat.le_refl _) (by show 402 ≤ 100000 + 0; decide)
end START
