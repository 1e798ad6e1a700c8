/-! ===== pure layer: the class's loop over the text ===== -/
/-- two states of the class that differ in the reader's place and measures alone -/
def CE (σ σ' : St) : Prop := (∀ c, c ≠ 38 → σ' c = σ c) ∧ ∀ j, (j < 3 ∨ 6 < j) → σ' 38 j = σ 38 j
def CT (T : Nat → Int) (n : Nat) (σ : St) : Prop := n ≤ 400 ∧ (∀ j, 0 ≤ T j ∧ T j ≤ 255) ∧ ∀ j, j < n → σ 1 j = T j
def CLB (Q : St → Int → Prop) (n : Nat) (σ : St) (a : Nat) : Prop := ∀ fu t : Nat, t ≤ a → 402 ≤ fu + a → f_X6_read_L16 Q fu σ 1 (n : Int) (n : Int) (t : Int)
section CTOK
variable {T : Nat → Int} {n : Nat} {Q : St → Int → Prop}
theorem CE_rfl {σ : St} : CE σ σ := ⟨fun _ _ => rfl, fun _ _ => rfl⟩
theorem CE_tr {σ σ1 σ2 : St} (h1 : CE σ σ1) (h2 : CE σ1 σ2) : CE σ σ2 := ⟨fun c hc => (h2.1 c hc).trans (h1.1 c hc), fun j hj => (h2.2 j hj).trans (h1.2 j hj)⟩
theorem CE_set {σ : St} {j : Nat} {v : Int} (h1 : 3 ≤ j) (h2 : j ≤ 6) : CE σ (sset σ 38 j v) := ⟨fun c hc => sset_row _ _ _ hc, fun i hi => sset_place _ _ _ (by omega)⟩
theorem CT_row {σ σ' : St} (h : CT T n σ) (h1 : σ' 1 = σ 1) : CT T n σ' := ⟨h.1, h.2.1, fun j hj => by rw [h1]; exact h.2.2 j hj⟩
theorem CT_ce {σ σ' : St} (h : CT T n σ) (h1 : CE σ σ') : CT T n σ' := CT_row h (h1.1 1 (by decide))
theorem c_skip : ∀ (k a : Nat) (σ : St), n - a = k → a ≤ n → σ 38 3 = (a : Int) → CT T n σ → (∀ σ', CE σ σ' → σ' 38 3 = ((sk T n a : Nat) : Int) → CLB Q n σ' (sk T n a)) → CLB Q n σ a := by
  intro k
  induction k with
  | zero =>
    intro a σ hk ha h3 hT h
    have e : sk T n a = a := sk_end (by omega)
    rw [e] at h
    exact h σ CE_rfl h3
  | succ k ih =>
    intro a σ hk ha h3 hT h
    by_cases hb : T a = 32
    · have e : sk T n a = sk T n (a + 1) := sk_blank (by omega) hb
      rw [e] at h
      intro fu t ht hf
      have hn := hT.1
      cases fu with
      | zero => omega
      | succ fu =>
        unfold f_X6_read_L16
        rw [h3]
        refine ⟨⟨by omega, by omega⟩, fun c => by omega, fun _ => ⟨⟨by omega, by omega⟩, fun c => by omega, fun _ => ⟨⟨by omega, by omega⟩, ⟨by omega, by omega⟩, fun c => by omega, fun _ σ1 e1 => ?_⟩⟩⟩
        have r3 : σ1 38 3 = (a : Int) := by rw [e1, sset_place _ _ _ (by decide)]; exact h3
        have r1 : σ1 1 = σ 1 := by rw [e1, sset_row _ _ _ (by decide)]
        have hv : σ1 1 ((a : Int)).toNat = 32 := by rw [r1, Int.toNat_natCast, hT.2.2 a (by omega)]; exact hb
        rw [r3, ia1.2, hv]
        refine ⟨ia1.1, by omega, by omega, ⟨by decide, by decide⟩, fun _ => ?_, fun c => absurd rfl c⟩
        unfold f_X6_read_J81
        intro σ2 e2
        have r4 : σ1 38 4 = 1 := by rw [e1, sset_self]
        rw [r3, r4] at e2
        have c2 : CE σ σ2 := by rw [e2, e1]; exact CE_tr (CE_set (by decide) (by decide)) (CE_set (by decide) (by decide))
        have := ih (a + 1) σ2 (by omega) (by omega) (by rw [e2, sset_self]; omega) (CT_ce hT c2) (fun σ' c3 g => h σ' (CE_tr c2 c3) g)
        have := this fu (t + 1) (by omega) (by omega)
        exact this
    · have e : sk T n a = a := sk_stop hb
      rw [e] at h
      exact h σ CE_rfl h3
theorem t_isDigit {v : Int} {σ : St} (hv : inR v) (h1 : 48 ≤ v → v ≤ 57 → Q σ 1) (h0 : (v < 48 ∨ 57 < v) → Q σ 0) : f_X6_isDigit v σ Q := by
  unfold f_X6_isDigit
  exact ⟨hv, fun q => h0 (Or.inl q), fun q => ⟨hv, fun q2 => h0 (Or.inr q2), fun q2 => h1 (by omega) (by omega)⟩⟩
theorem t_isFlag {v : Int} {σ : St} (hv : inR v) (h1 : 97 ≤ v → v ≤ 102 → Q σ 1) (h0 : (v < 97 ∨ 102 < v) → Q σ 0) : f_X6_isFlag v σ Q := by
  unfold f_X6_isFlag
  exact ⟨hv, fun q => h0 (Or.inl q), fun q => ⟨hv, fun q2 => h0 (Or.inr q2), fun q2 => h1 (by omega) (by omega)⟩⟩
theorem t_isMeter {v : Int} {σ : St} (hv : inR v) (h1 : 120 ≤ v → v ≤ 122 → Q σ 1) (h0 : (v < 120 ∨ 122 < v) → Q σ 0) : f_X6_isMeter v σ Q := by
  unfold f_X6_isMeter
  exact ⟨hv, fun q => h0 (Or.inl q), fun q => ⟨hv, fun q2 => h0 (Or.inr q2), fun q2 => h1 (by omega) (by omega)⟩⟩
theorem t_isName {v : Int} {σ : St} (hv : inR v) (h1 : 65 ≤ v → v ≤ 76 → Q σ 1) (h0 : (v < 65 ∨ 76 < v) → Q σ 0) : f_X6_isName v σ Q := by
  unfold f_X6_isName
  exact ⟨hv, fun q => h0 (Or.inl q), fun q => ⟨hv, fun q2 => h0 (Or.inr q2), fun q2 => h1 (by omega) (by omega)⟩⟩
theorem t_meas_loop {a : Nat} {σ0 : St} {w : Int} {R : St → Prop} (hT : CT T n σ0) (ha : a < n) (h : ∀ σ', CE σ0 σ' → σ' 38 3 = (a : Int) → σ' 38 4 = w → σ' 38 5 = ((dg T n a : Nat) : Int) → σ' 38 6 = nm T n a → R σ') :
    ∀ (k i fu : Nat) (σ : St), dg T n a - i = k → i ≤ dg T n a → k < fu → CE σ0 σ → σ 38 3 = (a : Int) → σ 38 4 = w → σ 38 5 = (i : Int) → σ 38 6 = pvn T a i → f_X6_measureNumber_L19 R fu σ 1 (n : Int) ((a : Int) + (i : Int)) := by
  have hn := hT.1
  have dl := dg_le (T := T) _ a rfl (Nat.le_of_lt ha)
  intro k
  induction k with
  | zero =>
    intro i fu σ hk hi hf hC h3 h4 h5 h6
    have ei : i = dg T n a := by omega
    cases fu with
    | zero => omega
    | succ fu =>
      have ds := dg_stop (T := T) (Nat.le_of_lt ha)
      rw [← ei] at ds
      have fin : R σ := h σ hC h3 h4 (by rw [h5, ei]) (by rw [h6, ei]; rfl)
      unfold f_X6_measureNumber_L19
      refine ⟨⟨by omega, by omega⟩, ⟨by omega, by omega⟩, fun _ => fin, fun c => ?_⟩
      rw [ia1.2]
      refine ⟨ia1.1, by omega, by omega, ?_⟩
      have e : σ 1 ((a : Int) + (i : Int)).toNat = T (a + i) := by rw [hC.1 1 (by decide), show ((a : Int) + (i : Int)).toNat = a + i by omega]; exact hT.2.2 _ (by omega)
      rw [e]
      have := hT.2.1 (a + i)
      refine t_isDigit ⟨by omega, by omega⟩ (fun q1 q2 => by omega) (fun _ => ⟨⟨by decide, by decide⟩, fun _ => fin, fun c => absurd rfl c⟩)
  | succ k ih =>
    intro i fu σ hk hi hf hC h3 h4 h5 h6
    cases fu with
    | zero => omega
    | succ fu =>
      obtain ⟨d1, d2, d3, d4⟩ := dg_at (T := T) (n := n) i a (by omega)
      unfold f_X6_measureNumber_L19
      refine ⟨⟨by omega, by omega⟩, ⟨by omega, by omega⟩, fun c => by omega, fun c => ?_⟩
      rw [ia1.2]
      refine ⟨ia1.1, by omega, by omega, ?_⟩
      have e : σ 1 ((a : Int) + (i : Int)).toNat = T (a + i) := by rw [hC.1 1 (by decide), show ((a : Int) + (i : Int)).toNat = a + i by omega]; exact hT.2.2 _ (by omega)
      rw [e]
      have := hT.2.1 (a + i)
      refine t_isDigit ⟨by omega, by omega⟩ (fun q1 q2 => ⟨⟨by decide, by decide⟩, fun c => absurd c (by decide), fun _ σ2 e2 => ?_⟩) (fun q => by omega)
      have g5 : σ2 38 5 = (i : Int) + 1 := by rw [e2, sset_self, h5]
      have c2 : CE σ0 σ2 := by rw [e2]; exact CE_tr hC (CE_set (by decide) (by decide))
      have g3 : σ2 38 3 = (a : Int) := by rw [e2, sset_place _ _ _ (by decide)]; exact h3
      have g4 : σ2 38 4 = w := by rw [e2, sset_place _ _ _ (by decide)]; exact h4
      have g6 : σ2 38 6 = pvn T a i := by rw [e2, sset_place _ _ _ (by decide)]; exact h6
      rw [g5]
      refine ⟨⟨by omega, by omega⟩, fun q => ?_, fun q => ⟨by omega, by omega, fun σ3 e3 => ?_⟩⟩
      · refine ih (i + 1) fu σ2 (by omega) (by omega) (by omega) c2 g3 g4 (by rw [g5]; omega) ?_
        rw [g6]; unfold pvn
        rw [if_neg (by omega), if_neg (by omega), if_neg (by omega), if_neg (by omega)]
      · have e' : σ2 1 ((a : Int) + (i : Int)).toNat = T (a + i) := by rw [e2, sset_row _ _ _ (by decide)]; exact e
        rw [g6, e'] at e3
        refine ih (i + 1) fu σ3 (by omega) (by omega) (by omega) ?_ ?_ ?_ ?_ ?_
        · rw [e3]; exact CE_tr c2 (CE_set (by decide) (by decide))
        · rw [e3, sset_place _ _ _ (by decide)]; exact g3
        · rw [e3, sset_place _ _ _ (by decide)]; exact g4
        · rw [e3, sset_place _ _ _ (by decide), g5]; omega
        · rw [e3, sset_self]
          have hi1 : i = 0 ∨ i = 1 := by omega
          rcases hi1 with rfl | rfl
          · simp [pvn]
          · simp [pvn]
theorem t_meas {a : Nat} {σ : St} {R : St → Prop} (hT : CT T n σ) (ha : a < n) (h3 : σ 38 3 = (a : Int)) (h : ∀ σ', CE σ σ' → σ' 38 3 = (a : Int) → σ' 38 4 = σ 38 4 → σ' 38 5 = ((dg T n a : Nat) : Int) → σ' 38 6 = nm T n a → R σ') : f_X6_measureNumber 1 (n : Int) σ R := by
  have hn := hT.1
  have dl := dg_le (T := T) _ a rfl (Nat.le_of_lt ha)
  unfold f_X6_measureNumber f_JM_max
  intro σ1 e1 σ2 e2
  have g3 : σ2 38 3 = (a : Int) := by rw [e2, sset_place _ _ _ (by decide), e1, sset_place _ _ _ (by decide)]; exact h3
  have c2 : CE σ σ2 := by rw [e2, e1]; exact CE_tr (CE_set (by decide) (by decide)) (CE_set (by decide) (by decide))
  rw [g3]
  refine ⟨⟨by omega, by omega⟩, ⟨by decide, by decide⟩, fun c => by omega, fun _ => ?_⟩
  have := t_meas_loop (w := σ 38 4) hT ha h _ 0 FU σ2 rfl (Nat.zero_le _) (by show dg T n a - 0 < 100000; omega) c2 g3 (by rw [e2, sset_place _ _ _ (by decide), e1, sset_place _ _ _ (by decide)]) (by rw [e2, sset_place _ _ _ (by decide), e1, sset_self]; rfl) (by rw [e2, sset_self]; rfl)
  rw [show ((a : Int) + ((0 : Nat) : Int)) = (a : Int) by omega] at this
  exact this
/-- what follows a byte that was taken or not -/
def KT (Q : St → Int → Prop) (n a : Nat) : St → Int → Prop := fun σ r => inR r ∧ (¬ r = 0 → ∃ a' : Nat, a < a' ∧ σ 38 3 + σ 38 4 = (a' : Int) ∧ CLB Q n (sset σ 38 3 (a' : Int)) a') ∧ (r = 0 → Q σ (σ 38 3))
theorem KT_ok {a w : Nat} {σ : St} (h3 : σ 38 3 = (a : Int)) (h4 : σ 38 4 = (w : Int)) (hw : 0 < w) (h : CLB Q n (sset σ 38 3 ((a + w : Nat) : Int)) (a + w)) : KT Q n a σ 1 := by
  refine ⟨⟨by decide, by decide⟩, fun _ => ⟨a + w, by omega, by rw [h3, h4]; omega, h⟩, fun c => absurd c (by decide)⟩
theorem KT_no {a : Nat} {σ : St} (h3 : σ 38 3 = (a : Int)) (h : Q σ (a : Int)) : KT Q n a σ 0 := by
  refine ⟨⟨by decide, by decide⟩, fun c => absurd rfl c, fun _ => by rw [h3]; exact h⟩
theorem c_tok {a : Nat} {σ : St} (hT : CT T n σ) (ha : a < n) (h3 : σ 38 3 = (a : Int)) (hb : T a ≠ 32) (h : ∀ σ', CE σ σ' → σ' 38 3 = (a : Int) → σ' 38 4 = 1 → σ' 38 5 = ((dg T n a : Nat) : Int) → σ' 38 6 = nm T n a → ∀ K : St → Int → Prop, (∀ τ r, KT Q n a τ r → K τ r) → f_X6_takes (T a) σ' K) : CLB Q n σ a := by
  have hn := hT.1
  have hTa := hT.2.1 a
  intro fu t ht hf
  cases fu with
  | zero => omega
  | succ fu =>
    unfold f_X6_read_L16
    rw [h3]
    refine ⟨⟨by omega, by omega⟩, fun c => by omega, fun _ => ⟨⟨by omega, by omega⟩, fun c => by omega, fun _ => ⟨⟨by omega, by omega⟩, ⟨by omega, by omega⟩, fun c => by omega, fun _ σ1 e1 => ?_⟩⟩⟩
    have r3 : σ1 38 3 = (a : Int) := by rw [e1, sset_place _ _ _ (by decide)]; exact h3
    have r1 : σ1 1 = σ 1 := by rw [e1, sset_row _ _ _ (by decide)]
    have hv : σ1 1 ((a : Int)).toNat = T a := by rw [r1, Int.toNat_natCast, hT.2.2 a ha]
    have c1 : CE σ σ1 := by rw [e1]; exact CE_set (by decide) (by decide)
    rw [r3, ia1.2, hv]
    refine ⟨ia1.1, by omega, by omega, ⟨by omega, by omega⟩, fun c => absurd c hb, fun _ => ?_⟩
    refine t_meas (CT_ce hT c1) ha r3 (fun σ2 c2 g3 g4 g5 g6 => ?_)
    have hv2 : σ2 1 ((a : Int)).toNat = T a := by rw [c2.1 1 (by decide)]; exact hv
    rw [g3, hv2]
    refine ⟨by omega, by omega, ?_⟩
    refine h σ2 (CE_tr c1 c2) g3 (by rw [g4, e1, sset_self]) g5 g6 _ (fun σ3 r1 hk => ⟨hk.1, fun q => ?_, fun q => hk.2.2 q⟩)
    obtain ⟨a', l1, l2, l3⟩ := hk.2.1 q
    unfold f_X6_read_J81
    intro σ4 e4
    rw [l2] at e4
    rw [e4]
    have := l3 fu (t + 1) (by omega) (by omega)
    exact this
theorem c_end {σ : St} (hn : n ≤ 400) (h3 : σ 38 3 = (n : Int)) (h : f_X6_read_J100 Q σ (n : Int)) : CLB Q n σ n := by
  intro fu t ht hf
  cases fu with
  | zero => omega
  | succ fu =>
    unfold f_X6_read_L16
    rw [h3]
    exact ⟨⟨by omega, by omega⟩, fun c => h, fun _ => ⟨⟨by omega, by omega⟩, fun c => h, fun _ => ⟨⟨by omega, by omega⟩, ⟨by omega, by omega⟩, fun c => h, fun c => absurd (Int.le_refl _) c⟩⟩⟩
end CTOK
