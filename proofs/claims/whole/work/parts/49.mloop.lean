/-! ===== pure layer: the reference's loop over the text ===== -/
section MLOOP
variable {T : Nat → Int} {n a : Nat} {z σ : St} {Q : St → Int → Prop}
/-- what follows a turn of the loop -/
def KA (Q : St → Int → Prop) (fu : Nat) (σ : St) : Prop := f_X10_readsAll_J174 (fun σ' v2' => f_X10_readsAll_L99 Q fu σ' v2') Q σ 1
theorem KA_ok {fu : Nat} (h7 : σ 0 37 = 1) (h : f_X10_readsAll_L99 Q fu σ 1) : KA Q fu σ := by
  unfold KA f_X10_readsAll_J174
  rw [h7]
  exact ⟨⟨by decide, by decide⟩, fun c => absurd c (by decide), fun _ => ⟨⟨by decide, by decide⟩, fun c => absurd c (by decide), fun _ => h⟩⟩
theorem L99_dead {fu : Nat} (h7 : σ 0 37 = 0) (h : Q σ 0) : f_X10_readsAll_L99 Q (fu + 1) σ 0 := by
  unfold f_X10_readsAll_L99
  rw [h7]
  exact ⟨⟨by decide, by decide⟩, fun _ => ⟨⟨by decide, by decide⟩, fun _ => h, fun c => absurd rfl c⟩, fun c => absurd rfl c⟩
theorem KA_dead {fu : Nat} (h7 : σ 0 37 = 0) (h : Q σ 0) : KA Q (fu + 1) σ := by
  unfold KA f_X10_readsAll_J174 f_X10_readsAll_J189
  rw [h7]
  exact ⟨⟨by decide, by decide⟩, fun c => absurd c (by decide), fun _ => ⟨⟨by decide, by decide⟩, fun _ => L99_dead h7 h, fun c => absurd rfl c⟩⟩
theorem DE_KA {fu e : Nat} (h : ∀ σ', PS T n z σ' → σ' 0 36 = (e : Int) → Q σ' 0) : DE T n z (KA Q (fu + 1)) e := by
  intro τ hP e6 e7 _
  exact KA_dead e7 (h τ hP e6)
theorem m_head {fu : Nat} (hP : PS T n z σ) (ha : a ≤ n) (h6 : σ 0 36 = (a : Int)) (h7 : σ 0 37 = 1) (h9 : inR (σ 0 39))
    (he1 : sk T n a = n → σ 0 39 ≠ 1 → Q (sset (sset σ 0 36 (n : Int)) 0 37 0) 0)
    (he2 : sk T n a = n → σ 0 39 = 1 → f_X10_resolves (sset σ 0 36 (n : Int)) (fun σ1 r1 => inR r1 ∧ ((r1 = 0 → Q σ1 0) ∧ (¬ r1 = 0 → Q σ1 1))))
    (hnode : sk T n a < n → T (sk T n a) = 61 → σ 0 39 = 1 → f_X10_readsNode (sset σ 0 36 ((sk T n a : Nat) : Int)) (KA Q (fu + 1)))
    (hclose : sk T n a < n → T (sk T n a) = 125 → f_X10_closes (sset σ 0 36 ((sk T n a : Nat) : Int)) (KA Q (fu + 1)))
    (hst : sk T n a < n → T (sk T n a) ≠ 125 → (T (sk T n a) ≠ 61 ∨ σ 0 39 ≠ 1) → f_X10_readsStatement (T (sk T n a)) (sset σ 0 36 ((sk T n a : Nat) : Int)) (KA Q (fu + 1))) : f_X10_readsAll_L99 Q (fu + 2) σ 1 := by
  have hR := hP.1.2.1
  have hle := sk_le (T := T) ha
  unfold f_X10_readsAll_L99
  refine ⟨⟨by decide, by decide⟩, fun c => absurd c (by decide), fun _ => ?_⟩
  refine s_here hP.1 ha h6 ?_
  rw [at_x (by decide)]
  refine ⟨ch_inR hR, fun q => ?_, fun q => ?_⟩
  · have hlt : sk T n a < n := by
      by_cases g : sk T n a < n
      · exact g
      · exact absurd (ch_ge g) q
    have e := ch_lt (T := T) hlt
    rw [e]
    have hr := hR (sk T n a)
    have j156 : (T (sk T n a) ≠ 61 ∨ σ 0 39 ≠ 1) → f_X10_readsAll_J156 (fun σ' v2' => f_X10_readsAll_L99 Q (fu + 1) σ' v2') Q (sset σ 0 36 ((sk T n a : Nat) : Int)) 1 (T (sk T n a)) := by
      intro g
      unfold f_X10_readsAll_J156
      exact ⟨⟨by omega, by omega⟩, fun c => hst hlt c g, fun c => hclose hlt c⟩
    exact ⟨⟨by omega, by omega⟩, fun c => j156 (Or.inl c), fun c => ⟨h9, fun d => j156 (Or.inr d), fun d => hnode hlt c d⟩⟩
  · have hen : sk T n a = n := by
      by_cases g : sk T n a < n
      · rw [ch_lt g] at q
        have hr := hR (sk T n a)
        omega
      · omega
    rw [hen]
    unfold f_X10_readsAll_J127 f_X10_readsAll_J174 f_X10_readsAll_J189
    refine ⟨h9, fun d => ?_, fun d => ?_⟩
    · refine s_req0 (by rw [at_37]; exact Or.inr h7) ?_
      exact ⟨⟨by decide, by decide⟩, fun _ => L99_dead (sset_self _ _ _ _) (he1 hen d), fun c => absurd rfl c⟩
    · refine s_req1 (by rw [at_37]; exact h7) ?_
      refine ⟨⟨by decide, by decide⟩, fun _ => ?_, fun c => absurd rfl c⟩
      show f_X10_readsAll_L99 Q (fu + 1) (sset σ 0 36 (n : Int)) 0
      unfold f_X10_readsAll_L99
      rw [at_37, h7]
      exact ⟨⟨by decide, by decide⟩, fun _ => ⟨⟨by decide, by decide⟩, fun c => absurd c (by decide), fun _ => he2 hen d⟩, fun c => absurd rfl c⟩
/-- the state in which the reading begins -/
def SS (T : Nat → Int) (n : Nat) (z σ : St) : Prop := PS T n z σ ∧ σ 0 36 = 0 ∧ σ 0 37 = 1 ∧ σ 0 15 = 0 ∧ σ 0 19 = 0 ∧ σ 0 25 = 0 ∧ σ 0 30 = 0 ∧ σ 0 32 = 0 ∧ σ 0 33 = 0 ∧ σ 0 39 = 0 ∧ ∀ k, k < 12 → σ 23 k = -1
theorem m_fill {Q : St → Int → Prop} {z : St} (h : ∀ σ, SS T n z σ → f_X10_readsNode σ (fun σ1 => ∀ x1 : Int, x1 = (σ1 0 37) → f_X10_readsAll_L99 Q FU σ1 x1)) : ∀ (k i fu : Nat) (σ : St), 12 - i = k → i ≤ 12 → k < fu → PS T n z σ → σ 0 36 = 0 → σ 0 37 = 1 → σ 0 15 = 0 → σ 0 19 = 0 → σ 0 25 = 0 → σ 0 30 = 0 → σ 0 32 = 0 → σ 0 33 = 0 → σ 0 39 = 0 → (∀ j, j < i → σ 23 j = -1) → f_X10_readsAll_L71 Q fu σ (i : Int) := by
  intro k
  induction k with
  | zero =>
    intro i fu σ hk hi hf hP h1 h2 h3 h4 h5 h6 h7 h8 h9 h10
    cases fu with
    | zero => omega
    | succ fu =>
      unfold f_X10_readsAll_L71
      have : i = 12 := by omega
      subst this
      exact ⟨⟨by decide, by decide⟩, fun _ => h σ ⟨hP, h1, h2, h3, h4, h5, h6, h7, h8, h9, h10⟩, fun c => absurd (by decide) c⟩
  | succ k ih =>
    intro i fu σ hk hi hf hP h1 h2 h3 h4 h5 h6 h7 h8 h9 h10
    cases fu with
    | zero => omega
    | succ fu =>
      unfold f_X10_readsAll_L71
      refine ⟨⟨by omega, by omega⟩, fun c => by omega, fun _ => ⟨by omega, by omega, fun σ2 e2 => ?_⟩⟩
      have r0 : σ2 0 = σ 0 := by rw [e2, sset_row _ _ _ (by decide)]
      refine ih (i + 1) fu σ2 (by omega) (by omega) (by omega) ?_ (by rw [r0]; exact h1) (by rw [r0]; exact h2) (by rw [r0]; exact h3) (by rw [r0]; exact h4) (by rw [r0]; exact h5) (by rw [r0]; exact h6) (by rw [r0]; exact h7) (by rw [r0]; exact h8) (by rw [r0]; exact h9) ?_
      · rw [e2]; exact PS_cell hP _ _ _ (by decide) (by decide)
      · intro j hj
        rw [e2, Int.toNat_natCast]
        by_cases q : j = i
        · rw [q, sset_self]
        · rw [sset_place _ _ _ q]; exact h10 j (by omega)
/-- the text that is read -/
def SRC (T : Nat → Int) (n : Nat) (b : Int) (z : St) : Prop := n ≤ 400 ∧ (∀ j, 0 ≤ T j ∧ T j ≤ 255) ∧ ((b = 0 ∧ z 0 1 = (n : Int) ∧ ∀ j, j < n → z 1 j = T j) ∨ (b = 1 ∧ z 0 3 = (n : Int) ∧ ∀ j, j < n → z 2 j = T j))
theorem m_all {b : Int} (hS : SRC T n b z) (h : ∀ σ, SS T n z σ → f_X10_readsNode σ (fun σ1 => ∀ x1 : Int, x1 = (σ1 0 37) → f_X10_readsAll_L99 Q FU σ1 x1)) : f_X10_readsAll b z Q := by
  obtain ⟨hn, hT, hb⟩ := hS
  have key : ∀ σ1, σ1 = sset z 0 34 b → f_X10_readsAll_J21 Q σ1 (n : Int) := by
    intro σ1 e1
    unfold f_X10_readsAll_J21
    intro τ1 d1 τ2 d2 τ3 d3 τ4 d4 τ5 d5 τ6 d6 τ7 d7 τ8 d8 τ9 d9 τ10 d10
    have r : ∀ c, c ≠ 0 → τ10 c = z c := by
      intro c hc
      rw [d10, d9, d8, d7, d6, d5, d4, d3, d2, d1, e1, sset_row _ _ _ hc, sset_row _ _ _ hc, sset_row _ _ _ hc, sset_row _ _ _ hc, sset_row _ _ _ hc, sset_row _ _ _ hc, sset_row _ _ _ hc, sset_row _ _ _ hc, sset_row _ _ _ hc, sset_row _ _ _ hc, sset_row _ _ _ hc]
    have f : ∀ j, τ10 0 j = if j = 39 then 0 else if j = 33 then 0 else if j = 32 then 0 else if j = 30 then 0 else if j = 25 then 0 else if j = 19 then 0 else if j = 15 then 0 else if j = 37 then 1 else if j = 36 then 0 else if j = 35 then (n : Int) else if j = 34 then b else z 0 j := by
      intro j
      rw [d10, d9, d8, d7, d6, d5, d4, d3, d2, d1, e1]
      simp only [sset_ap, true_and]
    refine m_fill h 12 0 FU τ10 rfl (by decide) (by decide) ?_ ?_ ?_ ?_ ?_ ?_ ?_ ?_ ?_ ?_ (fun j hj => absurd hj (Nat.not_lt_zero _))
    · refine ⟨⟨hn, hT, by rw [f]; rfl, ?_⟩, ?_⟩
      · have f34 : τ10 0 34 = b := by rw [f]; rfl
        rw [f34, r 1 (by decide), r 2 (by decide)]
        rcases hb with ⟨q, -, w⟩ | ⟨q, -, w⟩
        · exact Or.inl ⟨q, w⟩
        · exact Or.inr ⟨q, w⟩
      · have f32 : τ10 0 32 = 0 := by rw [f]; rfl
        refine ⟨r 1 (by decide), r 2 (by decide), fun c hc => r c (by omega), fun j hj => ?_, by rw [f32]; decide⟩
        rw [f]
        have nj : ∀ k, pf k = true → j ≠ k := fun k hk q => by subst q; rw [hk] at hj; cases hj
        rw [if_neg (nj 39 rfl), if_neg (nj 33 rfl), if_neg (nj 32 rfl), if_neg (nj 30 rfl), if_neg (nj 25 rfl), if_neg (nj 19 rfl), if_neg (nj 15 rfl), if_neg (nj 37 rfl), if_neg (nj 36 rfl), if_neg (nj 35 rfl), if_neg (nj 34 rfl)]
    · rw [f]; rfl
    · rw [f]; rfl
    · rw [f]; rfl
    · rw [f]; rfl
    · rw [f]; rfl
    · rw [f]; rfl
    · rw [f]; rfl
    · rw [f]; rfl
    · rw [f]; rfl
  unfold f_X10_readsAll
  refine ⟨by omega, fun σ1 e1 => ⟨inR_01 (by omega), fun c => ?_, fun c => ?_⟩⟩
  · have : σ1 0 1 = (n : Int) := by rw [e1, sset_place _ _ _ (by decide)]; omega
    rw [this]; exact key σ1 e1
  · have : σ1 0 3 = (n : Int) := by rw [e1, sset_place _ _ _ (by decide)]; omega
    rw [this]; exact key σ1 e1
end MLOOP
