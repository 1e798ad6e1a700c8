/-! ===== pure layer: the reference reads a number ===== -/
theorem sset_comm (σ : St) {c j c' j' : Nat} (v w : Int) (h : c ≠ c' ∨ j ≠ j') : sset (sset σ c j v) c' j' w = sset (sset σ c' j' w) c j v := by
  funext x y
  simp only [sset_ap]
  by_cases q : x = c ∧ y = j
  · rw [if_pos q, if_neg (by omega), if_pos q]
  · rw [if_neg q, if_neg q]
theorem dg_at {T : Nat → Int} {n : Nat} : ∀ (i b : Nat), i < dg T n b → b + i < n ∧ 48 ≤ T (b + i) ∧ T (b + i) ≤ 57 ∧ dg T n (b + i) = dg T n b - i := by
  intro i
  induction i with
  | zero =>
    intro b h
    by_cases q : b < n ∧ 48 ≤ T b ∧ T b ≤ 57
    · exact ⟨q.1, q.2.1, q.2.2, rfl⟩
    · rw [dg_n (by omega)] at h; omega
  | succ i ih =>
    intro b h
    have h0 : 0 < dg T n b := by omega
    by_cases q : b < n ∧ 48 ≤ T b ∧ T b ≤ 57
    · have e := dg_y q.1 q.2.1 q.2.2
      have := ih (b + 1) (by omega)
      rw [show b + 1 + i = b + (i + 1) by omega] at this
      exact ⟨this.1, this.2.1, this.2.2.1, by omega⟩
    · rw [dg_n (by omega)] at h; omega
theorem dg_stop {T : Nat → Int} {n b : Nat} (hb : b ≤ n) : n ≤ b + dg T n b ∨ T (b + dg T n b) < 48 ∨ 57 < T (b + dg T n b) := by
  have key : ∀ (k b : Nat), n - b = k → b ≤ n → n ≤ b + dg T n b ∨ T (b + dg T n b) < 48 ∨ 57 < T (b + dg T n b) := by
    intro k
    induction k with
    | zero => intro b hk hb; left; omega
    | succ k ih =>
      intro b hk hb
      by_cases q : 48 ≤ T b ∧ T b ≤ 57
      · have e := dg_y (n := n) (by omega) q.1 q.2
        have := ih (b + 1) (by omega) (by omega)
        rw [e, show b + (dg T n (b + 1) + 1) = b + 1 + dg T n (b + 1) by omega]
        exact this
      · right; rw [dg_n (by omega)]; rw [Nat.add_zero]; omega
  exact key _ b rfl hb
def pvn (T : Nat → Int) (b i : Nat) : Int := if i = 0 then 0 else if i = 1 then T b - 48 else 10 * (T b - 48) + T (b + 1) - 48
theorem s_num_loop {T : Nat → Int} {n b : Nat} {Q : St → Int → Prop} {σ : St} (h : RT T n σ) (hb : b ≤ n) (h7 : σ 0 37 = 1)
    (hy : dg T n b ≤ 2 → Q (sset σ 0 36 ((b + dg T n b : Nat) : Int)) (pvn T b (dg T n b)))
    (hn : 2 < dg T n b → ∀ v, Q (sset (sset σ 0 36 (b : Int)) 0 37 0) v) :
    ∀ (k i fu : Nat) (v : Int), dg T n b - i = k → i ≤ dg T n b → k < fu → (i ≤ 2 → v = pvn T b i) → f_X10_readsNumber_L22 Q fu (sset σ 0 36 ((b + i : Nat) : Int)) (b : Int) v := by
  have hn4 : n ≤ 400 := h.1
  intro k
  induction k with
  | zero =>
    intro i fu v hk hi hf hv
    have e : i = dg T n b := by omega
    cases fu with
    | zero => omega
    | succ fu =>
      have hRT : RT T n (sset σ 0 36 ((b + i : Nat) : Int)) := RT_same h (sset_place _ _ _ (by decide)) (sset_place _ _ _ (by decide)) (sset_row _ _ _ (by decide)) (sset_row _ _ _ (by decide))
      have k7 : sset σ 0 36 ((b + i : Nat) : Int) 0 37 = 1 := by rw [sset_place _ _ _ (by decide)]; exact h7
      have dl := dg_le (T := T) _ b rfl hb
      have ds := dg_stop (T := T) hb
      have stop : f_X10_readsNumber_J83 Q (sset σ 0 36 ((b + i : Nat) : Int)) b v := by
        unfold f_X10_readsNumber_J83
        rw [sset_self]
        refine ⟨⟨by omega, by omega⟩, fun c => ?_, fun c σ1 e1 σ2 e2 => ?_⟩
        · have h2 : i ≤ 2 := by omega
          rw [hv h2, e]
          exact hy (by omega)
        · rw [e2, e1, sset_comm _ _ _ (Or.inr (by decide)), sset_twice]
          exact hn (by omega) v
      unfold f_X10_readsNumber_L22
      rw [k7]
      refine ⟨⟨by decide, by decide⟩, fun c => absurd c (by decide), fun _ => ?_⟩
      refine s_raw hRT (a := b + i) (by omega) (sset_self _ _ _ _) ?_
      refine s_in (ch_inR h.2.1) ⟨by decide, by decide⟩ ⟨by decide, by decide⟩ (fun c1 c2 => ?_) (fun c => ?_)
      · exfalso
        unfold ch at c1 c2
        rw [← e] at ds
        by_cases q : b + i < n
        · rw [if_pos q] at c1 c2; omega
        · rw [if_neg q] at c1 c2; omega
      · exact ⟨⟨by decide, by decide⟩, fun _ => stop, fun c => absurd rfl c⟩
  | succ k ih =>
    intro i fu v hk hi hf hv
    cases fu with
    | zero => omega
    | succ fu =>
      have hRT : RT T n (sset σ 0 36 ((b + i : Nat) : Int)) := RT_same h (sset_place _ _ _ (by decide)) (sset_place _ _ _ (by decide)) (sset_row _ _ _ (by decide)) (sset_row _ _ _ (by decide))
      have k7 : sset σ 0 36 ((b + i : Nat) : Int) 0 37 = 1 := by rw [sset_place _ _ _ (by decide)]; exact h7
      obtain ⟨d1, d2, d3, d4⟩ := dg_at (T := T) (n := n) i b (by omega)
      have hc : ch T n (b + i) = T (b + i) := by unfold ch; rw [if_pos d1]
      have nxt : ∀ w, (i + 1 ≤ 2 → w = pvn T b (i + 1)) → f_X10_readsNumber_J69 (fun σ' v1' v2' => f_X10_readsNumber_L22 Q fu σ' v1' v2') Q (sset σ 0 36 ((b + i : Nat) : Int)) b w := by
        intro w hw
        unfold f_X10_readsNumber_J69
        intro σ1 e1
        have e2 : σ1 = sset σ 0 36 ((b + (i + 1) : Nat) : Int) := by rw [e1, sset_self, sset_twice]; congr 1
        rw [e2]
        exact ih (i + 1) fu w (by omega) (by omega) (by omega) hw
      unfold f_X10_readsNumber_L22
      rw [k7]
      refine ⟨⟨by decide, by decide⟩, fun c => absurd c (by decide), fun _ => ?_⟩
      refine s_raw hRT (a := b + i) (by omega) (sset_self _ _ _ _) ?_
      refine s_in (ch_inR h.2.1) ⟨by decide, by decide⟩ ⟨by decide, by decide⟩ (fun c1 c2 => ?_) (fun c => by rw [hc] at c; omega)
      rw [sset_self]
      refine ⟨⟨by decide, by decide⟩, fun c => absurd c (by decide), fun _ => ⟨⟨by omega, by omega⟩, fun c => nxt v (by intro q; omega), fun c => ?_⟩⟩
      refine s_raw hRT (a := b + i) (by omega) (sset_self _ _ _ _) ?_
      refine nxt _ ?_
      intro q
      rw [hc]
      have hi1 : i = 0 ∨ i = 1 := by omega
      rcases hi1 with rfl | rfl
      · rw [hv (by omega)]; simp [pvn]
      · rw [hv (by omega)]; simp [pvn]
theorem s_readsNumber {T : Nat → Int} {n a : Nat} {σ : St} {Q : St → Int → Prop} (h : RT T n σ) (ha : a ≤ n) (h6 : σ 0 36 = (a : Int)) (h7 : σ 0 37 = 1)
    (hy : 1 ≤ dg T n (sk T n a) → dg T n (sk T n a) ≤ 2 → Q (sset σ 0 36 ((sk T n a + dg T n (sk T n a) : Nat) : Int)) (nm T n (sk T n a)))
    (hn : (dg T n (sk T n a) = 0 ∨ 2 < dg T n (sk T n a)) → ∀ v, Q (sset (sset σ 0 36 ((sk T n a : Nat) : Int)) 0 37 0) v) : f_X10_readsNumber σ Q := by
  have hn4 : n ≤ 400 := h.1
  have sl := sk_le (T := T) ha
  unfold f_X10_readsNumber
  refine s_here h ha h6 ?_
  have k7 : sset σ 0 36 ((sk T n a : Nat) : Int) 0 37 = 1 := by rw [sset_place _ _ _ (by decide)]; exact h7
  have hRT : RT T n (sset σ 0 36 ((sk T n a : Nat) : Int)) := RT_same h (sset_place _ _ _ (by decide)) (sset_place _ _ _ (by decide)) (sset_row _ _ _ (by decide)) (sset_row _ _ _ (by decide))
  refine s_in (ch_inR h.2.1) ⟨by decide, by decide⟩ ⟨by decide, by decide⟩ (fun c1 c2 => ?_) (fun c => ?_)
  · refine s_req1 k7 ?_
    intro x1 e1
    rw [sset_self] at e1
    subst e1
    have hlt : sk T n a < n := by
      by_cases q : sk T n a < n
      · exact q
      · unfold ch at c1; rw [if_neg q] at c1; omega
    unfold ch at c1 c2
    rw [if_pos hlt] at c1 c2
    have e := dg_y hlt c1 c2
    have st : sset σ 0 36 ((sk T n a : Nat) : Int) = sset σ 0 36 ((sk T n a + 0 : Nat) : Int) := rfl
    rw [st]
    have dl := dg_le (T := T) _ (sk T n a) rfl sl
    refine s_num_loop h sl h7 (fun q => ?_) (fun q v => hn (Or.inr q) v) _ 0 FU 0 rfl (Nat.zero_le _) (by show dg T n (sk T n a) - 0 < 100000; omega) (fun _ => rfl)
    have := hy (by omega) q
    unfold nm at this
    unfold pvn
    rw [if_neg (by omega)] at this
    rw [if_neg (by omega)]
    exact this
  · refine s_req0 (Or.inr k7) ?_
    intro x1 e1
    rw [sset_place _ _ _ (by decide), sset_self] at e1
    subst e1
    have d0 : dg T n (sk T n a) = 0 := by
      refine dg_n ?_
      unfold ch at c
      by_cases q : sk T n a < n
      · rw [if_pos q] at c; omega
      · omega
    show f_X10_readsNumber_L22 Q (99999 + 1) _ _ _
    unfold f_X10_readsNumber_L22
    rw [sset_self]
    refine ⟨⟨by decide, by decide⟩, fun _ => ?_, fun c => absurd rfl c⟩
    unfold f_X10_readsNumber_J83
    rw [sset_place _ _ _ (by decide), sset_self]
    refine ⟨⟨by omega, by omega⟩, fun _ => hn (Or.inl d0) 0, fun c => absurd (by omega) c⟩
