/-! ===== pure layer: what statements do to what is known ===== -/
def TRN (k o v : Nat) : Prop := (k < 2 ∧ o < 6) ∨ (2 ≤ k ∧ k ≤ 4 ∧ o < 3 ∧ v ≤ 9)
theorem TRN_of {k o v : Nat} (h : TRN k o v) : o < 6 ∧ (2 ≤ k → o < 3) := by
  rcases h with h | h
  · exact ⟨h.2, fun u => by omega⟩
  · exact ⟨by omega, fun _ => h.2.2.1⟩
/-- the true part: n terms from t on -/
def tpF (k o v : Nat → Nat) : Nat → Nat → (Nat → Nat) → Nat → Nat
  | 0, _, g => g
  | n + 1, t, g => if g 0 = 0 then g else tpF k o v n (t + 1) (opN (k t) (o t) (v t) g)
/-- the false part -/
def fpF (k o v : Nat → Nat) (n t : Nat) (g : Nat → Nat) : Nat → Nat := if n = 1 ∧ g 0 ≠ 0 then opO (k t) (o t) (v t) g else g
theorem SLE_ne {g g' : Nat → Nat} (h : SLE g g') (hg : g 0 ≠ 0) : g' 0 ≠ 0 := by
  rcases h with u | ⟨u, -⟩
  · exact absurd u hg
  · have := u.1; omega
theorem tpF_mono {k o v : Nat → Nat} : ∀ (n t : Nat) (g g' : Nat → Nat), (∀ s, t ≤ s → s < t + n → TRN (k s) (o s) (v s)) → SLE g g' → SLE (tpF k o v n t g) (tpF k o v n t g') := by
  intro n
  induction n with
  | zero => intro t g g' _ h; exact h
  | succ n ih =>
    intro t g g' hT h
    unfold tpF
    by_cases q : g 0 = 0
    · rw [if_pos q]; exact Or.inl q
    · rw [if_neg q, if_neg (SLE_ne h q)]
      exact ih (t + 1) _ _ (fun s a b => hT s (by omega) (by omega)) (opN_mono (TRN_of (hT t (by omega) (by omega))).2 h)
theorem tpF_KV {k o v : Nat → Nat} : ∀ (n t : Nat) (g : Nat → Nat), (∀ s, t ≤ s → s < t + n → TRN (k s) (o s) (v s)) → KV g → KV (tpF k o v n t g) := by
  intro n
  induction n with
  | zero => intro t g _ h; exact h
  | succ n ih =>
    intro t g hT h
    unfold tpF
    by_cases q : g 0 = 0
    · rw [if_pos q]; exact h
    · rw [if_neg q]
      have e := TRN_of (hT t (by omega) (by omega))
      exact ih (t + 1) _ (fun s a b => hT s (by omega) (by omega)) (opN_KV e.1 e.2 h)
theorem rng_hi {g : Nat → Nat} {o l h i : Nat} (ho : o < 3) (hi : 7 ≤ i) : rng g o l h i = g i := by
  unfold rng chk noth
  split
  · rw [vu_ne _ _ (by omega), vu_ne _ _ (by omega), vu_ne _ _ (by omega)]
  · rw [vu_ne _ _ (by omega), vu_ne _ _ (by omega)]
theorem kfl_hi {g : Nat → Nat} {o b i : Nat} (hi : 9 ≤ i) : kfl g o b i = g i := by
  unfold kfl noth
  split
  · rw [vu_ne _ _ (by omega)]
  · rw [vu_ne _ _ (by omega)]
theorem opN_hi {g : Nat → Nat} {k o v i : Nat} (ho : 2 ≤ k → o < 3) (hi : 9 ≤ i) : opN k o v g i = g i := by
  unfold opN
  split
  · exact kfl_hi hi
  · split
    · exact kfl_hi hi
    · have ho := ho (by omega)
      split
      · split
        · unfold noth; rw [vu_ne _ _ (by omega)]
        · exact rng_hi ho (by omega)
      · split
        · exact rng_hi ho (by omega)
        · exact rng_hi ho (by omega)
theorem opO_hi {g : Nat → Nat} {k o v i : Nat} (ho : 2 ≤ k → o < 3) (hi : 9 ≤ i) : opO k o v g i = g i := by
  unfold opO
  split
  · exact kfl_hi hi
  · split
    · exact kfl_hi hi
    · have ho := ho (by omega)
      split
      · exact rng_hi ho (by omega)
      · split
        · exact rng_hi ho (by omega)
        · split
          · unfold noth; rw [vu_ne _ _ (by omega)]
          · exact rng_hi ho (by omega)
theorem tpF_hi {k o v : Nat → Nat} {i : Nat} (hi : 9 ≤ i) : ∀ (n t : Nat) (g : Nat → Nat), (∀ s, t ≤ s → s < t + n → TRN (k s) (o s) (v s)) → tpF k o v n t g i = g i := by
  intro n
  induction n with
  | zero => intro t g _; rfl
  | succ n ih =>
    intro t g hT
    unfold tpF
    by_cases q : g 0 = 0
    · rw [if_pos q]
    · rw [if_neg q, ih (t + 1) _ (fun s a b => hT s (by omega) (by omega)), opN_hi (TRN_of (hT t (by omega) (by omega))).2 hi]
theorem fpF_mono {k o v : Nat → Nat} {n t : Nat} {g g' : Nat → Nat} (hT : n = 1 → TRN (k t) (o t) (v t)) (hv : KV g) (hv' : KV g') (h : SLE g g') : SLE (fpF k o v n t g) (fpF k o v n t g') := by
  unfold fpF
  by_cases q : n = 1 ∧ g 0 ≠ 0
  · rw [if_pos q, if_pos ⟨q.1, SLE_ne h q.2⟩]
    exact opO_mono (TRN_of (hT q.1)).2 hv hv' h
  · rw [if_neg q]
    by_cases q0 : g 0 = 0
    · exact Or.inl q0
    · rw [if_neg (fun u => q ⟨u.1, q0⟩)]; exact h
theorem fpF_KV {k o v : Nat → Nat} {n t : Nat} {g : Nat → Nat} (hT : n = 1 → TRN (k t) (o t) (v t)) (hv : KV g) : KV (fpF k o v n t g) := by
  unfold fpF
  split
  · rename_i q
    have e := TRN_of (hT q.1)
    exact opO_KV e.1 e.2 hv
  · exact hv
theorem fpF_hi {k o v : Nat → Nat} {n t i : Nat} {g : Nat → Nat} (hT : n = 1 → TRN (k t) (o t) (v t)) (hi : 9 ≤ i) : fpF k o v n t g i = g i := by
  unfold fpF
  split
  · rename_i q
    exact opO_hi (TRN_of (hT q.1)).2 hi
  · rfl
/-- a term or its opposite is possible -/
theorem cover {g : Nat → Nat} {k o v : Nat} (hT : TRN k o v) (hv : KV g) (hg : g 0 ≠ 0) (h : opN k o v g 0 = 0) : opO k o v g 0 ≠ 0 := by
  rcases hv with u | ⟨u0, u1, u2, u3, u4⟩
  · exact absurd u hg
  have kf : ∀ b, b < 2 → o < 6 → kfl g o b 0 = 0 → kfl g o (1 - b) 0 ≠ 0 := by
    intro b hb ho hk
    unfold kfl at hk ⊢
    by_cases q : clr (g 7) (2 ^ (2 * o + b)) / 2 ^ (2 * o) % 4 = 0
    · by_cases q2 : clr (g 7) (2 ^ (2 * o + (1 - b))) / 2 ^ (2 * o) % 4 = 0
      · exfalso
        apply u3 o ho
        rw [pair_iff, clr_tb, clr_tb, Nat.testBit_two_pow, Nat.testBit_two_pow] at q q2
        rw [pair_iff]
        have : b = 0 ∨ b = 1 := by omega
        rcases this with rfl | rfl
        · rw [decide_eq_false (show ¬ 2 * o + 0 = 2 * o + 1 by omega)] at q
          rw [decide_eq_false (show ¬ 2 * o + (1 - 0) = 2 * o by omega)] at q2
          refine ⟨?_, ?_⟩
          · have := q2.1; rw [Bool.not_false, Bool.and_true] at this; exact this
          · have := q.2; rw [Bool.not_false, Bool.and_true] at this; exact this
        · rw [decide_eq_false (show ¬ 2 * o + 1 = 2 * o by omega)] at q
          rw [decide_eq_false (show ¬ 2 * o + (1 - 1) = 2 * o + 1 by omega)] at q2
          refine ⟨?_, ?_⟩
          · have := q.1; rw [Bool.not_false, Bool.and_true] at this; exact this
          · have := q2.2; rw [Bool.not_false, Bool.and_true] at this; exact this
      · rw [if_neg q2, vu_ne _ _ (by decide)]; exact hg
    · rw [if_neg q, vu_ne _ _ (by decide)] at hk; exact absurd hk hg
  have rn : ∀ l u, o < 3 → l ≤ u → rng g o l u 0 ≠ 0 := fun l u ho hl => by rw [(rng_at ho hl).1 0 (by omega) (by omega)]; exact hg
  unfold opN at h
  unfold opO
  rcases hT with ⟨t1, t2⟩ | ⟨t1, t2, t3, t4⟩
  · by_cases q0 : k = 0
    · rw [if_pos q0] at h ⊢; exact kf 0 (by decide) t2 h
    · rw [if_neg q0, if_pos (by omega)] at h ⊢; exact kf 1 (by decide) t2 h
  · rw [if_neg (by omega), if_neg (by omega)] at h ⊢
    have b := u1 o t3
    by_cases q2 : k = 2
    · rw [if_pos q2] at h ⊢
      refine rn _ _ t3 ?_
      by_cases qv : v = 0
      · omega
      · rw [if_neg qv] at h
        by_cases z : g (1 + o) ≤ min (g (4 + o)) (v - 1)
        · exact absurd h (rn _ _ t3 z)
        · omega
    · rw [if_neg q2] at h ⊢
      by_cases q3 : k = 3
      · rw [if_pos q3] at h ⊢
        refine rn _ _ t3 ?_
        by_cases z : max (g (1 + o)) (v + 1) ≤ g (4 + o)
        · exact absurd h (rn _ _ t3 z)
        · omega
      · rw [if_neg q3] at h ⊢
        have z : ¬ max (g (1 + o)) v ≤ min (g (4 + o)) v := fun z => absurd h (rn _ _ t3 z)
        rw [if_neg (by omega)]
        refine rn _ _ t3 ?_
        split <;> split <;> omega
/-- a flag -/
def aFl (g : Nat → Nat) (o b : Nat) : Nat → Nat := va_up g 7 (clr (g 7) (3 * 2 ^ (2 * o)) ||| 2 ^ (2 * o + b))
theorem aFl_ne {g : Nat → Nat} {o b i : Nat} (h : i ≠ 7) : aFl g o b i = g i := vu_ne _ _ h
theorem aFl_7 {g : Nat → Nat} {o b : Nat} : aFl g o b 7 = clr (g 7) (3 * 2 ^ (2 * o)) ||| 2 ^ (2 * o + b) := vu_eq _ _ _
theorem aFl_mono {g g' : Nat → Nat} {o b : Nat} (h : SLE g g') : SLE (aFl g o b) (aFl g' o b) := by
  rcases h with u | ⟨⟨k1, k2, k3, k4, k5⟩, k6, k7⟩
  · exact Or.inl (by rw [aFl_ne (by decide)]; exact u)
  · refine Or.inr ⟨⟨by rw [aFl_ne (by decide)]; exact k1, fun i hi => ?_, fun i hi => ?_, ?_, ?_⟩, ?_, ?_⟩
    · rw [aFl_ne (by omega), aFl_ne (by omega)]; exact k2 i hi
    · rw [aFl_ne (by omega), aFl_ne (by omega)]; exact k3 i hi
    · rw [aFl_7, aFl_7]; exact sub2_or (sub2_trans (clr_mono k4) (sub2_or_l _ _)) (sub2_or_r _ _)
    · rw [aFl_ne (by decide), aFl_ne (by decide)]; exact k5
    · rw [aFl_ne (by decide), aFl_ne (by decide)]; exact k6
    · rw [aFl_ne (by decide), aFl_ne (by decide)]; exact k7
theorem aFl_KV {g : Nat → Nat} {o b : Nat} (ho : o < 6) (hb : b < 2) (hv : KV g) : KV (aFl g o b) := by
  rcases hv with u | ⟨u0, u1, u2, u3, u4⟩
  · exact Or.inl (by rw [aFl_ne (by decide)]; exact u)
  · refine Or.inr ⟨by rw [aFl_ne (by decide)]; exact u0, fun i hi => ?_, ?_, fun f hf w => ?_, ?_⟩
    · rw [aFl_ne (by omega), aFl_ne (by omega)]; exact u1 i hi
    · rw [aFl_7]
      exact Nat.or_lt_two_pow (n := 12) (clr_lt (k := 12) u2) (Nat.pow_lt_pow_right (by decide) (by omega))
    · rw [aFl_7, pair_iff, Nat.testBit_or, Nat.testBit_or, clr_tb, clr_tb, Nat.testBit_two_pow, Nat.testBit_two_pow] at w
      by_cases e : f = o
      · subst e
        have : b = 0 ∨ b = 1 := by omega
        rcases this with rfl | rfl
        · have := w.1; rw [decide_eq_true (by omega), Bool.or_true] at this; exact absurd this (by decide)
        · have := w.2; rw [decide_eq_true (by omega), Bool.or_true] at this; exact absurd this (by decide)
      · have t3 : ∀ i, i < 2 → (3 * 2 ^ (2 * o)).testBit (2 * f + i) = false := by
          intro i hi
          rw [Nat.testBit_mul_two_pow]
          by_cases q : 2 * o ≤ 2 * f + i
          · rw [decide_eq_true q, Bool.true_and]
            exact tb_hi (ck := 2) (by decide) (by omega)
          · rw [decide_eq_false q, Bool.false_and]
        have a1 := t3 0 (by decide)
        have a2 := t3 1 (by decide)
        rw [Nat.add_zero] at a1
        apply u3 f hf
        rw [pair_iff]
        refine ⟨?_, ?_⟩
        · have := w.1; rw [a1, decide_eq_false (by omega), Bool.or_false, Bool.not_false, Bool.and_true] at this; exact this
        · have := w.2; rw [a2, decide_eq_false (by omega), Bool.or_false, Bool.not_false, Bool.and_true] at this; exact this
    · rw [aFl_ne (by decide)]; exact u4
/-- a meter -/
def nvN (w z y : Nat) : Nat := if w = 3 then y else if w = 4 then min (z + y) 9 else z - y
def aMt (g : Nat → Nat) (x w y : Nat) : Nat → Nat := va_up (va_up g (1 + x) (nvN w (g (1 + x)) y)) (4 + x) (nvN w (g (4 + x)) y)
theorem aMt_ne {g : Nat → Nat} {x w y i : Nat} (h1 : i ≠ 1 + x) (h2 : i ≠ 4 + x) : aMt g x w y i = g i := by unfold aMt; rw [vu_ne _ _ h2, vu_ne _ _ h1]
theorem aMt_l {g : Nat → Nat} {x w y : Nat} : aMt g x w y (1 + x) = nvN w (g (1 + x)) y := by unfold aMt; rw [vu_ne _ _ (by omega), vu_eq]
theorem aMt_h {g : Nat → Nat} {x w y : Nat} : aMt g x w y (4 + x) = nvN w (g (4 + x)) y := by unfold aMt; rw [vu_eq]
theorem nvN_mono {w z z' y : Nat} (h : z ≤ z') : nvN w z y ≤ nvN w z' y := by
  unfold nvN
  split
  · exact Nat.le_refl _
  · split <;> omega
theorem nvN_9 {w z y : Nat} (hz : z ≤ 9) (hy : y ≤ 9) : nvN w z y ≤ 9 := by
  unfold nvN
  split
  · exact hy
  · split <;> omega
theorem aMt_mono {g g' : Nat → Nat} {x w y : Nat} (hx : x < 3) (h : SLE g g') : SLE (aMt g x w y) (aMt g' x w y) := by
  rcases h with u | ⟨⟨k1, k2, k3, k4, k5⟩, k6, k7⟩
  · exact Or.inl (by rw [aMt_ne (by omega) (by omega)]; exact u)
  · refine Or.inr ⟨⟨by rw [aMt_ne (by omega) (by omega)]; exact k1, fun i hi => ?_, fun i hi => ?_, ?_, ?_⟩, ?_, ?_⟩
    · by_cases q : i = x
      · subst q; rw [aMt_l, aMt_l]; exact nvN_mono (k2 i hi)
      · rw [aMt_ne (by omega) (by omega), aMt_ne (by omega) (by omega)]; exact k2 i hi
    · by_cases q : i = x
      · subst q; rw [aMt_h, aMt_h]; exact nvN_mono (k3 i hi)
      · rw [aMt_ne (by omega) (by omega), aMt_ne (by omega) (by omega)]; exact k3 i hi
    · rw [aMt_ne (by omega) (by omega), aMt_ne (by omega) (by omega)]; exact k4
    · rw [aMt_ne (by omega) (by omega), aMt_ne (by omega) (by omega)]; exact k5
    · rw [aMt_ne (by omega) (by omega), aMt_ne (by omega) (by omega)]; exact k6
    · rw [aMt_ne (by omega) (by omega), aMt_ne (by omega) (by omega)]; exact k7
theorem aMt_KV {g : Nat → Nat} {x w y : Nat} (hx : x < 3) (hy : y ≤ 9) (hv : KV g) : KV (aMt g x w y) := by
  rcases hv with u | ⟨u0, u1, u2, u3, u4⟩
  · exact Or.inl (by rw [aMt_ne (by omega) (by omega)]; exact u)
  · refine Or.inr ⟨by rw [aMt_ne (by omega) (by omega)]; exact u0, fun i hi => ?_, by rw [aMt_ne (by omega) (by omega)]; exact u2, by rw [aMt_ne (by omega) (by omega)]; exact u3, by rw [aMt_ne (by omega) (by omega)]; exact u4⟩
    by_cases q : i = x
    · subst q
      rw [aMt_l, aMt_h]
      exact ⟨nvN_mono (u1 i hi).1, nvN_9 (u1 i hi).2 hy⟩
    · rw [aMt_ne (by omega) (by omega), aMt_ne (by omega) (by omega)]; exact u1 i hi
/-- a choice: offered if its true part is there, certain if it always is and stands in no hub -/
def aCh (k o v : Nat → Nat) (n t ch : Nat) (hub : Bool) (g : Nat → Nat) : Nat → Nat := if tpF k o v n t g 0 = 0 then g else if hub = false ∧ (n = 0 ∨ fpF k o v n t g 0 = 0) then va_up (va_up g 9 (g 9 ||| 2 ^ ch)) 10 (g 10 ||| 2 ^ ch) else va_up g 9 (g 9 ||| 2 ^ ch)
theorem aCh_lo {k o v : Nat → Nat} {n t ch i : Nat} {hub : Bool} {g : Nat → Nat} (hi : i < 9) : aCh k o v n t ch hub g i = g i := by
  unfold aCh
  split
  · rfl
  · split
    · rw [vu_ne _ _ (by omega), vu_ne _ _ (by omega)]
    · rw [vu_ne _ _ (by omega)]
theorem aCh_KV {k o v : Nat → Nat} {n t ch : Nat} {hub : Bool} {g : Nat → Nat} (hv : KV g) : KV (aCh k o v n t ch hub g) := by
  unfold KV at *
  rw [aCh_lo (by decide), aCh_lo (by decide), aCh_lo (by decide)]
  rcases hv with u | ⟨u0, u1, u2⟩
  · exact Or.inl u
  · exact Or.inr ⟨u0, fun i hi => by rw [aCh_lo (by omega), aCh_lo (by omega)]; exact u1 i hi, u2⟩
theorem aCh_mono {k o v : Nat → Nat} {n t ch : Nat} {hub : Bool} {g g' : Nat → Nat} (hT : ∀ s, t ≤ s → s < t + n → TRN (k s) (o s) (v s)) (hv : KV g) (hv' : KV g') (h : SLE g g') : SLE (aCh k o v n t ch hub g) (aCh k o v n t ch hub g') := by
  by_cases q0 : g 0 = 0
  · exact Or.inl (by rw [aCh_lo (by decide)]; exact q0)
  have h1 : n = 1 → TRN (k t) (o t) (v t) := fun e => hT t (Nat.le_refl _) (by omega)
  have mt := tpF_mono n t g g' hT h
  have mf := fpF_mono (n := n) h1 hv hv' h
  have h' := h
  rcases h' with u | ⟨⟨k1, k2, k3, k4, k5⟩, k6, k7⟩
  · exact absurd u q0
  have base : KL (aCh k o v n t ch hub g) (aCh k o v n t ch hub g') := by
    refine ⟨by rw [aCh_lo (by decide)]; exact k1, fun i hi => ?_, fun i hi => ?_, ?_, ?_⟩
    · rw [aCh_lo (by omega), aCh_lo (by omega)]; exact k2 i hi
    · rw [aCh_lo (by omega), aCh_lo (by omega)]; exact k3 i hi
    · rw [aCh_lo (by decide), aCh_lo (by decide)]; exact k4
    · rw [aCh_lo (by decide), aCh_lo (by decide)]; exact k5
  refine Or.inr ⟨base, ?_, ?_⟩
  · unfold aCh
    by_cases q1 : tpF k o v n t g 0 = 0
    · rw [if_pos q1]
      split
      · exact k6
      · split
        · rw [vu_ne _ _ (by decide), vu_eq]; exact sub2_trans k6 (sub2_or_l _ _)
        · rw [vu_eq]; exact sub2_trans k6 (sub2_or_l _ _)
    · rw [if_neg q1, if_neg (SLE_ne mt q1)]
      have s1 : sub2 (g 9 ||| 2 ^ ch) (g' 9 ||| 2 ^ ch) := sub2_or (sub2_trans k6 (sub2_or_l _ _)) (sub2_or_r _ _)
      split
      · split
        · rw [vu_ne _ _ (by decide), vu_eq, vu_ne _ _ (by decide), vu_eq]; exact s1
        · rw [vu_ne _ _ (by decide), vu_eq, vu_eq]; exact s1
      · split
        · rw [vu_eq, vu_ne _ _ (by decide), vu_eq]; exact s1
        · rw [vu_eq, vu_eq]; exact s1
  · have c10 : ∀ g : Nat → Nat, tpF k o v n t g 0 ≠ 0 → aCh k o v n t ch hub g 10 = if hub = false ∧ (n = 0 ∨ fpF k o v n t g 0 = 0) then g 10 ||| 2 ^ ch else g 10 := by
      intro g q
      unfold aCh
      rw [if_neg q]
      split
      · rw [vu_eq]
      · rw [vu_ne _ _ (by decide)]
    by_cases q2 : tpF k o v n t g' 0 = 0
    · have e : aCh k o v n t ch hub g' 10 = g' 10 := by unfold aCh; rw [if_pos q2]
      have q1 : tpF k o v n t g 0 = 0 := by
        by_cases z : tpF k o v n t g 0 = 0
        · exact z
        · exact absurd q2 (SLE_ne mt z)
      have e2 : aCh k o v n t ch hub g 10 = g 10 := by unfold aCh; rw [if_pos q1]
      rw [e, e2]; exact k7
    · rw [c10 g' q2]
      by_cases q3 : hub = false ∧ (n = 0 ∨ fpF k o v n t g' 0 = 0)
      · rw [if_pos q3]
        have f0 : n = 0 ∨ fpF k o v n t g 0 = 0 := by
          rcases q3.2 with z | z
          · exact Or.inl z
          · right
            by_cases w : fpF k o v n t g 0 = 0
            · exact w
            · exact absurd z (SLE_ne mf w)
        have q1 : tpF k o v n t g 0 ≠ 0 := by
          rcases f0 with z | z
          · subst z; exact q0
          · intro w
            by_cases n1 : n = 1
            · subst n1
              unfold fpF at z
              rw [if_pos ⟨rfl, q0⟩] at z
              have w' : opN (k t) (o t) (v t) g 0 = 0 := by
                have e : tpF k o v 1 t g = opN (k t) (o t) (v t) g := by
                  show (if g 0 = 0 then g else tpF k o v 0 (t + 1) (opN (k t) (o t) (v t) g)) = _
                  rw [if_neg q0]; rfl
                rw [e] at w; exact w
              exact cover (h1 rfl) hv q0 w' z
            · unfold fpF at z
              rw [if_neg (fun y => n1 y.1)] at z
              exact q0 z
        rw [c10 g q1, if_pos ⟨q3.1, f0⟩]
        exact sub2_or (sub2_trans k7 (sub2_or_l _ _)) (sub2_or_r _ _)
      · rw [if_neg q3]
        refine sub2_trans k7 ?_
        by_cases q1 : tpF k o v n t g 0 = 0
        · have e2 : aCh k o v n t ch hub g 10 = g 10 := by unfold aCh; rw [if_pos q1]
          rw [e2]; exact sub2_refl _
        · rw [c10 g q1]
          split
          · exact sub2_or_l _ _
          · exact sub2_refl _
