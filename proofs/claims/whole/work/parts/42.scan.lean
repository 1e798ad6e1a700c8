/-! ===== pure layer: bytes, blanks, numbers ===== -/
def ch (T : Nat → Int) (n i : Nat) : Int := if i < n then T i else -1
def skf (T : Nat → Int) (n : Nat) : Nat → Nat → Nat
  | 0, i => i
  | k + 1, i => if i < n ∧ T i = 32 then skf T n k (i + 1) else i
def sk (T : Nat → Int) (n i : Nat) : Nat := skf T n (n - i) i
theorem sk_blank {T : Nat → Int} {n i : Nat} (h : i < n) (hT : T i = 32) : sk T n i = sk T n (i + 1) := by
  unfold sk
  have e : n - i = (n - (i + 1)) + 1 := by omega
  rw [e, skf, if_pos ⟨h, hT⟩]
theorem sk_stop {T : Nat → Int} {n i : Nat} (hT : T i ≠ 32) : sk T n i = i := by
  unfold sk
  cases n - i with
  | zero => rfl
  | succ k => rw [skf, if_neg (fun q => hT q.2)]
theorem sk_end {T : Nat → Int} {n i : Nat} (h : n ≤ i) : sk T n i = i := by
  unfold sk
  rw [show n - i = 0 by omega]
  rfl
theorem sk_all {T : Nat → Int} {n : Nat} : ∀ (k i : Nat), n - i = k → i ≤ n → i ≤ sk T n i ∧ sk T n i ≤ n ∧ (sk T n i < n → T (sk T n i) ≠ 32) := by
  intro k
  induction k with
  | zero =>
    intro i hk hi
    rw [sk_end (by omega)]
    exact ⟨Nat.le_refl _, hi, fun h => by omega⟩
  | succ k ih =>
    intro i hk hi
    by_cases hT : T i = 32
    · rw [sk_blank (by omega) hT]
      have := ih (i + 1) (by omega) (by omega)
      exact ⟨by omega, this.2.1, this.2.2⟩
    · rw [sk_stop hT]
      exact ⟨Nat.le_refl _, hi, fun _ => hT⟩
theorem sk_ge {T : Nat → Int} {n i : Nat} (h : i ≤ n) : i ≤ sk T n i := (sk_all _ i rfl h).1
theorem sk_le {T : Nat → Int} {n i : Nat} (h : i ≤ n) : sk T n i ≤ n := (sk_all _ i rfl h).2.1
theorem sk_nb {T : Nat → Int} {n i : Nat} (h : i ≤ n) (h2 : sk T n i < n) : T (sk T n i) ≠ 32 := (sk_all _ i rfl h).2.2 h2
theorem sk_sk {T : Nat → Int} {n i : Nat} (h : i ≤ n) : sk T n (sk T n i) = sk T n i := by
  by_cases h2 : sk T n i < n
  · exact sk_stop (sk_nb h h2)
  · exact sk_end (by omega)
theorem sset_id (σ : St) (c j : Nat) {v : Int} (h : σ c j = v) : sset σ c j v = σ := by
  funext c' j'
  rw [sset_ap]
  by_cases q : c' = c ∧ j' = j
  · rw [if_pos q, q.1, q.2, h]
  · rw [if_neg q]
theorem sset_twice (σ : St) (c j : Nat) (v w : Int) : sset (sset σ c j v) c j w = sset σ c j w := by
  funext c' j'
  rw [sset_ap, sset_ap, sset_ap]
  by_cases q : c' = c ∧ j' = j
  · rw [if_pos q, if_pos q]
  · rw [if_neg q, if_neg q, if_neg q]
theorem isIA_1 : isIA KM 1 := by unfold isIA; decide
theorem isIA_2 : isIA KM 2 := by unfold isIA; decide
theorem alen_M1 : alen KM 1 = 400 := by decide
theorem alen_M2 : alen KM 2 = 400 := by decide
/-- the reference reads this text -/
def RT (T : Nat → Int) (n : Nat) (σ : St) : Prop :=
  n ≤ 400 ∧ (∀ j, 0 ≤ T j ∧ T j ≤ 255) ∧ σ 0 35 = (n : Int) ∧ ((σ 0 34 = 0 ∧ ∀ j, j < n → σ 1 j = T j) ∨ (σ 0 34 = 1 ∧ ∀ j, j < n → σ 2 j = T j))
theorem RT_same {T : Nat → Int} {n : Nat} {σ σ' : St} (h : RT T n σ) (h5 : σ' 0 35 = σ 0 35) (h4 : σ' 0 34 = σ 0 34) (h1 : σ' 1 = σ 1) (h2 : σ' 2 = σ 2) : RT T n σ' := by
  unfold RT at *
  rw [h5, h4, h1, h2]
  exact h
theorem ch_inR {T : Nat → Int} {n i : Nat} (hT : ∀ j, 0 ≤ T j ∧ T j ≤ 255) : inR (ch T n i) := by
  unfold ch
  have := hT i
  by_cases h : i < n
  · rw [if_pos h]; exact ⟨by omega, by omega⟩
  · rw [if_neg h]; exact ⟨by decide, by decide⟩
theorem s_here_loop {T : Nat → Int} {n : Nat} {Q : St → Int → Prop} (v : Nat) (hv : v = 1 ∨ v = 2) (hn : n ≤ 400) (hT : ∀ j, 0 ≤ T j ∧ T j ≤ 255) : ∀ (k : Nat) (fu : Nat) (σ : St) (a : Nat), n - a = k → a ≤ n → k < fu → σ 0 35 = (n : Int) → (∀ j, j < n → σ v j = T j) → σ 0 36 = (a : Int) → Q (sset σ 0 36 ((sk T n a : Nat) : Int)) (ch T n (sk T n a)) → f_X10_here_L19 Q fu σ v := by
  have hia : isIA KM v := by rcases hv with rfl | rfl; exact isIA_1; exact isIA_2
  have hal : alen KM v = 400 := by rcases hv with rfl | rfl; exact alen_M1; exact alen_M2
  intro k
  induction k with
  | zero =>
    intro fu σ a hk ha hf h5 hv1 h6 hQ
    cases fu with
    | zero => omega
    | succ fu =>
      have han : a = n := by omega
      subst han
      unfold f_X10_here_L19
      rw [h6, h5]
      refine ⟨⟨by omega, by omega⟩, ⟨by omega, by omega⟩, fun _ => ?_, fun c => absurd (Int.le_refl _) c⟩
      unfold f_X10_here_J54
      rw [h6, h5]
      refine ⟨⟨by omega, by omega⟩, ⟨by omega, by omega⟩, fun _ => ?_, fun c => absurd (Int.le_refl _) c⟩
      rw [sk_end (Nat.le_refl _), sset_id _ _ _ h6] at hQ
      unfold ch at hQ
      rw [if_neg (by omega)] at hQ
      exact hQ
  | succ k ih =>
    intro fu σ a hk ha hf h5 hv1 h6 hQ
    cases fu with
    | zero => omega
    | succ fu =>
      have e : σ v ((a : Int)).toNat = T a := by rw [Int.toNat_natCast]; exact hv1 a (by omega)
      have hTa := hT a
      unfold f_X10_here_L19
      rw [h6, h5, hal, e]
      refine ⟨⟨by omega, by omega⟩, ⟨by omega, by omega⟩, fun c => by omega, fun _ => ⟨hia, by omega, by omega, ⟨by omega, by omega⟩, fun c => ?_, fun c σ1 e1 => ?_⟩⟩
      · unfold f_X10_here_J54
        rw [h6, h5, hal, e]
        refine ⟨⟨by omega, by omega⟩, ⟨by omega, by omega⟩, fun c => by omega, fun _ => ⟨hia, by omega, by omega, ?_⟩⟩
        rw [sk_stop c, sset_id _ _ _ h6] at hQ
        unfold ch at hQ
        rw [if_pos (by omega)] at hQ
        exact hQ
      · subst e1
        refine ih fu _ (a + 1) (by omega) (by omega) (by omega) ?_ ?_ ?_ ?_
        · rw [sset_place _ _ _ (by decide)]; exact h5
        · intro j hj
          rw [sset_cell _ _ _ _ (by rcases hv with rfl | rfl <;> decide)]; exact hv1 j hj
        · rw [sset_self]; omega
        · rw [sset_twice, ← sk_blank (by omega) c]; exact hQ
theorem s_here {T : Nat → Int} {n a : Nat} {σ : St} {Q : St → Int → Prop} (h : RT T n σ) (ha : a ≤ n) (h6 : σ 0 36 = (a : Int)) (hQ : Q (sset σ 0 36 ((sk T n a : Nat) : Int)) (ch T n (sk T n a))) : f_X10_here σ Q := by
  obtain ⟨hn, hT, h5, h4⟩ := h
  unfold f_X10_here
  rcases h4 with ⟨h4, hv⟩ | ⟨h4, hv⟩
  · rw [h4]
    exact ⟨⟨by decide, by decide⟩, fun _ => s_here_loop 1 (Or.inl rfl) hn hT _ FU σ a rfl ha (by show n - a < 100000; omega) h5 hv h6 hQ, fun c => absurd rfl c⟩
  · rw [h4]
    exact ⟨⟨by decide, by decide⟩, fun c => absurd c (by decide), fun _ => s_here_loop 2 (Or.inr rfl) hn hT _ FU σ a rfl ha (by show n - a < 100000; omega) h5 hv h6 hQ⟩
/-- here, where no blank is -/
theorem s_here0 {T : Nat → Int} {n a : Nat} {σ : St} {Q : St → Int → Prop} (h : RT T n σ) (ha : a ≤ n) (h6 : σ 0 36 = (a : Int)) (hs : sk T n a = a) (hQ : Q σ (ch T n a)) : f_X10_here σ Q := by
  refine s_here h ha h6 ?_
  rw [hs, sset_id _ _ _ h6]
  exact hQ
theorem s_raw {T : Nat → Int} {n a : Nat} {σ : St} {Q : St → Int → Prop} (h : RT T n σ) (ha : a ≤ n) (h6 : σ 0 36 = (a : Int)) (hQ : Q σ (ch T n a)) : f_X10_raw σ Q := by
  obtain ⟨hn, hT, h5, h4⟩ := h
  have key : ∀ v, (v = 1 ∨ v = 2) → (∀ j, j < n → σ v j = T j) → f_X10_raw_J18 Q σ v := by
    intro v hv hv1
    have hia : isIA KM v := by rcases hv with rfl | rfl; exact isIA_1; exact isIA_2
    have hal : alen KM v = 400 := by rcases hv with rfl | rfl; exact alen_M1; exact alen_M2
    unfold f_X10_raw_J18
    rw [h6, h5, hal]
    unfold ch at hQ
    refine ⟨⟨by omega, by omega⟩, ⟨by omega, by omega⟩, fun c => ?_, fun c => ⟨hia, by omega, by omega, ?_⟩⟩
    · rw [if_neg (by omega)] at hQ; exact hQ
    · rw [if_pos (by omega), ← hv1 a (by omega)] at hQ
      rw [Int.toNat_natCast]; exact hQ
  unfold f_X10_raw
  rcases h4 with ⟨h4, hv⟩ | ⟨h4, hv⟩
  · rw [h4]; exact ⟨⟨by decide, by decide⟩, fun _ => key 1 (Or.inl rfl) hv, fun c => absurd rfl c⟩
  · rw [h4]; exact ⟨⟨by decide, by decide⟩, fun c => absurd c (by decide), fun _ => key 2 (Or.inr rfl) hv⟩
