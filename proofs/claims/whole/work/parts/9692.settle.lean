/-! ===== pure layer: the class settles ===== -/
def ent (g : Nat → Nat) : Nat → Nat := va_up (va_up g 9 0) 10 0
def aHb (h n : Nat) (g : Nat → Nat) : Nat → Nat := if h.testBit n then va_up g 8 (2 ^ n) else g
theorem ent_lo {g : Nat → Nat} {i : Nat} (hi : i < 9) : ent g i = g i := by unfold ent; rw [vu_ne _ _ (by omega), vu_ne _ _ (by omega)]
theorem ent_9 {g : Nat → Nat} : ent g 9 = 0 ∧ ent g 10 = 0 := by unfold ent; exact ⟨by rw [vu_ne _ _ (by decide), vu_eq], by rw [vu_eq]⟩
theorem aHb_ne {g : Nat → Nat} {h n i : Nat} (hi : i ≠ 8) : aHb h n g i = g i := by unfold aHb; split; exact vu_ne _ _ hi; rfl
theorem KV_lo {g g' : Nat → Nat} (h : ∀ i, i < 9 → g' i = g i) (hv : KV g) : KV g' := by
  unfold KV at *
  rw [h 0 (by decide), h 7 (by decide), h 8 (by decide)]
  rcases hv with u | ⟨u0, u1, u2⟩
  · exact Or.inl u
  · exact Or.inr ⟨u0, fun i hi => by rw [h (1 + i) (by omega), h (4 + i) (by omega)]; exact u1 i hi, u2⟩
theorem pkg_lo {g g' : Nat → Nat} (h : ∀ i, i < 9 → g' i = g i) : pkg g' = pkg g := by
  by_cases u : g 0 = 0
  · rw [pkg_0 u, pkg_0 (by rw [h 0 (by decide)]; exact u)]
  · rw [pkg_1 u, pkg_1 (by rw [h 0 (by decide)]; exact u), h 7 (by decide), h 8 (by decide)]
    exact pk_congr (fun i hi => h (1 + i) (by omega))
theorem ent_SV {g : Nat → Nat} (hv : KV g) : SV (ent g) := ⟨KV_lo (fun i hi => ent_lo hi) hv, fun _ => by rw [ent_9.1, ent_9.2]; decide⟩
theorem aHb_KV {g : Nat → Nat} {h n : Nat} (hn : n < 12) (hv : KV g) : KV (aHb h n g) := by
  unfold aHb
  split
  · rcases hv with u | ⟨u0, u1, u2, u3, u4⟩
    · exact Or.inl (by rw [vu_ne _ _ (by decide)]; exact u)
    · refine Or.inr ⟨by rw [vu_ne _ _ (by decide)]; exact u0, fun i hi => by rw [vu_ne _ _ (by omega), vu_ne _ _ (by omega)]; exact u1 i hi, by rw [vu_ne _ _ (by decide)]; exact u2, by rw [vu_ne _ _ (by decide)]; exact u3, ?_⟩
      rw [vu_eq]
      have : 2 ^ n < 2 ^ 13 := Nat.pow_lt_pow_right (by decide) (by omega)
      exact this
  · exact hv
theorem ent_mono {g g' : Nat → Nat} (h : KLE g g') : SLE (ent g) (ent g') := by
  rcases h with u | ⟨k1, k2, k3, k4, k5⟩
  · exact Or.inl (by rw [ent_lo (by decide)]; exact u)
  · refine Or.inr ⟨⟨by rw [ent_lo (by decide)]; exact k1, fun i hi => by rw [ent_lo (by omega), ent_lo (by omega)]; exact k2 i hi, fun i hi => by rw [ent_lo (by omega), ent_lo (by omega)]; exact k3 i hi, by rw [ent_lo (by decide), ent_lo (by decide)]; exact k4, by rw [ent_lo (by decide), ent_lo (by decide)]; exact k5⟩, ?_, ?_⟩
    · rw [ent_9.1, ent_9.1]; exact sub2_refl _
    · rw [ent_9.2, ent_9.2]; exact sub2_refl _
theorem aHb_mono {g g' : Nat → Nat} {hh n : Nat} (h : KLE g g') : KLE (aHb hh n g) (aHb hh n g') := by
  unfold aHb
  split
  · rcases h with u | ⟨k1, k2, k3, k4, k5⟩
    · exact Or.inl (by rw [vu_ne _ _ (by decide)]; exact u)
    · exact Or.inr ⟨by rw [vu_ne _ _ (by decide)]; exact k1, fun i hi => by rw [vu_ne _ _ (by omega), vu_ne _ _ (by omega)]; exact k2 i hi, fun i hi => by rw [vu_ne _ _ (by omega), vu_ne _ _ (by omega)]; exact k3 i hi, by rw [vu_ne _ _ (by decide), vu_ne _ _ (by decide)]; exact k4, by rw [vu_eq, vu_eq]; exact sub2_refl _⟩
  · exact h
/-- what begins a sweep has come to its place -/
def STA (c0 : St) (D nd ck hh : Nat) (A E : Nat → Nat → Nat) : Prop := (∀ n, n < nd → SLE (ent (aHb hh n (E n))) (A (c0 (D + 14) n).toNat)) ∧ ∀ k, k < ck → SLE (ent (E (12 + k))) (A (c0 (D + 17) k).toNat)
/-- where entries begin -/
def e00 (i : Nat) : Nat := if i = 0 then 1 else if i = 7 then 1365 else if i = 8 then 4096 else 0
theorem e00_KV : KV e00 := by
  refine Or.inr ⟨rfl, fun i hi => ?_, by decide, fun f hf => ?_, by decide⟩
  · unfold e00
    rw [if_neg (by omega), if_neg (by omega), if_neg (by omega), if_neg (by omega), if_neg (by omega), if_neg (by omega)]
    exact ⟨Nat.le_refl _, by decide⟩
  · have : f = 0 ∨ f = 1 ∨ f = 2 ∨ f = 3 ∨ f = 4 ∨ f = 5 := by omega
    rcases this with rfl | rfl | rfl | rfl | rfl | rfl <;> decide
/-- a solution -/
def SOL (c0 : St) (D S H nd ck hh : Nat) (A E : Nat → Nat → Nat) : Prop := (∀ x, x < S → CLS c0 D H A E x) ∧ STA c0 D nd ck hh A E ∧ KLE e00 (E 0) ∧ (∀ z, z < 400 → KV (A z)) ∧ ∀ i, i < 28 → KV (E i)
theorem pkg_KLE {g g' : Nat → Nat} (h : KV g) (h' : KV g') (e : pkg g = pkg g') : KLE g g' := by
  by_cases u : g 0 = 0
  · exact Or.inl u
  · have w : g' 0 ≠ 0 := by
      intro w
      rw [pkg_0 w, pkg_z h] at e
      exact u e
    obtain ⟨a1, a2, a3, -⟩ := KV_16 h u
    obtain ⟨b1, b2, b3, -⟩ := KV_16 h' w
    rw [pkg_1 u, pkg_1 w] at e
    obtain ⟨e1, e2, e3⟩ := pk_inj a1 b1 a2 b2 e
    refine Or.inr ⟨by rcases KV_01 h' with z | z; exact absurd z w; exact z, fun i hi => ?_, fun i hi => ?_, by rw [e2]; exact sub2_refl _, by rw [e3]; exact sub2_refl _⟩
    · have := e1 i (by omega)
      exact Nat.le_of_eq this.symm
    · have := e1 (3 + i) (by omega)
      have e4 : g (1 + (3 + i)) = g' (1 + (3 + i)) := this
      rw [show 1 + (3 + i) = 4 + i by omega] at e4
      exact Nat.le_of_eq e4
theorem t_fillL {c : St} {a l : Nat} {v : Int} (h : isLA KC a ∧ alen KC a = l) (hl : l ≤ 1000) : ∃ c1 : St, (∀ q, q ≠ a → c1 q = c q) ∧ (∀ i, i < l → c1 a i = v) ∧ ∀ Q : St → Prop, Q c1 → f_JA_fillL a v c Q := by
  have key : ∀ (j k : Nat) (c : St), k + j = l → ∃ c1 : St, (∀ q, q ≠ a → c1 q = c q) ∧ (∀ i, c1 a i = if k ≤ i ∧ i < l then v else c a i) ∧ ∀ (Q : St → Prop) (fu : Nat), j < fu → Q c1 → f_JA_fillL_L6 Q fu c a v (k : Int) (l : Int) := by
    intro j
    induction j with
    | zero =>
      intro k c hk
      refine ⟨c, fun _ _ => rfl, fun i => by rw [if_neg (by omega)], fun Q fu hf hQ => ?_⟩
      cases fu with
      | zero => omega
      | succ fu =>
        unfold f_JA_fillL_L6
        exact ⟨⟨by omega, by omega⟩, ⟨by omega, by omega⟩, fun _ => hQ, fun g => by omega⟩
    | succ j ih =>
      intro k c hk
      obtain ⟨c1, i1, i2, i3⟩ := ih (k + 1) (sset c a k v) (by omega)
      refine ⟨c1, fun q hq => by rw [i1 q hq, sset_row _ _ _ hq], fun i => ?_, fun Q fu hf hQ => ?_⟩
      · rw [i2 i, sset_at]
        by_cases g : i = k
        · subst g; rw [if_neg (by omega), vu_eq, if_pos ⟨Nat.le_refl _, by omega⟩]
        · rw [vu_ne _ _ g]
          by_cases g2 : k + 1 ≤ i ∧ i < l
          · rw [if_pos g2, if_pos ⟨by omega, g2.2⟩]
          · rw [if_neg g2, if_neg (by omega)]
      · cases fu with
        | zero => omega
        | succ fu =>
          unfold f_JA_fillL_L6
          rw [h.2]
          refine ⟨⟨by omega, by omega⟩, ⟨by omega, by omega⟩, fun g => by omega, fun _ => ⟨h.1, by omega, by omega, fun σ1 e1 => ?_⟩⟩
          rw [Int.toNat_natCast] at e1
          rw [e1]
          exact i3 Q fu (by omega) hQ
  obtain ⟨c1, i1, i2, i3⟩ := key l 0 c (by omega)
  refine ⟨c1, i1, fun i hi => by rw [i2 i, if_pos ⟨Nat.zero_le _, hi⟩], fun Q hQ => ?_⟩
  unfold f_JA_fillL
  rw [h.2]
  refine ⟨h.1, ?_⟩
  rintro x1 rfl
  exact i3 Q FU (by show l < 100000; omega) hQ
