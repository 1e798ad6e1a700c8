/-! ===== pure layer: names become nodes; what follows is linked ===== -/
section LINK
variable {T : Nat → Int} {n D : Nat} {z c c' c0 m m' : St} {N S : Nat} {Q : St → Int → Prop}
theorem m_res_loop (hN : m 0 15 = (N : Int)) (hN4 : N ≤ 400) (hP : PS T n z m) (hk : ∀ s, s < N → inR (m 3 s) ∧ (m 3 s = 5 → 0 ≤ m 4 s ∧ m 4 s < 12)) (hn : ∀ k, k < 12 → inR (m 23 k))
    (hok : (∀ s, s < N → m 3 s = 5 → m 23 (m 4 s).toNat ≠ -1) → ∀ m', PS T n z m' → (∀ q, q ≠ 4 → m' q = m q) → (∀ s, m' 4 s = if s < N ∧ m 3 s = 5 then m 23 (m 4 s).toNat else m 4 s) → Q m' 1)
    (hbad : ∀ s, s < N → m 3 s = 5 → m 23 (m 4 s).toNat = -1 → (∀ t, t < s → m 3 t = 5 → m 23 (m 4 t).toNat ≠ -1) → ∀ m', PS T n z m' → m' 0 36 = m 5 s → Q m' 0) :
    ∀ (k s fu : Nat) (m1 : St), N - s = k → s ≤ N → k < fu → PS T n z m1 → (∀ q, q ≠ 4 → m1 q = m q) → (∀ t, m1 4 t = if t < s ∧ m 3 t = 5 then m 23 (m 4 t).toNat else m 4 t) → (∀ t, t < s → m 3 t = 5 → m 23 (m 4 t).toNat ≠ -1) → f_X10_resolves_L2 Q fu m1 (s : Int) := by
  intro k
  induction k with
  | zero =>
    intro s fu m1 hk1 hs hf hP1 hr h4 hres
    have e : s = N := by omega
    subst e
    cases fu with
    | zero => omega
    | succ fu =>
      unfold f_X10_resolves_L2
      rw [hr 0 (by decide), hN]
      exact ⟨⟨by omega, by omega⟩, ⟨by omega, by omega⟩, fun _ => hok hres m1 hP1 hr h4, fun g => absurd (Int.le_refl _) g⟩
  | succ k ih =>
    intro s fu m1 hk1 hs hf hP1 hr h4 hres
    have hsN : s < N := by omega
    obtain ⟨k1, k2⟩ := hk s hsN
    cases fu with
    | zero => omega
    | succ fu =>
      have h4s : m1 4 s = m 4 s := by rw [h4 s, if_neg (by omega)]
      unfold f_X10_resolves_L2
      rw [hr 0 (by decide), hN, Int.toNat_natCast, hr 3 (by decide), hr 23 (by decide), hr 5 (by decide), h4s]
      refine ⟨⟨by omega, by omega⟩, ⟨by omega, by omega⟩, fun g => by omega, fun _ => ⟨by omega, by omega, k1, fun g => ?_, fun g => ?_⟩⟩
      · refine ih (s + 1) fu m1 (by omega) (by omega) (by omega) hP1 hr (fun t => ?_) (fun t ht h5 => ?_)
        · rw [h4 t]
          by_cases q : t = s
          · rw [q, if_neg (by omega), if_neg (fun u => g u.2)]
          · by_cases q2 : t < s ∧ m 3 t = 5
            · rw [if_pos q2, if_pos ⟨by omega, q2.2⟩]
            · rw [if_neg q2, if_neg (fun u => q2 ⟨by omega, u.2⟩)]
        · by_cases q : t = s
          · rw [q] at h5; exact absurd h5 g
          · exact hres t (by omega) h5
      · obtain ⟨a1, a2⟩ := k2 g
        refine ⟨by omega, by omega, a1, a2, hn _ (by omega), fun g2 => ⟨by omega, by omega, a1, a2, by omega, by omega, fun m2 e2 => ?_⟩, fun g2 => ⟨by omega, by omega, fun m2 e2 => ?_⟩⟩
        · refine ih (s + 1) fu m2 (by omega) (by omega) (by omega) ?_ (fun q hq => ?_) (fun t => ?_) (fun t ht h5 => ?_)
          · rw [e2]; exact PS_cell hP1 _ _ _ (by decide) (by decide)
          · rw [e2, sset_row _ _ _ hq]; exact hr q hq
          · rw [e2]
            by_cases q : t = s
            · rw [q, sset_self, if_pos ⟨by omega, g⟩]
            · rw [sset_place _ _ _ q, h4 t]
              by_cases q2 : t < s ∧ m 3 t = 5
              · rw [if_pos q2, if_pos ⟨by omega, q2.2⟩]
              · rw [if_neg q2, if_neg (fun u => q2 ⟨by omega, u.2⟩)]
          · by_cases q : t = s
            · rw [q]; exact g2
            · exact hres t (by omega) h5
        · refine hbad s hsN g g2 hres m2 ?_ ?_
          · rw [e2]; exact PS_at hP1 _
          · rw [e2, sset_self]
theorem m_resolves (hN : m 0 15 = (N : Int)) (hN4 : N ≤ 400) (hP : PS T n z m) (hk : ∀ s, s < N → inR (m 3 s) ∧ (m 3 s = 5 → 0 ≤ m 4 s ∧ m 4 s < 12)) (hn : ∀ k, k < 12 → inR (m 23 k))
    (hok : (∀ s, s < N → m 3 s = 5 → m 23 (m 4 s).toNat ≠ -1) → ∀ m', PS T n z m' → (∀ q, q ≠ 4 → m' q = m q) → (∀ s, m' 4 s = if s < N ∧ m 3 s = 5 then m 23 (m 4 s).toNat else m 4 s) → Q m' 1)
    (hbad : ∀ s, s < N → m 3 s = 5 → m 23 (m 4 s).toNat = -1 → (∀ t, t < s → m 3 t = 5 → m 23 (m 4 t).toNat ≠ -1) → ∀ m', PS T n z m' → m' 0 36 = m 5 s → Q m' 0) : f_X10_resolves m Q := by
  unfold f_X10_resolves
  exact m_res_loop hN hN4 hP hk hn hok hbad N 0 FU m rfl (Nat.zero_le _) (by show N < 100000; omega) hP (fun _ _ => rfl) (fun t => by rw [if_neg (by omega)]) (fun t ht => by omega)
/-- what the class's linking needs -/
def LC (c0 : St) (D S : Nat) : Prop := c0 38 0 = (D : Int) ∧ c0 D 0 = (S : Int) ∧ S ≤ 400 ∧ (∀ y : Nat, y < S → inR (c0 (D + 1) y) ∧ -1 ≤ c0 42 y ∧ c0 42 y < y ∧ -1 ≤ c0 (D + 4) y ∧ c0 (D + 4) y < S ∧ (c0 (D + 1) y = 6 → inR (c0 (D + 5) y) ∧ inR (c0 (D + 6) y)) ∧ (c0 (D + 1) y = 8 → 0 ≤ c0 (D + 2) y ∧ c0 (D + 2) y < 12) ∧ (c0 (D + 1) y = 7 → 0 ≤ c0 (D + 2) y ∧ c0 (D + 2) y < 16)) ∧ (∀ k, k < 12 → inR (c0 39 k)) ∧ ∀ x y : Nat, x < S → y < S → c0 (D + 1) x = 7 → c0 (D + 1) y = 7 → c0 (D + 2) x = c0 (D + 2) y → x = y
/-- the class has linked the first statements -/
def LK (c0 : St) (D x : Nat) (c : St) : Prop := (∀ q, q ≠ D + 2 → q ≠ D + 4 → q ≠ D + 5 → q ≠ D + 6 → q ≠ D + 17 → c q = c0 q) ∧ (∀ y : Nat, c (D + 4) y = if y < x ∧ c0 (D + 4) y = -1 then (if c0 42 y = -1 then -1 else c (D + 4) (c0 42 y).toNat) else c0 (D + 4) y) ∧ (∀ y : Nat, c (D + 5) y = if y < x ∧ c0 (D + 1) y = 6 ∧ c0 (D + 5) y = -1 then c (D + 4) y else c0 (D + 5) y) ∧ (∀ y : Nat, c (D + 6) y = if y < x ∧ c0 (D + 1) y = 6 ∧ c0 (D + 6) y = -1 then c (D + 4) y else c0 (D + 6) y) ∧ (∀ y : Nat, c (D + 2) y = if y < x ∧ c0 (D + 1) y = 8 then c0 39 (c0 (D + 2) y).toNat else c0 (D + 2) y) ∧ (∀ y : Nat, y < x → c0 (D + 1) y = 7 → c (D + 17) (c0 (D + 2) y).toNat = c0 (D + 5) y) ∧ ∀ y : Nat, y < x → c0 (D + 1) y = 8 → c0 39 (c0 (D + 2) y).toNat ≠ -1
theorem LK_n {x : Nat} (hL : LC c0 D S) (hx : x ≤ S) (h : LK c0 D x c) : ∀ y : Nat, y < S → -1 ≤ c (D + 4) y ∧ c (D + 4) y < S := by
  intro y
  induction y using Nat.strongRecOn with
  | _ y ih =>
    intro hy
    obtain ⟨-, -, hS, hr, -⟩ := hL
    have hry := hr y hy
    rw [h.2.1 y]
    by_cases g : y < x ∧ c0 (D + 4) y = -1
    · rw [if_pos g]
      by_cases g2 : c0 42 y = -1
      · rw [if_pos g2]; omega
      · rw [if_neg g2]; exact ih _ (by omega) (by omega)
    · rw [if_neg g]; omega
end LINK
