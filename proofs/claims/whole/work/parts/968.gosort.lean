/-! ===== pure layer: the class goes through a statement: the sorts (dispatch written by wip/whole/gen2/gosort.py) ===== -/
section GOSORT
variable {c : St} {A E : Nat → Nat → Nat} {D S H x : Nat} {Q : St → Prop} {z w : Int}
theorem gt_0 (hD : D = 2 ∨ D = 20) (h65 : c 65 0 = (D : Int)) (hx : x < 400) (hk : c (D + 1) x = 0) (h : f_X0_goOn (x : Int) z c Q) : f_X0_goThrough (x : Int) z w c Q := by
  unfold f_X0_goThrough
  rw [h65, Int.toNat_natCast, Int.toNat_natCast, hk]
  exact ⟨hD, by omega, by omega, ⟨by decide, by decide⟩, fun u => absurd u (by decide), fun u => absurd u (by decide), fun u => absurd u (by decide), fun u => absurd u (by decide), fun u => absurd u (by decide), fun u => absurd u (by decide), fun u => absurd u (by decide), fun u => absurd u (by decide), fun u => absurd u (by decide), fun u => absurd u (by decide), fun u => absurd u (by decide), fun u => absurd u (by decide), fun _ => h⟩
theorem gt_1 (hD : D = 2 ∨ D = 20) (h65 : c 65 0 = (D : Int)) (hx : x < 400) (hk : c (D + 1) x = 1) (h : f_X3_withFlag z w 2 c (fun σ r => f_X0_goOn (x : Int) r σ Q)) : f_X0_goThrough (x : Int) z w c Q := by
  unfold f_X0_goThrough
  rw [h65, Int.toNat_natCast, Int.toNat_natCast, hk]
  exact ⟨hD, by omega, by omega, ⟨by decide, by decide⟩, fun _ => h, fun u => absurd u (by decide), fun u => absurd u (by decide), fun u => absurd u (by decide), fun u => absurd u (by decide), fun u => absurd u (by decide), fun u => absurd u (by decide), fun u => absurd u (by decide), fun u => absurd u (by decide), fun u => absurd u (by decide), fun u => absurd u (by decide), fun u => absurd u (by decide), fun u => by omega⟩
theorem gt_2 (hD : D = 2 ∨ D = 20) (h65 : c 65 0 = (D : Int)) (hx : x < 400) (hk : c (D + 1) x = 2) (h : f_X3_withFlag z w 1 c (fun σ r => f_X0_goOn (x : Int) r σ Q)) : f_X0_goThrough (x : Int) z w c Q := by
  unfold f_X0_goThrough
  rw [h65, Int.toNat_natCast, Int.toNat_natCast, hk]
  exact ⟨hD, by omega, by omega, ⟨by decide, by decide⟩, fun u => absurd u (by decide), fun _ => h, fun u => absurd u (by decide), fun u => absurd u (by decide), fun u => absurd u (by decide), fun u => absurd u (by decide), fun u => absurd u (by decide), fun u => absurd u (by decide), fun u => absurd u (by decide), fun u => absurd u (by decide), fun u => absurd u (by decide), fun u => absurd u (by decide), fun u => by omega⟩
theorem gt_3 (hD : D = 2 ∨ D = 20) (h65 : c 65 0 = (D : Int)) (hx : x < 400) (hk : c (D + 1) x = 3) (h : f_X0_goThroughMeter (x : Int) z w c Q) : f_X0_goThrough (x : Int) z w c Q := by
  unfold f_X0_goThrough
  rw [h65, Int.toNat_natCast, Int.toNat_natCast, hk]
  exact ⟨hD, by omega, by omega, ⟨by decide, by decide⟩, fun u => absurd u (by decide), fun u => absurd u (by decide), fun _ => h, fun u => absurd u (by decide), fun u => absurd u (by decide), fun u => absurd u (by decide), fun u => absurd u (by decide), fun u => absurd u (by decide), fun u => absurd u (by decide), fun u => absurd u (by decide), fun u => absurd u (by decide), fun u => absurd u (by decide), fun u => by omega⟩
theorem gt_4 (hD : D = 2 ∨ D = 20) (h65 : c 65 0 = (D : Int)) (hx : x < 400) (hk : c (D + 1) x = 4) (h : f_X0_goThroughMeter (x : Int) z w c Q) : f_X0_goThrough (x : Int) z w c Q := by
  unfold f_X0_goThrough
  rw [h65, Int.toNat_natCast, Int.toNat_natCast, hk]
  exact ⟨hD, by omega, by omega, ⟨by decide, by decide⟩, fun u => absurd u (by decide), fun u => absurd u (by decide), fun u => absurd u (by decide), fun _ => h, fun u => absurd u (by decide), fun u => absurd u (by decide), fun u => absurd u (by decide), fun u => absurd u (by decide), fun u => absurd u (by decide), fun u => absurd u (by decide), fun u => absurd u (by decide), fun u => absurd u (by decide), fun u => by omega⟩
theorem gt_5 (hD : D = 2 ∨ D = 20) (h65 : c 65 0 = (D : Int)) (hx : x < 400) (hk : c (D + 1) x = 5) (h : f_X0_goThroughMeter (x : Int) z w c Q) : f_X0_goThrough (x : Int) z w c Q := by
  unfold f_X0_goThrough
  rw [h65, Int.toNat_natCast, Int.toNat_natCast, hk]
  exact ⟨hD, by omega, by omega, ⟨by decide, by decide⟩, fun u => absurd u (by decide), fun u => absurd u (by decide), fun u => absurd u (by decide), fun u => absurd u (by decide), fun _ => h, fun u => absurd u (by decide), fun u => absurd u (by decide), fun u => absurd u (by decide), fun u => absurd u (by decide), fun u => absurd u (by decide), fun u => absurd u (by decide), fun u => absurd u (by decide), fun u => by omega⟩
theorem gt_6 (hD : D = 2 ∨ D = 20) (h65 : c 65 0 = (D : Int)) (hx : x < 400) (hk : c (D + 1) x = 6) (h : f_X0_goThroughTest (x : Int) z w c Q) : f_X0_goThrough (x : Int) z w c Q := by
  unfold f_X0_goThrough
  rw [h65, Int.toNat_natCast, Int.toNat_natCast, hk]
  exact ⟨hD, by omega, by omega, ⟨by decide, by decide⟩, fun u => absurd u (by decide), fun u => absurd u (by decide), fun u => absurd u (by decide), fun u => absurd u (by decide), fun u => absurd u (by decide), fun _ => h, fun u => absurd u (by decide), fun u => absurd u (by decide), fun u => absurd u (by decide), fun u => absurd u (by decide), fun u => absurd u (by decide), fun u => absurd u (by decide), fun u => by omega⟩
theorem gt_7 (hD : D = 2 ∨ D = 20) (h65 : c 65 0 = (D : Int)) (hx : x < 400) (hk : c (D + 1) x = 7) (h : f_X0_goThroughChoice (x : Int) z w c Q) : f_X0_goThrough (x : Int) z w c Q := by
  unfold f_X0_goThrough
  rw [h65, Int.toNat_natCast, Int.toNat_natCast, hk]
  exact ⟨hD, by omega, by omega, ⟨by decide, by decide⟩, fun u => absurd u (by decide), fun u => absurd u (by decide), fun u => absurd u (by decide), fun u => absurd u (by decide), fun u => absurd u (by decide), fun u => absurd u (by decide), fun _ => h, fun u => absurd u (by decide), fun u => absurd u (by decide), fun u => absurd u (by decide), fun u => absurd u (by decide), fun u => absurd u (by decide), fun u => by omega⟩
theorem gt_8 (hD : D = 2 ∨ D = 20) (h65 : c 65 0 = (D : Int)) (hx : x < 400) (hk : c (D + 1) x = 8) (h : f_X0_joinNode w z c Q) : f_X0_goThrough (x : Int) z w c Q := by
  unfold f_X0_goThrough
  rw [h65, Int.toNat_natCast, Int.toNat_natCast, hk]
  exact ⟨hD, by omega, by omega, ⟨by decide, by decide⟩, fun u => absurd u (by decide), fun u => absurd u (by decide), fun u => absurd u (by decide), fun u => absurd u (by decide), fun u => absurd u (by decide), fun u => absurd u (by decide), fun u => absurd u (by decide), fun _ => h, fun u => absurd u (by decide), fun u => absurd u (by decide), fun u => absurd u (by decide), fun u => absurd u (by decide), fun u => by omega⟩
theorem gt_9 (hD : D = 2 ∨ D = 20) (h65 : c 65 0 = (D : Int)) (hx : x < 400) (hk : c (D + 1) x = 9) (h : f_X0_goToHubs z w c Q) : f_X0_goThrough (x : Int) z w c Q := by
  unfold f_X0_goThrough
  rw [h65, Int.toNat_natCast, Int.toNat_natCast, hk]
  exact ⟨hD, by omega, by omega, ⟨by decide, by decide⟩, fun u => absurd u (by decide), fun u => absurd u (by decide), fun u => absurd u (by decide), fun u => absurd u (by decide), fun u => absurd u (by decide), fun u => absurd u (by decide), fun u => absurd u (by decide), fun u => absurd u (by decide), fun _ => h, fun u => absurd u (by decide), fun u => absurd u (by decide), fun u => absurd u (by decide), fun u => by omega⟩
theorem gt_10 (hD : D = 2 ∨ D = 20) (h65 : c 65 0 = (D : Int)) (hx : x < 400) (hk : c (D + 1) x = 10) (h : Q (sset c 65 9 (ior32 (c 65 9) (ishl32 1 w)))) : f_X0_goThrough (x : Int) z w c Q := by
  unfold f_X0_goThrough
  rw [h65, Int.toNat_natCast, Int.toNat_natCast, hk]
  exact ⟨hD, by omega, by omega, ⟨by decide, by decide⟩, fun u => absurd u (by decide), fun u => absurd u (by decide), fun u => absurd u (by decide), fun u => absurd u (by decide), fun u => absurd u (by decide), fun u => absurd u (by decide), fun u => absurd u (by decide), fun u => absurd u (by decide), fun u => absurd u (by decide), fun _ σ1 e1 => by rw [e1]; exact h, fun u => absurd u (by decide), fun u => absurd u (by decide), fun u => by omega⟩
theorem gt_11 (hD : D = 2 ∨ D = 20) (h65 : c 65 0 = (D : Int)) (hx : x < 400) (hk : c (D + 1) x = 11) (h : f_X0_endNode (x : Int) z w c Q) : f_X0_goThrough (x : Int) z w c Q := by
  unfold f_X0_goThrough
  rw [h65, Int.toNat_natCast, Int.toNat_natCast, hk]
  exact ⟨hD, by omega, by omega, ⟨by decide, by decide⟩, fun u => absurd u (by decide), fun u => absurd u (by decide), fun u => absurd u (by decide), fun u => absurd u (by decide), fun u => absurd u (by decide), fun u => absurd u (by decide), fun u => absurd u (by decide), fun u => absurd u (by decide), fun u => absurd u (by decide), fun u => absurd u (by decide), fun _ => h, fun u => absurd u (by decide), fun u => by omega⟩
theorem gt_12 (hD : D = 2 ∨ D = 20) (h65 : c 65 0 = (D : Int)) (hx : x < 400) (hk : c (D + 1) x = 12) (h : f_X0_endChoice (x : Int) z w c Q) : f_X0_goThrough (x : Int) z w c Q := by
  unfold f_X0_goThrough
  rw [h65, Int.toNat_natCast, Int.toNat_natCast, hk]
  exact ⟨hD, by omega, by omega, ⟨by decide, by decide⟩, fun u => absurd u (by decide), fun u => absurd u (by decide), fun u => absurd u (by decide), fun u => absurd u (by decide), fun u => absurd u (by decide), fun u => absurd u (by decide), fun u => absurd u (by decide), fun u => absurd u (by decide), fun u => absurd u (by decide), fun u => absurd u (by decide), fun u => absurd u (by decide), fun _ => h, fun u => by omega⟩
theorem t_goOn {σ : St} (hD : D = 2 ∨ D = 20) (h65 : σ 65 0 = (D : Int)) (hx : x < 400) (h : f_X0_pour (σ (D + 4) x) z (σ 69 x) (σ 70 x) σ Q) : f_X0_goOn (x : Int) z σ Q := by
  unfold f_X0_goOn
  rw [h65, Int.toNat_natCast, Int.toNat_natCast]
  exact ⟨hD, by omega, by omega, by omega, by omega, by omega, by omega, h⟩
theorem CAr_suc (h : CAr x c A) : CAr (x + 1) c A := fun z z1 z2 => h z (by omega) z2
theorem GOUT_same {c1 : St} {g : Nat → Nat} (hk : c (D + 1) x ≤ 5 ∨ c (D + 1) x = 7 ∨ c (D + 1) x = 8 ∨ c (D + 1) x = 12) (h71 : c1 71 = c 71) (h65 : ∀ i, i ≠ 2 → c1 65 i = c 65 i) : GOUT c c1 D x g := by
  refine ⟨?_, ?_, ?_⟩
  · rw [if_neg (by omega), h71]
  · rw [if_neg (by omega), h65 9 (by decide)]
  · rw [if_neg (by omega), h65 10 (by decide)]
/-- a line -/
theorem G_0 (hD : D = 2 ∨ D = 20) (h65 : c 65 0 = (D : Int)) (hS : c D 0 = (S : Int)) (hS4 : S ≤ 400) (hx : x < S) (hq : XQ c D S x) (hA : CAr x c A) (hE : CEr c E) (hV : AVs A) (h2 : c 65 2 = 0 ∨ c 65 2 = 1) (hx0 : A x 0 ≠ 0) (hk : c (D + 1) x = 0) : ∃ (c1 : St) (A1 E1 : Nat → Nat → Nat), GST c c1 D H A A1 E E1 x ∧ GOUT c c1 D x (A x) ∧ ∀ Q : St → Prop, Q c1 → f_X0_goThrough (x : Int) (c 68 x) (c (D + 2) x) c Q := by
  obtain ⟨a1, a2, a3⟩ := hA x (Nat.le_refl _) (by omega)
  have hn := hq.2.1 (by omega)
  obtain ⟨y, hy⟩ : ∃ y : Nat, c (D + 4) x = (y : Int) := ⟨(c (D + 4) x).toNat, by omega⟩
  obtain ⟨c1, A1, i1, i2, i3, i4⟩ := G_pour (c' := c) (T := fun g => g) (y := y) (o := c 69 x) (k := c 70 x) hD h65 hS hS4 (by omega) (by omega) (CAr_suc hA) hE hV h2 hx0 (fun _ _ _ => rfl) (fun _ _ _ => rfl) a3 (fun u => a2 u) (fun _ _ _ _ h => h) (H := H)
    (fun A E h u => ⟨fun _ => by rw [hy, Int.toNat_natCast]; exact h u, fun w => by omega, fun w => by omega, fun w _ => by omega, fun w => by omega, fun w => by omega, fun w => by omega, fun w => by omega, fun w => by omega, fun w => by omega⟩)
    (fun A E h u => by have := (h u).1 hk; rw [hy, Int.toNat_natCast] at this; exact this)
  refine ⟨c1, A1, E, i1, GOUT_same (by omega) i2 (fun i _ => by rw [i3]), fun Q hQ => ?_⟩
  refine gt_0 hD h65 (by omega) hk (t_goOn hD h65 (by omega) ?_)
  rw [a1, hy]; exact i4 Q hQ
theorem pkg_aFl {g : Nat → Nat} {o b : Nat} (hg : g 0 ≠ 0) : pkg (aFl g o b) = pk (fun i => g (1 + i)) (clr (g 7) (3 * 2 ^ (2 * o)) ||| 2 ^ (2 * o + b)) (g 8) := by
  have h0 : aFl g o b 0 ≠ 0 := by rw [aFl_ne (by decide)]; exact hg
  rw [pkg_1 h0, aFl_7, aFl_ne (by decide)]
  refine pk_congr (fun i hi => ?_)
  show aFl g o b (1 + i) = g (1 + i)
  rw [aFl_ne (by omega)]
theorem aFl_SV {g : Nat → Nat} {o b : Nat} (ho : o < 6) (hb : b < 2) (hg : SV g) : SV (aFl g o b) := ⟨aFl_KV ho hb hg.1, fun u => by rw [aFl_ne (by decide)] at u; rw [aFl_ne (by decide), aFl_ne (by decide)]; exact hg.2 u⟩
/-- a flag -/
theorem G_12 {b : Nat} (hb : b < 2) (hD : D = 2 ∨ D = 20) (h65 : c 65 0 = (D : Int)) (hS : c D 0 = (S : Int)) (hS4 : S ≤ 400) (hx : x < S) (hq : XQ c D S x) (hA : CAr x c A) (hE : CEr c E) (hV : AVs A) (h2 : c 65 2 = 0 ∨ c 65 2 = 1) (hx0 : A x 0 ≠ 0) (hk : c (D + 1) x = 2 - (b : Int)) : ∃ (c1 : St) (A1 E1 : Nat → Nat → Nat), GST c c1 D H A A1 E E1 x ∧ GOUT c c1 D x (A x) ∧ ∀ Q : St → Prop, Q c1 → f_X0_goThrough (x : Int) (c 68 x) (c (D + 2) x) c Q := by
  obtain ⟨a1, a2, a3⟩ := hA x (Nat.le_refl _) (by omega)
  have hn := hq.2.1 (by omega)
  have hw := hq.2.2.1 (by omega)
  obtain ⟨y, hy⟩ : ∃ y : Nat, c (D + 4) x = (y : Int) := ⟨(c (D + 4) x).toNat, by omega⟩
  obtain ⟨o, ho⟩ : ∃ o : Nat, c (D + 2) x = (o : Int) := ⟨(c (D + 2) x).toNat, by omega⟩
  have ho6 : o < 6 := by omega
  obtain ⟨f1, f2, f3, -⟩ := KV_16 a3.1 hx0
  obtain ⟨c1, A1, i1, i2, i3, i4⟩ := G_pour (c' := c) (T := fun g => aFl g o b) (y := y) (o := c 69 x) (k := c 70 x) hD h65 hS hS4 (by omega) (by omega) (CAr_suc hA) hE hV h2 hx0 (fun _ _ _ => rfl) (fun _ _ _ => rfl) (aFl_SV ho6 hb a3) (fun _ => by rw [aFl_ne (by decide), aFl_ne (by decide)]; exact a2 hx0) (fun _ _ _ _ h => aFl_mono h) (H := H)
    (fun A E h u => ⟨fun w => by omega, fun w => by rw [hy, ho, Int.toNat_natCast, Int.toNat_natCast]; have := h u; rw [show b = 1 by omega] at this; exact this, fun w => by rw [hy, ho, Int.toNat_natCast, Int.toNat_natCast]; have := h u; rw [show b = 0 by omega] at this; exact this, fun w _ => by omega, fun w => by omega, fun w => by omega, fun w => by omega, fun w => by omega, fun w => by omega, fun w => by omega⟩)
    (fun A E h u => by
      have hc := h u
      rw [hy, ho, Int.toNat_natCast, Int.toNat_natCast] at hc
      have : b = 0 ∨ b = 1 := by omega
      rcases this with rfl | rfl
      · exact hc.2.2.1 (by omega)
      · exact hc.2.1 (by omega))
  refine ⟨c1, A1, E, i1, GOUT_same (by omega) i2 (fun i _ => by rw [i3]), fun Q hQ => ?_⟩
  have go : ∀ w : Int, w = ((1 + b : Nat) : Int) → f_X3_withFlag (c 68 x) (c (D + 2) x) w c (fun σ r => f_X0_goOn (x : Int) r σ Q) := by
    intro w hw'
    rw [hw', a1, ho, pkg_1 hx0]
    refine t_withFlag f1 f2 f3 ho6 (by omega) (t_goOn hD h65 (by omega) ?_)
    have e : (1 + b) * 2 ^ (2 * o) = 2 ^ (2 * o + b) := by
      have : b = 0 ∨ b = 1 := by omega
      rcases this with rfl | rfl
      · rw [Nat.add_zero, Nat.one_mul, Nat.add_zero]
      · rw [Nat.pow_succ, Nat.mul_comm]
    rw [e, ← pkg_aFl hx0, hy]; exact i4 Q hQ
  have : b = 0 ∨ b = 1 := by omega
  rcases this with rfl | rfl
  · exact gt_2 hD h65 (by omega) (by rw [hk]; rfl) (go 1 rfl)
  · exact gt_1 hD h65 (by omega) (by rw [hk]; rfl) (go 2 rfl)
theorem nvm_N {w z y : Nat} (hw : w = 3 ∨ w = 4 ∨ w = 5) (hz : z ≤ 9) (hy : y ≤ 9) : nvm (w : Int) (z : Int) (y : Int) = ((nvN w z y : Nat) : Int) := by
  unfold nvm nvN clm
  rcases hw with rfl | rfl | rfl
  · have c1 : ((3 : Nat) : Int) = 3 := rfl
    rw [if_pos c1, if_pos (rfl : (3 : Nat) = 3), if_pos (show (y : Int) ≤ 9 by omega), if_pos (show (0 : Int) ≤ (y : Int) by omega)]
  · have c1 : ¬ ((4 : Nat) : Int) = 3 := by decide
    have c2 : ((4 : Nat) : Int) = 4 := rfl
    rw [if_neg c1, if_pos c2, if_neg (show ¬ (4 : Nat) = 3 by decide), if_pos (rfl : (4 : Nat) = 4)]
    split
    · rw [if_pos (by omega)]; omega
    · omega
  · have c1 : ¬ ((5 : Nat) : Int) = 3 := by decide
    have c2 : ¬ ((5 : Nat) : Int) = 4 := by decide
    rw [if_neg c1, if_neg c2, if_neg (show ¬ (5 : Nat) = 3 by decide), if_neg (show ¬ (5 : Nat) = 4 by decide), if_pos (show (z : Int) - (y : Int) ≤ 9 by omega)]
    split <;> omega
theorem pkg_aMt {g : Nat → Nat} {o w y : Nat} (hg : g 0 ≠ 0) (ho : o < 3) : pkg (aMt g o w y) = pk (va_up (va_up (fun i => g (1 + i)) o (nvN w (g (1 + o)) y)) (3 + o) (nvN w (g (4 + o)) y)) (g 7) (g 8) := by
  have h0 : aMt g o w y 0 ≠ 0 := by rw [aMt_ne (by omega) (by omega)]; exact hg
  rw [pkg_1 h0, aMt_ne (by omega) (by omega), aMt_ne (by omega) (by omega)]
  refine pk_congr (fun i hi => ?_)
  show aMt g o w y (1 + i) = _
  by_cases q1 : i = 3 + o
  · rw [q1, vu_eq, show 1 + (3 + o) = 4 + o by omega, aMt_h]
  · rw [vu_ne _ _ q1]
    by_cases q2 : i = o
    · rw [q2, vu_eq, aMt_l]
    · rw [vu_ne _ _ q2, aMt_ne (by omega) (by omega)]
theorem aMt_SV {g : Nat → Nat} {o w y : Nat} (ho : o < 3) (hy : y ≤ 9) (hg : SV g) : SV (aMt g o w y) := ⟨aMt_KV ho hy hg.1, fun u => by rw [aMt_ne (by omega) (by omega)] at u; rw [aMt_ne (by omega) (by omega), aMt_ne (by omega) (by omega)]; exact hg.2 u⟩
/-- a meter -/
theorem G_345 (hD : D = 2 ∨ D = 20) (h65 : c 65 0 = (D : Int)) (hS : c D 0 = (S : Int)) (hS4 : S ≤ 400) (hx : x < S) (hq : XQ c D S x) (hA : CAr x c A) (hE : CEr c E) (hV : AVs A) (h2 : c 65 2 = 0 ∨ c 65 2 = 1) (hx0 : A x 0 ≠ 0) (hk : 3 ≤ c (D + 1) x ∧ c (D + 1) x ≤ 5) : ∃ (c1 : St) (A1 E1 : Nat → Nat → Nat), GST c c1 D H A A1 E E1 x ∧ GOUT c c1 D x (A x) ∧ ∀ Q : St → Prop, Q c1 → f_X0_goThrough (x : Int) (c 68 x) (c (D + 2) x) c Q := by
  obtain ⟨a1, a2, a3⟩ := hA x (Nat.le_refl _) (by omega)
  have hn := hq.2.1 (by omega)
  have hw := hq.2.2.2.1 hk.1 hk.2
  obtain ⟨y, hy⟩ : ∃ y : Nat, c (D + 4) x = (y : Int) := ⟨(c (D + 4) x).toNat, by omega⟩
  obtain ⟨o, ho⟩ : ∃ o : Nat, c (D + 2) x = (o : Int) := ⟨(c (D + 2) x).toNat, by omega⟩
  obtain ⟨d, hd⟩ : ∃ d : Nat, c (D + 3) x = (d : Int) := ⟨(c (D + 3) x).toNat, by omega⟩
  obtain ⟨s, hs⟩ : ∃ s : Nat, c (D + 1) x = (s : Int) := ⟨(c (D + 1) x).toNat, by omega⟩
  have ho3 : o < 3 := by omega
  have hd9 : d ≤ 9 := by omega
  have hs3 : s = 3 ∨ s = 4 ∨ s = 5 := by omega
  have hi := KV_hi a3.1 hx0 ho3
  obtain ⟨f1, f2, f3, -⟩ := KV_16 a3.1 hx0
  obtain ⟨c1, A1, i1, i2, i3, i4⟩ := G_pour (c' := c) (T := fun g => aMt g o s d) (y := y) (o := c 69 x) (k := c 70 x) hD h65 hS hS4 (by omega) (by omega) (CAr_suc hA) hE hV h2 hx0 (fun _ _ _ => rfl) (fun _ _ _ => rfl) (aMt_SV ho3 hd9 a3) (fun _ => by rw [aMt_ne (by omega) (by omega), aMt_ne (by omega) (by omega)]; exact a2 hx0) (fun _ _ _ _ h => aMt_mono ho3 h) (H := H)
    (fun A E h u => ⟨fun w => by omega, fun w => by omega, fun w => by omega, fun _ _ => by rw [hy, ho, hd, hs, Int.toNat_natCast, Int.toNat_natCast, Int.toNat_natCast, Int.toNat_natCast]; exact h u, fun w => by omega, fun w => by omega, fun w => by omega, fun w => by omega, fun w => by omega, fun w => by omega⟩)
    (fun A E h u => by have := (h u).2.2.2.1 hk.1 hk.2; rw [hy, ho, hd, hs, Int.toNat_natCast, Int.toNat_natCast, Int.toNat_natCast, Int.toNat_natCast] at this; exact this)
  refine ⟨c1, A1, E, i1, GOUT_same (by omega) i2 (fun i _ => by rw [i3]), fun Q hQ => ?_⟩
  have go : f_X0_goThroughMeter (x : Int) (c 68 x) (c (D + 2) x) c Q := by
    unfold f_X0_goThroughMeter
    rw [h65, Int.toNat_natCast, Int.toNat_natCast, a1, ho, hs, pkg_1 hx0]
    refine ⟨hD, by omega, by omega, ?_⟩
    rintro x1 rfl
    refine t_low f1 f2 f3 ho3 ?_
    rw [h65, Int.toNat_natCast, hd]
    refine ⟨hD, by omega, by omega, t_changedMeter (by omega) ⟨by omega, by omega⟩ ⟨by omega, by omega⟩ (t_high f1 f2 f3 ho3 ?_)⟩
    rw [h65, Int.toNat_natCast, hd]
    have e4 : A x (1 + (3 + o)) = A x (4 + o) := by rw [show 1 + (3 + o) = 4 + o by omega]
    rw [e4]
    refine ⟨hD, by omega, by omega, t_changedMeter (by omega) ⟨by omega, by omega⟩ ⟨by omega, by omega⟩ ?_⟩
    rw [nvm_N hs3 (by omega) hd9, nvm_N hs3 (by omega) hd9]
    have n1 := nvN_9 (w := s) (z := A x (1 + o)) (y := d) (by omega) hd9
    have n2 := nvN_9 (w := s) (z := A x (4 + o)) (y := d) (by omega) hd9
    refine t_withRange f1 f2 f3 ho3 (by omega) (by omega) (nvN_mono hi.1) (t_goOn hD h65 (by omega) ?_)
    rw [← pkg_aMt hx0 ho3, hy]; exact i4 Q hQ
  rcases hs3 with rfl | rfl | rfl
  · exact gt_3 hD h65 (by omega) hs go
  · exact gt_4 hD h65 (by omega) hs go
  · exact gt_5 hD h65 (by omega) hs go
/-- a way to a node -/
theorem G_8 (hD : D = 2 ∨ D = 20) (h65 : c 65 0 = (D : Int)) (hS4 : S ≤ 400) (hx : x < S) (hq : XQ c D S x) (hA : CAr x c A) (hE : CEr c E) (hV : AVs A) (h2 : c 65 2 = 0 ∨ c 65 2 = 1) (hx0 : A x 0 ≠ 0) (hk : c (D + 1) x = 8) : ∃ (c1 : St) (A1 E1 : Nat → Nat → Nat), GST c c1 D H A A1 E E1 x ∧ GOUT c c1 D x (A x) ∧ ∀ Q : St → Prop, Q c1 → f_X0_goThrough (x : Int) (c 68 x) (c (D + 2) x) c Q := by
  obtain ⟨a1, a2, a3⟩ := hA x (Nat.le_refl _) (by omega)
  have hw := hq.2.2.2.2.2.2.1 (by omega)
  obtain ⟨o, ho⟩ : ∃ o : Nat, c (D + 2) x = (o : Int) := ⟨(c (D + 2) x).toNat, by omega⟩
  obtain ⟨c1, E1, i1, i2⟩ := t_joinNode (n := o) (by omega) hE a3.1 h2
  have hg : GST c c1 D H A A E E1 x := G_ent (CAr_suc hA) hV (by omega) hx0 i1
    (fun E' h u => ⟨fun w => by omega, fun w => by omega, fun w => by omega, fun w _ => by omega, fun w => by omega, fun w => by omega, fun _ => by rw [ho, Int.toNat_natCast]; exact h o (by omega) rfl, fun w => by omega, fun w => by omega, fun w => by omega⟩)
    (fun A2 E2 h _ u i hi e => by have := (h u).2.2.2.2.2.2.1 hk; rw [ho, Int.toNat_natCast] at this; rw [e]; exact this)
  refine ⟨c1, A, E1, hg, GOUT_same (by omega) (i1.2.2.2.2.1 71 (by decide) (by decide) (by decide)) (fun i hi => i1.2.2.2.2.2.1 i hi), fun Q hQ => gt_8 hD h65 (by omega) hk ?_⟩
  rw [a1, ho]; exact i2 Q hQ
/-- back to the hubs -/
theorem G_9 (hD : D = 2 ∨ D = 20) (h65 : c 65 0 = (D : Int)) (hS4 : S ≤ 400) (hx : x < S) (hq : XQ c D S x) (hA : CAr x c A) (hE : CEr c E) (hV : AVs A) (h2 : c 65 2 = 0 ∨ c 65 2 = 1) (hx0 : A x 0 ≠ 0) (hk : c (D + 1) x = 9) : ∃ (c1 : St) (A1 E1 : Nat → Nat → Nat), GST c c1 D H A A1 E E1 x ∧ GOUT c c1 D x (A x) ∧ ∀ Q : St → Prop, Q c1 → f_X0_goThrough (x : Int) (c 68 x) (c (D + 2) x) c Q := by
  obtain ⟨a1, a2, a3⟩ := hA x (Nat.le_refl _) (by omega)
  have hw := hq.2.2.2.2.2.2.1 (by omega)
  obtain ⟨n, hn⟩ : ∃ n : Nat, c (D + 2) x = (n : Int) := ⟨(c (D + 2) x).toNat, by omega⟩
  obtain ⟨f1, f2, f3, -⟩ := KV_16 a3.1 hx0
  obtain ⟨c1, E1, i1, i2⟩ := t_toHubs (n := n) f3 hE a3.1 h2
  have hg : GST c c1 D H A A E E1 x := G_ent (CAr_suc hA) hV (by omega) hx0 i1
    (fun E' h u => ⟨fun w => by omega, fun w => by omega, fun w => by omega, fun w _ => by omega, fun w => by omega, fun w => by omega, fun w => by omega, fun _ q hq hb => h q (by omega) ⟨hq, hb⟩, fun w => by omega, fun w => by omega⟩)
    (fun A2 E2 h hs u i hi e => by
      refine (h u).2.2.2.2.2.2.2.1 hk i e.1 ?_
      rcases hs with z | ⟨⟨-, -, -, -, k5⟩, -⟩
      · exact absurd z hx0
      · exact k5 i e.2)
  have e65 := i1.2.2.2.2.2.1
  have e71 := i1.2.2.2.2.1 71 (by decide) (by decide) (by decide)
  cases q : (A x 8).testBit 12
  · refine ⟨c1, A, E1, hg, ⟨by rw [if_neg (by omega)]; exact e71, by rw [if_neg (by omega)]; exact e65 9 (by decide), by rw [if_neg (fun u => by (rcases u with u | u); (first | exact absurd u.2 (by decide) | (rw [q] at u; exact absurd u.2 (by decide))); omega)]; exact e65 10 (by decide)⟩, fun Q hQ => gt_9 hD h65 (by omega) hk ?_⟩
    unfold f_X0_goToHubs
    rw [a1, hn, pkg_1 hx0]
    refine t_hubSet f1 f2 f3 ?_
    rw [← pkg_1 hx0]
    exact i2 Q (fun z => by rw [q] at z; exact absurd z (by decide)) (fun _ => hQ)
  · refine ⟨sset c1 65 10 (ior32 (c1 65 10) (ishl32 1 (n : Int))), A, E1, GST_65 (Or.inr rfl) hg, ⟨by rw [if_neg (by omega), sset_row _ _ _ (by decide)]; exact e71, by rw [if_neg (by omega), sset_place _ _ _ (by decide)]; exact e65 9 (by decide), by rw [if_pos (Or.inl ⟨hk, q⟩), sset_self, e65 10 (by decide), hn]⟩, fun Q hQ => gt_9 hD h65 (by omega) hk ?_⟩
    unfold f_X0_goToHubs
    rw [a1, hn, pkg_1 hx0]
    refine t_hubSet f1 f2 f3 ?_
    rw [← pkg_1 hx0]
    exact i2 Q (fun _ => hQ) (fun z => by rw [q] at z; exact absurd z (by decide))
end GOSORT
