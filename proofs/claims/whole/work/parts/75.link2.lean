/-! ===== pure layer: all is linked ===== -/
section LINK
variable {T : Nat → Int} {n D : Nat} {z c c' c0 m m' : St} {N S : Nat} {Q : St → Int → Prop}
theorem t_linkAll (hD : D = 2 ∨ D = 20) (hL : LC c0 D S)
    (hok : ∀ c', LK c0 D S c' → Q c' (-1))
    (hbad : ∀ (y : Nat) c', y < S → c0 (D + 1) y = 8 → c0 39 (c0 (D + 2) y).toNat = -1 → (∀ x : Nat, x < y → c0 (D + 1) x = 8 → c0 39 (c0 (D + 2) x).toNat ≠ -1) → LK c0 D y c' → Q c' (c0 43 y)) : f_X6_linkAll c0 Q := by
  have loop : ∀ (k x fu : Nat) (c : St), S - x = k → x ≤ S → k < fu → LK c0 D x c → f_X6_linkAll_L16 Q fu c (S : Int) (x : Int) := by
    intro k
    induction k with
    | zero =>
      intro x fu c hk hx hf hc
      have e : x = S := by omega
      subst e
      cases fu with
      | zero => omega
      | succ fu =>
        have hS4 := hL.2.2.1
        unfold f_X6_linkAll_L16
        exact ⟨⟨by omega, by omega⟩, ⟨by omega, by omega⟩, fun _ => hok c hc, fun g => absurd (Int.le_refl _) g⟩
    | succ k ih =>
      intro x fu c hk hx hf hc
      have hxS : x < S := by omega
      cases fu with
      | zero => omega
      | succ fu =>
        obtain ⟨l0, lS, lS4, lr, l39, linj⟩ := id hL
        obtain ⟨r1, r42a, r42b, r4a, r4b, r56, r8, r7⟩ := lr x hxS
        obtain ⟨cr, c4, c5, c6, c2, c17, cres⟩ := id hc
        have e38 : c 38 0 = (D : Int) := by rw [cr 38 (by omega) (by omega) (by omega) (by omega) (by omega)]; exact l0
        have e1 : c (D + 1) x = c0 (D + 1) x := by rw [cr _ (by omega) (by omega) (by omega) (by omega) (by omega)]
        have e2 : c (D + 2) x = c0 (D + 2) x := by rw [c2 x, if_neg (by omega)]
        unfold f_X6_linkAll_L16 f_X6_linkAll_J74
        rw [e38, Int.toNat_natCast, Int.toNat_natCast, e1, e2]
        refine ⟨⟨by omega, by omega⟩, ⟨by omega, by omega⟩, fun g => by omega, fun _ => ⟨hD, by omega, by omega, r1, fun g => ?_, fun g => ⟨by omega, by omega, ?_⟩⟩⟩
        · refine t_linkOne hD hL hxS hc (fun u => absurd u g) c (fun _ _ _ => rfl) (by rw [e2, if_neg g]) (fun c' hc' => ?_)
          exact ih (x + 1) fu c' (by omega) (by omega) (by omega) hc'
        · obtain ⟨a1, a2⟩ := r8 g
          refine t_entry ia39 (by decide) ⟨by omega, by omega⟩ (fun _ _ => ?_) (fun q => by omega)
          have e39 : c 39 (c0 (D + 2) x).toNat = c0 39 (c0 (D + 2) x).toNat := by rw [cr 39 (by omega) (by omega) (by omega) (by omega) (by omega)]
          have e43 : c 43 x = c0 43 x := by rw [cr 43 (by omega) (by omega) (by omega) (by omega) (by omega)]
          rw [e39, e38, Int.toNat_natCast, e43]
          refine ⟨l39 _ (by omega), fun g2 => ⟨hD, by omega, by omega, fun c1 ec1 => ?_⟩, fun g2 => ⟨by omega, by omega, hbad x c hxS g g2 cres hc⟩⟩
          refine t_linkOne hD hL hxS hc (fun _ => g2) c1 (fun q j hq => ?_) ?_ (fun c' hc' => ?_)
          · rw [ec1, sset_ap, if_neg hq]
          · rw [ec1, sset_self, if_pos g]
          · exact ih (x + 1) fu c' (by omega) (by omega) (by omega) hc'
  unfold f_X6_linkAll f_JM_min
  have hS4 := hL.2.2.1
  rw [hL.1, Int.toNat_natCast, hL.2.1]
  have start : f_X6_linkAll_L16 Q FU c0 (S : Int) 0 := loop S 0 FU c0 rfl (Nat.zero_le _) (by show S < 100000; omega) ⟨fun _ _ _ _ _ _ => rfl, fun y => by rw [if_neg (by omega)], fun y => by rw [if_neg (by omega)], fun y => by rw [if_neg (by omega)], fun y => by rw [if_neg (by omega)], fun y hy => by omega, fun y hy => by omega⟩
  refine ⟨hD, ⟨by omega, by omega⟩, ⟨by decide, by decide⟩, fun g => by omega, fun _ => start⟩
end LINK
