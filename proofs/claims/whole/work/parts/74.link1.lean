/-! ===== pure layer: what follows is linked ===== -/
section LINK
variable {T : Nat → Int} {n D : Nat} {z c c' c0 m m' : St} {N S : Nat} {Q : St → Int → Prop}
/-- one statement is linked: its name has been looked up already -/
theorem t_linkOne {x : Nat} {K : St → Prop} (hD : D = 2 ∨ D = 20) (hL : LC c0 D S) (hx : x < S) (hc : LK c0 D x c) (h8 : c0 (D + 1) x = 8 → c0 39 (c0 (D + 2) x).toNat ≠ -1)
    (c1 : St) (hc1 : ∀ q j, ¬ (q = D + 2 ∧ j = x) → c1 q j = c q j) (hc2 : c1 (D + 2) x = if c0 (D + 1) x = 8 then c0 39 (c0 (D + 2) x).toNat else c0 (D + 2) x)
    (hK : ∀ c', LK c0 D (x + 1) c' → K c') : f_X6_linkOne (x : Int) c1 K := by
  have hbn := LK_n hL (Nat.le_of_lt hx) hc
  obtain ⟨l0, lS, lS4, lr, l39, linj⟩ := id hL
  obtain ⟨r1, r42a, r42b, r4a, r4b, r56, r8, r7⟩ := lr x hx
  obtain ⟨cr, c4, c5, c6, c2, c17, cres⟩ := hc
  have row : ∀ q, q ≠ D + 2 → c1 q = c q := fun q hq => by funext j; exact hc1 q j (fun u => hq u.1)
  have e38 : c1 38 0 = (D : Int) := by rw [row 38 (by omega), cr 38 (by omega) (by omega) (by omega) (by omega) (by omega)]; exact l0
  have e1 : c1 (D + 1) x = c0 (D + 1) x := by rw [row _ (by omega), cr _ (by omega) (by omega) (by omega) (by omega) (by omega)]
  have e4 : c1 (D + 4) x = c0 (D + 4) x := by rw [row _ (by omega), c4 x, if_neg (by omega)]
  have e5 : c1 (D + 5) x = c0 (D + 5) x := by rw [row _ (by omega), c5 x, if_neg (by omega)]
  have e6 : c1 (D + 6) x = c0 (D + 6) x := by rw [row _ (by omega), c6 x, if_neg (by omega)]
  have e42 : c1 42 x = c0 42 x := by rw [row _ (by omega), cr _ (by omega) (by omega) (by omega) (by omega) (by omega)]
  -- the value of what follows
  have hnx : ∃ v : Int, v = (if c0 (D + 4) x = -1 then (if c0 42 x = -1 then -1 else c (D + 4) (c0 42 x).toNat) else c0 (D + 4) x) := ⟨_, rfl⟩
  obtain ⟨v, hv⟩ := hnx
  have hvR : inR v := by
    rw [hv]
    split
    · split
      · exact ⟨by decide, by decide⟩
      · have := hbn (c0 42 x).toNat (by omega); exact ⟨by omega, by omega⟩
    · exact ⟨by omega, by omega⟩
  -- the last step
  have fin : ∀ c2', (∀ q, q ≠ D + 2 → q ≠ D + 4 → q ≠ D + 5 → q ≠ D + 6 → c2' q = c q) → c2' (D + 2) = c1 (D + 2) → c2' (D + 4) = va_up (c (D + 4)) x v → c2' (D + 5) = va_up (c (D + 5)) x (if c0 (D + 1) x = 6 ∧ c0 (D + 5) x = -1 then v else c0 (D + 5) x) → c2' (D + 6) = va_up (c (D + 6)) x (if c0 (D + 1) x = 6 ∧ c0 (D + 6) x = -1 then v else c0 (D + 6) x) → f_X6_linkOne_J132 K c2' (x : Int) := by
    intro d dr d2 d4 d5 d6
    have d38 : d 38 0 = (D : Int) := by rw [dr 38 (by omega) (by omega) (by omega) (by omega), ← row 38 (by omega)]; exact e38
    have d1 : d (D + 1) x = c0 (D + 1) x := by rw [dr _ (by omega) (by omega) (by omega) (by omega), ← row _ (by omega)]; exact e1
    -- the relation, whatever the choices' row is
    have rel : ∀ d', (∀ q, q ≠ D + 17 → d' q = d q) → (∀ y : Nat, y < x + 1 → c0 (D + 1) y = 7 → d' (D + 17) (c0 (D + 2) y).toNat = c0 (D + 5) y) → K d' := by
      intro d' hd' h17
      refine hK d' ⟨fun q q1 q2 q3 q4 q5 => ?_, fun y => ?_, fun y => ?_, fun y => ?_, fun y => ?_, h17, fun y hy h8' => ?_⟩
      · rw [hd' q q5, dr q q1 q2 q3 q4]; exact cr q q1 q2 q3 q4 q5
      · rw [hd' (D + 4) (by omega), d4]
        by_cases g : y = x
        · rw [g, vu_eq, hv]
          by_cases g2 : c0 (D + 4) x = -1
          · rw [if_pos g2, if_pos (show x < x + 1 ∧ c0 (D + 4) x = -1 from ⟨by omega, g2⟩)]
            by_cases g3 : c0 42 x = -1
            · rw [if_pos g3, if_pos g3]
            · rw [if_neg g3, if_neg g3, vu_ne _ _ (by omega)]
          · rw [if_neg g2, if_neg (fun u => g2 u.2)]
        · rw [vu_ne _ _ g, c4 y]
          by_cases g2 : y < x ∧ c0 (D + 4) y = -1
          · rw [if_pos g2, if_pos (show y < x + 1 ∧ c0 (D + 4) y = -1 from ⟨by omega, g2.2⟩)]
            by_cases g3 : c0 42 y = -1
            · rw [if_pos g3, if_pos g3]
            · have := lr y (by omega)
              rw [if_neg g3, if_neg g3, vu_ne _ _ (by omega)]
          · rw [if_neg g2, if_neg (fun u => g2 ⟨by omega, u.2⟩)]
      · rw [hd' (D + 5) (by omega), hd' (D + 4) (by omega), d5, d4]
        by_cases g : y = x
        · rw [g, vu_eq, vu_eq]
          by_cases g2 : c0 (D + 1) x = 6 ∧ c0 (D + 5) x = -1
          · rw [if_pos g2, if_pos ⟨by omega, g2⟩]
          · rw [if_neg g2, if_neg (fun u => g2 u.2)]
        · rw [vu_ne _ _ g, vu_ne _ _ g, c5 y]
          by_cases g2 : y < x ∧ c0 (D + 1) y = 6 ∧ c0 (D + 5) y = -1
          · rw [if_pos g2, if_pos ⟨by omega, g2.2⟩]
          · rw [if_neg g2, if_neg (fun u => g2 ⟨by omega, u.2⟩)]
      · rw [hd' (D + 6) (by omega), hd' (D + 4) (by omega), d6, d4]
        by_cases g : y = x
        · rw [g, vu_eq, vu_eq]
          by_cases g2 : c0 (D + 1) x = 6 ∧ c0 (D + 6) x = -1
          · rw [if_pos g2, if_pos ⟨by omega, g2⟩]
          · rw [if_neg g2, if_neg (fun u => g2 u.2)]
        · rw [vu_ne _ _ g, vu_ne _ _ g, c6 y]
          by_cases g2 : y < x ∧ c0 (D + 1) y = 6 ∧ c0 (D + 6) y = -1
          · rw [if_pos g2, if_pos ⟨by omega, g2.2⟩]
          · rw [if_neg g2, if_neg (fun u => g2 ⟨by omega, u.2⟩)]
      · rw [hd' (D + 2) (by omega), d2]
        by_cases g : y = x
        · rw [g, hc2]
          by_cases g2 : c0 (D + 1) x = 8
          · rw [if_pos g2, if_pos ⟨by omega, g2⟩]
          · rw [if_neg g2, if_neg (fun u => g2 u.2)]
        · rw [hc1 (D + 2) y (fun u => g u.2), c2 y]
          by_cases g2 : y < x ∧ c0 (D + 1) y = 8
          · rw [if_pos g2, if_pos ⟨by omega, g2.2⟩]
          · rw [if_neg g2, if_neg (fun u => g2 ⟨by omega, u.2⟩)]
      · by_cases g : y = x
        · rw [g] at h8' ⊢; exact h8 h8'
        · exact cres y (by omega) h8'
    unfold f_X6_linkOne_J132
    rw [d38, Int.toNat_natCast, Int.toNat_natCast, d1]
    refine ⟨hD, by omega, by omega, r1, fun g => rel d (fun _ _ => rfl) (fun y hy h7 => ?_), fun g => ?_⟩
    · rw [dr (D + 17) (by omega) (by omega) (by omega) (by omega)]
      by_cases q : y = x
      · rw [q] at h7; exact absurd h7 g
      · exact c17 y (by omega) h7
    · have w2 : d (D + 2) x = c0 (D + 2) x := by rw [d2, hc2, if_neg (by omega)]
      have w5 : d (D + 5) x = c0 (D + 5) x := by rw [d5, vu_eq, if_neg (by omega)]
      rw [w2, w5]
      obtain ⟨p1, p2⟩ := r7 g
      refine ⟨by omega, by omega, by omega, by omega, t_put (iaD17 hD) (by decide) p1 p2 (rel _ (fun q hq => sset_row _ _ _ hq) (fun y hy h7 => ?_))⟩
      by_cases q : y = x
      · rw [q, sset_self]
      · have hne : (c0 (D + 2) y).toNat ≠ (c0 (D + 2) x).toNat := by
          intro u
          have hy7 := (lr y (by omega)).2.2.2.2.2.2.2 h7
          exact q (linj y x (by omega) hx h7 g (by omega))
        rw [sset_place _ _ _ hne, dr (D + 17) (by omega) (by omega) (by omega) (by omega)]
        exact c17 y (by omega) h7
  -- the tests' blocks
  have mid : ∀ d, (∀ q, q ≠ D + 4 → d q = c1 q) → d (D + 4) = va_up (c (D + 4)) x v → f_X6_linkOne_J38 K d (x : Int) := by
    intro d dr d4
    have d38 : d 38 0 = (D : Int) := by rw [dr 38 (by omega)]; exact e38
    have d1 : d (D + 1) x = c0 (D + 1) x := by rw [dr _ (by omega)]; exact e1
    have d5 : d (D + 5) x = c0 (D + 5) x := by rw [dr _ (by omega)]; exact e5
    have d4x : d (D + 4) x = v := by rw [d4, vu_eq]
    unfold f_X6_linkOne_J38
    rw [d38, Int.toNat_natCast, Int.toNat_natCast, d1, d5, d4x]
    refine ⟨hD, by omega, by omega, r1, fun g => ?_, fun g => ⟨by omega, by omega, ?_⟩⟩
    · refine fin d (fun q q1 q2 q3 q4 => by rw [dr q q2, row q q1]) (dr _ (by omega)) d4 ?_ ?_
      · rw [if_neg (fun u => g u.1), dr _ (by omega), row _ (by omega)]
        funext j
        by_cases q : j = x
        · rw [q, vu_eq, ← row (D + 5) (by omega)]; exact e5
        · rw [vu_ne _ _ q]
      · rw [if_neg (fun u => g u.1), dr _ (by omega), row _ (by omega)]
        funext j
        by_cases q : j = x
        · rw [q, vu_eq, ← row (D + 6) (by omega)]; exact e6
        · rw [vu_ne _ _ q]
    · intro x1 hx1
      rw [hx1]
      have j96 : ∀ w, w = (if c0 (D + 1) x = 6 ∧ c0 (D + 5) x = -1 then v else c0 (D + 5) x) → f_X6_linkOne_J96 K d (x : Int) v (D + 5) (x : Int) w := by
        intro w hw
        unfold f_X6_linkOne_J96
        rw [(iaD5 hD).2]
        refine ⟨(iaD5 hD).1, by omega, by omega, fun d' ed' => ?_⟩
        rw [Int.toNat_natCast] at ed'
        have k38 : d' 38 0 = (D : Int) := by rw [ed', sset_row _ _ _ (by omega)]; exact d38
        have k6 : d' (D + 6) x = c0 (D + 6) x := by rw [ed', sset_row _ _ _ (by omega), dr _ (by omega)]; exact e6
        rw [k38, Int.toNat_natCast, Int.toNat_natCast, k6]
        have j131 : ∀ w2, w2 = (if c0 (D + 1) x = 6 ∧ c0 (D + 6) x = -1 then v else c0 (D + 6) x) → f_X6_linkOne_J131 K d' (x : Int) (D + 6) (x : Int) w2 := by
          intro w2 hw2
          unfold f_X6_linkOne_J131
          rw [(iaD6 hD).2]
          refine ⟨(iaD6 hD).1, by omega, by omega, fun d'' ed'' => ?_⟩
          rw [Int.toNat_natCast] at ed''
          refine fin d'' (fun q q1 q2 q3 q4 => ?_) ?_ ?_ ?_ ?_
          · rw [ed'', sset_row _ _ _ q4, ed', sset_row _ _ _ q3, dr q q2, row q q1]
          · rw [ed'', sset_row _ _ _ (by omega), ed', sset_row _ _ _ (by omega), dr _ (by omega)]
          · rw [ed'', sset_row _ _ _ (by omega), ed', sset_row _ _ _ (by omega)]; exact d4
          · rw [ed'', sset_row _ _ _ (by omega), ed', sset_same, dr _ (by omega), row _ (by omega), hw]
          · rw [ed'', sset_same, ed', sset_row _ _ _ (by omega), dr _ (by omega), row _ (by omega), hw2]
        refine ⟨hD, by omega, by omega, (r56 g).2, fun g2 => ⟨by omega, by omega, j131 _ ?_⟩, fun g2 => j131 _ ?_⟩
        · rw [if_neg (fun u => g2 u.2)]
        · rw [if_pos ⟨g, g2⟩]
      refine ⟨by omega, by omega, (r56 g).1, fun g2 => ⟨by omega, by omega, j96 _ ?_⟩, fun g2 => j96 _ ?_⟩
      · rw [if_neg (fun u => g2 u.2)]
      · rw [if_pos ⟨g, g2⟩]
  unfold f_X6_linkOne
  rw [e38, Int.toNat_natCast, Int.toNat_natCast, e4, e42]
  refine ⟨hD, by omega, by omega, ⟨by omega, by omega⟩, fun g => ?_, fun g => ⟨by omega, by omega, ?_⟩⟩
  · rw [if_neg g] at hv
    refine mid c1 (fun _ _ => rfl) ?_
    rw [row _ (by omega)]
    funext j
    by_cases q : j = x
    · rw [q, vu_eq, hv, ← row (D + 4) (by omega)]; exact e4
    · rw [vu_ne _ _ q]
  · rw [if_pos g] at hv
    refine t_entry (iaD4 hD) (by decide) ⟨by omega, by omega⟩ (fun q1 q2 => ⟨by omega, by omega, fun d ed => mid d (fun q hq => by rw [ed, sset_row _ _ _ hq]) ?_⟩) (fun q => ⟨by omega, by omega, fun d ed => mid d (fun q hq => by rw [ed, sset_row _ _ _ hq]) ?_⟩)
    · rw [ed, sset_same, row _ (by omega), hv, if_neg (by omega)]
    · rw [ed, sset_same, row _ (by omega), hv, if_pos (by omega)]
end LINK
