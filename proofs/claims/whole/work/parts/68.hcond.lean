/-! ===== pure layer: conditions ===== -/
theorem tmr_ok {T : Nat → Int} {n a : Nat} (ha : a ≤ n) : (tmr T n a).2.1 ≤ n ∧ a ≤ (tmr T n a).2.1 ∧ ((tmr T n a).1 = true → a < (tmr T n a).2.1 ∧ TR (tmr T n a).2.2.1 (tmr T n a).2.2.2.1 (tmr T n a).2.2.2.2) ∧ ((tmr T n a).1 = false → sk T n (tmr T n a).2.1 = (tmr T n a).2.1) := by
  have l1 := sk_le (T := T) ha
  have g1 := sk_ge (T := T) ha
  have s1 := sk_sk (T := T) ha
  unfold tmr
  by_cases c1 : ch T n (sk T n a) = 33
  · rw [if_pos c1]
    have p1 : sk T n a < n := ch_pos (T := T) (by omega)
    have l2 : sk T n (sk T n a + 1) ≤ n := sk_le (by omega)
    have g2 : sk T n a + 1 ≤ sk T n (sk T n a + 1) := sk_ge (by omega)
    have s2 := sk_sk (T := T) (n := n) (i := sk T n a + 1) (by omega)
    by_cases c2 : 97 ≤ ch T n (sk T n (sk T n a + 1)) ∧ ch T n (sk T n (sk T n a + 1)) ≤ 102
    · have p2 : sk T n (sk T n a + 1) < n := ch_pos (T := T) (by omega)
      rw [if_pos c2]
      exact ⟨by show sk T n (sk T n a + 1) + 1 ≤ n; omega, by show a ≤ sk T n (sk T n a + 1) + 1; omega, fun _ => ⟨by show a < sk T n (sk T n a + 1) + 1; omega, Or.inl ⟨by show (0 : Int) ≤ 1; decide, by show (1 : Int) < 2; decide, by show 0 ≤ ch T n (sk T n (sk T n a + 1)) - 97; omega, by show ch T n (sk T n (sk T n a + 1)) - 97 ≤ 5; omega⟩⟩, fun g => (by cases g)⟩
    · rw [if_neg c2]
      exact ⟨l2, by show a ≤ sk T n (sk T n a + 1); omega, fun g => (by cases g), fun _ => s2⟩
  · rw [if_neg c1]
    by_cases c2 : 120 ≤ ch T n (sk T n a) ∧ ch T n (sk T n a) ≤ 122
    · rw [if_pos c2]
      have p1 : sk T n a < n := ch_pos (T := T) (by omega)
      have l2 : sk T n (sk T n a + 1) ≤ n := sk_le (by omega)
      have g2 : sk T n a + 1 ≤ sk T n (sk T n a + 1) := sk_ge (by omega)
      have s2 := sk_sk (T := T) (n := n) (i := sk T n a + 1) (by omega)
      by_cases c3 : ch T n (sk T n (sk T n a + 1)) = 60 ∨ ch T n (sk T n (sk T n a + 1)) = 62 ∨ ch T n (sk T n (sk T n a + 1)) = 61
      · rw [if_pos c3]
        have p2 : sk T n (sk T n a + 1) < n := ch_pos (T := T) (by omega)
        have l3 : sk T n (sk T n (sk T n a + 1) + 1) ≤ n := sk_le (by omega)
        have g3 : sk T n (sk T n a + 1) + 1 ≤ sk T n (sk T n (sk T n a + 1) + 1) := sk_ge (by omega)
        have s3 := sk_sk (T := T) (n := n) (i := sk T n (sk T n a + 1) + 1) (by omega)
        by_cases c4 : 48 ≤ ch T n (sk T n (sk T n (sk T n a + 1) + 1)) ∧ ch T n (sk T n (sk T n (sk T n a + 1) + 1)) ≤ 57
        · have p3 : sk T n (sk T n (sk T n a + 1) + 1) < n := ch_pos (T := T) (by omega)
          rw [if_pos c4]
          refine ⟨by show sk T n (sk T n (sk T n a + 1) + 1) + 1 ≤ n; omega, by show a ≤ sk T n (sk T n (sk T n a + 1) + 1) + 1; omega, fun _ => ⟨by show a < sk T n (sk T n (sk T n a + 1) + 1) + 1; omega, Or.inr ?_⟩, fun g => (by cases g)⟩
          have hk : (2 : Int) ≤ (if ch T n (sk T n (sk T n a + 1)) = 60 then 2 else if ch T n (sk T n (sk T n a + 1)) = 62 then 3 else 4) ∧ (if ch T n (sk T n (sk T n a + 1)) = 60 then (2 : Int) else if ch T n (sk T n (sk T n a + 1)) = 62 then 3 else 4) ≤ 4 := by
            split
            · omega
            · split <;> omega
          exact ⟨hk.1, hk.2, by show 0 ≤ ch T n (sk T n a) - 120; omega, by show ch T n (sk T n a) - 120 ≤ 2; omega, by show 0 ≤ ch T n (sk T n (sk T n (sk T n a + 1) + 1)) - 48; omega, by show ch T n (sk T n (sk T n (sk T n a + 1) + 1)) - 48 ≤ 9; omega⟩
        · rw [if_neg c4]
          exact ⟨l3, by show a ≤ sk T n (sk T n (sk T n a + 1) + 1); omega, fun g => (by cases g), fun _ => s3⟩
      · rw [if_neg c3]
        exact ⟨l2, by show a ≤ sk T n (sk T n a + 1); omega, fun g => (by cases g), fun _ => s2⟩
    · rw [if_neg c2]
      by_cases c3 : 97 ≤ ch T n (sk T n a) ∧ ch T n (sk T n a) ≤ 102
      · have p1 : sk T n a < n := ch_pos (T := T) (by omega)
        rw [if_pos c3]
        exact ⟨by show sk T n a + 1 ≤ n; omega, by show a ≤ sk T n a + 1; omega, fun _ => ⟨by show a < sk T n a + 1; omega, Or.inl ⟨by show (0 : Int) ≤ 0; decide, by show (0 : Int) < 2; decide, by show 0 ≤ ch T n (sk T n a) - 97; omega, by show ch T n (sk T n a) - 97 ≤ 5; omega⟩⟩, fun g => (by cases g)⟩
      · rw [if_neg c3]
        exact ⟨l1, g1, fun g => (by cases g), fun _ => s1⟩
section HCOND
variable {T : Nat → Int} {n D a a' am p : Nat} {z c c' m m' : St} {φ : Nat → Nat} {e : Nat → Int} {N S B nd ck ts tm dp b : Nat} {R : St → St → Prop} {Q : St → Int → Prop} {w x y f w' x' y' : Int}
/-- the class's state behind a term -/
def cTm (c : St) (D : Nat) (k o v : Int) (tm xs : Nat) : St := sset (sset (sset (sset (sset (sset c (D + 10) tm k) (D + 11) tm o) (D + 12) tm v) (D + 9) 0 ((tm : Int) + 1)) (D + 8) xs ((tm : Int) + 1)) 38 1 12
theorem t_addTerm {k o v : Int} {xs : Nat} (hD : D = 2 ∨ D = 20) (h0 : c 38 0 = (D : Int)) (ht : c (D + 9) 0 = (tm : Int)) (ht2 : tm < 200) (h2 : c 38 2 = (dp : Int)) (hd1 : 1 ≤ dp) (hd6 : dp ≤ 6) (hx : c 40 dp = (xs : Int)) (hx4 : xs < 400) (hQ : Q (cTm c D k o v tm xs) 1) : f_X6_addTerm k o v c Q := by
  have hTt : isT (D + 9) := by rcases hD with rfl | rfl; exact Or.inl rfl; exact Or.inr rfl
  unfold f_X6_addTerm f_X8_append
  rw [h0, Int.toNat_natCast, ht]
  refine ⟨hD, hTt, ⟨by omega, by omega⟩, fun g => by omega, fun _ => ⟨⟨by omega, by omega⟩, fun _ => ⟨by omega, by omega, fun σ1 e1 => ?_⟩, fun g => by omega⟩⟩
  rw [Int.toNat_natCast] at e1
  have t1 : σ1 (D + 9) 0 = (tm : Int) := by rw [e1, sset_row _ _ _ (by omega)]; exact ht
  rw [t1, Int.toNat_natCast]
  refine ⟨by omega, by omega, fun σ2 e2 => ?_⟩
  have t2 : σ2 (D + 9) 0 = (tm : Int) := by rw [e2, sset_row _ _ _ (by omega)]; exact t1
  rw [t2, Int.toNat_natCast]
  refine ⟨by omega, by omega, fun σ3 e3 σ4 e4 => ?_⟩
  have t3 : σ3 (D + 9) 0 = (tm : Int) := by rw [e3, sset_row _ _ _ (by omega)]; exact t2
  rw [t3] at e4
  have r4 : ∀ q, q = 38 ∨ q = 40 → σ4 q = c q := fun q hq => by rw [e4, sset_row _ _ _ (by omega), e3, sset_row _ _ _ (by omega), e2, sset_row _ _ _ (by omega), e1, sset_row _ _ _ (by omega)]
  show isS (σ4 38 0).toNat ∧ f_X9_entryOf 40 (σ4 38 2) σ4 (fun σ2 r1 => isS (σ2 38 0).toNat ∧ f_X9_putEntry ((σ4 38 0).toNat + 8) r1 (σ2 ((σ2 38 0).toNat + 9) 0) σ2 (fun σ3 => f_X6_await 12 σ3 (fun σ4 r2 => (r2 = 0 ∨ r2 = 1) ∧ Q σ4 r2)))
  rw [r4 38 (Or.inl rfl), h0, Int.toNat_natCast, h2]
  refine ⟨hD, t_entry ia40 (by decide) ⟨by omega, by omega⟩ (fun _ _ => ?_) (fun g => by omega)⟩
  rw [Int.toNat_natCast, r4 40 (Or.inr rfl), hx, r4 38 (Or.inl rfl), h0, Int.toNat_natCast]
  refine ⟨hD, t_put (iaD8 hD) (by decide) (by omega) (by omega) (t_await ⟨Or.inr rfl, ?_⟩)⟩
  rw [e4, sset_self, Int.toNat_natCast, e3, e2, e1]
  exact hQ
theorem cTm_38 (hD : D = 2 ∨ D = 20) {k o v : Int} {xs : Nat} : cTm c D k o v tm xs 38 1 = 12 ∧ ∀ j, j ≠ 1 → cTm c D k o v tm xs 38 j = c 38 j := by
  unfold cTm
  refine ⟨sset_self _ _ _ _, fun j hj => ?_⟩
  rw [sset_place _ _ _ hj, sset_row _ _ _ (by omega), sset_row _ _ _ (by omega), sset_row _ _ _ (by omega), sset_row _ _ _ (by omega), sset_row _ _ _ (by omega)]
theorem cTm_r (hD : D = 2 ∨ D = 20) {k o v : Int} {xs : Nat} : cTm c D k o v tm xs (D + 10) = va_up (c (D + 10)) tm k ∧ cTm c D k o v tm xs (D + 11) = va_up (c (D + 11)) tm o ∧ cTm c D k o v tm xs (D + 12) = va_up (c (D + 12)) tm v ∧ cTm c D k o v tm xs (D + 8) = va_up (c (D + 8)) xs ((tm + 1 : Nat) : Int) ∧ (∀ q, q ≠ 38 → q ≠ D + 8 → q ≠ D + 9 → q ≠ D + 10 → q ≠ D + 11 → q ≠ D + 12 → cTm c D k o v tm xs q = c q) ∧ cTm c D k o v tm xs (D + 9) 0 = ((tm + 1 : Nat) : Int) := by
  unfold cTm
  refine ⟨?_, ?_, ?_, ?_, fun q q1 q2 q3 q4 q5 q6 => ?_, ?_⟩
  · rw [sset_row _ _ _ (by omega), sset_row _ _ _ (by omega), sset_row _ _ _ (by omega), sset_row _ _ _ (by omega), sset_row _ _ _ (by omega), sset_same]
  · rw [sset_row _ _ _ (by omega), sset_row _ _ _ (by omega), sset_row _ _ _ (by omega), sset_row _ _ _ (by omega), sset_same, sset_row _ _ _ (by omega)]
  · rw [sset_row _ _ _ (by omega), sset_row _ _ _ (by omega), sset_row _ _ _ (by omega), sset_same, sset_row _ _ _ (by omega), sset_row _ _ _ (by omega)]
  · rw [sset_row _ _ _ (by omega), sset_same, sset_row _ _ _ (by omega), sset_row _ _ _ (by omega), sset_row _ _ _ (by omega), sset_row _ _ _ (by omega)]; rfl
  · rw [sset_row _ _ _ q1, sset_row _ _ _ q2, sset_row _ _ _ q3, sset_row _ _ _ q6, sset_row _ _ _ q5, sset_row _ _ _ q4]
  · rw [sset_row _ _ _ (by omega), sset_row _ _ _ (by omega), sset_self]; rfl
/-- the class reads a term -/
theorem C_term {c0 : St} {xs : Nat} (hD : D = 2 ∨ D = 20) (hT : CT T n c) (hF : FC D c0 c) (h1 : c 38 1 = 8) (h3 : c 38 3 = (a : Int)) (ha : a ≤ n) (h0 : c 38 0 = (D : Int)) (ht : c (D + 9) 0 = (tm : Int)) (ht2 : tm < 200) (h2 : c 38 2 = (dp : Int)) (hd1 : 1 ≤ dp) (hd6 : dp ≤ 6) (hx : c 40 dp = (xs : Int)) (hx4 : xs < 400)
    (hbad : (tmr T n a).1 = false → ∀ c', FC D c0 c' → Q c' (((tmr T n a).2.1 : Nat) : Int))
    (hgood : (tmr T n a).1 = true → ∀ c1, CX c c1 → CLB Q n (sset (cTm c1 D (tmr T n a).2.2.1 (tmr T n a).2.2.2.1 (tmr T n a).2.2.2.2 tm xs) 38 3 (((tmr T n a).2.1 : Nat) : Int)) (tmr T n a).2.1) : CLB Q n c a := by
  have hn := hT.1
  have x0 := fun {c1 : St} (hc : CX c c1) => hc.2.1.trans h0
  -- a term is added
  have addT : ∀ (c1 : St) (K : St → Int → Prop) (k o v : Int) (q : Nat), CX c c1 → (∀ τ, KT Q n q τ 1 → K τ 1) → c1 38 3 = (q : Int) → c1 38 4 = 1 → CLB Q n (sset (cTm c1 D k o v tm xs) 38 3 ((q + 1 : Nat) : Int)) (q + 1) → f_X6_addTerm k o v c1 K := by
    intro c1 K k o v q hc hK h31 h41 hL
    obtain ⟨k1, k38⟩ := cTm_38 (c := c1) (D := D) (k := k) (o := o) (v := v) (tm := tm) (xs := xs) hD
    refine t_addTerm hD (x0 hc) (by rw [hc.1 (D + 9) (by omega)]; exact ht) ht2 (hc.2.2.trans h2) hd1 hd6 (by rw [hc.1 40 (by decide)]; exact hx) hx4 (hK _ ?_)
    exact KT_ok (w := 1) (by rw [k38 3 (by decide)]; exact h31) (by rw [k38 4 (by decide)]; exact h41) (by decide) hL
  have endQ : ∀ (c1 : St) (k : Int), CX c c1 → c1 38 1 = k → (k = 8 ∨ k = 9 ∨ k = 10 ∨ k = 11) → Q c1 (n : Int) → f_X6_read_J100 Q c1 (n : Int) := fun c1 k hc hk hk2 hq => j100_no (by rw [hc.2.2, h2]; exact ⟨by omega, by omega⟩) (by rw [hk]; exact ⟨by omega, by omega⟩) (by rw [hk]; omega) hq
  unfold tmr at hbad hgood
  refine c_next hT ha h3 (fun hen c3 hc3 h33 => ?_) (fun hlt c3 hc3 h33 h34 _ _ K' hK' => ?_)
  · have x3 := CX_ce hc3
    have hch : ch T n (sk T n a) = -1 := by rw [hen, ch_ge (by omega)]
    rw [if_neg (by omega), if_neg (by omega), if_neg (by omega)] at hbad
    have := hbad rfl c3 (FC_cx x3 hF)
    rw [hen] at this
    exact endQ c3 8 x3 (by rw [hc3.2 1 (by omega)]; exact h1) (by omega) this
  · have x3 := CX_ce hc3
    have w1 : c3 38 1 = 8 := by rw [hc3.2 1 (by omega)]; exact h1
    have hr := hT.2.1 (sk T n a)
    have hge := sk_ge (T := T) ha
    have hch := ch_lt (T := T) hlt
    rw [hch] at hbad hgood
    refine g_8 w1 (ic_8 w1 ?_)
    unfold f_X6_takesTermBegin
    refine ⟨⟨by omega, by omega⟩, fun g33 => ?_, fun g33 => ?_⟩
    · rw [if_neg g33] at hbad hgood
      refine t_isFlag ⟨by omega, by omega⟩ (fun q1 q2 => ⟨⟨by decide, by decide⟩, fun g => absurd g (by decide), fun _ => ?_⟩) (fun qf => ⟨⟨by decide, by decide⟩, fun _ c4 e4 => ?_, fun g => absurd rfl g⟩)
      · rw [if_neg (by omega), if_pos ⟨q1, q2⟩] at hgood
        exact addT c3 _ _ _ _ (sk T n a) x3 (fun τ hk => ⟨Or.inr rfl, Or.inr rfl, Or.inr rfl, hK' _ _ hk⟩) h33 h34 (hgood rfl c3 x3)
      · have x4 : CX c c4 := by rw [e4]; exact CX_tr x3 (CX_set (by decide) (by decide))
        have h43 : c4 38 3 = ((sk T n a : Nat) : Int) := by rw [e4, sset_place _ _ _ (by decide)]; exact h33
        refine t_isMeter ⟨by omega, by omega⟩ (fun q1 q2 => ⟨⟨by decide, by decide⟩, fun g => absurd g (by decide), fun _ => ?_⟩) (fun qm => ⟨⟨by decide, by decide⟩, fun _ => ?_, fun g => absurd rfl g⟩)
        · -- a meter: its sign
          rw [if_pos ⟨q1, q2⟩] at hbad hgood
          refine t_await ⟨⟨by decide, by decide⟩, fun g => absurd g (by decide), fun _ => ⟨Or.inr rfl, Or.inr rfl, hK' _ _ ?_⟩⟩
          refine KT_ok (w := 1) (by rw [sset_place _ _ _ (by decide)]; exact h43) (by rw [sset_place _ _ _ (by decide), e4, sset_place _ _ _ (by decide)]; exact h34) (by decide) ?_
          have x5 : CX c (sset (sset c4 38 1 10) 38 3 ((sk T n a + 1 : Nat) : Int)) := CX_tr x4 (CX_tr (CX_set (by decide) (by decide)) (CX_set (by decide) (by decide)))
          have v1 : sset (sset c4 38 1 10) 38 3 ((sk T n a + 1 : Nat) : Int) 38 1 = 10 := by rw [sset_place _ _ _ (by decide), sset_self]
          have v8 : sset (sset c4 38 1 10) 38 3 ((sk T n a + 1 : Nat) : Int) 38 8 = T (sk T n a) - 120 := by rw [sset_place _ _ _ (by decide), sset_place _ _ _ (by decide), e4, sset_self]
          have v3 : sset (sset c4 38 1 10) 38 3 ((sk T n a + 1 : Nat) : Int) 38 3 = ((sk T n a + 1 : Nat) : Int) := sset_self _ _ _ _
          generalize sset (sset c4 38 1 10) 38 3 ((sk T n a + 1 : Nat) : Int) = c5 at x5 v1 v8 v3
          refine c_next (CT_cx x5 hT) (by omega) v3 (fun hen c6 hc6 h63 => ?_) (fun hlt2 c6 hc6 h63 h64 _ _ K2 hK2 => ?_)
          · have x6 := CX_tr x5 (CX_ce hc6)
            have hch2 : ch T n (sk T n (sk T n a + 1)) = -1 := by rw [hen, ch_ge (by omega)]
            rw [if_neg (by omega)] at hbad
            have := hbad rfl c6 (FC_cx x6 hF)
            rw [hen] at this
            exact endQ c6 10 x6 (by rw [hc6.2 1 (by omega)]; exact v1) (by omega) this
          · have x6 := CX_tr x5 (CX_ce hc6)
            have w6 : c6 38 1 = 10 := by rw [hc6.2 1 (by omega)]; exact v1
            have w8 : c6 38 8 = T (sk T n a) - 120 := by rw [hc6.2 8 (by omega)]; exact v8
            have hr2 := hT.2.1 (sk T n (sk T n a + 1))
            have hge2 := sk_ge (T := T) (n := n) (i := sk T n a + 1) (by omega)
            have hch2 := ch_lt (T := T) hlt2
            rw [hch2] at hbad hgood
            have sign : ∀ so : Int, (T (sk T n (sk T n a + 1)) = 60 ∨ T (sk T n (sk T n a + 1)) = 62 ∨ T (sk T n (sk T n a + 1)) = 61) → so = (if T (sk T n (sk T n a + 1)) = 60 then 2 else if T (sk T n (sk T n a + 1)) = 62 then 3 else 4) → f_X6_beginsStatement so 11 c6 (fun τ r => (r = 0 ∨ r = 1) ∧ (r = 0 ∨ r = 1) ∧ (r = 0 ∨ r = 1) ∧ K2 τ r) := by
              intro so hsg hso
              rw [if_pos hsg, ← hso] at hgood
              rw [if_pos hsg] at hbad
              unfold f_X6_beginsStatement
              intro c7 e7
              refine t_await ⟨Or.inr rfl, Or.inr rfl, Or.inr rfl, Or.inr rfl, hK2 _ _ ?_⟩
              refine KT_ok (w := 1) (by rw [sset_place _ _ _ (by decide), e7, sset_place _ _ _ (by decide)]; exact h63) (by rw [sset_place _ _ _ (by decide), e7, sset_place _ _ _ (by decide)]; exact h64) (by decide) ?_
              have x8 : CX c (sset (sset c7 38 1 11) 38 3 ((sk T n (sk T n a + 1) + 1 : Nat) : Int)) := CX_tr x6 (by rw [e7]; exact CX_tr (CX_tr (CX_set (by decide) (by decide)) (CX_set (by decide) (by decide))) (CX_set (by decide) (by decide)))
              have u1 : sset (sset c7 38 1 11) 38 3 ((sk T n (sk T n a + 1) + 1 : Nat) : Int) 38 1 = 11 := by rw [sset_place _ _ _ (by decide), sset_self]
              have u7 : sset (sset c7 38 1 11) 38 3 ((sk T n (sk T n a + 1) + 1 : Nat) : Int) 38 7 = so := by rw [sset_place _ _ _ (by decide), sset_place _ _ _ (by decide), e7, sset_self]
              have u8 : sset (sset c7 38 1 11) 38 3 ((sk T n (sk T n a + 1) + 1 : Nat) : Int) 38 8 = T (sk T n a) - 120 := by rw [sset_place _ _ _ (by decide), sset_place _ _ _ (by decide), e7, sset_place _ _ _ (by decide)]; exact w8
              have u3 : sset (sset c7 38 1 11) 38 3 ((sk T n (sk T n a + 1) + 1 : Nat) : Int) 38 3 = ((sk T n (sk T n a + 1) + 1 : Nat) : Int) := sset_self _ _ _ _
              generalize sset (sset c7 38 1 11) 38 3 ((sk T n (sk T n a + 1) + 1 : Nat) : Int) = c8 at x8 u1 u7 u8 u3
              refine c_next (CT_cx x8 hT) (by omega) u3 (fun hen c9 hc9 h93 => ?_) (fun hlt3 c9 hc9 h93 h94 _ _ K3 hK3 => ?_)
              · have x9 := CX_tr x8 (CX_ce hc9)
                have hch3 : ch T n (sk T n (sk T n (sk T n a + 1) + 1)) = -1 := by rw [hen, ch_ge (by omega)]
                rw [if_neg (by omega)] at hbad
                have := hbad rfl c9 (FC_cx x9 hF)
                rw [hen] at this
                exact endQ c9 11 x9 (by rw [hc9.2 1 (by omega)]; exact u1) (by omega) this
              · have x9 := CX_tr x8 (CX_ce hc9)
                have w9 : c9 38 1 = 11 := by rw [hc9.2 1 (by omega)]; exact u1
                have w97 : c9 38 7 = so := by rw [hc9.2 7 (by omega)]; exact u7
                have w98 : c9 38 8 = T (sk T n a) - 120 := by rw [hc9.2 8 (by omega)]; exact u8
                have hr3 := hT.2.1 (sk T n (sk T n (sk T n a + 1) + 1))
                have hch3 := ch_lt (T := T) hlt3
                rw [hch3] at hbad hgood
                refine g_11 w9 (ic_11 w9 (t_isDigit ⟨by omega, by omega⟩ (fun d1 d2 => ⟨⟨by decide, by decide⟩, fun g => absurd g (by decide), fun _ => ?_⟩) (fun qd => ⟨⟨by decide, by decide⟩, fun _ => ?_, fun g => absurd rfl g⟩)))
                · rw [if_pos ⟨d1, d2⟩] at hgood
                  rw [w97, w98]
                  exact addT c9 _ _ _ _ _ x9 (fun τ hk => ⟨⟨by decide, by decide⟩, fun g => absurd g (by decide), fun _ => ⟨Or.inr rfl, hK3 _ _ hk⟩⟩) h93 h94 (hgood rfl c9 x9)
                · rw [if_neg (by omega)] at hbad
                  exact ⟨Or.inl rfl, hK3 _ _ (KT_no h93 (hbad rfl c9 (FC_cx x9 hF)))⟩
            refine g_10 w6 (ic_10 w6 ?_)
            unfold f_X6_takesTermSign
            refine ⟨⟨by omega, by omega⟩, fun g => sign 2 (by omega) (by rw [if_pos g]), fun g => sign 4 (by omega) (by rw [if_neg (by omega), if_neg (by omega)]), fun g => sign 3 (by omega) (by rw [if_neg (by omega), if_pos g]), fun g => ?_⟩
            rw [if_neg (by omega)] at hbad
            exact ⟨Or.inl rfl, Or.inl rfl, hK2 _ _ (KT_no h63 (hbad rfl c6 (FC_cx x6 hF)))⟩
        · -- no term at all
          rw [if_neg (by omega), if_neg (by omega)] at hbad
          exact ⟨Or.inl rfl, Or.inl rfl, hK' _ _ (KT_no h43 (hbad rfl c4 (FC_cx x4 hF)))⟩
    · -- a flag that is lowered
      rw [if_pos g33] at hbad hgood
      refine t_await ⟨Or.inr rfl, Or.inr rfl, Or.inr rfl, hK' _ _ ?_⟩
      refine KT_ok (w := 1) (by rw [sset_place _ _ _ (by decide)]; exact h33) (by rw [sset_place _ _ _ (by decide)]; exact h34) (by decide) ?_
      have x5 : CX c (sset (sset c3 38 1 9) 38 3 ((sk T n a + 1 : Nat) : Int)) := CX_tr x3 (CX_tr (CX_set (by decide) (by decide)) (CX_set (by decide) (by decide)))
      have v1 : sset (sset c3 38 1 9) 38 3 ((sk T n a + 1 : Nat) : Int) 38 1 = 9 := by rw [sset_place _ _ _ (by decide), sset_self]
      have v3 : sset (sset c3 38 1 9) 38 3 ((sk T n a + 1 : Nat) : Int) 38 3 = ((sk T n a + 1 : Nat) : Int) := sset_self _ _ _ _
      generalize sset (sset c3 38 1 9) 38 3 ((sk T n a + 1 : Nat) : Int) = c5 at x5 v1 v3
      refine c_next (CT_cx x5 hT) (by omega) v3 (fun hen c6 hc6 h63 => ?_) (fun hlt2 c6 hc6 h63 h64 _ _ K2 hK2 => ?_)
      · have x6 := CX_tr x5 (CX_ce hc6)
        have hch2 : ch T n (sk T n (sk T n a + 1)) = -1 := by rw [hen, ch_ge (by omega)]
        rw [if_neg (by omega)] at hbad
        have := hbad rfl c6 (FC_cx x6 hF)
        rw [hen] at this
        exact endQ c6 9 x6 (by rw [hc6.2 1 (by omega)]; exact v1) (by omega) this
      · have x6 := CX_tr x5 (CX_ce hc6)
        have w6 : c6 38 1 = 9 := by rw [hc6.2 1 (by omega)]; exact v1
        have hr2 := hT.2.1 (sk T n (sk T n a + 1))
        have hch2 := ch_lt (T := T) hlt2
        rw [hch2] at hbad hgood
        refine g_9 w6 (ic_9 w6 (t_isFlag ⟨by omega, by omega⟩ (fun d1 d2 => ⟨⟨by decide, by decide⟩, fun g => absurd g (by decide), fun _ => ?_⟩) (fun qd => ⟨⟨by decide, by decide⟩, fun _ => ?_, fun g => absurd rfl g⟩)))
        · rw [if_pos ⟨d1, d2⟩] at hgood
          exact addT c6 _ _ _ _ _ x6 (fun τ hk => ⟨⟨by decide, by decide⟩, fun g => absurd g (by decide), fun _ => ⟨Or.inr rfl, hK2 _ _ hk⟩⟩) h63 h64 (hgood rfl c6 x6)
        · rw [if_neg (by omega)] at hbad
          exact ⟨Or.inl rfl, hK2 _ _ (KT_no h63 (hbad rfl c6 (FC_cx x6 hF)))⟩
end HCOND
