/-! ===== pure layer: the class goes through tests, choices, ends ===== -/
section GOSORT2
variable {c : St} {A E : Nat → Nat → Nat} {D S H x : Nat}
/-- an ending -/
theorem G_10 (hD : D = 2 ∨ D = 20) (h65 : c 65 0 = (D : Int)) (hS4 : S ≤ 400) (hx : x < S) (hA : CAr x c A) (hE : CEr c E) (hV : AVs A) (h2 : c 65 2 = 0 ∨ c 65 2 = 1) (hx0 : A x 0 ≠ 0) (hk : c (D + 1) x = 10) : ∃ (c1 : St) (A1 E1 : Nat → Nat → Nat), GST c c1 D H A A1 E E1 x ∧ GOUT c c1 D x (A x) ∧ ∀ Q : St → Prop, Q c1 → f_X0_goThrough (x : Int) (c 68 x) (c (D + 2) x) c Q := by
  have hg : GST c c D H A A E E x := G_ent (CAr_suc hA) hV (by omega) hx0 (EST_refl hE h2)
    (fun E' h u => ⟨fun w => by omega, fun w => by omega, fun w => by omega, fun w _ => by omega, fun w => by omega, fun w => by omega, fun w => by omega, fun w => by omega, fun w => by omega, fun w => by omega⟩)
    (fun A2 E2 h hs u i hi e => e.elim)
  exact ⟨sset c 65 9 (ior32 (c 65 9) (ishl32 1 (c (D + 2) x))), A, E, GST_65 (Or.inl rfl) hg, ⟨by rw [if_neg (by omega), sset_row _ _ _ (by decide)], by rw [if_pos hk, sset_self], by rw [if_neg (by omega), sset_place _ _ _ (by decide)]⟩, fun Q hQ => gt_10 hD h65 (by omega) hk hQ⟩
/-- the end of a node -/
theorem G_11 (hD : D = 2 ∨ D = 20) (h65 : c 65 0 = (D : Int)) (hS4 : S ≤ 400) (hx : x < S) (hA : CAr x c A) (hE : CEr c E) (hV : AVs A) (h2 : c 65 2 = 0 ∨ c 65 2 = 1) (hx0 : A x 0 ≠ 0) (hk : c (D + 1) x = 11) : ∃ (c1 : St) (A1 E1 : Nat → Nat → Nat), GST c c1 D H A A1 E E1 x ∧ GOUT c c1 D x (A x) ∧ ∀ Q : St → Prop, Q c1 → f_X0_goThrough (x : Int) (c 68 x) (c (D + 2) x) c Q := by
  obtain ⟨a1, a2, a3⟩ := hA x (Nat.le_refl _) (by omega)
  obtain ⟨o1, o2⟩ := a2 hx0
  have av := a3.2 (by rcases KV_01 a3.1 with z | z; exact absurd z hx0; exact z)
  obtain ⟨c1, E1, i1, i2⟩ := t_joinChoices (O := A x 9) av.1 hE a3.1 h2
  have hg : GST c c1 D H A A E E1 x := G_ent (CAr_suc hA) hV (by omega) hx0 i1
    (fun E' h u => ⟨fun w => by omega, fun w => by omega, fun w => by omega, fun w _ => by omega, fun w => by omega, fun w => by omega, fun w => by omega, fun w => by omega, fun _ k hk hb => h (12 + k) (by omega) ⟨by omega, by rw [show 12 + k - 12 = k by omega]; exact hb⟩, fun w => by omega⟩)
    (fun A2 E2 h hs u i hi e => by
      have := (h u).2.2.2.2.2.2.2.2.1 (Or.inl hk) (i - 12) (by omega) (by
        rcases hs with z | ⟨-, k6, -⟩
        · exact absurd z hx0
        · exact k6 _ e.2)
      rw [show 12 + (i - 12) = i by omega] at this
      exact this)
  have e65 := i1.2.2.2.2.2.1
  have e70 := i1.2.2.2.2.1 70 (by decide) (by decide) (by decide)
  have e71 := i1.2.2.2.2.1 71 (by decide) (by decide) (by decide)
  have pre : ∀ Q : St → Prop, (A x 10 ≠ 0 → Q c1) → (A x 10 = 0 → Q (sset c1 65 10 (ior32 (c1 65 10) (ishl32 1 (c (D + 2) x))))) → f_X0_goThrough (x : Int) (c 68 x) (c (D + 2) x) c Q := by
    intro Q h1 h0
    refine gt_11 hD h65 (by omega) hk ?_
    unfold f_X0_endNode
    rw [Int.toNat_natCast, o1, a1]
    refine ⟨by omega, by omega, i2 _ ⟨by omega, by omega, ?_⟩⟩
    rw [e70, o2]
    exact ⟨⟨by omega, by omega⟩, fun u => h1 (by omega), fun u σ2 f2 => by rw [f2]; exact h0 (by omega)⟩
  by_cases q : A x 10 = 0
  · exact ⟨sset c1 65 10 (ior32 (c1 65 10) (ishl32 1 (c (D + 2) x))), A, E1, GST_65 (Or.inr rfl) hg, ⟨by rw [if_neg (by omega), sset_row _ _ _ (by decide)]; exact e71, by rw [if_neg (by omega), sset_place _ _ _ (by decide)]; exact e65 9 (by decide), by rw [if_pos (Or.inr ⟨hk, q⟩), sset_self, e65 10 (by decide)]⟩, fun Q hQ => pre Q (fun u => absurd q u) (fun _ => hQ)⟩
  · exact ⟨c1, A, E1, hg, ⟨by rw [if_neg (by omega)]; exact e71, by rw [if_neg (by omega)]; exact e65 9 (by decide), by rw [if_neg (by omega)]; exact e65 10 (by decide)⟩, fun Q hQ => pre Q (fun _ => hQ) (fun u => absurd u q)⟩
/-- the end of a choice -/
theorem G_c12 (hD : D = 2 ∨ D = 20) (h65 : c 65 0 = (D : Int)) (hS4 : S ≤ 400) (hx : x < S) (hq : XQ c D S x) (hA : CAr x c A) (hE : CEr c E) (hV : AVs A) (h2 : c 65 2 = 0 ∨ c 65 2 = 1) (hx0 : A x 0 ≠ 0) (hk : c (D + 1) x = 12) : ∃ (c1 : St) (A1 E1 : Nat → Nat → Nat), GST c c1 D H A A1 E E1 x ∧ GOUT c c1 D x (A x) ∧ ∀ Q : St → Prop, Q c1 → f_X0_goThrough (x : Int) (c 68 x) (c (D + 2) x) c Q := by
  obtain ⟨a1, a2, a3⟩ := hA x (Nat.le_refl _) (by omega)
  obtain ⟨o1, o2⟩ := a2 hx0
  have av := a3.2 (by rcases KV_01 a3.1 with z | z; exact absurd z hx0; exact z)
  obtain ⟨w1, w2, w3, w4⟩ := hq.2.2.2.2.2.2.2.2 hk
  obtain ⟨n, hn⟩ : ∃ n : Nat, c (D + 16) (c (D + 2) x).toNat = (n : Int) := ⟨(c (D + 16) (c (D + 2) x).toNat).toNat, by omega⟩
  obtain ⟨c2, E2, i1, i2⟩ := t_joinChoices (O := A x 9) av.1 hE a3.1 h2
  have e65 := i1.2.2.2.2.2.1
  have e70 := i1.2.2.2.2.1 70 (by decide) (by decide) (by decide)
  have e71 := i1.2.2.2.2.1 71 (by decide) (by decide) (by decide)
  have ia16 : isIA KC (D + 16) ∧ alen KC (D + 16) = 16 := by rcases hD with rfl | rfl <;> exact ⟨by unfold isIA; decide, by decide⟩
  by_cases q : A x 10 = 0
  · obtain ⟨c1, E1, j1, j2⟩ := t_joinNode (n := n) (by omega) i1.1 a3.1 i1.2.2.2.2.2.2.1
    have tr := EST_trans hE i1 j1
    have hg : GST c c1 D H A A E E1 x := G_ent (CAr_suc hA) hV (by omega) hx0 tr
      (fun E' h u => ⟨fun w => by omega, fun w => by omega, fun w => by omega, fun w _ => by omega, fun w => by omega, fun w => by omega, fun w => by omega, fun w => by omega, fun _ k hk hb => h (12 + k) (by omega) (Or.inl ⟨by omega, by rw [show 12 + k - 12 = k by omega]; exact hb⟩), fun _ _ => by rw [hn, Int.toNat_natCast]; exact h n (by omega) (Or.inr rfl)⟩)
      (fun A2 E2 h hs u i hi e => by
        rcases e with e | e
        · have := (h u).2.2.2.2.2.2.2.2.1 (Or.inr hk) (i - 12) (by omega) (by
            rcases hs with z | ⟨-, k6, -⟩
            · exact absurd z hx0
            · exact k6 _ e.2)
          rw [show 12 + (i - 12) = i by omega] at this
          exact this
        · have := (h u).2.2.2.2.2.2.2.2.2 hk (by
            rcases hs with z | ⟨-, -, k7⟩
            · exact absurd z hx0
            · rw [q] at k7
              apply Nat.eq_of_testBit_eq
              intro j
              rw [Nat.zero_testBit]
              cases y : (A2 x 10).testBit j
              · rfl
              · have := k7 j y; rw [Nat.zero_testBit] at this; exact this.symm)
          rw [hn, Int.toNat_natCast] at this
          rw [e]; exact this)
    refine ⟨c1, A, E1, hg, GOUT_same (by omega) (tr.2.2.2.2.1 71 (by decide) (by decide) (by decide)) (fun i hi => tr.2.2.2.2.2.1 i hi), fun Q hQ => gt_12 hD h65 (by omega) hk ?_⟩
    unfold f_X0_endChoice
    rw [Int.toNat_natCast, o1, a1]
    refine ⟨by omega, by omega, i2 _ ⟨by omega, by omega, ?_⟩⟩
    rw [e70, o2, e65 0 (by decide), h65, Int.toNat_natCast]
    refine ⟨⟨by omega, by omega⟩, fun u => by omega, fun _ => ⟨hD, t_entry ia16 (by decide) ⟨by omega, by omega⟩ (fun _ _ => ?_) (fun u => by omega)⟩⟩
    rw [i1.2.2.2.2.1 (D + 16) (by omega) (by omega) (by omega), hn]
    exact j2 Q hQ
  · have hg : GST c c2 D H A A E E2 x := G_ent (CAr_suc hA) hV (by omega) hx0 i1
      (fun E' h u => ⟨fun w => by omega, fun w => by omega, fun w => by omega, fun w _ => by omega, fun w => by omega, fun w => by omega, fun w => by omega, fun w => by omega, fun _ k hk hb => h (12 + k) (by omega) ⟨by omega, by rw [show 12 + k - 12 = k by omega]; exact hb⟩, fun _ w => absurd w q⟩)
      (fun A2 E2 h hs u i hi e => by
        have := (h u).2.2.2.2.2.2.2.2.1 (Or.inr hk) (i - 12) (by omega) (by
          rcases hs with z | ⟨-, k6, -⟩
          · exact absurd z hx0
          · exact k6 _ e.2)
        rw [show 12 + (i - 12) = i by omega] at this
        exact this)
    refine ⟨c2, A, E2, hg, GOUT_same (by omega) e71 (fun i hi => e65 i hi), fun Q hQ => gt_12 hD h65 (by omega) hk ?_⟩
    unfold f_X0_endChoice
    rw [Int.toNat_natCast, o1, a1]
    refine ⟨by omega, by omega, i2 _ ⟨by omega, by omega, ?_⟩⟩
    rw [e70, o2]
    exact ⟨⟨by omega, by omega⟩, fun _ => hQ, fun u => by omega⟩
/-- a test -/
theorem G_6 (hD : D = 2 ∨ D = 20) (h65 : c 65 0 = (D : Int)) (hS : c D 0 = (S : Int)) (hS4 : S ≤ 400) (hx : x < S) (hq : XQ c D S x) (hA : CAr x c A) (hE : CEr c E) (hV : AVs A) (h2 : c 65 2 = 0 ∨ c 65 2 = 1) (hx0 : A x 0 ≠ 0) (hk : c (D + 1) x = 6) : ∃ (c1 : St) (A1 E1 : Nat → Nat → Nat), GST c c1 D H A A1 E E1 x ∧ GOUT c c1 D x (A x) ∧ ∀ Q : St → Prop, Q c1 → f_X0_goThrough (x : Int) (c 68 x) (c (D + 2) x) c Q := by
  obtain ⟨a1, a2, a3⟩ := hA x (Nat.le_refl _) (by omega)
  obtain ⟨o1, o2⟩ := a2 hx0
  obtain ⟨w1, w2, w3, w4, w5, w6, w7⟩ := hq.2.2.2.2.1 hk
  obtain ⟨y1, hy1⟩ : ∃ y : Nat, c (D + 5) x = (y : Int) := ⟨(c (D + 5) x).toNat, by omega⟩
  obtain ⟨y2, hy2⟩ : ∃ y : Nat, c (D + 6) x = (y : Int) := ⟨(c (D + 6) x).toNat, by omega⟩
  have sT := ctp_SV w7 a3 hx0
  have sF := cfp_SV w7 a3 hx0
  have ia71 : isIA KC 71 ∧ alen KC 71 = 16 := ⟨by unfold isIA; decide, by decide⟩
  obtain ⟨c0, hc0⟩ : ∃ c0 : St, c0 = sset c 71 (c (D + 2) x).toNat (vdN c D x (A x)) := ⟨_, rfl⟩
  have r0 : ∀ q, q ≠ 71 → c0 q = c q := fun q hq => by rw [hc0, sset_row _ _ _ hq]
  have hA0 : CAr (x + 1) c0 A := fun z z1 z2 => by rw [r0 68 (by decide), r0 69 (by decide), r0 70 (by decide)]; exact hA z (by omega) z2
  obtain ⟨c1, A1, i1, i2, i3, i4, i5, i6, i7, i8⟩ := t_pour (t := x + 1) (y := y1) (o := c 69 x) (k := c 70 x) hD (by rw [r0 65 (by decide)]; exact h65) (by rw [r0 D (by omega)]; exact hS) hS4 (by omega) (by omega) hA0 sT (fun _ => by rw [ctp_hi w7 (by decide), ctp_hi w7 (by decide)]; exact ⟨o1, o2⟩)
  obtain ⟨c2, A2, j1, j2, j3, j4, j5, j6, j7, j8⟩ := t_pour (t := x + 1) (y := y2) (o := c 69 x) (k := c 70 x) hD (by rw [i6 65 (by decide) (by decide) (by decide), r0 65 (by decide)]; exact h65) (by rw [i6 D (by omega) (by omega) (by omega), r0 D (by omega)]; exact hS) hS4 (by omega) (by omega) i1 sF (fun _ => by rw [cfp_hi w7 (by decide), cfp_hi w7 (by decide)]; exact ⟨o1, o2⟩)
  have same : ∀ z, z ≤ x → A2 z = A z := fun z hz => by rw [j2 z (by omega), i2 z (by omega)]
  have up1 : ∀ z, z < 400 → SLE (A z) (A1 z) := fun z hz => by
    by_cases e : z = y1
    · rw [e]; exact i3
    · rw [i2 z e]; exact SLE_refl (KV_01 (hV z hz).1)
  have v1 : ∀ z, z < 400 → SV (A1 z) := fun z hz => by
    by_cases e : z ≤ x
    · rw [i2 z (by omega)]; exact hV z hz
    · exact (i1 z (by omega) hz).2.2
  have up2 : ∀ z, z < 400 → SLE (A1 z) (A2 z) := fun z hz => by
    by_cases e : z = y2
    · rw [e]; exact j3
    · rw [j2 z e]; exact SLE_refl (KV_01 (v1 z hz).1)
  have rr : ∀ q, q ≠ 68 → q ≠ 69 → q ≠ 70 → q ≠ 71 → c2 q = c q := fun q u1 u2 u3 u4 => by rw [j6 q u1 u2 u3, i6 q u1 u2 u3, r0 q u4]
  have r65 : c2 65 = c 65 := rr 65 (by decide) (by decide) (by decide) (by decide)
  have r71 : c2 71 = va_up (c 71) (c (D + 2) x).toNat (vdN c D x (A x)) := by rw [j6 71 (by decide) (by decide) (by decide), i6 71 (by decide) (by decide) (by decide), hc0, sset_at]
  refine ⟨c2, A2, E, ⟨⟨j1, ⟨fun n hn => by rw [rr 66 (by decide) (by decide) (by decide) (by decide)]; exact hE.1 n hn, fun n hn => by rw [rr 67 (by decide) (by decide) (by decide) (by decide)]; exact hE.2.1 n hn, hE.2.2⟩, fun z hz => ?_⟩, same, fun z hz => SLE_trans (up1 z hz) (up2 z hz), fun i hi => KLE_refl (KV_01 (hE.2.2 i hi)), ?_, fun B E2 u1 u2 u3 u4 => ⟨fun z hz => ?_, u4⟩, fun q hq => rr q (by omega) (by omega) (by omega) (by omega), fun i _ _ _ => by rw [r65], CHG_same h2 (by rw [r65])⟩, ⟨by rw [if_pos hk]; exact r71, by rw [if_neg (by omega), r65], by rw [if_neg (by omega), r65]⟩, fun Q hQ => ?_⟩
  · by_cases e : z ≤ x
    · rw [same z e]; exact hV z hz
    · exact (j1 z (by omega) hz).2.2
  · intro u
    refine ⟨fun w => by omega, fun w => by omega, fun w => by omega, fun w _ => by omega, fun _ => ?_, fun w => by omega, fun w => by omega, fun w => by omega, fun w => by omega, fun w => by omega⟩
    rw [hy1, hy2, Int.toNat_natCast, Int.toNat_natCast, same x (Nat.le_refl _)]
    exact ⟨SLE_trans i4 (up2 y1 (by omega)), j4⟩
  · have ax := u3 x (by omega)
    have bx := SLE_ne ax hx0
    have cl := (u1 bx).2.2.2.2.1 hk
    rw [hy1, hy2, Int.toNat_natCast, Int.toNat_natCast] at cl
    have mt : SLE (ctp c D x (A x)) (B y1) := SLE_trans (tpF_mono _ _ _ _ (TQ_trn w7) ax) cl.1
    have mf : SLE (cfp c D x (A x)) (B y2) := SLE_trans (fpF_mono (fun e => TQ_trn w7 _ (Nat.le_refl _) (by omega)) a3.1 (u2 x (by omega)) ax) cl.2
    have lub1 : ∀ z, z < 400 → SLE (A1 z) (B z) := fun z hz => by
      by_cases e : z = y1
      · rw [e]; exact i5 _ (u3 y1 (by omega)) mt
      · rw [i2 z e]; exact u3 z hz
    by_cases e : z = y2
    · rw [e]; exact j5 _ (lub1 y2 (by omega)) mf
    · rw [j2 z e]; exact lub1 z hz
  · refine gt_6 hD h65 (by omega) hk ?_
    have fin : f_X0_goThroughTest_J40 Q c (x : Int) (c (D + 2) x) ((pkg (ctp c D x (A x)) : Nat) : Int) ((pkg (cfp c D x (A x)) : Nat) : Int) (if ctp c D x (A x) 0 = 0 then 0 else 1) (if cfp c D x (A x) 0 = 0 then 0 else 2) := by
      unfold f_X0_goThroughTest_J40
      intro v hv
      refine t_put ia71 (by decide) w5 w6 ?_
      have es : sset c 71 (c (D + 2) x).toNat v = c0 := by rw [hc0, hv]; rfl
      rw [es, r0 65 (by decide), h65, Int.toNat_natCast, Int.toNat_natCast, r0 (D + 5) (by omega), hy1, r0 69 (by decide), r0 70 (by decide)]
      refine ⟨hD, by omega, by omega, by omega, by omega, by omega, by omega, i8 _ ?_⟩
      rw [i6 65 (by decide) (by decide) (by decide), r0 65 (by decide), h65, Int.toNat_natCast, i6 (D + 6) (by omega) (by omega) (by omega), r0 (D + 6) (by omega), hy2, i7 69 x (by omega), i7 70 x (by omega), r0 69 (by decide), r0 70 (by decide)]
      exact ⟨hD, by omega, by omega, by omega, by omega, by omega, by omega, j8 _ hQ⟩
    unfold f_X0_goThroughTest
    rw [a1]
    refine t_tp hD h65 (by omega) w7 a3.1 (t_fp hD h65 (by omega) w7 a3.1 ?_)
    have mid : ∀ s0 : Int, (s0 = if ctp c D x (A x) 0 = 0 then 0 else 1) → f_X0_goThroughTest_J28 Q c (x : Int) (c (D + 2) x) ((pkg (ctp c D x (A x)) : Nat) : Int) ((pkg (cfp c D x (A x)) : Nat) : Int) s0 := by
      intro s0 hs0
      unfold f_X0_goThroughTest_J28
      refine ⟨lcmp_r _ _, fun u => ?_, fun u => ?_⟩
      · rw [lcmp_pkg0 sF.1] at u
        rw [if_pos u, ← hs0] at fin; exact fin
      · rw [lcmp_pkg0 sF.1] at u
        rw [if_neg u, ← hs0] at fin; exact fin
    refine ⟨lcmp_r _ _, fun u => mid 0 ?_, fun u => mid 1 ?_⟩
    · rw [lcmp_pkg0 sT.1] at u; rw [if_pos u]
    · rw [lcmp_pkg0 sT.1] at u; rw [if_neg u]
theorem cch_SV {g : Nat → Nat} (hw : (c (D + 2) x).toNat < 16) (hg : SV g) : SV (cch c D H x g) := by
  refine ⟨aCh_KV hg.1, fun u => ?_⟩
  have u' : g 0 = 1 := by unfold cch at u; rw [aCh_lo (by decide)] at u; exact u
  have gv := hg.2 u'
  have p : 2 ^ (c (D + 2) x).toNat < 2 ^ 16 := Nat.pow_lt_pow_right (by decide) hw
  have o1 : g 9 ||| 2 ^ (c (D + 2) x).toNat < 2 ^ 16 := Nat.or_lt_two_pow gv.1 p
  have o2 : g 10 ||| 2 ^ (c (D + 2) x).toNat < 2 ^ 16 := Nat.or_lt_two_pow gv.2 p
  unfold cch aCh
  split
  · exact gv
  · split
    · rw [vu_ne _ _ (by decide), vu_eq, vu_eq]; exact ⟨o1, o2⟩
    · rw [vu_eq, vu_ne _ _ (by decide)]; exact ⟨o1, gv.2⟩
/-- a choice -/
theorem G_7 (hD : D = 2 ∨ D = 20) (h65 : c 65 0 = (D : Int)) (hS : c D 0 = (S : Int)) (hS4 : S ≤ 400) (hx : x < S) (hq : XQ c D S x) (hh : HCk c D H) (hA : CAr x c A) (hE : CEr c E) (hV : AVs A) (h2 : c 65 2 = 0 ∨ c 65 2 = 1) (hx0 : A x 0 ≠ 0) (hk : c (D + 1) x = 7) : ∃ (c1 : St) (A1 E1 : Nat → Nat → Nat), GST c c1 D H A A1 E E1 x ∧ GOUT c c1 D x (A x) ∧ ∀ Q : St → Prop, Q c1 → f_X0_goThrough (x : Int) (c 68 x) (c (D + 2) x) c Q := by
  obtain ⟨a1, a2, a3⟩ := hA x (Nat.le_refl _) (by omega)
  obtain ⟨o1, o2⟩ := a2 hx0
  have av := a3.2 (by rcases KV_01 a3.1 with z | z; exact absurd z hx0; exact z)
  obtain ⟨w1, w2, w7⟩ := hq.2.2.2.2.2.1 hk
  have hn := hq.2.1 (by omega)
  obtain ⟨y, hy⟩ : ∃ y : Nat, c (D + 4) x = (y : Int) := ⟨(c (D + 4) x).toNat, by omega⟩
  obtain ⟨ck, h, k1, k2, k3, k4, k5⟩ := hh
  obtain ⟨ch, hc⟩ : ∃ ch : Nat, c (D + 2) x = (ch : Int) := ⟨(c (D + 2) x).toNat, by omega⟩
  have hch : ch < ck := by omega
  obtain ⟨k6, k7, k8⟩ := k5 ch hch
  have pch : 2 ^ ch < 2 ^ 16 := Nat.pow_lt_pow_right (by decide) (by omega)
  have p16 : (2 : Nat) ^ 16 = 65536 := rfl
  have sT := ctp_KV w7 a3.1
  have sF := cfp_KV w7 a3.1
  have sC : SV (cch c D H x (A x)) := cch_SV (by omega) a3
  have lo : ∀ i, i < 9 → cch c D H x (A x) i = A x i := fun i hi => aCh_lo hi
  have pe : pkg (cch c D H x (A x)) = pkg (A x) := by
    have h0 : cch c D H x (A x) 0 ≠ 0 := by rw [lo 0 (by decide)]; exact hx0
    rw [pkg_1 h0, pkg_1 hx0, lo 7 (by decide), lo 8 (by decide)]
    exact pk_congr (fun i hi => lo (1 + i) (by omega))
  -- the rows at x behind the offer
  obtain ⟨c', hc'⟩ : ∃ c' : St, c' = sset (sset c 69 x ((cch c D H x (A x) 9 : Nat) : Int)) 70 x ((cch c D H x (A x) 10 : Nat) : Int) := ⟨_, rfl⟩
  have r' : ∀ q, q ≠ 69 → q ≠ 70 → c' q = c q := fun q u v => by rw [hc', sset_row _ _ _ v, sset_row _ _ _ u]
  have rj : ∀ q j, j ≠ x → c' q j = c q j := by
    intro q j hj
    by_cases u : q = 70
    · rw [u, hc', sset_place _ _ _ hj, sset_cell _ _ _ _ (by decide)]
    · by_cases v : q = 69
      · rw [v, hc', sset_cell _ _ _ _ (by decide), sset_place _ _ _ hj]
      · rw [r' q v u]
  have e69 : c' 69 x = ((cch c D H x (A x) 9 : Nat) : Int) := by rw [hc', sset_cell _ _ _ _ (by decide), sset_self]
  have e70 : c' 70 x = ((cch c D H x (A x) 10 : Nat) : Int) := by rw [hc', sset_self]
  obtain ⟨c1, A1, i1, i2, i3, i4⟩ := G_pour (c' := c') (T := cch c D H x) (y := y) (o := c' 69 x) (k := c' 70 x) hD h65 hS hS4 (by omega) (by omega) (CAr_suc hA) hE hV h2 hx0 r' rj sC (fun _ => ⟨e69, e70⟩) (fun a b ha hb hab => aCh_mono (TQ_trn w7) ha hb hab) (H := H)
    (fun A E h u => ⟨fun w => by omega, fun w => by omega, fun w => by omega, fun w _ => by omega, fun w => by omega, fun _ => by rw [hy, Int.toNat_natCast]; exact h u, fun w => by omega, fun w => by omega, fun w => by omega, fun w => by omega⟩)
    (fun A E h u => by have := (h u).2.2.2.2.2.1 hk; rw [hy, Int.toNat_natCast] at this; exact this)
  refine ⟨c1, A1, E, i1, GOUT_same (by omega) (by rw [i2, r' 71 (by decide) (by decide)]) (fun i _ => by rw [i3, r' 65 (by decide) (by decide)]), fun Q hQ => gt_7 hD h65 (by omega) hk ?_⟩
  have last : f_X0_goOn (x : Int) ((pkg (A x) : Nat) : Int) c' Q := by
    refine t_goOn hD (by rw [r' 65 (by decide) (by decide)]; exact h65) (by omega) ?_
    rw [r' (D + 4) (by omega) (by omega), hy, ← pe]
    exact i4 Q hQ
  -- the three ways
  have ec : cch c D H x (A x) = if ctp c D x (A x) 0 = 0 then A x else if H.testBit ch = false ∧ (tn c D x = 0 ∨ cfp c D x (A x) 0 = 0) then va_up (va_up (A x) 9 (A x 9 ||| 2 ^ ch)) 10 (A x 10 ||| 2 ^ ch) else va_up (A x) 9 (A x 9 ||| 2 ^ ch) := by
    unfold cch aCh ctp cfp
    rw [hc, Int.toNat_natCast]
  unfold f_X0_goThroughChoice f_X0_goThroughChoice_J43
  rw [a1]
  refine t_tp hD h65 (by omega) w7 a3.1 ⟨lcmp_r _ _, fun u => ?_, fun u => ?_⟩
  · rw [lcmp_pkg0 sT] at u
    rw [if_pos u] at ec
    unfold f_X0_goThroughChoice_J93
    rw [ec, ← o1, ← o2] at hc'
    have q1 : sset c 69 x (c 69 x) = c := sset_id c 69 x rfl
    have q2 : sset c 70 x (c 70 x) = c := sset_id c 70 x rfl
    rw [q1, q2] at hc'
    rw [hc'] at last; exact last
  · rw [lcmp_pkg0 sT] at u
    rw [if_neg u] at ec
    have j48 : ∀ s0 : Int, (s0 = if tn c D x = 0 ∨ cfp c D x (A x) 0 = 0 then 1 else 0) → f_X0_goThroughChoice_J48 Q c (x : Int) ((pkg (A x) : Nat) : Int) (c (D + 2) x) s0 := by
      intro s0 hs0
      unfold f_X0_goThroughChoice_J48 f_X0_goThroughChoice_J93
      rw [Int.toNat_natCast, o1, hc, ishl_1 (by omega), ior_nat (by omega) (by omega)]
      refine ⟨by omega, by omega, by omega, by omega, fun σ1 f1 => ?_⟩
      have g69 : ∀ q, q ≠ 69 → σ1 q = c q := fun q hq => by rw [f1, sset_row _ _ _ hq]
      by_cases z : tn c D x = 0 ∨ cfp c D x (A x) 0 = 0
      · rw [if_pos z] at hs0
        rw [hs0]
        refine ⟨⟨by decide, by decide⟩, fun y => absurd y (by decide), fun _ => ?_⟩
        rw [g69 65 (by decide), h65, Int.toNat_natCast]
        refine ⟨hD, ?_⟩
        unfold f_X7_standsInHub f_X7_standsAsHub
        have bt := bit_nat (x := h) (k := (c (D + 16) ch).toNat) (by omega) (by omega)
        rw [show (((c (D + 16) ch).toNat : Nat) : Int) = c (D + 16) ch by omega] at bt
        rw [g69 D (by omega), k1, k3, g69 (D + 16) (by omega), Int.toNat_natCast, bt, ← k6]
        refine ⟨⟨by omega, by omega⟩, fun y => by omega, fun _ => ⟨hD, ⟨by omega, by omega⟩, ⟨by omega, by omega⟩, fun y => by omega, fun _ => ⟨⟨by omega, by omega⟩, fun y => by omega, fun _ => ⟨by omega, by omega, hD, ?_⟩⟩⟩⟩
        cases b : H.testBit ch
        · rw [b, if_pos ⟨rfl, z⟩] at ec
          refine ⟨⟨by decide, by decide⟩, fun _ => ⟨⟨by decide, by decide⟩, fun _ => ⟨⟨by decide, by decide⟩, fun y => absurd rfl y, fun _ => ⟨by omega, by omega, by omega, by omega, fun σ3 f3 => ?_⟩⟩, fun y => absurd rfl y⟩, fun y => absurd y (by decide)⟩
          rw [g69 70 (by decide), o2, ior_nat (by omega) (by omega)] at f3
          have es : σ3 = c' := by
            rw [f3, f1, hc', ec, vu_ne _ _ (by decide), vu_eq, vu_eq]
          rw [es]; exact last
        · rw [b, if_neg (fun y => absurd y.1 (by decide))] at ec
          have es : σ1 = c' := by
            rw [f1, hc', ec, vu_eq, vu_ne _ _ (by decide), ← o2]
            rw [sset_id _ 70 x (by rw [sset_cell _ _ _ _ (by decide)])]
          refine ⟨⟨by decide, by decide⟩, fun y => absurd rfl y, fun _ => ⟨⟨by decide, by decide⟩, fun y => absurd y (by decide), fun _ => ⟨⟨by decide, by decide⟩, fun _ => ?_, fun y => absurd y (by decide)⟩⟩⟩
          rw [es]; exact last
      · rw [if_neg z] at hs0
        rw [if_neg (fun y => z y.2)] at ec
        have es : σ1 = c' := by
          rw [f1, hc', ec, vu_eq, vu_ne _ _ (by decide), ← o2]
          rw [sset_id _ 70 x (by rw [sset_cell _ _ _ _ (by decide)])]
        rw [hs0]
        refine ⟨⟨by decide, by decide⟩, fun _ => ?_, fun y => absurd rfl y⟩
        rw [es]; exact last
    obtain ⟨t1, t2, t3, t4, -⟩ := id w7
    rw [h65, Int.toNat_natCast, Int.toNat_natCast]
    refine ⟨hD, by omega, by omega, by omega, by omega, ⟨by omega, by omega⟩, ⟨by omega, by omega⟩, fun v => ?_, fun v => ?_⟩
    · exact j48 1 (by rw [if_pos (Or.inl (by unfold tn; omega))])
    · refine t_fp hD h65 (by omega) w7 a3.1 ⟨lcmp_r _ _, fun w => ?_, fun w => ?_⟩
      · rw [lcmp_pkg0 sF] at w
        exact j48 0 (by rw [if_neg (fun y => by rcases y with y | y; unfold tn at y; omega; exact w y)])
      · rw [lcmp_pkg0 sF] at w
        exact j48 1 (by rw [if_pos (Or.inr w)])
end GOSORT2
