/-! ===== pure layer: the class sweeps over all statements ===== -/
section WLOOP
variable {c c0 : St} {A E : Nat → Nat → Nat} {D S H x : Nat}
theorem G_step (hD : D = 2 ∨ D = 20) (h65 : c 65 0 = (D : Int)) (hS : c D 0 = (S : Int)) (hS4 : S ≤ 400) (hx : x < S) (hq : XQ c D S x) (hh : HCk c D H) (hA : CAr x c A) (hE : CEr c E) (hV : AVs A) (h2 : c 65 2 = 0 ∨ c 65 2 = 1) (hx0 : A x 0 ≠ 0) : ∃ (c1 : St) (A1 E1 : Nat → Nat → Nat), GST c c1 D H A A1 E E1 x ∧ GOUT c c1 D x (A x) ∧ ∀ Q : St → Prop, Q c1 → f_X0_goThrough (x : Int) (c 68 x) (c (D + 2) x) c Q := by
  have r := hq.1
  have : c (D + 1) x = 0 ∨ c (D + 1) x = 1 ∨ c (D + 1) x = 2 ∨ (3 ≤ c (D + 1) x ∧ c (D + 1) x ≤ 5) ∨ c (D + 1) x = 6 ∨ c (D + 1) x = 7 ∨ c (D + 1) x = 8 ∨ c (D + 1) x = 9 ∨ c (D + 1) x = 10 ∨ c (D + 1) x = 11 ∨ c (D + 1) x = 12 := by omega
  rcases this with k | k | k | k | k | k | k | k | k | k | k
  · exact G_0 hD h65 hS hS4 hx hq hA hE hV h2 hx0 k
  · exact G_12 (b := 1) (by decide) hD h65 hS hS4 hx hq hA hE hV h2 hx0 (by rw [k]; rfl)
  · exact G_12 (b := 0) (by decide) hD h65 hS hS4 hx hq hA hE hV h2 hx0 (by rw [k]; rfl)
  · exact G_345 hD h65 hS hS4 hx hq hA hE hV h2 hx0 k
  · exact G_6 hD h65 hS hS4 hx hq hA hE hV h2 hx0 k
  · exact G_7 hD h65 hS hS4 hx hq hh hA hE hV h2 hx0 k
  · exact G_8 hD h65 hS4 hx hq hA hE hV h2 hx0 k
  · exact G_9 hD h65 hS4 hx hq hA hE hV h2 hx0 k
  · exact G_10 hD h65 hS4 hx hA hE hV h2 hx0 k
  · exact G_11 hD h65 hS4 hx hA hE hV h2 hx0 k
  · exact G_c12 hD h65 hS4 hx hq hA hE hV h2 hx0 k
/-- the story's rows are as before -/
def TB (c0 c : St) (D : Nat) : Prop := ∀ q, D ≤ q → q ≤ D + 17 → c q = c0 q
theorem XQ_tb (h : TB c0 c D) (hq : XQ c0 D S x) : XQ c D S x := by
  unfold XQ TQ at *
  rw [h D (by omega) (by omega), h (D + 1) (by omega) (by omega), h (D + 2) (by omega) (by omega), h (D + 3) (by omega) (by omega), h (D + 4) (by omega) (by omega), h (D + 5) (by omega) (by omega), h (D + 6) (by omega) (by omega), h (D + 7) (by omega) (by omega), h (D + 8) (by omega) (by omega), h (D + 9) (by omega) (by omega), h (D + 10) (by omega) (by omega), h (D + 11) (by omega) (by omega), h (D + 12) (by omega) (by omega), h (D + 16) (by omega) (by omega)]
  exact hq
theorem HCk_tb (h : TB c0 c D) (hh : HCk c0 D H) : HCk c D H := by
  unfold HCk at *
  rw [h D (by omega) (by omega), h (D + 16) (by omega) (by omega)]; exact hh
theorem ctp_tb (h : TB c0 c D) : ctp c D = ctp c0 D := by
  unfold ctp tk tq tv tn
  rw [h (D + 7) (by omega) (by omega), h (D + 8) (by omega) (by omega), h (D + 10) (by omega) (by omega), h (D + 11) (by omega) (by omega), h (D + 12) (by omega) (by omega)]
theorem cfp_tb (h : TB c0 c D) : cfp c D = cfp c0 D := by
  unfold cfp tk tq tv tn
  rw [h (D + 7) (by omega) (by omega), h (D + 8) (by omega) (by omega), h (D + 10) (by omega) (by omega), h (D + 11) (by omega) (by omega), h (D + 12) (by omega) (by omega)]
theorem cch_tb (h : TB c0 c D) : cch c D H = cch c0 D H := by
  unfold cch tk tq tv tn
  rw [h (D + 2) (by omega) (by omega), h (D + 7) (by omega) (by omega), h (D + 8) (by omega) (by omega), h (D + 10) (by omega) (by omega), h (D + 11) (by omega) (by omega), h (D + 12) (by omega) (by omega)]
theorem CLS_tb (h : TB c0 c D) : CLS c D H A E x ↔ CLS c0 D H A E x := by
  unfold CLS
  rw [ctp_tb h, cfp_tb h, cch_tb h, h (D + 1) (by omega) (by omega), h (D + 2) (by omega) (by omega), h (D + 3) (by omega) (by omega), h (D + 4) (by omega) (by omega), h (D + 5) (by omega) (by omega), h (D + 6) (by omega) (by omega), h (D + 16) (by omega) (by omega)]
theorem vdN_tb {g : Nat → Nat} (h : TB c0 c D) : vdN c D x g = vdN c0 D x g := by unfold vdN; rw [ctp_tb h, cfp_tb h]
/-- where a dead end shows -/
def DEx (c0 : St) (D : Nat) (A : Nat → Nat → Nat) (x : Nat) : Prop := A x 0 ≠ 0 ∧ ((c0 (D + 1) x = 9 ∧ (A x 8).testBit 12 = true) ∨ (c0 (D + 1) x = 11 ∧ A x 10 = 0))
/-- what a sweep gives -/
def OUS (c0 c c1 : St) (D a S : Nat) (A : Nat → Nat → Nat) : Prop := (∀ x, a ≤ x → x < S → c0 (D + 1) x = 6 → A x 0 ≠ 0 → c1 71 (c0 (D + 2) x).toNat = vdN c0 D x (A x)) ∧ (∀ j : Nat, (∀ x, a ≤ x → x < S → c0 (D + 1) x = 6 → c0 (D + 2) x = (j : Int) → A x 0 = 0) → c1 71 j = c 71 j) ∧ (∀ e : Nat, c 65 9 = (e : Int) → e < 65536 → ∃ e1 : Nat, c1 65 9 = (e1 : Int) ∧ e1 < 65536 ∧ ∀ i, e1.testBit i = true ↔ (e.testBit i = true ∨ ∃ x, a ≤ x ∧ x < S ∧ c0 (D + 1) x = 10 ∧ c0 (D + 2) x = (i : Int) ∧ A x 0 ≠ 0)) ∧ (∀ e : Nat, c 65 10 = (e : Int) → e < 65536 → ∃ e1 : Nat, c1 65 10 = (e1 : Int) ∧ e1 < 65536 ∧ ∀ i, e1.testBit i = true ↔ (e.testBit i = true ∨ ∃ x, a ≤ x ∧ x < S ∧ DEx c0 D A x ∧ c0 (D + 2) x = (i : Int)))
/-- tests have numbers of their own -/
def DT (c0 : St) (D S : Nat) : Prop := ∀ x y, x < S → y < S → c0 (D + 1) x = 6 → c0 (D + 1) y = 6 → c0 (D + 2) x = c0 (D + 2) y → x = y
theorem or_set {e n : Nat} (he : e < 65536) (hn : n < 16) : ∃ e1 : Nat, ior32 (e : Int) (ishl32 1 (n : Int)) = (e1 : Int) ∧ e1 < 65536 ∧ ∀ i, e1.testBit i = true ↔ (e.testBit i = true ∨ n = i) := by
  have p : 2 ^ n < 2 ^ 16 := Nat.pow_lt_pow_right (by decide) hn
  have p16 : (2 : Nat) ^ 16 = 65536 := rfl
  refine ⟨e ||| 2 ^ n, by rw [ishl_1 (by omega), ior_nat (by omega) (by omega)], Nat.or_lt_two_pow (n := 16) he p, fun i => ?_⟩
  rw [Nat.testBit_or, Nat.testBit_two_pow]
  by_cases g : n = i
  · rw [decide_eq_true g, Bool.or_true]; exact ⟨fun _ => Or.inr g, fun _ => rfl⟩
  · rw [decide_eq_false g, Bool.or_false]; exact ⟨fun u => Or.inl u, fun u => by rcases u with u | u; exact u; exact absurd u g⟩
/-- all statements from a place on -/
theorem W_loop (hD : D = 2 ∨ D = 20) (hS : c0 D 0 = (S : Int)) (hS4 : S ≤ 400) (hQx : ∀ x, x < S → XQ c0 D S x) (hh : HCk c0 D H) (hdt : DT c0 D S) : ∀ (j a : Nat) (c : St) (A E : Nat → Nat → Nat), a + j = S → TB c0 c D → c 65 0 = (D : Int) → (c 65 2 = 0 ∨ c 65 2 = 1) → CAr a c A → CEr c E → AVs A → ∃ (c1 : St) (A1 E1 : Nat → Nat → Nat), CEr c1 E1 ∧ AVs A1 ∧ (∀ z, z < a → A1 z = A z) ∧ (∀ z, z < 400 → SLE (A z) (A1 z)) ∧ (∀ i, i < 28 → KLE (E i) (E1 i)) ∧ (∀ x, a ≤ x → x < S → CLS c0 D H A1 E1 x) ∧ (∀ A2 E2 : Nat → Nat → Nat, (∀ x, a ≤ x → x < S → CLS c0 D H A2 E2 x) → (∀ z, z < 400 → KV (A2 z)) → (∀ z, z < 400 → SLE (A z) (A2 z)) → (∀ i, i < 28 → KLE (E i) (E2 i)) → (∀ z, z < 400 → SLE (A1 z) (A2 z)) ∧ ∀ i, i < 28 → KLE (E1 i) (E2 i)) ∧ (∀ q, q < 65 ∨ 71 < q → c1 q = c q) ∧ (∀ i, i ≠ 2 → i ≠ 9 → i ≠ 10 → c1 65 i = c 65 i) ∧ CHG c c1 E E1 ∧ OUS c0 c c1 D a S A1 ∧ ∀ (k21 : St → Int → Prop) (Q : St → Prop) (fu : Nat) (v2 : Int), j < fu → k21 c1 (v2 + 1) → f_X0_settle_L46 k21 Q fu c v2 (a : Int) := by
  intro j
  induction j with
  | zero =>
    intro a c A E ha hT h65 h2 hA hE hV
    refine ⟨c, A, E, hE, hV, fun _ _ => rfl, fun z hz => SLE_refl (KV_01 (hV z hz).1), fun i hi => KLE_refl (KV_01 (hE.2.2 i hi)), fun x u v => by omega, fun A2 E2 _ _ u v => ⟨u, v⟩, fun _ _ => rfl, fun _ _ _ _ => rfl, CHG_same h2 rfl, ⟨fun x u v => by omega, fun _ _ => rfl, fun e h1 h2 => ⟨e, h1, h2, fun i => ⟨fun u => Or.inl u, fun u => ?_⟩⟩, fun e h1 h2 => ⟨e, h1, h2, fun i => ⟨fun u => Or.inl u, fun u => ?_⟩⟩⟩, fun k21 Q fu v2 hf hQ => ?_⟩
    · rcases u with u | ⟨x, u1, u2, -⟩
      · exact u
      · omega
    · rcases u with u | ⟨x, u1, u2, -⟩
      · exact u
      · omega
    · cases fu with
      | zero => omega
      | succ fu =>
        unfold f_X0_settle_L46
        rw [h65, Int.toNat_natCast, hT D (by omega) (by omega), hS]
        exact ⟨⟨by omega, by omega⟩, fun _ => hQ, fun _ => ⟨hD, ⟨by omega, by omega⟩, ⟨by omega, by omega⟩, fun _ => hQ, fun u => by omega⟩⟩
  | succ j ih =>
    intro a c A E ha hT h65 h2 hA hE hV
    have haS : a < S := by omega
    have hcS : c D 0 = (S : Int) := by rw [hT D (by omega) (by omega), hS]
    obtain ⟨a1, a2, a3⟩ := hA a (Nat.le_refl _) (by omega)
    have hq0 := hQx a haS
    by_cases g : A a 0 = 0
    · -- nothing is known here
      obtain ⟨c1, A1, E1, i1, i2, i3, i4, i5, i6, i7, i8, i9, i10, ⟨p1, p2, p3, p4⟩, i12⟩ := ih (a + 1) c A E (by omega) hT h65 h2 (CAr_suc hA) hE hV
      have ea : A1 a = A a := i3 a (by omega)
      refine ⟨c1, A1, E1, i1, i2, fun z hz => i3 z (by omega), i4, i5, fun x u v => ?_, fun A2 E2 u => i7 A2 E2 (fun x v w => u x (by omega) w), i8, i9, i10, ⟨fun x u v w z => ?_, fun k u => p2 k (fun x v w y z => u x (by omega) w y z), fun e h1 h2 => ?_, fun e h1 h2 => ?_⟩, fun k21 Q fu v2 hf hQ => ?_⟩
      · by_cases e : x = a
        · rw [e]; intro z; rw [ea] at z; exact absurd g z
        · exact i6 x (by omega) v
      · by_cases e : x = a
        · rw [e, ea] at z; exact absurd g z
        · exact p1 x (by omega) v w z
      · obtain ⟨e1, q1, q2, q3⟩ := p3 e h1 h2
        refine ⟨e1, q1, q2, fun i => ?_⟩
        rw [q3 i]
        constructor
        · rintro (u | ⟨x, u1, u2, u3⟩)
          · exact Or.inl u
          · exact Or.inr ⟨x, by omega, u2, u3⟩
        · rintro (u | ⟨x, u1, u2, u3, u4, u5⟩)
          · exact Or.inl u
          · right
            by_cases z : x = a
            · rw [z, ea] at u5; exact absurd g u5
            · exact ⟨x, by omega, u2, u3, u4, u5⟩
      · obtain ⟨e1, q1, q2, q3⟩ := p4 e h1 h2
        refine ⟨e1, q1, q2, fun i => ?_⟩
        rw [q3 i]
        constructor
        · rintro (u | ⟨x, u1, u2, u3⟩)
          · exact Or.inl u
          · exact Or.inr ⟨x, by omega, u2, u3⟩
        · rintro (u | ⟨x, u1, u2, u3, u4⟩)
          · exact Or.inl u
          · right
            by_cases z : x = a
            · have := u3.1; rw [z, ea] at this; exact absurd g this
            · exact ⟨x, by omega, u2, u3, u4⟩
      · cases fu with
        | zero => omega
        | succ fu =>
          unfold f_X0_settle_L46
          rw [h65, Int.toNat_natCast, hcS, Int.toNat_natCast, a1]
          refine ⟨⟨by omega, by omega⟩, fun u => by omega, fun _ => ⟨hD, ⟨by omega, by omega⟩, ⟨by omega, by omega⟩, fun u => by omega, fun _ => ⟨by omega, by omega, lcmp_r _ _, fun _ => ?_, fun u => absurd ((lcmp_pkg0 a3.1).2 g) u⟩⟩⟩
          exact i12 k21 Q fu v2 (by omega) hQ
    · -- the statement is gone through
      obtain ⟨c2, A2, E2, ⟨⟨g1, g2, g3⟩, g4, g5, g6, g7, g8, g9, g10, g11⟩, ⟨o1, o2, o3⟩, go⟩ := G_step (H := H) hD h65 hcS hS4 haS (XQ_tb hT hq0) (HCk_tb hT hh) hA hE hV h2 g
      have hT2 : TB c0 c2 D := fun q u v => by rw [g9 q (by omega), hT q u v]
      obtain ⟨c1, A1, E1, i1, i2, i3, i4, i5, i6, i7, i8, i9, i10, ⟨p1, p2, p3, p4⟩, i12⟩ := ih (a + 1) c2 A2 E2 (by omega) hT2 (by rw [g10 0 (by decide) (by decide) (by decide), h65]) g11.1 g1 g2 g3
      have ea : A1 a = A a := by rw [i3 a (by omega), g4 a (Nat.le_refl _)]
      rw [CLS_tb hT] at g7
      have tt := hT (D + 1) (by omega) (by omega)
      have tw := hT (D + 2) (by omega) (by omega)
      rw [tt, tw] at o1 o2 o3
      rw [vdN_tb hT] at o1
      refine ⟨c1, A1, E1, i1, i2, fun z hz => by rw [i3 z (by omega), g4 z (by omega)], fun z hz => SLE_trans (g5 z hz) (i4 z hz), fun i hi => KLE_trans (g6 i hi) (i5 i hi), fun x u v => ?_, fun A3 E3 u1 u2 u3 u4 => ?_, fun q hq => by rw [i8 q hq, g9 q hq], fun i x y z => by rw [i9 i x y z, g10 i x y z], CHG_trans hE.2.2 g2.2.2 i1.2.2 g6 i5 g11 i10, ⟨fun x u v w z => ?_, fun k u => ?_, fun e h1 h2 => ?_, fun e h1 h2 => ?_⟩, fun k21 Q fu v2 hf hQ => ?_⟩
      · by_cases y : x = a
        · rw [y]
          exact CLS_up hq0 hS4 g7 (i3 a (by omega)) i4 i5
        · exact i6 x (by omega) v
      · obtain ⟨v1, v2⟩ := g8 A3 E3 ((CLS_tb hT).2 (u1 a (Nat.le_refl _) haS)) u2 u3 u4
        exact i7 A3 E3 (fun x y z => u1 x (by omega) z) u2 v1 v2
      · by_cases y : x = a
        · rw [y] at w z ⊢
          rw [if_pos w] at o1
          rw [p2 (c0 (D + 2) a).toNat (fun x' q1 q2 q3 q4 => ?_), o1, vu_eq, ea]
          have hw := (hQx a haS).2.2.2.2.1 w
          have := hdt x' a q2 haS q3 w (by rw [q4]; omega)
          omega
        · exact p1 x (by omega) v w z
      · rw [p2 k (fun x q1 q2 q3 q4 => u x (by omega) q2 q3 q4), o1]
        by_cases y : c0 (D + 1) a = 6
        · rw [if_pos y]
          by_cases z : k = (c0 (D + 2) a).toNat
          · have hw := (hQx a haS).2.2.2.2.1 y
            have := u a (Nat.le_refl _) haS y (by rw [z]; omega)
            rw [ea] at this; exact absurd this g
          · rw [vu_ne _ _ z]
        · rw [if_neg y]
      · by_cases y : c0 (D + 1) a = 10
        · rw [if_pos y, h1] at o2
          have hw := (hQx a haS).2.2.2.2.2.2.2.1 y
          obtain ⟨n, hn⟩ : ∃ n : Nat, c0 (D + 2) a = (n : Int) := ⟨(c0 (D + 2) a).toNat, by omega⟩
          obtain ⟨e2, r1, r2, r3⟩ := or_set (n := n) h2 (by omega)
          rw [hn, r1] at o2
          obtain ⟨e1, q1, q2, q3⟩ := p3 e2 o2 r2
          refine ⟨e1, q1, q2, fun i => ?_⟩
          rw [q3 i, r3 i]
          constructor
          · rintro ((u | u) | ⟨x, u1, u2, u3⟩)
            · exact Or.inl u
            · exact Or.inr ⟨a, Nat.le_refl _, haS, y, by rw [hn, u], by rw [ea]; exact g⟩
            · exact Or.inr ⟨x, by omega, u2, u3⟩
          · rintro (u | ⟨x, u1, u2, u3, u4, u5⟩)
            · exact Or.inl (Or.inl u)
            · by_cases z : x = a
              · rw [z, hn] at u4; exact Or.inl (Or.inr (by omega))
              · exact Or.inr ⟨x, by omega, u2, u3, u4, u5⟩
        · rw [if_neg y, h1] at o2
          obtain ⟨e1, q1, q2, q3⟩ := p3 e o2 h2
          refine ⟨e1, q1, q2, fun i => ?_⟩
          rw [q3 i]
          constructor
          · rintro (u | ⟨x, u1, u2, u3⟩)
            · exact Or.inl u
            · exact Or.inr ⟨x, by omega, u2, u3⟩
          · rintro (u | ⟨x, u1, u2, u3, u4, u5⟩)
            · exact Or.inl u
            · right
              by_cases z : x = a
              · rw [z] at u3; exact absurd u3 y
              · exact ⟨x, by omega, u2, u3, u4, u5⟩
      · by_cases y : (c0 (D + 1) a = 9 ∧ (A a 8).testBit 12 = true) ∨ (c0 (D + 1) a = 11 ∧ A a 10 = 0)
        · rw [if_pos y, h1] at o3
          have hw := (hQx a haS).2.2.2.2.2.2.1 (by omega)
          obtain ⟨n, hn⟩ : ∃ n : Nat, c0 (D + 2) a = (n : Int) := ⟨(c0 (D + 2) a).toNat, by omega⟩
          obtain ⟨e2, r1, r2, r3⟩ := or_set (n := n) h2 (by omega)
          rw [hn, r1] at o3
          obtain ⟨e1, q1, q2, q3⟩ := p4 e2 o3 r2
          refine ⟨e1, q1, q2, fun i => ?_⟩
          rw [q3 i, r3 i]
          constructor
          · rintro ((u | u) | ⟨x, u1, u2, u3⟩)
            · exact Or.inl u
            · exact Or.inr ⟨a, Nat.le_refl _, haS, ⟨by rw [ea]; exact g, by rw [ea]; exact y⟩, by rw [hn, u]⟩
            · exact Or.inr ⟨x, by omega, u2, u3⟩
          · rintro (u | ⟨x, u1, u2, u3, u4⟩)
            · exact Or.inl (Or.inl u)
            · by_cases z : x = a
              · rw [z, hn] at u4; exact Or.inl (Or.inr (by omega))
              · exact Or.inr ⟨x, by omega, u2, u3, u4⟩
        · rw [if_neg y, h1] at o3
          obtain ⟨e1, q1, q2, q3⟩ := p4 e o3 h2
          refine ⟨e1, q1, q2, fun i => ?_⟩
          rw [q3 i]
          constructor
          · rintro (u | ⟨x, u1, u2, u3⟩)
            · exact Or.inl u
            · exact Or.inr ⟨x, by omega, u2, u3⟩
          · rintro (u | ⟨x, u1, u2, u3, u4⟩)
            · exact Or.inl u
            · right
              by_cases z : x = a
              · have := u3.2; rw [z, ea] at this; exact absurd this y
              · exact ⟨x, by omega, u2, u3, u4⟩
      · cases fu with
        | zero => omega
        | succ fu =>
          unfold f_X0_settle_L46
          rw [h65, Int.toNat_natCast, hcS, Int.toNat_natCast]
          refine ⟨⟨by omega, by omega⟩, fun u => by omega, fun _ => ⟨hD, ⟨by omega, by omega⟩, ⟨by omega, by omega⟩, fun u => by omega, fun _ => ⟨by omega, by omega, lcmp_r _ _, fun u => ?_, fun _ => ⟨by omega, by omega, by omega, by omega, go _ ?_⟩⟩⟩⟩
          · rw [a1] at u; exact absurd ((lcmp_pkg0 a3.1).1 u) g
          · exact i12 k21 Q fu v2 (by omega) hQ
end WLOOP
