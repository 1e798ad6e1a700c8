/-! ===== pure layer: a sweep of the reference ===== -/
section MSWEEP
variable {m0 m m1 m2 c : St} {D N S B nd ck ts tm H hh ee : Nat} {φ δ h : Nat → Nat} {e : Nat → Int} {E E1 E2 R R1 : Nat → Nat → Nat}
theorem stg_lo {g : Nat → Nat} {i : Nat} (hi : i < 9) : stg hh ee g i = if i = 8 ∧ ee < 12 ∧ hh.testBit ee = true then 2 ^ ee else g i := by
  unfold stg
  rw [ent_lo hi]
  by_cases z : ee < 12
  · rw [if_pos z]
    by_cases y : i = 8
    · unfold aHb
      cases q : hh.testBit ee
      · rw [if_neg (by decide), if_neg (fun u => absurd u.2.2 (by decide))]
      · rw [if_pos rfl, if_pos ⟨y, z, rfl⟩, y, vu_eq]
    · rw [aHb_ne y, if_neg (fun u => y u.1)]
  · rw [if_neg z, if_neg (fun u => z u.2.1)]
theorem stg_SVk {g : Nat → Nat} (hg : KV g) : SVk ck (stg hh ee g) := by
  refine ⟨?_, ?_, ?_⟩
  · unfold stg
    by_cases z : ee < 12
    · rw [if_pos z]; exact (ent_SV (aHb_KV z hg)).1
    · rw [if_neg z]; exact (ent_SV hg).1
  · unfold stg; rw [ent_9.1]; exact Nat.two_pow_pos ck
  · unfold stg; rw [ent_9.2]; exact Nat.two_pow_pos ck
theorem FU_k {k : Nat} (hk : k < 99999) : FU = 99999 - k + 1 + k := by
  show 100000 = 99999 - k + 1 + k
  omega
/-- from an entry -/
theorem r_through (hS : SRx D c m0 φ e N S B nd ck ts tm) (hH : HM c D ck H) (h13 : c D 13 = (hh : Int)) (hY : YWc m0 N B δ h) (hee : ee < nd ∨ (12 ≤ ee ∧ ee < 12 + ck)) (hG : GSt m0 m E) (h0 : E ee 0 = 1) : ∃ (m1 : St) (E1 R : Nat → Nat → Nat), GSt m0 m1 E1 ∧ SWc c m0 D H S nd ck hh N φ e (fun i => i = ee) E E1 R m m1 ∧ ∀ Q : St → Prop, Q m1 → f_X10_goesThrough (ee : Int) ((blk m0 ee : Nat) : Int) m Q := by
  obtain ⟨v, xe, ⟨he28, hv, hbB, hk2, h19⟩, ⟨hxe, hxS, h11, h12⟩, hst, hce⟩ := SE_stat hS hY hee
  obtain ⟨⟨f1, f0⟩, gE, g69, g72, g73⟩ := hG
  have hYC : YC m0 N B := hS.2.1.2.2.2.1
  have hB : B ≤ 60 := hS.1.2.2.2.2.2.2.2.2.2.2.2.2.2.2.2.2.1
  have nd12 : nd ≤ 12 := hS.1.2.2.2.2.2.2.2.2.2.2.2.2.1
  have ck16 : ck ≤ 16 := hS.1.2.2.2.2.2.2.2.2.2.2.2.2.2.1
  have h32 : m0 0 32 = (ck : Int) := hS.1.2.2.2.2.1
  have N4 : N ≤ 400 := by
    apply Classical.byContradiction
    intro u
    have := (S_s401 hS (s := 400) (by omega)).1
    omega
  have hh21 : ee < 12 → m0 21 ee = if hh.testBit ee then 1 else 0 := by
    intro z
    obtain ⟨h1, a1, -, a3⟩ := hS.2.2.2.2.2.2.2.2.2.2.1
    have eh : h1 = hh := by omega
    rw [a3 ee (by omega), eh]
  obtain ⟨b, eb⟩ : ∃ b, b = blk m0 ee := ⟨_, rfl⟩
  rw [← eb] at hbB hk2 h19 hxe hst hce
  obtain ⟨k1, k2, k3⟩ := gE ee he28
  have r : ∀ q, q ≠ 0 → q < 36 → m q = m0 q := fun q x y => f1 q x (Or.inl y)
  obtain ⟨m2, i1, i2, i3, i4⟩ := r_copies (m := m) (a0 := 36) (a1 := 9 * ee) (a2 := 37) (a3 := 0) (by unfold isIA; decide) (by unfold isIA; decide) (by show 9 * ee + 9 ≤ 252; omega) (by decide) (Or.inl (by decide))
  have v2 : ∀ i, i < 9 → m2 37 (0 + i) = ((E ee i : Nat) : Int) := fun i hi => by rw [i3 i hi]; exact k3 i hi
  have c9 : 9 * (ee : Int) = ((9 * ee : Nat) : Int) := by omega
  have i4' : ∀ Q : St → Prop, Q m2 → f_X10_copies 36 (9 * (ee : Int)) 37 0 m Q := by
    intro Q hQ
    rw [c9]
    exact i4 Q hQ
  have m19 : m 19 b = (v : Int) := by rw [r 19 (by decide) (by decide)]; exact h19
  -- the hub
  have hub : ∃ m3 : St, (∀ q, q ≠ 37 → m3 q = m q) ∧ (∀ i, 9 ≤ i → m3 37 i = m 37 i) ∧ MRg m3 37 0 (stg hh ee (E ee)) ∧ ∀ Q : St → Prop, f_X10_goesThrough_J48 Q m3 (ee : Int) (b : Int) (v : Int) → f_X10_goesThrough (ee : Int) (b : Int) m Q := by
    by_cases z : ee < 12 ∧ hh.testBit ee = true
    · have p : 2 ^ ee < 2 ^ 12 := Nat.pow_lt_pow_right (by decide) z.1
      refine ⟨sset m2 37 8 ((2 ^ ee : Nat) : Int), fun q hq => by rw [sset_row _ _ _ hq, i1 q hq], fun i hi => by rw [sset_place _ _ _ (by omega), i2 i (by omega)], ⟨?_, fun _ i hi => ?_⟩, fun Q w => ?_⟩
      · rw [stg_lo (by decide), if_neg (fun u => absurd u.1 (by decide)), sset_place _ _ _ (by decide)]
        exact v2 0 (by decide)
      · rw [stg_lo hi]
        by_cases y : i = 8
        · rw [if_pos ⟨y, z⟩, y, Nat.zero_add, sset_at, vu_eq]
        · rw [if_neg (fun u => y u.1), sset_place _ _ _ (by omega)]
          exact v2 i hi
      · unfold f_X10_goesThrough
        refine ⟨by omega, by omega, ?_⟩
        rintro x1 rfl
        rw [Int.toNat_natCast, m19]
        refine i4' _ ⟨⟨by omega, by omega⟩, fun u => by omega, fun _ => ⟨by omega, by omega, ?_⟩⟩
        rw [Int.toNat_natCast, i1 21 (by decide), r 21 (by decide) (by decide), hh21 z.1, if_pos z.2]
        refine ⟨⟨by decide, by decide⟩, fun u => absurd u (by decide), fun _ => ?_⟩
        rintro σ2 rfl
        rw [ishl_1 (by omega)]
        exact w
    · refine ⟨m2, i1, fun i hi => i2 i (by omega), ⟨?_, fun _ i hi => ?_⟩, fun Q w => ?_⟩
      · rw [stg_lo (by decide), if_neg (fun u => absurd u.1 (by decide))]
        exact v2 0 (by decide)
      · rw [stg_lo hi, if_neg (fun u => z u.2)]
        exact v2 i hi
      · unfold f_X10_goesThrough
        refine ⟨by omega, by omega, ?_⟩
        rintro x1 rfl
        rw [Int.toNat_natCast, m19]
        refine i4' _ ⟨⟨by omega, by omega⟩, fun u => w, fun u => ⟨by omega, by omega, ?_⟩⟩
        have z1 : ee < 12 := by omega
        have z2 : hh.testBit ee = false := by
          cases q : hh.testBit ee
          · rfl
          · exact absurd ⟨z1, q⟩ z
        rw [Int.toNat_natCast, i1 21 (by decide), r 21 (by decide) (by decide), hh21 z1, z2]
        exact ⟨⟨by decide, by decide⟩, fun _ => w, fun u => absurd rfl u⟩
  obtain ⟨m3, j1, j2, j3, j4⟩ := hub
  obtain ⟨m5, e5⟩ : ∃ m5 : St, m5 = sset (sset (sset (sset (sset m3 0 67 0) 0 68 0) 0 66 0) 0 49 (b : Int)) 0 48 (m0 17 b) := ⟨_, rfl⟩
  have r5 : ∀ q, q ≠ 0 → m5 q = m3 q := fun q hq => by rw [e5, sset_row _ _ _ hq, sset_row _ _ _ hq, sset_row _ _ _ hq, sset_row _ _ _ hq, sset_row _ _ _ hq]
  have p5 : ∀ i, i ≠ 48 → i ≠ 49 → i ≠ 66 → i ≠ 67 → i ≠ 68 → m5 0 i = m 0 i := fun i a1 a2 a3 a4 a5 => by rw [e5, sset_place _ _ _ a1, sset_place _ _ _ a2, sset_place _ _ _ a3, sset_place _ _ _ a5, sset_place _ _ _ a4, j1 0 (by decide)]
  have go5 : ∀ Q : St → Prop, f_X10_goesThrough_L78 Q FU m5 (ee : Int) (v : Int) → f_X10_goesThrough (ee : Int) (b : Int) m Q := by
    intro Q w
    refine j4 Q ?_
    unfold f_X10_goesThrough_J48
    rintro σ1 rfl
    rintro σ2 rfl
    rintro σ3 rfl
    rintro σ4 rfl
    refine ⟨by omega, by omega, ?_⟩
    rintro σ5 rfl
    rw [Int.toNat_natCast, sset_row _ _ _ (show (17 : Nat) ≠ 0 by decide), sset_row _ _ _ (show (17 : Nat) ≠ 0 by decide), sset_row _ _ _ (show (17 : Nat) ≠ 0 by decide), sset_row _ _ _ (show (17 : Nat) ≠ 0 by decide), j1 17 (by decide), r 17 (by decide) (by decide), ← e5]
    exact w
  have ws5 : WSt m0 m5 ck (stg hh ee (E ee)) E 0 (m0 17 b) := by
    refine ⟨⟨fun q x y => by rw [r5 q x, j1 q (by omega)]; exact f1 q x y, fun i a1 a2 a3 a4 a5 a6 a7 a8 => by rw [p5 i a1 a2 a3 a4 a5]; exact f0 i a1 a2 a3 a4 a5 a6 a7 a8⟩, fun k hk => ⟨(gE k hk).1, (gE k hk).2.1, fun i hi => by rw [r5 36 (by decide), j1 36 (by decide)]; exact (gE k hk).2.2 i hi⟩, MRg_keep j3 (fun i hi => by rw [r5 37 (by decide)]), stg_SVk k1, ⟨?_, ?_⟩, ?_, by rw [e5, sset_at, vu_eq], by rw [p5 69 (by decide) (by decide) (by decide) (by decide) (by decide)]; exact g69, B16_eq (p5 72 (by decide) (by decide) (by decide) (by decide) (by decide)) g72, B16_eq (p5 73 (by decide) (by decide) (by decide) (by decide) (by decide)) g73⟩
    · unfold stg
      rw [ent_9.1, e5, sset_place _ _ _ (by decide), sset_place _ _ _ (by decide), sset_place _ _ _ (by decide), sset_place _ _ _ (by decide), sset_at, vu_eq]; rfl
    · unfold stg
      rw [ent_9.2, e5, sset_place _ _ _ (by decide), sset_place _ _ _ (by decide), sset_place _ _ _ (by decide), sset_at, vu_eq]; rfl
    · rw [e5, sset_place _ _ _ (by decide), sset_place _ _ _ (by decide), sset_at, vu_eq]; rfl
  have g0 : stg hh ee (E ee) 0 = 1 := by rw [stg_0, h0]
  have tq : TRo m m5 := ⟨by rw [r5 44 (by decide), j1 44 (by decide)], p5 72 (by decide) (by decide) (by decide) (by decide) (by decide), p5 73 (by decide) (by decide) (by decide) (by decide) (by decide), p5 69 (by decide) (by decide) (by decide) (by decide) (by decide)⟩
  obtain ⟨y1, -, y3, -⟩ := hY.1 b hbB
  have hv17 : m0 17 b = -1 ∨ ∃ s : Nat, m0 17 b = (s : Int) ∧ s < N ∧ m0 7 s = (b : Int) ∧ N - s < N + 1 ∧ stg hh ee (E ee) 0 = 1 := by
    rcases hYC b hbB with ⟨u, -⟩ | ⟨u1, u2, u3, -⟩
    · exact Or.inl u
    · exact Or.inr ⟨(m0 17 b).toNat, by omega, by omega, u3, by omega, g0⟩
  obtain ⟨m6, g1, E1, R, k, a1, -, a3, a4, a5, a6⟩ := walk_main (hh := hh) (nn := (v : Int)) hS hH hY (N + 1) (m0 17 b) b 0 m5 (stg hh ee (E ee)) E hbB (by omega) hv17 h19 ws5
  have v17 : m0 17 b ≠ -1 → 0 ≤ m0 17 b := by
    intro u
    rcases hYC b hbB with ⟨w, -⟩ | ⟨w, -⟩
    · exact absurd w u
    · exact w
  have wp := a3 0 (h b) (fun u => by have := v17 u; omega) (fun _ => Nat.le_refl _)
  have kk : k < 99999 := by
    by_cases u : m0 17 b = -1
    · have := a4 u; omega
    · have := a5 u
      have := v17 u
      omega
  have goW : ∀ Q : St → Prop, (∀ fu : Nat, f_X10_goesThrough_L78 Q (fu + 1) m6 (ee : Int) (v : Int)) → f_X10_goesThrough (ee : Int) (b : Int) m Q := by
    intro Q w
    refine go5 Q ?_
    rw [FU_k kk]
    exact a6 Q (99999 - k + 1) (ee : Int) (w (99999 - k))
  have w72 : B16 m6 72 := a1.2.2.2.2.2.2.2.2.1
  have w73 : B16 m6 73 := a1.2.2.2.2.2.2.2.2.2
  rw [eb] at wp goW hst hce hk2 hxe
  by_cases dead : g1 0 = 0
  · refine ⟨m6, E1, R, ⟨a1.1, a1.2.1, a1.2.2.2.2.2.2.2.1, w72, w73⟩, SW_none hS hee hk2 hst dead tq wp, fun Q hQ => goW Q (fun fu => L78_dead a1.2.2.2.2.2.2.1 a1.2.2.2.2.2.1 (by rw [a1.2.2.1.1, dead]; rfl) hQ)⟩
  · have g11 : g1 0 = 1 := by
      rcases KV_01 a1.2.2.2.1.1 with u | u
      · exact absurd u dead
      · exact u
    obtain ⟨m7, E2, t1, t2, t3, t4, t5, t6, t7, t8, t9, t10⟩ := r_tail (ee := ee) (v := v) ck16 h32 he28 hv a1 g11
    have u73 : B16 m7 73 := by
      obtain ⟨a, x1, x2⟩ := w73
      obtain ⟨b', x3, x4, -⟩ := t9 a x1 x2
      exact ⟨b', x3, x4⟩
    exact ⟨m7, E2, RUn R (SGL xe g1), ⟨t4, t1, t5, B16_eq t6 w72, u73⟩, SW_one hS hee hv hk2 hxe hxS h11 h12 hst hce (MEr_KV gE) (MEr_KV a1.2.1) (MEr_KV t1) a1.2.2.2.1 g11 tq wp t2 t3 t6 t7 t8 t9, fun Q hQ => goW Q (fun fu => t10 Q fu hQ)⟩
/-- to which entry a statement belongs -/
theorem OWN_inj {ee' x : Nat} (hS : SRx D c m0 φ e N S B nd ck ts tm) (hY : YWc m0 N B δ h) (hee : ee < nd ∨ (12 ≤ ee ∧ ee < 12 + ck)) (hee' : ee' < nd ∨ (12 ≤ ee' ∧ ee' < 12 + ck)) (o : OWNe m0 φ e N ee x) (o' : OWNe m0 φ e N ee' x) : ee = ee' := by
  obtain ⟨v, xe, ⟨he28, hv, hbB, hk2, h19⟩, ⟨hxe, hxS, h11, h12⟩, -⟩ := SE_stat hS hY hee
  obtain ⟨v', xe', ⟨he28', hv', hbB', hk2', h19'⟩, ⟨hxe', hxS', h11', h12'⟩, -⟩ := SE_stat hS hY hee'
  have hYP : YP φ N S := hS.2.1.1
  have nd12 : nd ≤ 12 := hS.1.2.2.2.2.2.2.2.2.2.2.2.2.1
  have hYK := hS.2.2.2.2.2.2.2.1.1
  have same : xe = xe' → ee = ee' := by
    intro ex
    subst ex
    rcases Nat.lt_or_ge ee 12 with z | z
    · obtain ⟨a1, a2, a3⟩ := h11 z
      rcases Nat.lt_or_ge ee' 12 with z' | z'
      · obtain ⟨b1, b2, b3⟩ := h11' z'
        omega
      · obtain ⟨b1, -⟩ := h12' z'
        omega
    · obtain ⟨a1, a2, -⟩ := h12 z
      rcases Nat.lt_or_ge ee' 12 with z' | z'
      · obtain ⟨b1, -⟩ := h11' z'
        omega
      · obtain ⟨b1, b2, -⟩ := h12' z'
        omega
  have k11 : c (D + 1) xe = 11 ∨ c (D + 1) xe = 12 := by
    rcases Nat.lt_or_ge ee 12 with z | z
    · exact Or.inl (h11 z).1
    · exact Or.inr (h12 z).1
  have k11' : c (D + 1) xe' = 11 ∨ c (D + 1) xe' = 12 := by
    rcases Nat.lt_or_ge ee' 12 with z | z
    · exact Or.inl (h11' z).1
    · exact Or.inr (h12' z).1
  have kl : ∀ s, s < N → c (D + 1) (φ s) ≤ 10 := by
    intro s hs
    have := hYK s hs
    unfold KR at this
    omega
  rcases o with ⟨s, s1, s2, s3⟩ | o
  · rcases o' with ⟨t, t1, t2, t3⟩ | o'
    · have : s = t := ph_inj hYP s1 t1 (by rw [← s2, t2])
      subst this
      refine same ?_
      rw [s3] at t3
      rw [← t3] at hxe'
      omega
    · have ex : x = xe' := by omega
      have := kl s s1
      rw [← s2, ex] at this
      omega
  · have ex : x = xe := by omega
    rcases o' with ⟨t, t1, t2, t3⟩ | o'
    · have := kl t t1
      rw [← t2, ex] at this
      omega
    · exact same (by omega)
/-- pieces of a sweep one behind the other -/
theorem SW_trans {W W' : Nat → Prop} (hS : SRx D c m0 φ e N S B nd ck ts tm) (hY : YWc m0 N B δ h) (hW : ∀ i, W i → i < nd ∨ (12 ≤ i ∧ i < 12 + ck)) (hW' : ∀ i, W' i → i < nd ∨ (12 ≤ i ∧ i < 12 + ck)) (hdj : ∀ i, W i → ¬ W' i) (hE : ∀ i, i < 28 → KV (E i)) (hE1 : ∀ i, i < 28 → KV (E1 i)) (hE2 : ∀ i, i < 28 → KV (E2 i)) (a : SWc c m0 D H S nd ck hh N φ e W E E1 R m m1) (b : SWc c m0 D H S nd ck hh N φ e W' E1 E2 R1 m1 m2) : SWc c m0 D H S nd ck hh N φ e (fun i => W i ∨ W' i) E E2 (RUn R R1) m m2 := by
  have hdt := DT_of hS
  have hXQ := XQ_of hS
  have k0 : ∀ x, x < S → c (D + 1) x = 6 → 0 ≤ c (D + 2) x := fun x hx k => ((hXQ x hx).2.2.2.2.1 k).2.2.2.2.1
  obtain ⟨a1, a2, a3, a4, a5, a6⟩ := a
  obtain ⟨b1, b2, b3, b4, b5, b6⟩ := b
  have dj : ∀ x, R x 0 ≠ 0 → R1 x 0 = 0 := by
    intro x hx
    apply Classical.byContradiction
    intro u
    obtain ⟨-, e1, w1, o1⟩ := a1 x hx
    obtain ⟨-, e2, w2, o2⟩ := b1 x u
    have := OWN_inj hS hY (hW e1 w1) (hW' e2 w2) o1 o2
    rw [this] at w1
    exact hdj e2 w1 w2
  refine ⟨fun x hx => ?_, RUn_RVk a2 b2, fun A2 Ex hs l => ?_, fun M Ef hM l => ?_, GRW_trans hE hE1 hE2 a5 b5, OUT_trans hdt (fun x hx => (a1 x hx).1) (fun x hx => (b1 x hx).1) dj k0 a6 b6⟩
  · rcases RUn_ne.1 hx with z | z
    · obtain ⟨x1, e1, w1, o1⟩ := a1 x z
      exact ⟨x1, e1, Or.inl w1, o1⟩
    · obtain ⟨x1, e1, w1, o1⟩ := b1 x z
      exact ⟨x1, e1, Or.inr w1, o1⟩
  · obtain ⟨p1, p2⟩ := a3 A2 Ex hs l
    obtain ⟨q1, q2⟩ := b3 A2 Ex hs p1
    refine ⟨q1, fun x => ?_⟩
    by_cases z : R x 0 = 0
    · rw [RUn_r z]; exact q2 x
    · rw [RUn_l z]; exact p2 x
  · have hM1 : ∀ x, R x 0 ≠ 0 → M x = R x := by
      intro x hx
      have := hM x (RUn_ne.2 (Or.inl hx))
      rw [RUn_l hx] at this; exact this
    have hM2 : ∀ x, R1 x 0 ≠ 0 → M x = R1 x := by
      intro x hx
      have := hM x (RUn_ne.2 (Or.inr hx))
      by_cases z : R x 0 = 0
      · rw [RUn_r z] at this; exact this
      · exact absurd (dj x z) hx
    obtain ⟨p1, p2⟩ := a4 M Ef hM1 (fun i hi => KLE_trans (b5.1 i hi) (l i hi))
    obtain ⟨q1, q2⟩ := b4 M Ef hM2 l
    refine ⟨fun x hx => ?_, fun l2 ee' he => ?_⟩
    · rcases RUn_ne.1 hx with z | z
      · exact p1 x z
      · exact q1 x z
    · rcases he with he | he
      · exact p2 l2 ee' he
      · exact q2 (fun i hi => KLE_trans (l2 i hi) (a5.1 i hi)) ee' he
/-- an entry with nothing in it -/
theorem SW_skip {ee : Nat} (he : ee < 28) (hE : ∀ i, i < 28 → KV (E i)) (h0 : E ee 0 = 0) : SWc c m0 D H S nd ck hh N φ e (fun i => i = ee) E E (fun _ _ => 0) m m := by
  refine ⟨fun x u => absurd rfl u, fun _ => zero_SVk, fun A2 E2 _ l => ⟨l, fun x => Or.inl rfl⟩, fun M Ef _ l => ⟨fun x u => absurd rfl u, fun l2 ee' he' => ?_⟩, GRW_same hE rfl, OUT_0 ⟨rfl, rfl, rfl, rfl⟩⟩
  refine Or.inl ?_
  rw [stg_0, he']
  rcases l2 ee he with u | u
  · exact u
  · rw [u.1] at h0
    exact absurd h0 (by decide)
theorem SW_weak {W W' : Nat → Prop} (h : SWc c m0 D H S nd ck hh N φ e W E E1 R m m1) (hW : ∀ i, W i ↔ W' i) : SWc c m0 D H S nd ck hh N φ e W' E E1 R m m1 := by
  obtain ⟨a1, a2, a3, a4, a5⟩ := h
  refine ⟨fun x hx => ?_, a2, a3, fun M Ef u1 u2 => ?_, a5⟩
  · obtain ⟨x1, e1, w1, o1⟩ := a1 x hx
    exact ⟨x1, e1, (hW e1).1 w1, o1⟩
  · obtain ⟨p1, p2⟩ := a4 M Ef u1 u2
    exact ⟨p1, fun l2 e1 w1 => p2 l2 e1 ((hW e1).2 w1)⟩
theorem SW_nil {W : Nat → Prop} (hE : ∀ i, i < 28 → KV (E i)) (hW : ∀ i, ¬ W i) : SWc c m0 D H S nd ck hh N φ e W E E (fun _ _ => 0) m m := ⟨fun x u => absurd rfl u, fun _ => zero_SVk, fun A2 E2 _ l => ⟨l, fun x => Or.inl rfl⟩, fun M Ef _ l => ⟨fun x u => absurd rfl u, fun _ ee' he' => absurd he' (hW ee')⟩, GRW_same hE rfl, OUT_0 ⟨rfl, rfl, rfl, rfl⟩⟩
/-- all choices -/
theorem r_chs (hS : SRx D c m0 φ e N S B nd ck ts tm) (hH : HM c D ck H) (h13 : c D 13 = (hh : Int)) (hY : YWc m0 N B δ h) : ∀ (j k : Nat) (m : St) (E : Nat → Nat → Nat), k + j = ck → GSt m0 m E → ∃ (m1 : St) (E1 R : Nat → Nat → Nat), GSt m0 m1 E1 ∧ SWc c m0 D H S nd ck hh N φ e (fun i => 12 + k ≤ i ∧ i < 12 + ck) E E1 R m m1 ∧ ∀ (k27 : St → Prop) (Q : St → Int → Prop) (fu : Nat), j < fu → k27 m1 → f_X10_analyze_L112 k27 Q fu m (k : Int) := by
  have ck16 : ck ≤ 16 := hS.1.2.2.2.2.2.2.2.2.2.2.2.2.2.1
  have h32 : m0 0 32 = (ck : Int) := hS.1.2.2.2.2.1
  have hYF := hS.2.1.2.2.2.2.2.2.1
  have N4 : N ≤ 400 := by
    apply Classical.byContradiction
    intro u
    have := (S_s401 hS (s := 400) (by omega)).1
    omega
  intro j
  induction j with
  | zero =>
    intro k m E hk hG
    have c32 : m 0 32 = (ck : Int) := by rw [hG.1.2 32 (by decide) (by decide) (by decide) (by decide) (by decide) (by decide) (by decide) (by decide)]; exact h32
    refine ⟨m, E, fun _ _ => 0, hG, SW_nil (MEr_KV hG.2.1) (fun i u => by omega), fun k27 Q fu hf w => ?_⟩
    cases fu with
    | zero => omega
    | succ fu =>
      unfold f_X10_analyze_L112
      rw [c32]
      exact ⟨⟨by omega, by omega⟩, ⟨by omega, by omega⟩, fun _ => w, fun u => by omega⟩
  | succ j ih =>
    intro k m E hk hG
    have c32 : m 0 32 = (ck : Int) := by rw [hG.1.2 32 (by decide) (by decide) (by decide) (by decide) (by decide) (by decide) (by decide) (by decide)]; exact h32
    have r : ∀ q, q ≠ 0 → q < 36 → m q = m0 q := fun q x y => hG.1.1 q x (Or.inl y)
    obtain ⟨kv, -, k3⟩ := hG.2.1 (12 + k) (by omega)
    have v36 : m 36 (9 * (12 + k)) = ((E (12 + k) 0 : Nat) : Int) := k3 0 (by decide)
    have i36 : (9 * ((12 : Int) + (k : Int))).toNat = 9 * (12 + k) := by omega
    obtain ⟨f1, f2, -⟩ := hYF.1 k (by omega)
    by_cases z : E (12 + k) 0 = 1
    · obtain ⟨m2, E2, R2, t1, t2, t3⟩ := r_through hS hH h13 hY (ee := 12 + k) (Or.inr ⟨by omega, by omega⟩) hG z
      obtain ⟨m1, E1, R1, i1, i2, i3⟩ := ih (k + 1) m2 E2 (by omega) t1
      refine ⟨m1, E1, RUn R2 R1, i1, SW_weak (SW_trans hS hY (fun i u => Or.inr ⟨by omega, by omega⟩) (fun i u => Or.inr ⟨by omega, by omega⟩) (fun i u => by omega) (MEr_KV hG.2.1) (MEr_KV t1.2.1) (MEr_KV i1.2.1) t2 i2) (fun i => by omega), fun k27 Q fu hf w => ?_⟩
      cases fu with
      | zero => omega
      | succ fu =>
        have nx := i3 k27 Q fu (by omega) w
        have e12 : (12 : Int) + (k : Int) = ((12 + k : Nat) : Int) := by omega
        have eb : m0 8 (m0 24 k).toNat = ((blk m0 (12 + k) : Nat) : Int) := by
          obtain ⟨v, xe, ⟨-, -, hbB, -⟩, -⟩ := SE_stat hS hY (ee := 12 + k) (Or.inr ⟨by omega, by omega⟩)
          have : blk m0 (12 + k) = (m0 8 (m0 24 k).toNat).toNat := by unfold blk; rw [if_neg (by omega), show 12 + k - 12 = k by omega]
          obtain ⟨-, -, f3, -⟩ := hYF.1 k (by omega)
          have y := (hS.2.1.2.2.2.2.2.1 (m0 24 k).toNat (by omega)).2 f3
          have n8 := hS.2.1.2.2.2.2.2.2.2 (m0 24 k).toNat (by omega) (Or.inr f3)
          rcases y.2.2.2 with y | y
          · exact absurd y n8
          · omega
        unfold f_X10_analyze_L112
        rw [c32, i36, v36, z, Int.toNat_natCast, r 24 (by decide) (by decide), r 8 (by decide) (by decide), eb, e12]
        refine ⟨⟨by omega, by omega⟩, ⟨by omega, by omega⟩, fun u => by omega, fun _ => ⟨by omega, by omega, ⟨by decide, by decide⟩, fun u => absurd rfl u, fun _ => ⟨by omega, by omega, by omega, by omega, t3 _ nx⟩⟩⟩
    · have z0 : E (12 + k) 0 = 0 := by
        rcases KV_01 kv with u | u
        · exact u
        · exact absurd u z
      obtain ⟨m1, E1, R1, i1, i2, i3⟩ := ih (k + 1) m E (by omega) hG
      refine ⟨m1, E1, RUn (fun _ _ => 0) R1, i1, SW_weak (SW_trans hS hY (fun i u => Or.inr ⟨by omega, by omega⟩) (fun i u => Or.inr ⟨by omega, by omega⟩) (fun i u => by omega) (MEr_KV hG.2.1) (MEr_KV hG.2.1) (MEr_KV i1.2.1) (SW_skip (ee := 12 + k) (by omega) (MEr_KV hG.2.1) z0) i2) (fun i => by omega), fun k27 Q fu hf w => ?_⟩
      cases fu with
      | zero => omega
      | succ fu =>
        have nx := i3 k27 Q fu (by omega) w
        unfold f_X10_analyze_L112
        rw [c32, i36, v36, z0]
        exact ⟨⟨by omega, by omega⟩, ⟨by omega, by omega⟩, fun u => by omega, fun _ => ⟨by omega, by omega, ⟨by decide, by decide⟩, fun _ => nx, fun u => absurd u (by decide)⟩⟩
/-- all nodes, and then all choices -/
theorem r_nds (hS : SRx D c m0 φ e N S B nd ck ts tm) (hH : HM c D ck H) (h13 : c D 13 = (hh : Int)) (hY : YWc m0 N B δ h) : ∀ (j k : Nat) (m : St) (E : Nat → Nat → Nat), k + j = nd → GSt m0 m E → ∃ (m1 : St) (E1 R : Nat → Nat → Nat), GSt m0 m1 E1 ∧ SWc c m0 D H S nd ck hh N φ e (fun i => (k ≤ i ∧ i < nd) ∨ (12 ≤ i ∧ i < 12 + ck)) E E1 R m m1 ∧ ∀ (k27 : St → Prop) (Q : St → Int → Prop) (fu : Nat), j < fu → k27 m1 → f_X10_analyze_L72 k27 Q fu m (k : Int) := by
  have nd12 : nd ≤ 12 := hS.1.2.2.2.2.2.2.2.2.2.2.2.2.1
  have ck16 : ck ≤ 16 := hS.1.2.2.2.2.2.2.2.2.2.2.2.2.2.1
  have h30 : m0 0 30 = (nd : Int) := hS.1.2.2.2.1
  have hYF := hS.2.1.2.2.2.2.2.2.1
  intro j
  induction j with
  | zero =>
    intro k m E hk hG
    have c30 : m 0 30 = (nd : Int) := by rw [hG.1.2 30 (by decide) (by decide) (by decide) (by decide) (by decide) (by decide) (by decide) (by decide)]; exact h30
    obtain ⟨m1, E1, R, i1, i2, i3⟩ := r_chs hS hH h13 hY ck 0 m E (by omega) hG
    refine ⟨m1, E1, R, i1, SW_weak i2 (fun i => by omega), fun k27 Q fu hf w => ?_⟩
    cases fu with
    | zero => omega
    | succ fu =>
      unfold f_X10_analyze_L72
      rw [c30]
      exact ⟨⟨by omega, by omega⟩, ⟨by omega, by omega⟩, fun _ => i3 k27 Q FU (by show ck < 100000; omega) w, fun u => by omega⟩
  | succ j ih =>
    intro k m E hk hG
    have c30 : m 0 30 = (nd : Int) := by rw [hG.1.2 30 (by decide) (by decide) (by decide) (by decide) (by decide) (by decide) (by decide) (by decide)]; exact h30
    have r : ∀ q, q ≠ 0 → q < 36 → m q = m0 q := fun q x y => hG.1.1 q x (Or.inl y)
    obtain ⟨kv, -, k3⟩ := hG.2.1 k (by omega)
    have v36 : m 36 (9 * k) = ((E k 0 : Nat) : Int) := k3 0 (by decide)
    have i36 : (9 * (k : Int)).toNat = 9 * k := by omega
    obtain ⟨f1, f2, -⟩ := hYF.2 k (by omega)
    by_cases z : E k 0 = 1
    · obtain ⟨m2, E2, R2, t1, t2, t3⟩ := r_through hS hH h13 hY (ee := k) (Or.inl (by omega)) hG z
      obtain ⟨m1, E1, R1, i1, i2, i3⟩ := ih (k + 1) m2 E2 (by omega) t1
      refine ⟨m1, E1, RUn R2 R1, i1, SW_weak (SW_trans hS hY (fun i u => Or.inl (by omega)) (fun i u => by omega) (fun i u => by omega) (MEr_KV hG.2.1) (MEr_KV t1.2.1) (MEr_KV i1.2.1) t2 i2) (fun i => by omega), fun k27 Q fu hf w => ?_⟩
      cases fu with
      | zero => omega
      | succ fu =>
        have nx := i3 k27 Q fu (by omega) w
        have eb : m0 22 k = ((blk m0 k : Nat) : Int) := by
          have : blk m0 k = (m0 22 k).toNat := by unfold blk; rw [if_pos (by omega)]
          omega
        unfold f_X10_analyze_L72
        rw [c30, i36, v36, z, Int.toNat_natCast, r 22 (by decide) (by decide), eb]
        refine ⟨⟨by omega, by omega⟩, ⟨by omega, by omega⟩, fun u => by omega, fun _ => ⟨by omega, by omega, ⟨by decide, by decide⟩, fun u => absurd rfl u, fun _ => ⟨by omega, by omega, t3 _ nx⟩⟩⟩
    · have z0 : E k 0 = 0 := by
        rcases KV_01 kv with u | u
        · exact u
        · exact absurd u z
      obtain ⟨m1, E1, R1, i1, i2, i3⟩ := ih (k + 1) m E (by omega) hG
      refine ⟨m1, E1, RUn (fun _ _ => 0) R1, i1, SW_weak (SW_trans hS hY (fun i u => Or.inl (by omega)) (fun i u => by omega) (fun i u => by omega) (MEr_KV hG.2.1) (MEr_KV hG.2.1) (MEr_KV i1.2.1) (SW_skip (ee := k) (by omega) (MEr_KV hG.2.1) z0) i2) (fun i => by omega), fun k27 Q fu hf w => ?_⟩
      cases fu with
      | zero => omega
      | succ fu =>
        have nx := i3 k27 Q fu (by omega) w
        unfold f_X10_analyze_L72
        rw [c30, i36, v36, z0]
        exact ⟨⟨by omega, by omega⟩, ⟨by omega, by omega⟩, fun u => by omega, fun _ => ⟨by omega, by omega, ⟨by decide, by decide⟩, fun _ => nx, fun u => absurd u (by decide)⟩⟩
end MSWEEP
