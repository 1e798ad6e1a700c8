/-! ===== pure layer: the loops of the exploration, in both ===== -/
def PWz (c m : St) (P D nd : Nat) : Prop := c P 0 = (D : Int) ∧ c (P + 1) 0 = m 26 10 ∧ 0 ≤ m 26 10 ∧ PWl c P (m 26) ∧ PWx c m P nd
theorem PW_z {c m : St} {P D nd ck H : Nat} (h : PW c m P D nd ck H) : PWz c m P D nd := ⟨h.1.1, h.1.2.2.2.2.2.2.2.1, h.2.1.2.2.2.2.2.2.2.2.2.2.2.2.2.2, h.2.2.2.1, h.2.2.2.2⟩
theorem PWz_frame {c c1 m m1 : St} {P D nd : Nat} (h : PWz c m P D nd) (h0 : c1 P 0 = c P 0) (h9 : c1 P 9 = c P 9) (h1 : c1 (P + 1) = c (P + 1)) (h2 : c1 (P + 2) = c (P + 2)) (h3 : c1 (P + 3) = c (P + 3)) (h26 : m1 26 = m 26) (h29 : m1 29 = m 29) (h30 : m1 30 = m 30) (h44 : m1 0 44 = m 0 44) : PWz c1 m1 P D nd := by
  unfold PWz PWl PWx at *
  rw [h0, h9, h1, h2, h3, h26, h29, h30, h44]; exact h
theorem pcr_le {O : Nat} : ∀ (j k : Nat), pcr O j k ≤ j := by
  intro j
  induction j with
  | zero => intro k; exact Nat.le_refl _
  | succ j ih =>
    intro k
    have := ih (k + 1)
    unfold pcr
    split <;> omega
section LOOPS
variable {D N S B nd ck ts tm H lim : Nat} {φ : Nat → Nat} {e : Nat → Int}
/-- a found state comes back in both -/
theorem J_ret {c m : St} {n s : Nat} {KF : Int} (hnd : nd ≤ 12) (hck : ck ≤ 16) (hH : H < 65536) (hz : PWz c m 61 D nd) (hx : EXR c m nd ck H n lim KF) (hs : s < n) : ∃ c1 m1 : St, (∀ q, q ≠ 61 → c1 q = c q) ∧ c1 61 8 = m 32 (11 * s + 7) ∧ c1 61 0 = c 61 0 ∧ c1 61 9 = c 61 9 ∧ (∀ q, q ≠ 26 → m1 q = m q) ∧ m1 26 9 = m 32 (11 * s + 7) ∧ m1 26 10 = m 26 10 ∧ PW c1 m1 61 D nd ck H ∧ (∀ Q : St → Prop, Q c1 → f_X5_restore 61 (c 53 s) c Q) ∧ ∀ Q : St → Prop, Q m1 → f_X10_comesBack (s : Int) m Q := by
  obtain ⟨⟨-, -, b3, b4, -⟩, h2, -⟩ := hx
  obtain ⟨p1, p2, -⟩ := h2 s hs
  have p1' := p1
  obtain ⟨u1, u2, u3, u4, u5, u6, u7, u8, u9, u10, u11, u12, ⟨T, u13, u14, u15⟩, u16, u17⟩ := p1'
  have hpow2 : 2 ^ ck ≤ 2 ^ 16 := Nat.pow_le_pow_right (by decide) hck
  have hpow3 : (2 : Nat) ^ 16 = 65536 := rfl
  dsimp only at u1 u2 u3 u4 u5 u6 u7 u8 u9 u10 u11 u12 u13 u16 u17
  obtain ⟨c1, hc1⟩ : ∃ c1 : St, c1 = cRs c 61 (m 32 (11 * s + 7)).toNat (m 32 (11 * s + 6)).toNat (m 32 (11 * s + 3) + 16 * m 32 (11 * s + 4) + 256 * m 32 (11 * s + 5)).toNat (m 32 (11 * s + 2)).toNat (m 32 (11 * s + 1) + 1).toNat (m 32 (11 * s + 0)).toNat := ⟨_, rfl⟩
  obtain ⟨r0, r1, r3, r4, r5, r6, r7, r8, r9⟩ := cRs_at (P := 61) (o := (m 32 (11 * s + 7)).toNat) (t := (m 32 (11 * s + 6)).toNat) (w := (m 32 (11 * s + 3) + 16 * m 32 (11 * s + 4) + 256 * m 32 (11 * s + 5)).toNat) (f := (m 32 (11 * s + 2)).toNat) (h := (m 32 (11 * s + 1) + 1).toNat) (n := (m 32 (11 * s + 0)).toNat) (c := c)
  rw [← hc1] at r0 r1 r3 r4 r5 r6 r7 r8 r9
  have cr : ∀ q, q ≠ 61 → c1 q = c q := fun q hq => by rw [hc1]; exact cRs_row hq
  obtain ⟨m1, hm1⟩ : ∃ m1 : St, m1 = sset (sset (sset (sset (sset (sset (sset (sset (sset m 26 0 1) 26 2 (m 32 (11 * s + 0))) 26 3 (m 32 (11 * s + 1))) 26 4 (m 32 (11 * s + 2))) 26 5 (m 32 (11 * s + 3))) 26 6 (m 32 (11 * s + 4))) 26 7 (m 32 (11 * s + 5))) 26 8 (m 32 (11 * s + 6))) 26 9 (m 32 (11 * s + 7)) := ⟨_, rfl⟩
  have mr : ∀ q, q ≠ 26 → m1 q = m q := fun q hq => by rw [hm1, sset_row _ _ _ hq, sset_row _ _ _ hq, sset_row _ _ _ hq, sset_row _ _ _ hq, sset_row _ _ _ hq, sset_row _ _ _ hq, sset_row _ _ _ hq, sset_row _ _ _ hq, sset_row _ _ _ hq]
  have e0 : m1 26 0 = 1 := by rw [hm1]; simp [sset_ap]
  have e2 : m1 26 2 = m 32 (11 * s + 0) := by rw [hm1]; simp [sset_ap]
  have e3 : m1 26 3 = m 32 (11 * s + 1) := by rw [hm1]; simp [sset_ap]
  have e4 : m1 26 4 = m 32 (11 * s + 2) := by rw [hm1]; simp [sset_ap]
  have e5 : m1 26 5 = m 32 (11 * s + 3) := by rw [hm1]; simp [sset_ap]
  have e6 : m1 26 6 = m 32 (11 * s + 4) := by rw [hm1]; simp [sset_ap]
  have e7 : m1 26 7 = m 32 (11 * s + 5) := by rw [hm1]; simp [sset_ap]
  have e8 : m1 26 8 = m 32 (11 * s + 6) := by rw [hm1]; simp [sset_ap]
  have e9 : m1 26 9 = m 32 (11 * s + 7) := by rw [hm1]; simp [sset_ap]
  have eh : ∀ i, 10 ≤ i → m1 26 i = m 26 i := fun i hi => by rw [hm1, sset_place _ _ _ (by omega), sset_place _ _ _ (by omega), sset_place _ _ _ (by omega), sset_place _ _ _ (by omega), sset_place _ _ _ (by omega), sset_place _ _ _ (by omega), sset_place _ _ _ (by omega), sset_place _ _ _ (by omega), sset_place _ _ _ (by omega)]
  obtain ⟨z0, z1, z2, z3, z4⟩ := hz
  refine ⟨c1, m1, cr, by rw [r8]; omega, r0, r9, mr, e9, eh 10 (by omega), ⟨⟨?_, ?_, ?_, ?_, ?_, ?_, ?_, ?_, ?_⟩, ?_, ?_, ?_, ?_⟩, fun Q hQ => ?_, fun Q hQ => ?_⟩
  · rw [r0, z0]
  · rw [r1, e0]
  · rw [r3, e2]; omega
  · rw [r4, e3]; omega
  · rw [r5, e4]; omega
  · rw [r6, e5, e6, e7]; omega
  · rw [r8, e9]; omega
  · rw [cr (61 + 1) (by decide), z1, eh 10 (by omega)]
  · intro g; rw [e0] at g; exact absurd g (by decide)
  · unfold PWv
    rw [e2, e3, e4, e5, e6, e7, e9, eh 10 (by omega)]
    exact ⟨u1, u2, u3, u4, u5, u6, u7, u8, u9, u10, u11, u12, by omega, u17, z2⟩
  · exact ⟨T, by rw [e8, u13], u14, by rw [r7, u13, Int.toNat_natCast, u15]⟩
  · exact PWl_same z3 (cr _ (by decide)) (fun i hi => eh i hi)
  · exact PWx_same z4 r9 (cr _ (by decide)) (by rw [mr 0 (by decide)]) (mr 29 (by decide)) (mr 30 (by decide))
  · have p2' : c 53 s = ((kyn (m 32 (11 * s + 7)).toNat (m 32 (11 * s + 6)).toNat (m 32 (11 * s + 3) + 16 * m 32 (11 * s + 4) + 256 * m 32 (11 * s + 5)).toNat (m 32 (11 * s + 2)).toNat (m 32 (11 * s + 1) + 1).toNat (m 32 (11 * s + 0)).toNat : Nat) : Int) := p2
    rw [p2']
    exact t_restore (Or.inr rfl) (by omega) (by omega) (by omega) (by omega) (by omega) (by omega) (by rw [← hc1]; exact hQ)
  · unfold f_X10_comesBack
    rw [show (11 * (s : Int)).toNat = 11 * s + 0 by omega, show (11 * (s : Int) + 1).toNat = 11 * s + 1 by omega, show (11 * (s : Int) + 2).toNat = 11 * s + 2 by omega]
    intro σ1 f1
    refine ⟨by omega, by omega, fun σ2 f2 => ⟨by omega, by omega, fun σ3 f3 => ⟨by omega, by omega, fun σ4 f4 => ?_⟩⟩⟩
    have k1 : σ1 32 = m 32 := by rw [f1, sset_row _ _ _ (by decide)]
    have k2 : σ2 32 = m 32 := by rw [f2, sset_row _ _ _ (by decide), k1]
    have k3 : σ3 32 = m 32 := by rw [f3, sset_row _ _ _ (by decide), k2]
    have k4 : σ4 32 = m 32 := by rw [f4, sset_row _ _ _ (by decide), k3]
    show f_X10_comesBack_L58 Q (99996 + 1 + 1 + 1 + 1) σ4 (s : Int) 0
    unfold f_X10_comesBack_L58
    refine ⟨⟨by decide, by decide⟩, fun u => absurd u (by decide), fun _ => ⟨by omega, by omega, by omega, by omega, fun σ5 f5 => ?_⟩⟩
    rw [k4, show (11 * (s : Int) + 3 + 0).toNat = 11 * s + 3 by omega] at f5
    have f5' : σ5 = sset σ4 26 5 (m 32 (11 * s + 3)) := f5
    have k5 : σ5 32 = m 32 := by rw [f5', sset_row _ _ _ (by decide), k4]
    unfold f_X10_comesBack_L58
    refine ⟨⟨by decide, by decide⟩, fun u => absurd u (by decide), fun _ => ⟨by omega, by omega, by omega, by omega, fun σ6 f6 => ?_⟩⟩
    rw [k5, show (11 * (s : Int) + 3 + (0 + 1)).toNat = 11 * s + 4 by omega] at f6
    have f6' : σ6 = sset σ5 26 6 (m 32 (11 * s + 4)) := f6
    have k6 : σ6 32 = m 32 := by rw [f6', sset_row _ _ _ (by decide), k5]
    unfold f_X10_comesBack_L58
    refine ⟨⟨by decide, by decide⟩, fun u => absurd u (by decide), fun _ => ⟨by omega, by omega, by omega, by omega, fun σ7 f7 => ?_⟩⟩
    rw [k6, show (11 * (s : Int) + 3 + (0 + 1 + 1)).toNat = 11 * s + 5 by omega] at f7
    have f7' : σ7 = sset σ6 26 7 (m 32 (11 * s + 5)) := f7
    have k7 : σ7 32 = m 32 := by rw [f7', sset_row _ _ _ (by decide), k6]
    unfold f_X10_comesBack_L58
    refine ⟨⟨by decide, by decide⟩, fun _ => ⟨by omega, by omega, fun σ8 f8 => ?_⟩, fun u => absurd (by decide) u⟩
    rw [k7, show (11 * (s : Int) + 6).toNat = 11 * s + 6 by omega] at f8
    have k8 : σ8 32 = m 32 := by rw [f8, sset_row _ _ _ (by decide), k7]
    refine ⟨by omega, by omega, fun σ9 f9 => ?_⟩
    rw [k8, show (11 * (s : Int) + 7).toNat = 11 * s + 7 by omega] at f9
    rw [k1] at f2
    rw [k2] at f3
    rw [k3] at f4
    have es : σ9 = m1 := by rw [f9, f8, f7', f6', f5', f4, f3, f2, f1, hm1]
    rw [es]; exact hQ
/-- what holds while both explore -/
def XR (c m : St) (D : Nat) (φ : Nat → Nat) (e : Nat → Int) (N S B nd ck ts tm H lim n F : Nat) : Prop := SRx D c m φ e N S B nd ck ts tm ∧ HM c D ck H ∧ BX m ∧ m 0 44 = 1 ∧ PWz c m 61 D nd ∧ m 26 10 ≤ 150 * (F : Int) ∧ EXR c m nd ck H n lim (F : Int) ∧ EOF c m ck ∧ c 52 1 = 1
def FE (c c1 m m1 : St) : Prop := (∀ q, q < 52 ∨ 64 < q → c1 q = c q) ∧ (∀ q, q ≠ 0 → q ≠ 26 → q < 29 ∨ 35 < q → m1 q = m q) ∧ ∀ i, i ≠ 48 → i ≠ 49 → i ≠ 51 → i ≠ 54 → m1 0 i = m 0 i
theorem FE_refl {c m : St} : FE c c m m := ⟨fun _ _ => rfl, fun _ _ _ _ => rfl, fun _ _ _ _ _ => rfl⟩
theorem FE_trans {c c1 c2 m m1 m2 : St} (h : FE c c1 m m1) (h' : FE c1 c2 m1 m2) : FE c c2 m m2 := ⟨fun q a => by rw [h'.1 q a, h.1 q a], fun q a b d => by rw [h'.2.1 q a b d, h.2.1 q a b d], fun i a b d f => by rw [h'.2.2 i a b d f, h.2.2 i a b d f]⟩
/-- the positions of one state -/
theorem X_inner (hD : D = 2 ∨ D = 20) (hHc : H < 2 ^ ck) {s : Nat} {O : Nat} : ∀ (j k n F : Nat) (c m : St), k + j = pcr O 16 0 → s < n → m 32 (11 * s + 7) = (O : Int) → F + j ≤ 5000 → XR c m D φ e N S B nd ck ts tm H lim n F → ∃ (c1 m1 : St) (n1 : Nat), n ≤ n1 ∧ XR c1 m1 D φ e N S B nd ck ts tm H lim n1 (F + j) ∧ FE c c1 m m1 ∧ (∀ (k37 : St → Int → Prop) (Q : St → Prop) (fu : Nat), j < fu → k37 c1 ((s : Int) + 1) → f_X1_search_L80 k37 Q fu c (s : Int) ((pcr O 16 0 : Nat) : Int) (k : Int)) ∧ ∀ (k97 : St → Int → Prop) (Q : St → Int → Prop) (fu : Nat), j < fu → k97 m1 ((s : Int) + 1) → f_X10_explore_L124 k97 Q fu m (s : Int) ((pcr O 16 0 : Nat) : Int) (k : Int) := by
  have hpl := pcr_le (O := O) 16 0
  intro j
  induction j with
  | zero =>
    intro k n F c m hk hs hO hF h
    refine ⟨c, m, n, Nat.le_refl _, h, FE_refl, fun k37 Q fu hf hQ => ?_, fun k97 Q fu hf hQ => ?_⟩
    · cases fu with
      | zero => omega
      | succ fu =>
        unfold f_X1_search_L80
        exact ⟨⟨by omega, by omega⟩, ⟨by omega, by omega⟩, fun _ => hQ, fun g => by omega⟩
    · cases fu with
      | zero => omega
      | succ fu =>
        unfold f_X10_explore_L124
        exact ⟨⟨by omega, by omega⟩, ⟨by omega, by omega⟩, fun _ => hQ, fun g => by omega⟩
  | succ j ih =>
    intro k n F c m hk hs hO hF h
    obtain ⟨h1, h2, h3, h4, h5, h6, h7, h8, h9⟩ := h
    have h1' := h1
    obtain ⟨⟨-, -, -, -, n32, -, -, -, -, -, -, -, nd12, ck16, -⟩, -⟩ := h1'
    have hpow2 : 2 ^ ck ≤ 2 ^ 16 := Nat.pow_le_pow_right (by decide) ck16
    have hpow3 : (2 : Nat) ^ 16 = 65536 := rfl
    have hn300 : n ≤ 300 := by have := h7.1; omega
    obtain ⟨ca, ma, r1, r2, r3, r4, r5, r6, r7, r8, r9, r10⟩ := J_ret nd12 ck16 h2.1 h5 h7 hs
    have hsra : SRx D ca ma φ e N S B nd ck ts tm := SRx_frame h1 (fun q a b => r1 q (by omega)) (fun q a b => r5 q (by omega)) (fun i _ => by rw [r5 0 (by decide)])
    have hHa : HM ca D ck H := by unfold HM at *; rw [r1 D (by omega), r1 (D + 16) (by omega)]; exact h2
    have hXa : BX ma := BX_same h3 (by rw [r5 0 (by decide)]) (r5 29 (by decide)) (r5 30 (by decide)) (r5 31 (by decide))
    have a14 : ma 26 9 < ((2 ^ ck : Nat) : Int) := r8.2.1.2.2.2.2.2.2.2.2.2.2.2.2.2.1
    rw [hO] at r6
    have hOc : O < 2 ^ ck := by omega
    -- the choice
    have hne : nthb O ck 0 k ≠ -1 := by
      rw [← nthb_16 hOc ck16]
      intro u
      have := (nthb_iff 16 0 k).1 u
      omega
    obtain ⟨kk, hkk⟩ : ∃ kk : Nat, nthb O ck 0 k = (kk : Int) := by
      rcases nthb_r (O := O) ck 0 k with u | ⟨i, u, -⟩
      · exact absurd u hne
      · exact ⟨i, u⟩
    obtain ⟨cb, mb, ⟨t1, t2, t3, t4, t5, t6, t7, t8, t9⟩, goc, gom⟩ := J_take (P := 61) (pos := k) (k := kk) (Or.inr rfl) hD hsra hHa r8 hXa r6 (by omega) hkk (by rw [r7]; omega)
    have t1r : ∀ q, q < 61 ∨ 64 < q → cb q = ca q := fun q hq => t1 q (by omega) (by omega) (by omega) (by omega)
    have m44a : ma 0 44 = 1 := by rw [r5 0 (by decide), h4]
    have hsrb : SRx D cb mb φ e N S B nd ck ts tm := SRx_frame hsra (fun q a b => t1r q (by omega)) (fun q a b => t2.1 q (by omega) (by omega) (by omega) (by omega) (by omega)) (fun i hi => t2.2.1 i (by omega) (by omega))
    have hHb : HM cb D ck H := by unfold HM at *; rw [t1r D (by omega), t1r (D + 16) (by omega)]; exact hHa
    have cab : ∀ q, 52 ≤ q → q ≤ 60 → cb q = c q := fun q a b => by rw [t1r q (by omega), r1 q (by omega)]
    have mab : ∀ q, q ≠ 0 → q ≠ 26 → q ≠ 29 → q ≠ 30 → q ≠ 31 → mb q = m q := fun q a b d f g => by rw [t2.1 q a b d f g, r5 q b]
    have m0b : ∀ i, i ≠ 48 → i ≠ 49 → mb 0 i = m 0 i := fun i a b => by rw [t2.2.1 i a b, r5 0 (by decide)]
    have hxb : EXR cb mb nd ck H n lim (F : Int) := EXR_frame h7 (Int.le_refl _) (by rw [cab 52 (by omega) (by omega)]; exact ⟨rfl, rfl, rfl⟩) (fun q a b => cab q (by omega) (by omega)) (fun q a b => mab q (by omega) (by omega) (by omega) (by omega) (by omega)) (m0b 51 (by decide) (by decide)) (m0b 52 (by decide) (by decide)) (m0b 54 (by decide) (by decide))
    have heb : EOP cb mb ck := by
      obtain ⟨EO, g1, g2, g3⟩ := h8
      refine ⟨EO, g1, by rw [cab 52 (by omega) (by omega)]; exact g2, fun i hi => ?_⟩
      rw [t9 (by rw [m44a]; decide) i hi, r5 31 (by decide), g3 i hi]
    obtain ⟨c2, m2, n2, p0, p1, p2, p3, p4, p5, p6, p32, p7, p8⟩ := J_note (fr := (s : Int)) (tk := (k : Int)) (by_ := (k : Int)) hD hsrb hHb hHc t3 ⟨t6, t7⟩ t8 hxb (by omega) heb (Or.inr ⟨by omega, by omega, rfl, by omega, by omega⟩)
    have fe : FE c c2 m m2 := by
      refine ⟨fun q hq => ?_, fun q a b d => ?_, fun i a b d f => ?_⟩
      · rw [p1 q (by omega), t1r q (by omega), r1 q (by omega)]
      · rw [p3 q a (by omega), mab q a b (by omega) (by omega) (by omega)]
      · rw [p4 i d f, m0b i a b]
    have xr2 : XR c2 m2 D φ e N S B nd ck ts tm H lim n2 (F + 1) := by
      refine ⟨?_, ?_, ?_, ?_, ?_, ?_, ?_, p6, ?_⟩
      · exact SRx_frame hsrb (fun q a b => p1 q (by omega)) (fun q a b => p3 q (by omega) (by omega)) (fun i hi => p4 i (by omega) (by omega))
      · unfold HM at *; rw [p1 D (by omega), p1 (D + 16) (by omega)]; exact hHb
      · exact BX_same t4 (p4 44 (by decide) (by decide)) (p3 29 (by decide) (by decide)) (p3 30 (by decide) (by decide)) (p3 31 (by decide) (by decide))
      · rw [p4 44 (by decide) (by decide), m0b 44 (by decide) (by decide), h4]
      · exact PWz_frame (PW_z t3) (by rw [p1 61 (by omega)]) (by rw [p1 61 (by omega)]) (p1 _ (by omega)) (p1 _ (by omega)) (p1 _ (by omega)) (p3 26 (by decide) (by decide)) (p3 29 (by decide) (by decide)) (p3 30 (by decide) (by decide)) (p4 44 (by decide) (by decide))
      · rw [p3 26 (by decide) (by decide)]
        rw [r7] at t5
        omega
      · exact p5
      · rw [p2, cab 52 (by omega) (by omega), h9]
    obtain ⟨c1, m1, n1, q0, q1, q2, q3, q4⟩ := ih (k + 1) n2 (F + 1) c2 m2 (by omega) (by omega) (by rw [p32 _ (by omega), mab 32 (by decide) (by decide) (by decide) (by decide) (by decide), hO]) (by omega) xr2
    refine ⟨c1, m1, n1, by omega, by rw [show F + (j + 1) = F + 1 + j by omega]; exact q1, FE_trans fe q2, fun k37 Q fu hf hQ => ?_, fun k97 Q fu hf hQ => ?_⟩
    · cases fu with
      | zero => omega
      | succ fu =>
        unfold f_X1_search_L80
        rw [Int.toNat_natCast]
        exact ⟨⟨by omega, by omega⟩, ⟨by omega, by omega⟩, fun g => by omega, fun _ => ⟨by omega, by omega, r9 _ (goc _ (p7 _ (q3 k37 Q fu (by omega) hQ)))⟩⟩
    · cases fu with
      | zero => omega
      | succ fu =>
        unfold f_X10_explore_L124
        refine ⟨⟨by omega, by omega⟩, ⟨by omega, by omega⟩, fun g => by omega, fun _ => r10 _ ?_⟩
        refine r_offeredAt (ck := ck) r6 (by omega) (by rw [r5 0 (by decide), n32]) ck16 (by omega) ?_
        rw [hkk]
        exact gom _ (p8 _ (q4 k97 Q fu (by omega) hQ))
/-- all states -/
theorem X_outer (hD : D = 2 ∨ D = 20) (hHc : H < 2 ^ ck) : ∀ (j s n F : Nat) (c m : St), s + j = 300 → s ≤ n → F + 16 * j ≤ 5000 → XR c m D φ e N S B nd ck ts tm H lim n F → ∃ (c1 m1 : St) (n1 F1 : Nat), F1 ≤ F + 16 * j ∧ XR c1 m1 D φ e N S B nd ck ts tm H lim n1 F1 ∧ FE c c1 m m1 ∧ (∀ (Q : St → Prop) (fu : Nat), j < fu → Q c1 → f_X1_search_L37 Q fu c (s : Int)) ∧ ∀ (Q : St → Int → Prop) (fu : Nat), j < fu → f_X10_explore_L176 Q FU (sset (sset m1 0 44 0) 0 53 1) 0 → f_X10_explore_L97 Q fu m (s : Int) := by
  intro j
  induction j with
  | zero =>
    intro s n F c m hs hsn hF h
    have h7 := h.2.2.2.2.2.2.1
    have b := h7.1
    refine ⟨c, m, n, F, by omega, h, FE_refl, fun Q fu hf hQ => ?_, fun Q fu hf hQ => ?_⟩
    · cases fu with
      | zero => omega
      | succ fu =>
        unfold f_X1_search_L37
        exact ⟨⟨by omega, by omega⟩, fun _ => hQ, fun g => by omega⟩
    · cases fu with
      | zero => omega
      | succ fu =>
        unfold f_X10_explore_L97
        rw [b.2.1]
        refine ⟨⟨by omega, by omega⟩, ⟨by omega, by omega⟩, fun _ σ1 e1 σ2 e2 => by rw [e2, e1]; exact hQ, fun g => by omega⟩
  | succ j ih =>
    intro s n F c m hs hsn hF h
    have h' := h
    obtain ⟨h1, h2, h3, h4, h5, h6, h7, h8, h9⟩ := h'
    have b := h7.1
    by_cases g : s = n
    · refine ⟨c, m, n, F, by omega, h, FE_refl, fun Q fu hf hQ => ?_, fun Q fu hf hQ => ?_⟩
      · cases fu with
        | zero => omega
        | succ fu =>
          unfold f_X1_search_L37
          rw [b.1]
          exact ⟨⟨by omega, by omega⟩, fun _ => hQ, fun _ => ⟨⟨by omega, by omega⟩, ⟨by omega, by omega⟩, fun _ => hQ, fun u => by omega⟩⟩
      · cases fu with
        | zero => omega
        | succ fu =>
          unfold f_X10_explore_L97
          rw [b.2.1]
          refine ⟨⟨by omega, by omega⟩, ⟨by omega, by omega⟩, fun _ σ1 e1 σ2 e2 => by rw [e2, e1]; exact hQ, fun u => by omega⟩
    · have h1' := h1
      obtain ⟨⟨-, -, -, -, n32, -, -, -, -, -, -, -, nd12, ck16, -⟩, -⟩ := h1'
      have hpow2 : 2 ^ ck ≤ 2 ^ 16 := Nat.pow_le_pow_right (by decide) ck16
      have hpow3 : (2 : Nat) ^ 16 = 65536 := rfl
      obtain ⟨ca, ma, r1, r2, r3, r4, r5, r6, r7, r8, r9, r10⟩ := J_ret nd12 ck16 h2.1 h5 h7 (show s < n by omega)
      have xv := (h7.2.1 s (by omega)).1
      have x7a : 0 < m 32 (11 * s + 7) := xv.2.2.2.2.2.2.2.2.2.2.2.2.2.1
      have x7b : m 32 (11 * s + 7) < ((2 ^ ck : Nat) : Int) := xv.2.2.2.2.2.2.2.2.2.2.2.2.2.2
      obtain ⟨O, hO⟩ : ∃ O : Nat, m 32 (11 * s + 7) = (O : Int) := ⟨(m 32 (11 * s + 7)).toNat, by omega⟩
      have hpl := pcr_le (O := O) 16 0
      have xra : XR ca m D φ e N S B nd ck ts tm H lim n F := by
        refine ⟨SRx_frame h1 (fun q a b => r1 q (by omega)) (fun _ _ _ => rfl) (fun _ _ => rfl), by unfold HM at *; rw [r1 D (by omega), r1 (D + 16) (by omega)]; exact h2, h3, h4, PWz_frame h5 r3 r4 (r1 _ (by decide)) (r1 _ (by decide)) (r1 _ (by decide)) rfl rfl rfl rfl, h6, EXR_frame h7 (Int.le_refl _) (by rw [r1 52 (by decide)]; exact ⟨rfl, rfl, rfl⟩) (fun q a b => r1 q (by omega)) (fun _ _ _ => rfl) rfl rfl rfl, ?_, by rw [r1 52 (by decide)]; exact h9⟩
        unfold EOF at *; rw [r1 52 (by decide)]; exact h8
      obtain ⟨c2, m2, n2, q0, q1, q2, q3, q4⟩ := X_inner hD hHc (s := s) (O := O) (pcr O 16 0) 0 n F ca m (by omega) (by omega) hO (by omega) xra
      obtain ⟨c1, m1, n1, F1, p0, p1, p2, p3, p4⟩ := ih (s + 1) n2 (F + pcr O 16 0) c2 m2 (by omega) (by omega) (by omega) q1
      have fe : FE c ca m m := ⟨fun q hq => r1 q (by omega), fun _ _ _ _ => rfl, fun _ _ _ _ _ => rfl⟩
      refine ⟨c1, m1, n1, F1, by omega, p1, FE_trans fe (FE_trans q2 p2), fun Q fu hf hQ => ?_, fun Q fu hf hQ => ?_⟩
      · cases fu with
        | zero => omega
        | succ fu =>
          unfold f_X1_search_L37
          rw [b.1, Int.toNat_natCast]
          refine ⟨⟨by omega, by omega⟩, fun u => by omega, fun _ => ⟨⟨by omega, by omega⟩, ⟨by omega, by omega⟩, fun u => by omega, fun _ => ⟨by omega, by omega, r9 _ ?_⟩⟩⟩
          rw [r2, hO]
          refine t_bitCount (by omega) (q3 _ Q FU (by show pcr O 16 0 < 100000; omega) ?_)
          exact p3 Q fu (by omega) hQ
      · cases fu with
        | zero => omega
        | succ fu =>
          unfold f_X10_explore_L97
          rw [b.2.1, show (11 * (s : Int) + 7).toNat = 11 * s + 7 by omega, hO]
          refine ⟨⟨by omega, by omega⟩, ⟨by omega, by omega⟩, fun u => by omega, fun _ => ⟨by omega, by omega, r_bits (by omega) (q4 _ Q FU (by show pcr O 16 0 < 100000; omega) ?_)⟩⟩
          exact p4 Q fu (by omega) hQ
end LOOPS
