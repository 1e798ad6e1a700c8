/-! ===== pure layer: the sorts of statements in the reference's walk ===== -/
theorem ishl3_nat : ∀ o : Fin 6, ishl32 3 (2 * (o.val : Int)) = ((3 * 2 ^ (2 * o.val) : Nat) : Int) := by decide +kernel
section LRN2
variable {m0 m c σ : St} {ck d s D H x : Nat} {g g1 : Nat → Nat} {E E1 : Nat → Nat → Nat} {n : Int} {Q : St → Prop}
theorem L_line (hW : WSt m0 m ck g E d (s : Int)) (hg0 : g 0 = 1) (hs : s < 401) (hk : m 3 s = 0) (hc : c (D + 1) x = 0) : LRN m0 m ck g E d s c D H x n := by
  refine LRN_flow (m' := sset m 0 48 (m 6 s)) hW (fun q a _ => sset_row _ _ _ a) (fun i a _ _ => sset_place _ _ _ a) (fun i _ _ => by rw [sset_row _ _ _ (by decide)]) (by rw [sset_at, vu_eq]) (MRg_keep hW.2.2.1 (fun i hi => by rw [sset_row _ _ _ (by decide)])) hW.2.2.2.1 hg0 (by rw [sset_place _ _ _ (by decide)]; exact hW.2.2.2.2.1.1) (by rw [sset_place _ _ _ (by decide)]; exact hW.2.2.2.2.1.2) (LSa_0 hc hg0) (by omega) (by omega) (fun Q w => ?_)
  exact r_lrn hW.2.2.2.2.2.2.1 hs hk (by decide) (by decide) (fun _ => w) (fun u => absurd u (by decide)) (fun u => absurd u (by decide)) (fun u => absurd u (by decide)) (fun u => absurd u (by decide)) (fun u => absurd u (by decide)) (fun u => absurd u (by decide)) (fun u => absurd u (by decide))
theorem L_flag {o b : Nat} (hW : WSt m0 m ck g E d (s : Int)) (hg0 : g 0 = 1) (hs : s < 401) (hk : m 3 s = 1) (ho : o < 6) (hb : b < 2) (h4 : m 4 s = (o : Int)) (h5 : m 5 s = (b : Int)) (la : LSa c D H x g (aFl g o b) E E) (k9 : c (D + 1) x ≠ 9) (k10 : c (D + 1) x ≠ 10) : LRN m0 m ck g E d s c D H x n := by
  have hW' := hW
  obtain ⟨-, -, w3, w4, w5, -, w7, -⟩ := hW'
  have hv := w4.1
  have g7 : g 7 < 4096 := by
    rcases hv with w | w
    · omega
    · exact w.2.2.1
  have m7 : m 37 7 = ((g 7 : Nat) : Int) := by have := w3.2 (by omega) 7 (by decide); rw [Nat.zero_add] at this; exact this
  have c7 : clr (g 7) (3 * 2 ^ (2 * o)) < 2 ^ 12 := clr_lt (k := 12) g7
  have p7 : 2 ^ (2 * o + b) < 2 ^ 12 := Nat.pow_lt_pow_right (by decide) (by omega)
  have p12 : (2 : Nat) ^ 12 = 4096 := rfl
  have val : ior32 (iand32 (m 37 7) (ixor32 (ishl32 3 (2 * (m 4 s))) (-1))) (ishl32 1 ((2 * (m 4 s)) + (m 5 s))) = ((aFl g o b 7 : Nat) : Int) := by
    have e2 : 2 * (o : Int) + (b : Int) = ((2 * o + b : Nat) : Int) := by omega
    have e3 := ishl3_nat ⟨o, ho⟩
    have e3' : ishl32 3 (2 * (o : Int)) = ((3 * 2 ^ (2 * o) : Nat) : Int) := e3
    rw [h4, h5, m7, e3', iclr_nat (by omega), e2, ishl_1 (by omega), ior_nat (by omega) (by omega), aFl_7]
  have sv := aFl_KV ho hb hv
  refine LRN_flow (m' := sset (sset m 0 48 (m 6 s)) 37 7 ((aFl g o b 7 : Nat) : Int)) (g1 := aFl g o b) hW (fun q a b => by rw [sset_row _ _ _ b, sset_row _ _ _ a]) (fun i a _ _ => by rw [sset_row _ _ _ (by decide), sset_place _ _ _ a]) (fun i a _ => by rw [sset_place _ _ _ (by omega), sset_row _ _ _ (by decide)]) (by rw [sset_row _ _ _ (by decide), sset_at, vu_eq]) ⟨?_, fun _ i hi => ?_⟩ ⟨sv, by rw [aFl_ne (by decide)]; exact w4.2.1, by rw [aFl_ne (by decide)]; exact w4.2.2⟩ (by rw [aFl_ne (by decide), hg0]) (by rw [aFl_ne (i := 9) (by decide), sset_row _ _ _ (by decide), sset_place _ _ _ (by decide)]; exact w5.1) (by rw [aFl_ne (i := 10) (by decide), sset_row _ _ _ (by decide), sset_place _ _ _ (by decide)]; exact w5.2) la k9 k10 (fun Q w => ?_)
  · rw [aFl_ne (i := 0) (by decide), sset_place _ _ _ (by decide), sset_row _ _ _ (by decide)]; exact w3.1
  · by_cases z : i = 7
    · rw [z, Nat.zero_add, sset_at, vu_eq]
    · rw [aFl_ne z, sset_place _ _ _ (by omega), sset_row _ _ _ (by decide)]; exact w3.2 (by omega) i hi
  · refine r_lrn w7 hs hk (by decide) (by decide) (fun u => absurd u (by decide)) (fun _ => ?_) (fun u => absurd u (by decide)) (fun u => absurd u (by decide)) (fun u => absurd u (by decide)) (fun u => absurd u (by decide)) (fun u => absurd u (by decide)) (fun u => absurd u (by decide))
    rw [val]; exact w
theorem r_j84 {k2 : St → Int → Int → Prop} {v1 v2 s0 : Int} {a r : Nat} (ha : a < 150) (hs : -20 ≤ s0 ∧ s0 ≤ 20) (hr : (s0 ≤ 9 ∧ 0 ≤ s0 ∧ (r : Int) = s0) ∨ (s0 < 0 ∧ r = 0) ∨ (9 < s0 ∧ r = 9)) (h : k2 (sset σ 37 a (r : Int)) v1 (v2 + 1)) : f_X10_learnsMeter_J84 k2 Q σ v1 v2 (a : Int) s0 := by
  unfold f_X10_learnsMeter_J84
  rw [Int.toNat_natCast]
  refine ⟨⟨by omega, by omega⟩, fun u => ⟨⟨by omega, by omega⟩, fun w => ⟨by omega, by omega, ?_⟩, fun w => ⟨by omega, by omega, ?_⟩⟩, fun u => ⟨by omega, by omega, ?_⟩⟩
  · rintro σ1 rfl
    have e : s0 = (r : Int) := by omega
    rw [e]; exact h
  · rintro σ1 rfl
    have e : r = 0 := by omega
    rw [e] at h; exact h
  · rintro σ1 rfl
    have e : r = 9 := by omega
    rw [e] at h; exact h
theorem r_j16 {k2 : St → Int → Int → Prop} {v2 : Int} {f o y a w : Nat} (hf : f = 1 ∨ f = 4) (hs : s < 401) (h4 : σ 4 s = (o : Int)) (ho : o < 3) (h5 : σ 5 s = (y : Int)) (hy : y ≤ 9) (hop : (σ 8 s = 61 ∧ w = 3) ∨ (σ 8 s = 43 ∧ w = 4) ∨ (σ 8 s = 45 ∧ w = 5)) (hz : σ 37 (f + o) = (a : Int)) (ha : a ≤ 9) (h : k2 (sset σ 37 (f + o) ((nvN w a y : Nat) : Int)) (s : Int) (v2 + 1)) : f_X10_learnsMeter_J16 k2 Q σ (s : Int) v2 (f : Int) := by
  have h8 : inR (σ 8 s) := by rcases hop with ⟨z, -⟩ | ⟨z, -⟩ | ⟨z, -⟩ <;> rw [z] <;> exact ⟨by decide, by decide⟩
  have ea : (f : Int) + (o : Int) = ((f + o : Nat) : Int) := by omega
  have fo : f + o < 150 := by omega
  unfold f_X10_learnsMeter_J16
  rw [Int.toNat_natCast, h4, ea]
  refine ⟨by omega, by omega, ?_⟩
  rintro x1 rfl
  rw [Int.toNat_natCast, hz, h5]
  unfold nvN at h
  refine ⟨by omega, by omega, h8, fun u => ⟨by omega, by omega, h8, fun u2 => ⟨by omega, by omega, by omega, by omega, ?_⟩, fun u2 => ⟨by omega, by omega, by omega, by omega, ?_⟩⟩, fun u => ⟨by omega, by omega, ?_⟩⟩
  · have w5 : w = 5 := by omega
    rw [if_neg (by omega), if_neg (by omega)] at h
    exact r_j84 fo (by omega) (by omega) h
  · have w4 : w = 4 := by omega
    rw [if_neg (by omega), if_pos w4] at h
    exact r_j84 fo (by omega) (by omega) h
  · have w3 : w = 3 := by omega
    rw [if_pos w3] at h
    exact r_j84 fo (by omega) (by omega) h
theorem r_lmeter {o y a b w : Nat} (hs : s < 401) (h4 : σ 4 s = (o : Int)) (ho : o < 3) (h5 : σ 5 s = (y : Int)) (hy : y ≤ 9) (hop : (σ 8 s = 61 ∧ w = 3) ∨ (σ 8 s = 43 ∧ w = 4) ∨ (σ 8 s = 45 ∧ w = 5)) (hz : σ 37 (1 + o) = (a : Int)) (ha : a ≤ 9) (hz4 : σ 37 (4 + o) = (b : Int)) (hb : b ≤ 9) (hQ : Q (sset (sset σ 37 (1 + o) ((nvN w a y : Nat) : Int)) 37 (4 + o) ((nvN w b y : Nat) : Int))) : f_X10_learnsMeter (s : Int) σ Q := by
  have l2 : ∀ (fu : Nat) (σ' : St), 0 < fu → Q σ' → f_X10_learnsMeter_L2 Q fu σ' (s : Int) (0 + 1 + 1) := by
    intro fu σ' hf q
    cases fu with
    | zero => omega
    | succ fu =>
      unfold f_X10_learnsMeter_L2
      exact ⟨⟨by omega, by omega⟩, fun _ => q, fun u => absurd (by decide) u⟩
  have l1 : ∀ fu : Nat, 1 < fu → f_X10_learnsMeter_L2 Q fu (sset σ 37 (1 + o) ((nvN w a y : Nat) : Int)) (s : Int) (0 + 1) := by
    intro fu hf
    cases fu with
    | zero => omega
    | succ fu =>
      unfold f_X10_learnsMeter_L2
      refine ⟨⟨by omega, by omega⟩, fun u => absurd u (by decide), fun _ => ⟨⟨by omega, by omega⟩, fun _ => ?_, fun u => absurd u (by decide)⟩⟩
      have := r_j16 (Q := Q) (k2 := fun σ' v1' v2' => f_X10_learnsMeter_L2 Q fu σ' v1' v2') (v2 := 0 + 1) (f := 4) (a := b) (σ := sset σ 37 (1 + o) ((nvN w a y : Nat) : Int)) (w := w) (Or.inr rfl) hs (by rw [sset_row _ _ _ (by decide)]; exact h4) ho (by rw [sset_row _ _ _ (by decide)]; exact h5) hy (by rw [sset_row _ _ _ (by decide)]; exact hop) (by rw [sset_place _ _ _ (by omega)]; exact hz4) hb (l2 fu _ (by omega) hQ)
      exact this
  have l0 : ∀ fu : Nat, 2 < fu → f_X10_learnsMeter_L2 Q fu σ (s : Int) 0 := by
    intro fu hf
    cases fu with
    | zero => omega
    | succ fu =>
      unfold f_X10_learnsMeter_L2
      refine ⟨⟨by omega, by omega⟩, fun u => absurd u (by decide), fun _ => ⟨⟨by omega, by omega⟩, fun u => absurd rfl u, fun _ => ?_⟩⟩
      have := r_j16 (Q := Q) (k2 := fun σ' v1' v2' => f_X10_learnsMeter_L2 Q fu σ' v1' v2') (v2 := 0) (f := 1) (a := a) (σ := σ) (w := w) (Or.inl rfl) hs h4 ho h5 hy hop hz ha (l1 fu (by omega))
      exact this
  unfold f_X10_learnsMeter
  exact l0 FU (by show 2 < 100000; decide)
theorem L_meter {o y w : Nat} (hW : WSt m0 m ck g E d (s : Int)) (hg0 : g 0 = 1) (hs : s < 401) (hk : m 3 s = 2) (ho : o < 3) (hy : y ≤ 9) (h4 : m 4 s = (o : Int)) (h5 : m 5 s = (y : Int)) (hop : (m 8 s = 61 ∧ w = 3) ∨ (m 8 s = 43 ∧ w = 4) ∨ (m 8 s = 45 ∧ w = 5)) (la : LSa c D H x g (aMt g o w y) E E) (k9 : c (D + 1) x ≠ 9) (k10 : c (D + 1) x ≠ 10) : LRN m0 m ck g E d s c D H x n := by
  have hW' := hW
  obtain ⟨-, -, w3, w4, w5, -, w7, -⟩ := hW'
  have hv := w4.1
  have kv := KV_hi hv (by omega) ho
  have v1 := w3.2 (by omega) (1 + o) (by omega)
  have v4 := w3.2 (by omega) (4 + o) (by omega)
  rw [Nat.zero_add] at v1 v4
  have sv := aMt_KV (w := w) ho hy hv
  have r37 : sset m 0 48 (m 6 s) 37 = m 37 := sset_row _ _ _ (by decide)
  refine LRN_flow (m' := sset (sset (sset m 0 48 (m 6 s)) 37 (1 + o) ((nvN w (g (1 + o)) y : Nat) : Int)) 37 (4 + o) ((nvN w (g (4 + o)) y : Nat) : Int)) (g1 := aMt g o w y) hW (fun q a b => by rw [sset_row _ _ _ b, sset_row _ _ _ b, sset_row _ _ _ a]) (fun i a _ _ => by rw [sset_row _ _ _ (by decide), sset_row _ _ _ (by decide), sset_place _ _ _ a]) (fun i a _ => by rw [sset_place _ _ _ (by omega), sset_place _ _ _ (by omega), sset_row _ _ _ (by decide)]) (by rw [sset_row _ _ _ (by decide), sset_row _ _ _ (by decide), sset_at, vu_eq]) ⟨?_, fun _ i hi => ?_⟩ ⟨sv, by rw [aMt_ne (by omega) (by omega)]; exact w4.2.1, by rw [aMt_ne (by omega) (by omega)]; exact w4.2.2⟩ (by rw [aMt_ne (by omega) (by omega), hg0]) (by rw [aMt_ne (by omega) (by omega), sset_row _ _ _ (by decide), sset_row _ _ _ (by decide), sset_place _ _ _ (by decide)]; exact w5.1) (by rw [aMt_ne (by omega) (by omega), sset_row _ _ _ (by decide), sset_row _ _ _ (by decide), sset_place _ _ _ (by decide)]; exact w5.2) la k9 k10 (fun Q w => ?_)
  · rw [aMt_ne (by omega) (by omega), sset_place _ _ _ (by omega), sset_place _ _ _ (by omega), r37]; exact w3.1
  · rw [Nat.zero_add]
    by_cases z4 : i = 4 + o
    · rw [z4, sset_at, vu_eq, aMt_h]
    · rw [sset_place _ _ _ z4]
      by_cases z1 : i = 1 + o
      · rw [z1, sset_at, vu_eq, aMt_l]
      · rw [sset_place _ _ _ z1, r37, aMt_ne z1 z4]
        have := w3.2 (by omega) i hi
        rw [Nat.zero_add] at this
        exact this
  · refine r_lrn w7 hs hk (by decide) (by decide) (fun u => absurd u (by decide)) (fun u => absurd u (by decide)) (fun _ => ?_) (fun u => absurd u (by decide)) (fun u => absurd u (by decide)) (fun u => absurd u (by decide)) (fun u => absurd u (by decide)) (fun u => absurd u (by decide))
    exact r_lmeter hs (by rw [sset_row _ _ _ (by decide)]; exact h4) ho (by rw [sset_row _ _ _ (by decide)]; exact h5) hy (by rw [sset_row _ _ _ (by decide)]; exact hop) (by rw [r37]; exact v1) (by omega) (by rw [r37]; exact v4) kv.2 w
theorem L_go {a : Nat} (hW : WSt m0 m ck g E d (s : Int)) (hg0 : g 0 = 1) (hs : s < 401) (hk : m 3 s = 5) (ha : a < 28) (h4 : m 4 s = (a : Int)) (hc : c (D + 1) x = 8) (hc2 : c (D + 2) x = (a : Int)) : LRN m0 m ck g E d s c D H x n := by
  have hW' := hW
  obtain ⟨-, w2, w3, w4, w5, -, w7, w8, -⟩ := hW'
  obtain ⟨m1, E1, j1, j2⟩ := r_comesTo (m := sset m 0 48 (m 6 s)) (e := a) (E := E) (g := g) ha (fun k hk => ⟨(w2 k hk).1, (w2 k hk).2.1, fun i hi => by rw [sset_row _ _ _ (by decide)]; exact (w2 k hk).2.2 i hi⟩) w4.1 hg0 (MRg_keep w3 (fun i hi => by rw [sset_row _ _ _ (by decide)])) (by rw [sset_place _ _ _ (by decide)]; exact w8)
  have hG := GRW_E j1
  obtain ⟨q1, q2, q3, q4, q5, q6, q7, q8, -⟩ := j1
  have e69 : sset m 0 48 (m 6 s) 0 69 = m 0 69 := sset_place _ _ _ (by decide)
  have f69 : sset m1 37 0 0 0 69 = m1 0 69 := by rw [sset_row _ _ _ (by decide)]
  refine LRN_dead (m' := sset m1 37 0 0) (E1 := E1) hW (fun k hk => ⟨(q1 k hk).1, (q1 k hk).2.1, fun i hi => by rw [sset_row _ _ _ (by decide)]; exact (q1 k hk).2.2 i hi⟩) (fun q a b e => by rw [sset_row _ _ _ e, q5 q a b e, sset_row _ _ _ a]) (fun i a b _ _ => by rw [sset_row _ _ _ (by decide), q7 i b, sset_place _ _ _ a]) (fun i a b => by rw [sset_place _ _ _ (by omega), q6 i (by omega), sset_row _ _ _ (by decide)]) (by rw [sset_at, vu_eq]) (by rw [f69]; exact q8) (LSa_8 hc hc2 ha hg0 (noth_0 g) (q3 a ha rfl) (fun E2 u1 u2 => q4 E2 u1 (fun i _ hi => by rw [hi]; exact u2))) ⟨hG.1, fun u => by rw [f69]; exact hG.2.1 (by rw [e69]; exact u), fun u => hG.2.2.1 (by rw [f69] at u; exact u), fun u w => hG.2.2.2 (by rw [e69]; exact u) (by rw [f69] at w; exact w)⟩ (BITs_refl (by rw [sset_row _ _ _ (by decide), q7 72 (by decide), sset_place _ _ _ (by decide)]) (fun i u => by omega)) (BITs_refl (by rw [sset_row _ _ _ (by decide), q7 73 (by decide), sset_place _ _ _ (by decide)]) (fun i u => by omega)) (fun Q w => ?_)
  refine r_lrn w7 hs hk (by decide) (by decide) (fun u => absurd u (by decide)) (fun u => absurd u (by decide)) (fun u => absurd u (by decide)) (fun u => absurd u (by decide)) (fun u => absurd u (by decide)) (fun _ => ?_) (fun u => absurd u (by decide)) (fun u => absurd u (by decide))
  rw [h4]
  refine j2 _ ?_
  rintro σ7 rfl
  exact w
theorem L_hub {v : Nat} (hW : WSt m0 m ck g E d (s : Int)) (hg0 : g 0 = 1) (hs : s < 401) (hk : m 3 s = 6) (hv : v < 12) (hc : c (D + 1) x = 9) (hc2 : c (D + 2) x = (v : Int)) : LRN m0 m ck g E d s c D H x (v : Int) := by
  have hW' := hW
  obtain ⟨-, w2, w3, w4, w5, -, w7, w8, -, w10⟩ := hW'
  have e0 : ∀ i, i ≠ 48 → sset m 0 48 (m 6 s) 0 i = m 0 i := fun i hi => sset_place _ _ _ hi
  obtain ⟨m1, E1, j1, m3, j2, j3, j4⟩ := r_goesToHubs (m := sset m 0 48 (m 6 s)) (n := v) (E := E) (g := g) (by omega) (fun k hk => ⟨(w2 k hk).1, (w2 k hk).2.1, fun i hi => by rw [sset_row _ _ _ (by decide)]; exact (w2 k hk).2.2 i hi⟩) w4.1 hg0 (MRg_keep w3 (fun i hi => by rw [sset_row _ _ _ (by decide)])) (by rw [e0 69 (by decide)]; exact w8) (by rw [e0 73 (by decide)]; exact w10)
  have hG := GRW_E j1
  obtain ⟨q1, q2, q3, q4, q5, q6, q7, q8, -⟩ := j1
  have e3 : ∀ q, q ≠ 0 → m3 q = m1 q := fun q hq => by funext i; exact j2 q i (Or.inl hq)
  have f0 : ∀ i, sset m3 37 0 0 0 i = m3 0 i := fun i => by rw [sset_row _ _ _ (by decide)]
  have f69 : sset m3 37 0 0 0 69 = m1 0 69 := by rw [f0, j2 0 69 (Or.inr (by decide))]
  refine LRN_dead (m' := sset m3 37 0 0) (E1 := E1) hW (fun k hk => ⟨(q1 k hk).1, (q1 k hk).2.1, fun i hi => by rw [sset_row _ _ _ (by decide), e3 36 (by decide)]; exact (q1 k hk).2.2 i hi⟩) (fun q a b e => by rw [sset_row _ _ _ e, e3 q a, q5 q a b e, sset_row _ _ _ a]) (fun i a b _ e => by rw [f0, j2 0 i (Or.inr e), q7 i b, e0 i a]) (fun i a b => by rw [sset_place _ _ _ (by omega), e3 37 (by decide), q6 i (by omega), sset_row _ _ _ (by decide)]) (by rw [sset_at, vu_eq]) (by rw [f69]; exact q8) (LSa_9 hc hg0 (noth_0 g) q3 q4) ⟨hG.1, fun u => by rw [f69]; exact hG.2.1 (by rw [e0 69 (by decide)]; exact u), fun u => hG.2.2.1 (by rw [f69] at u; exact u), fun u w => hG.2.2.2 (by rw [e0 69 (by decide)]; exact u) (by rw [f69] at w; exact w)⟩ (BITs_refl (by rw [f0, j2 0 72 (Or.inr (by decide)), q7 72 (by decide), e0 72 (by decide)]) (fun i u => by omega)) (fun a u u' => ?_) (fun Q w => ?_)
  · obtain ⟨b, b1, b2, b3⟩ := j3 a (by rw [e0 73 (by decide)]; exact u) u'
    refine ⟨b, by rw [f0]; exact b1, b2, fun i => ?_⟩
    rw [b3 i]
    constructor
    · rintro (h | ⟨h1, h2⟩)
      · exact Or.inl h
      · exact Or.inr ⟨hc, h2, by rw [hc2, h1]⟩
    · rintro (h | ⟨h1, h2, h3⟩)
      · exact Or.inl h
      · exact Or.inr ⟨by omega, h2⟩
  · refine r_lrn w7 hs hk (by decide) (by decide) (fun u => absurd u (by decide)) (fun u => absurd u (by decide)) (fun u => absurd u (by decide)) (fun u => absurd u (by decide)) (fun u => absurd u (by decide)) (fun u => absurd u (by decide)) (fun _ => ?_) (fun u => absurd u (by decide))
    refine j4 _ ?_
    rintro σ9 rfl
    exact w
theorem L_end {a : Nat} (hW : WSt m0 m ck g E d (s : Int)) (hs : s < 401) (hk : m 3 s = 7) (ha : a < 10) (h4 : m 4 s = (a : Int)) (hc : c (D + 1) x = 10) (hc2 : c (D + 2) x = (a : Int)) : LRN m0 m ck g E d s c D H x n := by
  have hW' := hW
  obtain ⟨-, w2, w3, w4, w5, -, w7, w8, -⟩ := hW'
  have f0 : ∀ i, i ≠ 72 → i ≠ 48 → sset (sset (sset m 0 48 (m 6 s)) 0 72 (ior32 (m 0 72) (ishl32 1 (m 4 s)))) 37 0 0 0 i = m 0 i := fun i a b => by rw [sset_row _ _ _ (by decide), sset_place _ _ _ a, sset_place _ _ _ b]
  have fr : ∀ q, q ≠ 0 → q ≠ 37 → sset (sset (sset m 0 48 (m 6 s)) 0 72 (ior32 (m 0 72) (ishl32 1 (m 4 s)))) 37 0 0 q = m q := fun q a b => by rw [sset_row _ _ _ b, sset_row _ _ _ a, sset_row _ _ _ a]
  refine LRN_dead (m' := sset (sset (sset m 0 48 (m 6 s)) 0 72 (ior32 (m 0 72) (ishl32 1 (m 4 s)))) 37 0 0) (E1 := E) hW (fun k hk => ⟨(w2 k hk).1, (w2 k hk).2.1, fun i hi => by rw [fr 36 (by decide) (by decide)]; exact (w2 k hk).2.2 i hi⟩) (fun q a _ e => fr q a e) (fun i a _ b _ => f0 i b a) (fun i a _ => by rw [sset_place _ _ _ (by omega), sset_row _ _ _ (by decide), sset_row _ _ _ (by decide)]) (by rw [sset_at, vu_eq]) (by rw [f0 69 (by decide) (by decide)]; exact w8) (LSa_10 hc (noth_0 g)) (GRW_same (MEr_KV w2) (f0 69 (by decide) (by decide))) (fun v u u' => ?_) (BITs_refl (f0 73 (by decide) (by decide)) (fun i u => by omega)) (fun Q w => ?_)
  · obtain ⟨b, b1, b2, b3⟩ := BITs_or (m := m) (k := 72) (n := a) (by omega) v u u'
    refine ⟨b, ?_, b2, fun i => ?_⟩
    · rw [sset_row _ _ _ (by decide), sset_at, vu_eq, h4]
      rw [sset_at, vu_eq] at b1
      exact b1
    · rw [b3 i]
      constructor
      · rintro (h | h)
        · exact Or.inl h
        · exact Or.inr ⟨hc, by rw [hc2, h]⟩
      · rintro (h | ⟨h1, h2⟩)
        · exact Or.inl h
        · exact Or.inr (by omega)
  · exact r_lrn w7 hs hk (by decide) (by decide) (fun u => absurd u (by decide)) (fun u => absurd u (by decide)) (fun u => absurd u (by decide)) (fun u => absurd u (by decide)) (fun u => absurd u (by decide)) (fun u => absurd u (by decide)) (fun u => absurd u (by decide)) (fun _ => w)
end LRN2
