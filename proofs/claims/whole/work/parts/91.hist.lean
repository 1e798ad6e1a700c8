/-! ===== pure layer: the states that are kept, in both ===== -/
def HK (c : St) (s : Nat) (p : Nat → Int) (nd ck H : Nat) (KB : Int) : Prop := p 0 = 1 ∧ PWv p nd ck ∧ p 9 ≠ 0 ∧ p 10 ≤ KB ∧ (∃ T : Nat, p 8 = (T : Int) ∧ T < 65536 ∧ c 49 s = ((kyn (p 9).toNat (T &&& H) (p 5 + 16 * p 6 + 256 * p 7).toNat (p 4).toNat (p 3 + 1).toNat (p 2).toNat : Nat) : Int)) ∧ c 50 s = p 10 ∧ ∀ j : Nat, j < 20 → (j : Int) < p 10 → c 51 (20 * s + (p 10 - 1 - j).toNat % 20) = p (11 + j)
def HIS (c m : St) (nd ck H : Nat) (KB : Int) : Prop := ∃ sz tp : Nat, c 48 0 = (sz : Int) ∧ c 48 1 = (tp : Int) ∧ m 0 42 = (sz : Int) ∧ sz ≤ 12 ∧ tp ≤ 12 ∧ ∀ i, i < sz → HK c ((tp + 12 - sz + i) % 12) (fun k => m 27 (31 * i + k)) nd ck H KB
theorem HK_same {c c1 : St} {s nd ck H : Nat} {p p1 : Nat → Int} {KB KB1 : Int} (h : HK c s p nd ck H KB) (hB : KB ≤ KB1) (h49 : c1 49 s = c 49 s) (h50 : c1 50 s = c 50 s) (h51 : ∀ j, j < 20 → c1 51 (20 * s + j) = c 51 (20 * s + j)) (hp : ∀ k, k < 31 → p1 k = p k) : HK c1 s p1 nd ck H KB1 := by
  obtain ⟨a1, a2, a3, a4, a5, a6, a7⟩ := h
  unfold PWv at a2
  refine ⟨?_, ?_, ?_, ?_, ?_, ?_, fun j h1 h2 => ?_⟩
  · rw [hp 0 (by decide)]; exact a1
  · unfold PWv; rw [hp 2 (by decide), hp 3 (by decide), hp 4 (by decide), hp 5 (by decide), hp 6 (by decide), hp 7 (by decide), hp 9 (by decide), hp 10 (by decide)]; exact a2
  · rw [hp 9 (by decide)]; exact a3
  · rw [hp 10 (by decide)]; omega
  · rw [hp 8 (by decide), hp 9 (by decide), hp 5 (by decide), hp 6 (by decide), hp 7 (by decide), hp 4 (by decide), hp 3 (by decide), hp 2 (by decide), h49]; exact a5
  · rw [h50, hp 10 (by decide)]; exact a6
  · rw [hp 10 (by decide)] at h2 ⊢
    rw [h51 _ (Nat.mod_lt _ (by decide)), hp (11 + j) (by omega)]
    exact a7 j h1 h2
theorem HIS_frame {c c1 m m1 : St} {nd ck H : Nat} {KB KB1 : Int} (h : HIS c m nd ck H KB) (hB : KB ≤ KB1) (h48 : c1 48 = c 48) (h49 : c1 49 = c 49) (h50 : c1 50 = c 50) (h51 : c1 51 = c 51) (h42 : m1 0 42 = m 0 42) (h27 : m1 27 = m 27) : HIS c1 m1 nd ck H KB1 := by
  obtain ⟨sz, tp, a1, a2, a3, a4, a5, a6⟩ := h
  refine ⟨sz, tp, by rw [h48]; exact a1, by rw [h48]; exact a2, by rw [h42]; exact a3, a4, a5, fun i hi => ?_⟩
  exact HK_same (a6 i hi) hB (by rw [h49]) (by rw [h50]) (fun j _ => by rw [h51]) (fun k _ => by rw [h27])
theorem scpy_row {σ : St} {c0 sp c1 dp n q : Nat} (h : q ≠ c1) : scpy σ c0 sp c1 dp n q = σ q := by unfold scpy; exact vu_ne _ _ h
theorem scpy_at {σ : St} {c0 sp c1 dp n k : Nat} : scpy σ c0 sp c1 dp n c1 k = if dp ≤ k ∧ k < dp + n then σ c0 (sp + (k - dp)) else σ c1 k := by
  unfold scpy
  rw [vu_eq]; rfl
theorem irem_12 {K : Nat} (h : K < 2147483648) : irem32 (K : Int) 12 = ((K % 12 : Nat) : Int) := by
  unfold irem32
  have mi : Int32.minValue.toInt = -2147483648 := by decide
  have ma : Int32.maxValue.toInt = 2147483647 := by decide
  have e1 : Int32.ofInt (K : Int) / Int32.ofInt 12 = Int32.ofInt ((K : Int).tdiv 12) := (Int32.ofInt_tdiv (by omega) (by omega) (by decide) (by decide)).symm
  have e2 : (K : Int).tdiv 12 = ((K / 12 : Nat) : Int) := by
    rw [Int.tdiv_eq_ediv_of_nonneg (by omega)]; omega
  rw [e1, e2, ← Int32.ofInt_mul, ← Int32.ofInt_sub]
  have e3 : (K : Int) - ((K / 12 : Nat) : Int) * 12 = ((K % 12 : Nat) : Int) := by omega
  rw [e3, toI_ofI ⟨by omega, by omega⟩]
theorem t_flMod12 {K : Nat} {c : St} {Q : St → Int → Prop} (h : K < 2147483648) (hQ : Q c ((K % 12 : Nat) : Int)) : f_JM_floorMod (K : Int) 12 c Q := by
  unfold f_JM_floorMod
  have hx : ixor32 (K : Int) 12 = ((K ^^^ 12 : Nat) : Int) := ixor_nat (x := K) (y := 12) h (by decide)
  have hlt : K ^^^ 12 < 2 ^ 31 := Nat.xor_lt_two_pow h (by decide)
  rw [irem_12 h, hx]
  generalize K ^^^ 12 = w at hlt
  refine ⟨⟨by decide, by decide⟩, by decide, ?_⟩
  rintro x1 rfl
  exact ⟨⟨by omega, by omega⟩, fun _ => hQ, fun g => by omega⟩
theorem t_flMod12n {c : St} {Q : St → Int → Prop} (hQ : Q c 11) : f_JM_floorMod (-1) 12 c Q := by
  unfold f_JM_floorMod
  have hx : ixor32 (-1) 12 = -13 := by decide
  have hr : irem32 (-1) 12 = -1 := by decide
  rw [hr, hx]
  refine ⟨⟨by decide, by decide⟩, by decide, ?_⟩
  rintro x1 rfl
  exact ⟨⟨by decide, by decide⟩, fun g => absurd g (by decide), fun _ => ⟨⟨by decide, by decide⟩, fun g => absurd g (by decide), fun _ => hQ⟩⟩
section HIST
variable {D nd ck H : Nat} {c m : St} {KB : Int}
/-- a state is kept by both -/
theorem J_keep (hck : ck ≤ 16) (hnd : nd ≤ 12) (hw : PW c m 44 D nd ck H) (hst : m 26 0 = 1) (hO : m 26 9 ≠ 0) (hB : m 26 10 ≤ KB) (hH : H < 65536) (h : HIS c m nd ck H KB) : ∃ c1 m1 : St, (∀ q, q ≠ 48 → q ≠ 49 → q ≠ 50 → q ≠ 51 → c1 q = c q) ∧ (∀ q, q ≠ 0 → q ≠ 27 → m1 q = m q) ∧ (∀ i, i ≠ 42 → m1 0 i = m 0 i) ∧ HIS c1 m1 nd ck H KB ∧ (∀ Q : St → Prop, Q c1 → f_X2_keep 44 c Q) ∧ ∀ (v : Int) (Q : St → Int → Prop), f_X10_takes v m1 (fun σ2 => Q σ2 (σ2 26 0)) → f_X10_choose_L48 Q FU m v 0 := by
  obtain ⟨sz, tp, a1, a2, a3, a4, a5, a6⟩ := h
  obtain ⟨⟨w0, w1, w3, w4, w5, w6, w8, w9, w10⟩, hv, ⟨T, t1, t2, t3⟩, hl, hx⟩ := hw
  have hv' := hv
  obtain ⟨v1, v2, v3, v4, v5, v6, v7, v8, v9, v10, v11, v12, v13, v14, v15⟩ := hv'
  have hpow2 : 2 ^ ck ≤ 2 ^ 16 := Nat.pow_le_pow_right (by decide) hck
  have hpow3 : (2 : Nat) ^ 16 = 65536 := rfl
  have hTH : T &&& H < 2 ^ 16 := Nat.and_lt_two_pow T hH
  obtain ⟨ky, hky⟩ : ∃ ky : Nat, ky = kyn (m 26 9).toNat (T &&& H) (m 26 5 + 16 * m 26 6 + 256 * m 26 7).toNat (m 26 4).toNat (m 26 3 + 1).toNat (m 26 2).toNat := ⟨_, rfl⟩
  -- the class
  obtain ⟨pl, hpl⟩ : ∃ pl : Nat, pl = tp % 12 := ⟨_, rfl⟩
  have hpl12 : pl < 12 := by rw [hpl]; exact Nat.mod_lt _ (by decide)
  obtain ⟨tp', htp'⟩ : ∃ tp' : Nat, tp' = pl + 1 := ⟨_, rfl⟩
  obtain ⟨sz', hsz'⟩ : ∃ sz' : Nat, sz' = if sz = 12 then 12 else sz + 1 := ⟨_, rfl⟩
  obtain ⟨s4, hs4⟩ : ∃ s4 : St, s4 = scpy (sset (sset c 49 pl (ky : Int)) 50 pl (m 26 10)) 46 0 51 (pl * 20) 20 := ⟨_, rfl⟩
  obtain ⟨c1, hc1⟩ : ∃ c1 : St, c1 = sset (sset s4 48 1 (tp' : Int)) 48 0 (sz' : Int) := ⟨_, rfl⟩
  have s4r : ∀ q, q ≠ 49 → q ≠ 50 → q ≠ 51 → s4 q = c q := fun q a b d => by rw [hs4, scpy_row d, sset_row _ _ _ b, sset_row _ _ _ a]
  have cr : ∀ q, q ≠ 48 → c1 q = s4 q := fun q a => by rw [hc1, sset_row _ _ _ a, sset_row _ _ _ a]
  have c49 : c1 49 = va_up (c 49) pl (ky : Int) := by rw [cr 49 (by decide), hs4, scpy_row (by decide), sset_row _ _ _ (by decide), sset_at]
  have c50 : c1 50 = va_up (c 50) pl (m 26 10) := by rw [cr 50 (by decide), hs4, scpy_row (by decide), sset_at, sset_row _ _ _ (by decide)]
  have c51 : ∀ k, c1 51 k = if pl * 20 ≤ k ∧ k < pl * 20 + 20 then c 46 (k - pl * 20) else c 51 k := fun k => by
    rw [cr 51 (by decide), hs4, scpy_at, sset_row _ _ _ (by decide), sset_row _ _ _ (by decide), sset_row _ _ _ (by decide), sset_row _ _ _ (by decide), Nat.zero_add]
  -- the reference: the shift
  have shift : ∀ (j k : Nat) (m : St), k + j = 341 → m 0 42 = 12 → ∃ m1 : St, (∀ q, q ≠ 27 → m1 q = m q) ∧ (∀ i, m1 27 i = if k ≤ i ∧ i < 341 then m 27 (i + 31) else m 27 i) ∧ ∀ (v : Int) (Q : St → Int → Prop) (fu : Nat), j < fu → f_X10_choose_J85 Q m1 v → f_X10_choose_L48 Q fu m v (k : Int) := by
    intro j
    induction j with
    | zero =>
      intro k m hk h42
      refine ⟨m, fun _ _ => rfl, fun i => by rw [if_neg (by omega)], fun v Q fu hf hQ => ?_⟩
      cases fu with
      | zero => omega
      | succ fu =>
        unfold f_X10_choose_L48
        exact ⟨⟨by omega, by omega⟩, fun _ => hQ, fun g => by omega⟩
    | succ j ih =>
      intro k m hk h42
      obtain ⟨m2, hm2⟩ : ∃ m2 : St, m2 = sset m 27 k (m 27 (k + 31)) := ⟨_, rfl⟩
      obtain ⟨m1, i1, i2, i3⟩ := ih (k + 1) m2 (by omega) (by rw [hm2, sset_cell _ _ _ _ (by decide), h42])
      refine ⟨m1, fun q hq => by rw [i1 q hq, hm2, sset_row _ _ _ hq], fun i => ?_, fun v Q fu hf hQ => ?_⟩
      · rw [i2 i, hm2, sset_at]
        by_cases g : i = k
        · subst g; rw [if_neg (by omega), vu_eq, if_pos ⟨Nat.le_refl _, by omega⟩]
        · rw [vu_ne _ _ g]
          by_cases g2 : k + 1 ≤ i ∧ i < 341
          · rw [if_pos g2, if_pos ⟨by omega, g2.2⟩, vu_ne _ _ (by omega)]
          · rw [if_neg g2, if_neg (by omega)]
      · cases fu with
        | zero => omega
        | succ fu =>
          unfold f_X10_choose_L48
          rw [h42]
          refine ⟨⟨by omega, by omega⟩, fun g => by omega, fun _ => ⟨⟨by decide, by decide⟩, fun g => absurd rfl g, fun _ => ⟨by omega, by omega, by omega, by omega, fun σ1 e1 => ?_⟩⟩⟩
          rw [Int.toNat_natCast, show ((k : Int) + 31).toNat = k + 31 by omega, ← hm2] at e1
          rw [e1]
          exact i3 v Q fu (by omega) hQ
  -- the reference: the copy
  have copy : ∀ (j k sv : Nat) (m : St), k + j = 31 → sv < 12 → m 0 42 = (sv : Int) → ∃ m1 : St, (∀ q, q ≠ 27 → m1 q = m q) ∧ (∀ i, m1 27 i = if 31 * sv + k ≤ i ∧ i < 31 * sv + 31 then m 26 (i - 31 * sv) else m 27 i) ∧ ∀ (v : Int) (Q : St → Int → Prop) (fu : Nat), j < fu → f_X10_takes v (sset m1 0 42 ((sv : Int) + 1)) (fun σ2 => Q σ2 (σ2 26 0)) → f_X10_choose_L110 Q fu m v (k : Int) := by
    intro j
    induction j with
    | zero =>
      intro k sv m hk hsv h42
      refine ⟨m, fun _ _ => rfl, fun i => by rw [if_neg (by omega)], fun v Q fu hf hQ => ?_⟩
      cases fu with
      | zero => omega
      | succ fu =>
        unfold f_X10_choose_L110
        refine ⟨⟨by omega, by omega⟩, fun _ σ1 e1 => ?_, fun g => by omega⟩
        rw [h42] at e1
        rw [e1]; exact hQ
    | succ j ih =>
      intro k sv m hk hsv h42
      obtain ⟨m2, hm2⟩ : ∃ m2 : St, m2 = sset m 27 (31 * sv + k) (m 26 k) := ⟨_, rfl⟩
      obtain ⟨m1, i1, i2, i3⟩ := ih (k + 1) sv m2 (by omega) hsv (by rw [hm2, sset_cell _ _ _ _ (by decide), h42])
      refine ⟨m1, fun q hq => by rw [i1 q hq, hm2, sset_row _ _ _ hq], fun i => ?_, fun v Q fu hf hQ => ?_⟩
      · rw [i2 i, hm2, sset_at, sset_row _ _ _ (by decide)]
        by_cases g : i = 31 * sv + k
        · rw [if_neg (by omega), g, vu_eq, if_pos ⟨by omega, by omega⟩, show 31 * sv + k - 31 * sv = k by omega]
        · rw [vu_ne _ _ g]
          by_cases g2 : 31 * sv + (k + 1) ≤ i ∧ i < 31 * sv + 31
          · rw [if_pos g2, if_pos ⟨by omega, g2.2⟩]
          · rw [if_neg g2, if_neg (by omega)]
      · cases fu with
        | zero => omega
        | succ fu =>
          unfold f_X10_choose_L110
          rw [h42]
          refine ⟨⟨by omega, by omega⟩, fun g => by omega, fun _ => ⟨by omega, by omega, by omega, by omega, fun σ3 e3 => ?_⟩⟩
          rw [Int.toNat_natCast, show (31 * (sv : Int) + (k : Int)).toNat = 31 * sv + k by omega, ← hm2] at e3
          rw [e3]
          exact i3 v Q fu (by omega) hQ
  -- both together
  have hmid : ∃ m2 : St, (∀ q, q ≠ 27 → m2 q = m q) ∧ (∀ i, m2 27 i = if sz = 12 ∧ i < 341 then m 27 (i + 31) else m 27 i) ∧ ∀ (v : Int) (Q : St → Int → Prop), f_X10_choose_J85 Q m2 v → f_X10_choose_L48 Q FU m v 0 := by
    by_cases g : sz = 12
    · obtain ⟨m2, i1, i2, i3⟩ := shift 341 0 m (by omega) (by rw [a3, g]; rfl)
      refine ⟨m2, i1, fun i => ?_, fun v Q hQ => i3 v Q FU (by show 341 < 100000; decide) hQ⟩
      rw [i2 i]
      by_cases g2 : i < 341
      · rw [if_pos ⟨Nat.zero_le _, g2⟩, if_pos ⟨g, g2⟩]
      · rw [if_neg (by omega), if_neg (by omega)]
    · refine ⟨m, fun _ _ => rfl, fun i => by rw [if_neg (fun u => g u.1)], fun v Q hQ => ?_⟩
      show f_X10_choose_L48 Q (99999 + 1) m v 0
      unfold f_X10_choose_L48
      rw [a3]
      exact ⟨⟨by decide, by decide⟩, fun u => absurd u (by decide), fun _ => ⟨⟨by omega, by omega⟩, fun _ => hQ, fun u => by omega⟩⟩
  obtain ⟨m2, n1, n2, n3⟩ := hmid
  obtain ⟨sv, hsv⟩ : ∃ sv : Nat, sv = if sz = 12 then 11 else sz := ⟨_, rfl⟩
  have hsv12 : sv < 12 := by rw [hsv]; split <;> omega
  obtain ⟨m3, hm3⟩ : ∃ m3 : St, m3 = sset m2 0 42 (sv : Int) := ⟨_, rfl⟩
  have m3r : ∀ q, q ≠ 0 → m3 q = m2 q := fun q hq => by rw [hm3, sset_row _ _ _ hq]
  obtain ⟨m4, o1, o2, o3⟩ := copy 31 0 sv m3 (by omega) hsv12 (by rw [hm3, sset_self])
  obtain ⟨m1, hm1⟩ : ∃ m1 : St, m1 = sset m4 0 42 ((sv : Int) + 1) := ⟨_, rfl⟩
  have hsve : (sv : Int) + 1 = (sz' : Int) := by rw [hsv, hsz']; split <;> omega
  have m27 : ∀ i, m1 27 i = if 31 * sv ≤ i ∧ i < 31 * sv + 31 then m 26 (i - 31 * sv) else (if sz = 12 ∧ i < 341 then m 27 (i + 31) else m 27 i) := fun i => by
    rw [hm1, sset_row _ _ _ (by decide), o2 i, m3r 26 (by decide), n1 26 (by decide), m3r 27 (by decide), n2 i, Nat.add_zero]
  refine ⟨c1, m1, fun q a b d f => by rw [cr q a, s4r q b d f], fun q a b => by rw [hm1, sset_row _ _ _ a, o1 q b, m3r q a, n1 q b], fun i hi => by rw [hm1, sset_place _ _ _ hi, o1 0 (by decide), hm3, sset_place _ _ _ hi, n1 0 (by decide)], ⟨sz', tp', by rw [hc1, sset_self], by rw [hc1, sset_place _ _ _ (by decide), sset_self], by rw [hm1, sset_self, hsve], by rw [hsz']; split <;> omega, by omega, fun i hi => ?_⟩, fun Q hQ => ?_, fun v Q hQ => ?_⟩
  · -- the kept states
    have hnew : i + 1 = sz' → (tp' + 12 - sz' + i) % 12 = pl := by rw [htp', hsz']; split <;> omega
    by_cases g : i + 1 = sz'
    · rw [hnew g]
      have hi' : i = sv := by omega
      have pk : ∀ k, k < 31 → (fun k => m1 27 (31 * i + k)) k = m 26 k := fun k hk => by
        show m1 27 (31 * i + k) = m 26 k
        rw [m27, if_pos ⟨by omega, by omega⟩, show 31 * i + k - 31 * sv = k by omega]
      have base : HK c1 pl (m 26) nd ck H KB := by
        refine ⟨hst, hv, hO, hB, ⟨T, t1, t2, by rw [c49, vu_eq, hky]⟩, by rw [c50, vu_eq], fun j h1 h2 => ?_⟩
        have hm : (m 26 10 - 1 - (j : Int)).toNat % 20 < 20 := Nat.mod_lt _ (by decide)
        rw [c51, if_pos ⟨by omega, by omega⟩, show 20 * pl + (m 26 10 - 1 - (j : Int)).toNat % 20 - pl * 20 = (m 26 10 - 1 - (j : Int)).toNat % 20 by omega]
        exact hl j h1 h2
      exact HK_same base (Int.le_refl _) rfl rfl (fun _ _ => rfl) pk
    · -- an older one
      have old : ∃ i' : Nat, i' < sz ∧ (tp' + 12 - sz' + i) % 12 = (tp + 12 - sz + i') % 12 ∧ (tp' + 12 - sz' + i) % 12 ≠ pl ∧ ∀ k, k < 31 → m1 27 (31 * i + k) = m 27 (31 * i' + k) := by
        by_cases g2 : sz = 12
        · refine ⟨i + 1, by rw [hsz', if_pos g2] at hi g; omega, ?_, ?_, fun k hk => ?_⟩
          · rw [htp', hsz', if_pos g2]; omega
          · rw [hsz', if_pos g2] at hi g
            rw [htp', hsz', if_pos g2]; omega
          · rw [hsz', if_pos g2] at hi g
            rw [m27, if_neg (by rw [hsv, if_pos g2]; omega), if_pos ⟨g2, by omega⟩, show 31 * i + k + 31 = 31 * (i + 1) + k by omega]
        · refine ⟨i, by rw [hsz', if_neg g2] at hi g; omega, ?_, ?_, fun k hk => ?_⟩
          · rw [htp', hsz', if_neg g2]; omega
          · rw [hsz', if_neg g2] at hi g
            rw [htp', hsz', if_neg g2]; omega
          · rw [hsz', if_neg g2] at hi g
            rw [m27, if_neg (by rw [hsv, if_neg g2]; omega), if_neg (fun u => g2 u.1)]
      obtain ⟨i', p1, p2, p3, p4⟩ := old
      have hk := a6 i' p1
      rw [← p2] at hk
      have hm : (tp' + 12 - sz' + i) % 12 < 12 := Nat.mod_lt _ (by decide)
      refine HK_same hk (Int.le_refl _) (by rw [c49, vu_ne _ _ p3]) (by rw [c50, vu_ne _ _ p3]) (fun j hj => ?_) (fun k hk => p4 k hk)
      rw [c51, if_neg (by omega)]
  · -- the class keeps
    unfold f_X2_keep
    rw [a2]
    refine t_flMod12 (by omega) ⟨Or.inl rfl, ?_⟩
    rw [← hpl]
    refine t_key (o := (m 26 9).toNat) (t := T &&& H) (w := (m 26 5 + 16 * m 26 6 + 256 * m 26 7).toNat) (f := (m 26 4).toNat) (h := (m 26 3 + 1).toNat) (n := (m 26 2).toNat) (Or.inl rfl) (by rw [w8]; omega) t3 (by rw [w6]; omega) (by rw [w5]; omega) (by rw [w4]; omega) (by rw [w3]; omega) (by omega) (by omega) (by omega) (by omega) (by omega) (by omega) ?_
    rw [← hky, Int.toNat_natCast]
    refine ⟨by omega, by omega, fun σ2 e2 => ?_⟩
    have b45 : σ2 (44 + 1) 0 = m 26 10 := by rw [e2, sset_cell _ _ _ _ (by decide), w9]
    rw [b45]
    refine ⟨by omega, by omega, fun σ3 e3 => ?_⟩
    rw [show ((pl : Int) * 20).toNat = pl * 20 by omega]
    refine ⟨by omega, by omega, fun σ4 e4 => ?_⟩
    have es : σ4 = s4 := by rw [e4, e3, e2, hs4]
    have b4 : s4 48 = c 48 := s4r 48 (by decide) (by decide) (by decide)
    rw [es]
    intro σ5 e5
    have d0 : σ5 48 0 = (sz : Int) := by rw [e5, sset_place _ _ _ (by decide), b4, a1]
    have tpe : (pl : Int) + 1 = (tp' : Int) := by omega
    unfold f_JM_min
    rw [d0]
    refine ⟨⟨by omega, by omega⟩, ⟨by decide, by decide⟩, fun u σ6 e6 => ?_, fun u σ6 e6 => ?_⟩
    · have : (sz' : Int) = 12 := by rw [hsz', if_pos (by omega)]; rfl
      rw [e6, e5, tpe, ← this, ← hc1]; exact hQ
    · have : (sz' : Int) = (sz : Int) + 1 := by rw [hsz', if_neg (by omega)]; rfl
      rw [e6, e5, tpe, ← this, ← hc1]; exact hQ
  · refine n3 v Q ?_
    have h42 : m2 0 42 = (sz : Int) := by rw [n1 0 (by decide), a3]
    have fin : ∀ w : Int, (sz : Int) - w = (sv : Int) → f_X10_choose_J104 Q m2 v (sz : Int) w := by
      intro w hw
      unfold f_X10_choose_J104
      intro σ1 e1
      rw [hw, ← hm3] at e1
      rw [e1]
      exact o3 v Q FU (by show 31 < 100000; decide) (by rw [← hm1]; exact hQ)
    unfold f_X10_choose_J85
    rw [h42]
    exact ⟨⟨by omega, by omega⟩, fun u => fin 0 (by rw [hsv, if_neg (by omega)]; omega), fun u => fin 1 (by rw [hsv, if_pos (by omega)]; omega)⟩
/-- a kept state comes back in both -/
theorem J_back (hck : ck ≤ 16) (hnd : nd ≤ 12) (hH : H < 65536) (h0 : c 44 0 = (D : Int)) (hx : PWx c m 44 nd) (h44 : m 0 44 = 0) (h : HIS c m nd ck H KB) (hne : m 0 42 ≠ 0) : ∃ c1 m1 : St, (∀ q, q ≠ 44 → q ≠ 45 → q ≠ 46 → q ≠ 48 → c1 q = c q) ∧ (∀ q, q ≠ 0 → q ≠ 26 → m1 q = m q) ∧ (∀ i, i ≠ 42 → m1 0 i = m 0 i) ∧ PW c1 m1 44 D nd ck H ∧ m1 26 0 = 1 ∧ m1 26 9 ≠ 0 ∧ m1 26 10 ≤ KB ∧ HIS c1 m1 nd ck H KB ∧ c1 48 0 = m1 0 42 ∧ inR (m1 0 42) ∧ (∀ Q : St → Prop, Q c1 → f_X2_restore 44 c Q) ∧ ∀ (Q : St → Int → Prop), Q m1 (m1 0 42) → ∀ σ2 : St, σ2 = sset m 0 42 (m 0 42 - 1) → f_X10_back_L30 Q FU σ2 0 := by
  obtain ⟨sz, tp, a1, a2, a3, a4, a5, a6⟩ := h
  have hsz : 0 < sz := by omega
  obtain ⟨sl, hsl⟩ : ∃ sl : Nat, sl = if tp = 0 then 11 else tp - 1 := ⟨_, rfl⟩
  have hsl12 : sl < 12 := by rw [hsl]; split <;> omega
  have esl : (tp + 12 - sz + (sz - 1)) % 12 = sl := by rw [hsl]; split <;> omega
  have hk := a6 (sz - 1) (by omega)
  rw [esl] at hk
  obtain ⟨p, hp⟩ : ∃ p : Nat → Int, p = fun k => m 27 (31 * (sz - 1) + k) := ⟨_, rfl⟩
  rw [← hp] at hk
  obtain ⟨k1, k2, k3, k4, ⟨T, k5, k6, k7⟩, k8, k9⟩ := hk
  have k2' := k2
  obtain ⟨v1, v2, v3, v4, v5, v6, v7, v8, v9, v10, v11, v12, v13, v14, v15⟩ := k2'
  have hpow2 : 2 ^ ck ≤ 2 ^ 16 := Nat.pow_le_pow_right (by decide) hck
  have hpow3 : (2 : Nat) ^ 16 = 65536 := rfl
  have hTH : T &&& H < 2 ^ 16 := Nat.and_lt_two_pow T hH
  -- the class
  obtain ⟨s4, hs4⟩ : ∃ s4 : St, s4 = cRs c 44 (p 9).toNat (T &&& H) (p 5 + 16 * p 6 + 256 * p 7).toNat (p 4).toNat (p 3 + 1).toNat (p 2).toNat := ⟨_, rfl⟩
  obtain ⟨s5, hs5⟩ : ∃ s5 : St, s5 = scpy (sset s4 45 0 (p 10)) 51 (sl * 20) 46 0 20 := ⟨_, rfl⟩
  obtain ⟨c1, hc1⟩ : ∃ c1 : St, c1 = sset (sset s5 48 1 (sl : Int)) 48 0 ((sz - 1 : Nat) : Int) := ⟨_, rfl⟩
  have s4r : ∀ q, q ≠ 44 → s4 q = c q := fun q hq => by rw [hs4]; exact cRs_row hq
  have s5r : ∀ q, q ≠ 45 → q ≠ 46 → s5 q = s4 q := fun q a b => by rw [hs5, scpy_row b, sset_row _ _ _ a]
  have cr : ∀ q, q ≠ 45 → q ≠ 46 → q ≠ 48 → c1 q = s4 q := fun q a b d => by rw [hc1, sset_row _ _ _ d, sset_row _ _ _ d, s5r q a b]
  obtain ⟨r0, r1, r3, r4, r5, r6, r7, r8, r9⟩ := cRs_at (P := 44) (o := (p 9).toNat) (t := T &&& H) (w := (p 5 + 16 * p 6 + 256 * p 7).toNat) (f := (p 4).toNat) (h := (p 3 + 1).toNat) (n := (p 2).toNat) (c := c)
  rw [← hs4] at r0 r1 r3 r4 r5 r6 r7 r8 r9
  have cP : c1 44 = s4 44 := cr 44 (by decide) (by decide) (by decide)
  have c45 : c1 (44 + 1) 0 = p 10 := by rw [hc1, sset_row _ _ _ (by decide), sset_row _ _ _ (by decide), hs5, scpy_row (by decide), sset_self]
  have c46 : ∀ k, k < 20 → c1 (44 + 2) k = c 51 (sl * 20 + k) := fun k hk => by
    rw [hc1, sset_row _ _ _ (by decide), sset_row _ _ _ (by decide), hs5, scpy_at, if_pos ⟨Nat.zero_le _, by omega⟩, sset_row _ _ _ (by decide), s4r 51 (by decide), Nat.sub_zero]
  have c480 : c1 48 0 = ((sz - 1 : Nat) : Int) := by rw [hc1, sset_self]
  have c481 : c1 48 1 = (sl : Int) := by rw [hc1, sset_place _ _ _ (by decide), sset_self]
  -- the reference
  have copy : ∀ (j k sv : Nat) (m : St), k + j = 31 → sv < 12 → m 0 42 = (sv : Int) → ∃ m1 : St, (∀ q, q ≠ 26 → m1 q = m q) ∧ (∀ i, m1 26 i = if k ≤ i ∧ i < 31 then m 27 (31 * sv + i) else m 26 i) ∧ ∀ (Q : St → Int → Prop) (fu : Nat), j < fu → Q m1 (m1 0 42) → f_X10_back_L30 Q fu m (k : Int) := by
    intro j
    induction j with
    | zero =>
      intro k sv m hk hsv h42
      refine ⟨m, fun _ _ => rfl, fun i => by rw [if_neg (by omega)], fun Q fu hf hQ => ?_⟩
      cases fu with
      | zero => omega
      | succ fu =>
        unfold f_X10_back_L30
        exact ⟨⟨by omega, by omega⟩, fun _ => hQ, fun g => by omega⟩
    | succ j ih =>
      intro k sv m hk hsv h42
      obtain ⟨m2, hm2⟩ : ∃ m2 : St, m2 = sset m 26 k (m 27 (31 * sv + k)) := ⟨_, rfl⟩
      obtain ⟨m1, i1, i2, i3⟩ := ih (k + 1) sv m2 (by omega) hsv (by rw [hm2, sset_cell _ _ _ _ (by decide), h42])
      refine ⟨m1, fun q hq => by rw [i1 q hq, hm2, sset_row _ _ _ hq], fun i => ?_, fun Q fu hf hQ => ?_⟩
      · rw [i2 i, hm2, sset_at, sset_row _ _ _ (by decide)]
        by_cases g : i = k
        · subst g; rw [if_neg (by omega), vu_eq, if_pos ⟨Nat.le_refl _, by omega⟩]
        · rw [vu_ne _ _ g]
          by_cases g2 : k + 1 ≤ i ∧ i < 31
          · rw [if_pos g2, if_pos ⟨by omega, g2.2⟩]
          · rw [if_neg g2, if_neg (by omega)]
      · cases fu with
        | zero => omega
        | succ fu =>
          unfold f_X10_back_L30
          rw [h42]
          refine ⟨⟨by omega, by omega⟩, fun g => by omega, fun _ => ⟨by omega, by omega, by omega, by omega, fun σ3 e3 => ?_⟩⟩
          rw [Int.toNat_natCast, show (31 * (sv : Int) + (k : Int)).toNat = 31 * sv + k by omega, ← hm2] at e3
          rw [e3]
          exact i3 Q fu (by omega) hQ
  obtain ⟨m3, hm3⟩ : ∃ m3 : St, m3 = sset m 0 42 ((sz - 1 : Nat) : Int) := ⟨_, rfl⟩
  have m3r : ∀ q, q ≠ 0 → m3 q = m q := fun q hq => by rw [hm3, sset_row _ _ _ hq]
  obtain ⟨m1, o1, o2, o3⟩ := copy 31 0 (sz - 1) m3 (by omega) (by omega) (by rw [hm3, sset_self])
  have mp : ∀ i, i < 31 → m1 26 i = p i := fun i hi => by rw [o2 i, if_pos ⟨Nat.zero_le _, hi⟩, m3r 27 (by decide), hp]
  have m42 : m1 0 42 = ((sz - 1 : Nat) : Int) := by rw [o1 0 (by decide), hm3, sset_self]
  have m0 : ∀ i, i ≠ 42 → m1 0 i = m 0 i := fun i hi => by rw [o1 0 (by decide), hm3, sset_place _ _ _ hi]
  have mr : ∀ q, q ≠ 0 → q ≠ 26 → m1 q = m q := fun q a b => by rw [o1 q b, m3r q a]
  refine ⟨c1, m1, fun q a b d f => by rw [cr q b d f, s4r q a], mr, m0, ⟨⟨?_, ?_, ?_, ?_, ?_, ?_, ?_, ?_, ?_⟩, ?_, ?_, ?_, ?_⟩, by rw [mp 0 (by decide)]; exact k1, by rw [mp 9 (by decide)]; exact k3, by rw [mp 10 (by decide)]; exact k4, ⟨sz - 1, sl, ?_, ?_, m42, by omega, by omega, fun i hi => ?_⟩, ?_, ?_, fun Q hQ => ?_, fun Q hQ σ2 e2 => ?_⟩
  · rw [cP, r0, h0]
  · rw [cP, r1, mp 0 (by decide), k1]
  · rw [cP, r3, mp 2 (by decide)]; omega
  · rw [cP, r4, mp 3 (by decide)]; omega
  · rw [cP, r5, mp 4 (by decide)]; omega
  · rw [cP, r6, mp 5 (by decide), mp 6 (by decide), mp 7 (by decide)]; omega
  · rw [cP, r8, mp 9 (by decide)]; omega
  · rw [c45, mp 10 (by decide)]
  · intro u; rw [mp 0 (by decide), k1] at u; exact absurd u (by decide)
  · unfold PWv; rw [mp 2 (by decide), mp 3 (by decide), mp 4 (by decide), mp 5 (by decide), mp 6 (by decide), mp 7 (by decide), mp 9 (by decide), mp 10 (by decide)]; exact k2
  · exact ⟨T, by rw [mp 8 (by decide)]; exact k5, k6, by rw [cP, r7]⟩
  · intro j h1 h2
    rw [mp 10 (by decide)] at h2 ⊢
    rw [c46 _ (Nat.mod_lt _ (by decide)), mp (11 + j) (by omega), Nat.mul_comm sl 20]
    exact k9 j h1 h2
  · obtain ⟨E, x1, x2, x3⟩ := hx
    refine ⟨E, x1, by rw [cP, r9, x2], fun g => ?_⟩
    rw [m0 44 (by decide)] at g; exact absurd h44 g
  · exact c480
  · exact c481
  · have e1 : (sl + 12 - (sz - 1) + i) % 12 = (tp + 12 - sz + i) % 12 := by rw [hsl]; split <;> omega
    rw [e1]
    refine HK_same (a6 i (by omega)) (Int.le_refl _) ?_ ?_ (fun j _ => ?_) (fun k _ => ?_)
    · rw [cr 49 (by decide) (by decide) (by decide), s4r 49 (by decide)]
    · rw [cr 50 (by decide) (by decide) (by decide), s4r 50 (by decide)]
    · rw [cr 51 (by decide) (by decide) (by decide), s4r 51 (by decide)]
    · rw [mr 27 (by decide) (by decide)]
  · rw [c480, m42]
  · rw [m42]; exact ⟨by omega, by omega⟩
  · have fin : ∀ v : Int, v = (sl : Int) → 0 ≤ v ∧ v < 12 ∧ isP 44 ∧ f_X5_restore 44 (c 49 v.toNat) c (fun σ2 => 0 ≤ v ∧ v < 12 ∧ ∀ σ3 : St, σ3 = sset σ2 (44 + 1) 0 (σ2 50 v.toNat) → 0 ≤ (v * 20) ∧ (v * 20) + 20 ≤ 240 ∧ ∀ σ4 : St, σ4 = scpy σ3 51 (v * 20).toNat (44 + 2) 0 20 → ∀ σ5 : St, σ5 = sset σ4 48 1 v → f_JM_max ((σ5 48 0) - 1) 0 σ5 (fun σ6 r2 => ∀ σ7 : St, σ7 = sset σ6 48 0 r2 → Q σ7)) := by
      rintro v rfl
      rw [Int.toNat_natCast, k7]
      refine ⟨by omega, by omega, Or.inl rfl, t_restore (Or.inl rfl) (by omega) (by omega) (by omega) (by omega) (by omega) (by omega) ?_⟩
      rw [← hs4, s4r 50 (by decide), k8]
      refine ⟨by omega, by omega, fun σ3 e3 => ?_⟩
      rw [show ((sl : Int) * 20).toNat = sl * 20 by omega]
      refine ⟨by omega, by omega, fun σ4 e4 σ5 e5 => ?_⟩
      have es : σ4 = s5 := by rw [e4, e3, hs5]
      have d0 : σ5 48 0 = (sz : Int) := by rw [e5, sset_place _ _ _ (by decide), es, s5r 48 (by decide) (by decide), s4r 48 (by decide), a1]
      unfold f_JM_max
      rw [d0]
      refine ⟨⟨by omega, by omega⟩, ⟨by decide, by decide⟩, fun u => by omega, fun _ σ7 e7 => ?_⟩
      rw [e7, e5, es, show (sz : Int) - 1 = ((sz - 1 : Nat) : Int) by omega, ← hc1]; exact hQ
    unfold f_X2_restore
    rw [a2]
    by_cases g : tp = 0
    · rw [show (tp : Int) - 1 = -1 by omega]
      exact t_flMod12n (fin 11 (by rw [hsl, if_pos g]; rfl))
    · rw [show (tp : Int) - 1 = ((tp - 1 : Nat) : Int) by omega]
      refine t_flMod12 (by omega) (fin _ ?_)
      rw [hsl, if_neg g, Nat.mod_eq_of_lt (by omega)]
  · have es : σ2 = m3 := by rw [e2, hm3, a3, show (sz : Int) - 1 = ((sz - 1 : Nat) : Int) by omega]
    rw [es]
    exact o3 Q FU (by show 31 < 100000; decide) hQ
end HIST
