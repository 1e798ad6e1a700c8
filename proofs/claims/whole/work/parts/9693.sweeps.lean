/-! ===== pure layer: the sweeps of the class, to the end ===== -/
section SWEEPS
variable {c0 : St} {D S H nd ck hh : Nat}
/-- entries are poured -/
theorem B_pour {c : St} {E : Nat → Nat → Nat} (hD : D = 2 ∨ D = 20) (hT : TB c0 c D) (h65 : c 65 0 = (D : Int)) (hS : c0 D 0 = (S : Int)) (hS4 : S ≤ 400) (h10 : c0 D 10 = (nd : Int)) (hnd : nd ≤ 12) (h14 : c0 D 14 = (ck : Int)) (hck : ck ≤ 16) (h13 : c0 D 13 = (hh : Int)) (hhb : hh < 4096) (hnf : ∀ n, n < nd → 0 ≤ c0 (D + 14) n ∧ c0 (D + 14) n < S) (hcf : ∀ k, k < ck → 0 ≤ c0 (D + 17) k ∧ c0 (D + 17) k < S) (hE : CEr c E) (h68 : ∀ i, i < 400 → c 68 i = 0) : ∃ (c1 : St) (A : Nat → Nat → Nat), CAr 0 c1 A ∧ AVs A ∧ STA c0 D nd ck hh A E ∧ (∀ A2 : Nat → Nat → Nat, STA c0 D nd ck hh A2 E → ∀ z, z < 400 → SLE (A z) (A2 z)) ∧ (∀ q, q ≠ 68 → q ≠ 69 → q ≠ 70 → c1 q = c q) ∧ ∀ Q : St → Prop, Q c1 → f_X0_pourEntries c Q := by
  -- the choices
  have chs : ∀ (j k : Nat) (c : St) (A : Nat → Nat → Nat), k + j = ck → TB c0 c D → c 65 0 = (D : Int) → CEr c E → CAr 0 c A → ∃ (c1 : St) (A1 : Nat → Nat → Nat), CAr 0 c1 A1 ∧ (∀ z, z < 400 → SLE (A z) (A1 z)) ∧ (∀ i, k ≤ i → i < ck → SLE (ent (E (12 + i))) (A1 (c0 (D + 17) i).toNat)) ∧ (∀ A2 : Nat → Nat → Nat, (∀ z, z < 400 → SLE (A z) (A2 z)) → (∀ i, k ≤ i → i < ck → SLE (ent (E (12 + i))) (A2 (c0 (D + 17) i).toNat)) → ∀ z, z < 400 → SLE (A1 z) (A2 z)) ∧ (∀ q, q ≠ 68 → q ≠ 69 → q ≠ 70 → c1 q = c q) ∧ ∀ (Q : St → Prop) (fu : Nat), j < fu → Q c1 → f_X0_pourEntries_L75 Q fu c (k : Int) := by
    intro j
    induction j with
    | zero =>
      intro k c A hk hT h65 hE hA
      refine ⟨c, A, hA, fun z hz => SLE_refl (KV_01 (hA z (Nat.zero_le _) hz).2.2.1), fun i u v => by omega, fun A2 u _ => u, fun _ _ _ _ => rfl, fun Q fu hf hQ => ?_⟩
      cases fu with
      | zero => omega
      | succ fu =>
        unfold f_X0_pourEntries_L75
        rw [h65, Int.toNat_natCast, hT D (by omega) (by omega), h14]
        exact ⟨⟨by omega, by omega⟩, fun _ => hQ, fun _ => ⟨hD, ⟨by omega, by omega⟩, ⟨by omega, by omega⟩, fun _ => hQ, fun u => by omega⟩⟩
    | succ j ih =>
      intro k c A hk hT h65 hE hA
      have hkc : k < ck := by omega
      have cf := hcf k hkc
      obtain ⟨y, hy⟩ : ∃ y : Nat, c0 (D + 17) k = (y : Int) := ⟨(c0 (D + 17) k).toNat, by omega⟩
      have ek := hE.2.2 (12 + k) (by omega)
      obtain ⟨c2, A2, i1, i2, i3, i4, i5, i6, i7, i8⟩ := t_pour (t := 0) (y := y) (o := 0) (k := 0) (g := ent (E (12 + k))) hD h65 (by rw [hT D (by omega) (by omega)]; exact hS) hS4 (by omega) (Nat.zero_le _) hA (ent_SV ek) (fun _ => by rw [ent_9.1, ent_9.2]; exact ⟨rfl, rfl⟩)
      have hT2 : TB c0 c2 D := fun q u v => by rw [i6 q (by omega) (by omega) (by omega), hT q u v]
      have hE2 : CEr c2 E := ⟨fun n hn => by rw [i6 66 (by decide) (by decide) (by decide)]; exact hE.1 n hn, fun n hn => by rw [i6 67 (by decide) (by decide) (by decide)]; exact hE.2.1 n hn, hE.2.2⟩
      obtain ⟨c1, A1, j1, j2, j3, j4, j5, j6⟩ := ih (k + 1) c2 A2 (by omega) hT2 (by rw [i6 65 (by decide) (by decide) (by decide)]; exact h65) hE2 i1
      have up : ∀ z, z < 400 → SLE (A z) (A2 z) := fun z hz => by
        by_cases e : z = y
        · rw [e]; exact i3
        · rw [i2 z e]; exact SLE_refl (KV_01 (hA z (Nat.zero_le _) hz).2.2.1)
      refine ⟨c1, A1, j1, fun z hz => SLE_trans (up z hz) (j2 z hz), fun i u v => ?_, fun A3 u v => j4 A3 (fun z hz => ?_) (fun i x w => v i (by omega) w), fun q x w z => by rw [j5 q x w z, i6 q x w z], fun Q fu hf hQ => ?_⟩
      · by_cases e : i = k
        · rw [e, hy, Int.toNat_natCast]; exact SLE_trans i4 (j2 y (by omega))
        · exact j3 i (by omega) v
      · by_cases e : z = y
        · rw [e]
          refine i5 _ (u y (by omega)) ?_
          have := v k (Nat.le_refl _) hkc
          rw [hy, Int.toNat_natCast] at this
          exact this
        · rw [i2 z e]; exact u z hz
      · cases fu with
        | zero => omega
        | succ fu =>
          have nx := i8 (fun σ1 => f_X0_pourEntries_L75 Q fu σ1 ((k : Int) + 1)) (by have w := j6 Q fu (by omega) hQ; rw [show ((k + 1 : Nat) : Int) = (k : Int) + 1 from by omega] at w; exact w)
          rw [show pkg (ent (E (12 + k))) = pkg (E (12 + k)) from pkg_lo (fun i hi => ent_lo hi)] at nx
          unfold f_X0_pourEntries_L75
          rw [h65, Int.toNat_natCast, hT D (by omega) (by omega), h14, Int.toNat_natCast, hT (D + 17) (by omega) (by omega), hy, hE.2.1 k (by omega)]
          exact ⟨⟨by omega, by omega⟩, fun u => by omega, fun _ => ⟨hD, ⟨by omega, by omega⟩, ⟨by omega, by omega⟩, fun u => by omega, fun _ => ⟨by omega, by omega, by omega, by omega, nx⟩⟩⟩
  -- the nodes
  have nds : ∀ (j n : Nat) (c : St) (A : Nat → Nat → Nat), n + j = nd → TB c0 c D → c 65 0 = (D : Int) → CEr c E → CAr 0 c A → ∃ (c1 : St) (A1 : Nat → Nat → Nat), CAr 0 c1 A1 ∧ (∀ z, z < 400 → SLE (A z) (A1 z)) ∧ (∀ i, n ≤ i → i < nd → SLE (ent (aHb hh i (E i))) (A1 (c0 (D + 14) i).toNat)) ∧ (∀ A2 : Nat → Nat → Nat, (∀ z, z < 400 → SLE (A z) (A2 z)) → (∀ i, n ≤ i → i < nd → SLE (ent (aHb hh i (E i))) (A2 (c0 (D + 14) i).toNat)) → ∀ z, z < 400 → SLE (A1 z) (A2 z)) ∧ (∀ q, q ≠ 68 → q ≠ 69 → q ≠ 70 → c1 q = c q) ∧ ∀ (Q : St → Prop) (fu : Nat), j < fu → f_X0_pourEntries_L75 Q FU c1 0 → f_X0_pourEntries_L2 Q fu c (n : Int) := by
    intro j
    induction j with
    | zero =>
      intro n c A hn hT h65 hE hA
      refine ⟨c, A, hA, fun z hz => SLE_refl (KV_01 (hA z (Nat.zero_le _) hz).2.2.1), fun i u v => by omega, fun A2 u _ => u, fun _ _ _ _ => rfl, fun Q fu hf hQ => ?_⟩
      cases fu with
      | zero => omega
      | succ fu =>
        unfold f_X0_pourEntries_L2
        rw [h65, Int.toNat_natCast, hT D (by omega) (by omega), h10]
        exact ⟨⟨by omega, by omega⟩, fun _ => hQ, fun _ => ⟨hD, ⟨by omega, by omega⟩, ⟨by omega, by omega⟩, fun _ => hQ, fun u => by omega⟩⟩
    | succ j ih =>
      intro n c A hn hT h65 hE hA
      have hnn : n < nd := by omega
      have nf := hnf n hnn
      obtain ⟨y, hy⟩ : ∃ y : Nat, c0 (D + 14) n = (y : Int) := ⟨(c0 (D + 14) n).toNat, by omega⟩
      have ek := hE.2.2 n (by omega)
      have ak : KV (aHb hh n (E n)) := aHb_KV (by omega) ek
      obtain ⟨c2, A2, i1, i2, i3, i4, i5, i6, i7, i8⟩ := t_pour (t := 0) (y := y) (o := 0) (k := 0) (g := ent (aHb hh n (E n))) hD h65 (by rw [hT D (by omega) (by omega)]; exact hS) hS4 (by omega) (Nat.zero_le _) hA (ent_SV ak) (fun _ => by rw [ent_9.1, ent_9.2]; exact ⟨rfl, rfl⟩)
      have hT2 : TB c0 c2 D := fun q u v => by rw [i6 q (by omega) (by omega) (by omega), hT q u v]
      have hE2 : CEr c2 E := ⟨fun n hn => by rw [i6 66 (by decide) (by decide) (by decide)]; exact hE.1 n hn, fun n hn => by rw [i6 67 (by decide) (by decide) (by decide)]; exact hE.2.1 n hn, hE.2.2⟩
      obtain ⟨c1, A1, j1, j2, j3, j4, j5, j6⟩ := ih (n + 1) c2 A2 (by omega) hT2 (by rw [i6 65 (by decide) (by decide) (by decide)]; exact h65) hE2 i1
      have up : ∀ z, z < 400 → SLE (A z) (A2 z) := fun z hz => by
        by_cases e : z = y
        · rw [e]; exact i3
        · rw [i2 z e]; exact SLE_refl (KV_01 (hA z (Nat.zero_le _) hz).2.2.1)
      refine ⟨c1, A1, j1, fun z hz => SLE_trans (up z hz) (j2 z hz), fun i u v => ?_, fun A3 u v => j4 A3 (fun z hz => ?_) (fun i x w => v i (by omega) w), fun q x w z => by rw [j5 q x w z, i6 q x w z], fun Q fu hf hQ => ?_⟩
      · by_cases e : i = n
        · rw [e, hy, Int.toNat_natCast]; exact SLE_trans i4 (j2 y (by omega))
        · exact j3 i (by omega) v
      · by_cases e : z = y
        · rw [e]
          refine i5 _ (u y (by omega)) ?_
          have := v n (Nat.le_refl _) hnn
          rw [hy, Int.toNat_natCast] at this
          exact this
        · rw [i2 z e]; exact u z hz
      · cases fu with
        | zero => omega
        | succ fu =>
          have nx := i8 (fun σ1 => f_X0_pourEntries_L2 Q fu σ1 ((n : Int) + 1)) (by have w := j6 Q fu (by omega) hQ; rw [show ((n + 1 : Nat) : Int) = (n : Int) + 1 from by omega] at w; exact w)
          rw [show pkg (ent (aHb hh n (E n))) = pkg (aHb hh n (E n)) from pkg_lo (fun i hi => ent_lo hi)] at nx
          have j51 : f_X0_pourEntries_J51 (fun σ' v1' => f_X0_pourEntries_L2 Q fu σ' v1') Q c (n : Int) ((pkg (aHb hh n (E n)) : Nat) : Int) := by
            unfold f_X0_pourEntries_J51
            rw [h65, Int.toNat_natCast, Int.toNat_natCast, hT (D + 14) (by omega) (by omega), hy]
            exact ⟨hD, by omega, by omega, nx⟩
          unfold f_X0_pourEntries_L2
          rw [h65, Int.toNat_natCast, hT D (by omega) (by omega), h10, Int.toNat_natCast, hE.1 n (by omega)]
          refine ⟨⟨by omega, by omega⟩, fun u => by omega, fun _ => ⟨hD, ⟨by omega, by omega⟩, ⟨by omega, by omega⟩, fun u => by omega, fun _ => ⟨by omega, by omega, ?_⟩⟩⟩
          rintro x1 rfl
          refine ⟨lcmp_r _ _, fun u => ?_, fun u => ?_⟩
          · rw [lcmp_pkg0 ek] at u
            have ez : pkg (aHb hh n (E n)) = pkg (E n) := by rw [pkg_0 u, pkg_0 (by rw [aHb_ne (by decide)]; exact u)]
            rw [ez] at j51; exact j51
          · rw [lcmp_pkg0 ek] at u
            unfold f_X7_standsAsHub
            rw [hT D (by omega) (by omega), h13, bit_nat (by omega) (by omega)]
            obtain ⟨f1, f2, f3, -⟩ := KV_16 ek u
            cases q : hh.testBit n
            · have ez : aHb hh n (E n) = E n := by unfold aHb; rw [q]; rfl
              rw [ez] at j51
              exact ⟨hD, ⟨by decide, by decide⟩, fun _ => ⟨⟨by decide, by decide⟩, fun _ => j51, fun w => absurd rfl w⟩, fun w => absurd w (by decide)⟩
            · have p2 : 2 ^ n < 2 ^ 13 := Nat.pow_lt_pow_right (by decide) (by omega)
              have p13 : (2 : Nat) ^ 13 = 8192 := rfl
              have ez : pkg (aHb hh n (E n)) = pk (fun i => E n (1 + i)) (E n 7) (2 ^ n) := by
                have e1 : aHb hh n (E n) = va_up (E n) 8 (2 ^ n) := by unfold aHb; rw [q]; rfl
                have e0 : aHb hh n (E n) 0 ≠ 0 := by rw [aHb_ne (by decide)]; exact u
                rw [pkg_1 e0, e1, vu_eq, vu_ne _ _ (by decide)]
                exact pk_congr (fun i hi => vu_ne _ _ (by omega))
              rw [ez] at j51
              refine ⟨hD, ⟨by decide, by decide⟩, fun w => absurd rfl w, fun _ => ⟨⟨by decide, by decide⟩, fun w => absurd w (by decide), fun _ => ?_⟩⟩
              rw [pkg_1 u, ishl_1 (by omega)]
              exact t_withHubs f1 f2 f3 (by omega) j51
  have hA0 : CAr 0 c (fun _ _ => 0) := fun z _ hz => ⟨by rw [h68 z hz, pkg_0 rfl]; rfl, fun u => absurd rfl u, ⟨Or.inl rfl, fun u => absurd (show (0 : Nat) = 1 from u) (by decide)⟩⟩
  obtain ⟨c2, A2, i1, i2, i3, i4, i5, i6⟩ := nds nd 0 c _ (by omega) hT h65 hE hA0
  have hT2 : TB c0 c2 D := fun q u v => by rw [i5 q (by omega) (by omega) (by omega), hT q u v]
  have hE2 : CEr c2 E := ⟨fun n hn => by rw [i5 66 (by decide) (by decide) (by decide)]; exact hE.1 n hn, fun n hn => by rw [i5 67 (by decide) (by decide) (by decide)]; exact hE.2.1 n hn, hE.2.2⟩
  obtain ⟨c1, A1, j1, j2, j3, j4, j5, j6⟩ := chs ck 0 c2 A2 (by omega) hT2 (by rw [i5 65 (by decide) (by decide) (by decide)]; exact h65) hE2 i1
  refine ⟨c1, A1, j1, fun z hz => (j1 z (Nat.zero_le _) hz).2.2, ⟨fun n hn => SLE_trans (i3 n (Nat.zero_le _) hn) (j2 _ (by have := hnf n hn; omega)), fun k hk => j3 k (Nat.zero_le _) hk⟩, fun A3 u => j4 A3 (i4 A3 (fun z hz => Or.inl rfl) (fun i _ v => u.1 i v)) (fun i _ v => u.2 i v), fun q x y z => by rw [j5 q x y z, i5 q x y z], fun Q hQ => ?_⟩
  exact i6 Q FU (by show nd < 100000; omega) (j6 Q FU (by show ck < 100000; omega) hQ)
end SWEEPS
