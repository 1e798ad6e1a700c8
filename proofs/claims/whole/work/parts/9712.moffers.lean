/-! ===== pure layer: the reference offers ===== -/
section MOFF
variable {m0 m c σ : St} {ck d s D H x t n : Nat} {g : Nat → Nat} {E : Nat → Nat → Nat} {k o v : Nat → Nat}
theorem r_offers {ch s2 b2 nd : Nat} {hub : Bool} (hs : s < 401) (h10 : σ 10 s = (t : Int)) (h11 : σ 11 s = ((t + n : Nat) : Int)) (hn : t + n ≤ 401) (hT : MTr σ k o v t n) (hg : KV g) (hg0 : g 0 = 1) (mg : MRg σ 37 0 g) (h4 : σ 4 s = (ch : Int)) (hch : ch < 16) (h24 : σ 24 ch = (s2 : Int)) (hs2 : s2 < 401) (h7 : σ 7 s2 = (b2 : Int)) (hb2 : b2 < 64) (h19 : σ 19 b2 = (nd : Int)) (hnd : nd < 12) (h21 : σ 21 nd = if hub then 1 else 0) (h67 : σ 0 67 = ((g 9 : Nat) : Int)) (h68 : σ 0 68 = ((g 10 : Nat) : Int)) (g9 : g 9 < 65536) (g10 : g 10 < 65536) : ∃ m1 : St, (∀ q, q ≠ 0 → q ≠ 37 → m1 q = σ q) ∧ (∀ i, i ≠ 67 → i ≠ 68 → m1 0 i = σ 0 i) ∧ (∀ i, i < 132 ∨ 141 ≤ i → m1 37 i = σ 37 i) ∧ m1 0 67 = ((aCh k o v n t ch hub g 9 : Nat) : Int) ∧ m1 0 68 = ((aCh k o v n t ch hub g 10 : Nat) : Int) ∧ ∀ Q : St → Prop, Q m1 → f_X10_offers (s : Int) σ Q := by
  obtain ⟨mt, j1, j2, j3, j4⟩ := r_truePart (m := σ) (a := 132) (x := s) hs (by decide) (by decide) h10 h11 hn hT hg mg
  have tv := tpF_KV n t g (fun s' u w => (hT s' u w).2.2.2.2) hg
  have p16 : 2 ^ ch < 2 ^ 16 := Nat.pow_lt_pow_right (by decide) hch
  have e16 : (2 : Nat) ^ 16 = 65536 := rfl
  have hhc : ∀ Q : St → Prop, (∀ w : Int, (w = 0 ∧ n = 0) ∨ (w = 1 ∧ n ≠ 0) → f_X10_offers_J20 Q σ (s : Int) w) → f_X10_offers (s : Int) σ Q := by
    intro Q hq
    unfold f_X10_offers
    rw [Int.toNat_natCast, h10, h11]
    exact ⟨by omega, by omega, by omega, by omega, ⟨by omega, by omega⟩, ⟨by omega, by omega⟩, fun u => hq 0 (Or.inl ⟨rfl, by omega⟩), fun u => hq 1 (Or.inr ⟨rfl, by omega⟩)⟩
  have rt : inR (mt 37 132) := by rw [j3.1]; exact inR_01 (by rcases KV_01 tv with z | z <;> rw [z] <;> simp)
  by_cases dead : tpF k o v n t g 0 = 0
  · have ea : aCh k o v n t ch hub g = g := by unfold aCh; rw [if_pos dead]
    refine ⟨mt, fun q _ b => j1 q b, fun i _ _ => by rw [j1 0 (by decide)], j2, by rw [ea, j1 0 (by decide), h67], by rw [ea, j1 0 (by decide), h68], fun Q hQ => hhc Q (fun w hw => ?_)⟩
    unfold f_X10_offers_J20
    refine j4 _ ⟨rt, fun u => absurd (by rw [j3.1, dead]; rfl) u, fun _ => hQ⟩
  · have bit : ior32 (mt 0 67) (ishl32 1 (mt 4 s)) = ((g 9 ||| 2 ^ ch : Nat) : Int) := by rw [j1 0 (by decide), j1 4 (by decide), h67, h4, ishl_1 (by omega), ior_nat (by omega) (by omega)]
    obtain ⟨m2, e2⟩ : ∃ m2 : St, m2 = sset mt 0 67 ((g 9 ||| 2 ^ ch : Nat) : Int) := ⟨_, rfl⟩
    have r2 : ∀ q, q ≠ 0 → m2 q = mt q := fun q hq => by rw [e2, sset_row _ _ _ hq]
    have hT2 : MTr m2 k o v t n := fun s' u w => by rw [r2 12 (by decide), r2 13 (by decide), r2 14 (by decide), j1 12 (by decide), j1 13 (by decide), j1 14 (by decide)]; exact hT s' u w
    obtain ⟨mf, i1, i2, i3, i4⟩ := r_falsePart (m := m2) (a := 132) (x := s) hs (by decide) (by decide) (by rw [r2 10 (by decide), j1 10 (by decide)]; exact h10) (by rw [r2 11 (by decide), j1 11 (by decide)]; exact h11) hn hT2 hg hg0 (MRg_keep mg (fun i hi => by rw [r2 37 (by decide), j2 (0 + i) (by omega)]))
    have fv := fpF_KV (k := k) (o := o) (v := v) (n := n) (t := t) (fun u => (hT t (Nat.le_refl _) (by omega)).2.2.2.2) hg
    have rf : inR (mf 37 132) := by rw [i3.1]; exact inR_01 (by rcases KV_01 fv with z | z <;> rw [z] <;> simp)
    have q0 : ∀ q, q ≠ 0 → q ≠ 37 → mf q = σ q := fun q a b => by rw [i1 q b, r2 q a, j1 q b]
    have q37 : ∀ i, i < 132 ∨ 141 ≤ i → mf 37 i = σ 37 i := fun i hi => by rw [i2 i (by omega), r2 37 (by decide), j2 i (by omega)]
    have p0 : ∀ i, i ≠ 67 → mf 0 i = σ 0 i := fun i hi => by rw [i1 0 (by decide), e2, sset_place _ _ _ hi, j1 0 (by decide)]
    have p67 : mf 0 67 = ((g 9 ||| 2 ^ ch : Nat) : Int) := by rw [i1 0 (by decide), e2, sset_at, vu_eq]
    have main : ∀ (Q : St → Prop) (w : Int), (w = 0 ∧ n = 0) ∨ (w = 1 ∧ n ≠ 0) → (hub = true → Q mf) → (hub = false → n = 0 ∨ fpF k o v n t g 0 = 0 → Q (sset mf 0 68 ((g 10 ||| 2 ^ ch : Nat) : Int))) → (hub = false → ¬ (n = 0 ∨ fpF k o v n t g 0 = 0) → Q mf) → f_X10_offers_J20 Q σ (s : Int) w := by
      intro Q w hw a1 a2 a3
      have j99 : (hub = false → n = 0 ∨ fpF k o v n t g 0 = 0 → f_X10_offers_J99 Q mf (s : Int)) := by
        intro u1 u2
        have := a2 u1 u2
        unfold f_X10_offers_J99
        refine ⟨by omega, by omega, ?_⟩
        rintro σ1 rfl
        rw [Int.toNat_natCast, p0 68 (by decide), q0 4 (by decide) (by decide), h68, h4, ishl_1 (by omega), ior_nat (by omega) (by omega)]
        exact this
      unfold f_X10_offers_J20
      refine j4 _ ⟨rt, fun _ => ⟨by omega, by omega, ?_⟩, fun u => absurd (by rw [j3.1] at u; omega) dead⟩
      rintro σ2 rfl
      rw [Int.toNat_natCast, bit, ← e2]
      refine i4 _ ⟨by omega, by omega, ?_⟩
      unfold f_X10_nodeOfChoice
      rw [q0 4 (by decide) (by decide), h4, Int.toNat_natCast, q0 24 (by decide) (by decide), h24, Int.toNat_natCast, q0 7 (by decide) (by decide), h7, Int.toNat_natCast, q0 19 (by decide) (by decide), h19]
      refine ⟨by omega, by omega, by omega, by omega, by omega, by omega, ?_⟩
      show 0 ≤ (nd : Int) ∧ (nd : Int) < 12 ∧ _
      rw [Int.toNat_natCast, q0 21 (by decide) (by decide), h21]
      refine ⟨by omega, by omega, ?_⟩
      cases hub
      · refine ⟨⟨by decide, by decide⟩, fun u => absurd rfl u, fun _ => ⟨by rcases hw with ⟨z, -⟩ | ⟨z, -⟩ <;> rw [z] <;> exact ⟨by decide, by decide⟩, fun u => j99 rfl (Or.inl (by omega)), fun u => ⟨rf, fun z => ?_, fun z => j99 rfl (Or.inr ?_)⟩⟩⟩
        · refine a3 rfl (fun y => ?_)
          rcases y with y | y
          · omega
          · rw [i3.1, y] at z; exact z rfl
        · rw [i3.1] at z; omega
      · exact ⟨⟨by decide, by decide⟩, fun _ => a1 rfl, fun u => absurd u (by decide)⟩
    by_cases cer : hub = false ∧ (n = 0 ∨ fpF k o v n t g 0 = 0)
    · have ea : aCh k o v n t ch hub g = va_up (va_up g 9 (g 9 ||| 2 ^ ch)) 10 (g 10 ||| 2 ^ ch) := by unfold aCh; rw [if_neg dead, if_pos cer]
      refine ⟨sset mf 0 68 ((g 10 ||| 2 ^ ch : Nat) : Int), fun q a b => by rw [sset_row _ _ _ a, q0 q a b], fun i a b => by rw [sset_place _ _ _ b, p0 i a], fun i hi => by rw [sset_row _ _ _ (by decide), q37 i hi], ?_, ?_, fun Q hQ => hhc Q (fun w hw => main Q w hw (fun u => by rw [cer.1] at u; exact absurd u (by decide)) (fun _ _ => hQ) (fun _ u => absurd cer.2 u))⟩
      · rw [ea, vu_ne _ _ (by decide), vu_eq, sset_place _ _ _ (by decide), p67]
      · rw [ea, vu_eq, sset_at, vu_eq]
    · have ea : aCh k o v n t ch hub g = va_up g 9 (g 9 ||| 2 ^ ch) := by unfold aCh; rw [if_neg dead, if_neg cer]
      refine ⟨mf, q0, fun i a _ => p0 i a, q37, by rw [ea, vu_eq, p67], by rw [ea, vu_ne _ _ (by decide), p0 68 (by decide), h68], fun Q hQ => hhc Q (fun w hw => main Q w hw (fun _ => hQ) (fun u1 u2 => absurd ⟨u1, u2⟩ cer) (fun _ _ => hQ))⟩
theorem aCh_ck {ch : Nat} {hub : Bool} (hch : ch < ck) (h : SVk ck g) : SVk ck (aCh k o v n t ch hub g) := by
  have p : 2 ^ ch < 2 ^ ck := Nat.pow_lt_pow_right (by decide) hch
  refine ⟨aCh_KV h.1, ?_, ?_⟩
  · unfold aCh
    split
    · exact h.2.1
    · split
      · rw [vu_ne _ _ (by decide), vu_eq]; exact Nat.or_lt_two_pow h.2.1 p
      · rw [vu_eq]; exact Nat.or_lt_two_pow h.2.1 p
  · unfold aCh
    split
    · exact h.2.2
    · split
      · rw [vu_eq]; exact Nat.or_lt_two_pow h.2.2 p
      · rw [vu_ne _ _ (by decide)]; exact h.2.2
theorem L_choice {ch s2 b2 nd : Nat} {hub : Bool} {nn : Int} (hW : WSt m0 m ck g E d (s : Int)) (hck : ck ≤ 16) (hg0 : g 0 = 1) (hs : s < 401) (hk : m 3 s = 4) (h10 : m 10 s = (t : Int)) (h11 : m 11 s = ((t + n : Nat) : Int)) (hn : t + n ≤ 401) (hT : MTr m k o v t n) (h4 : m 4 s = (ch : Int)) (hch : ch < ck) (h24 : m 24 ch = (s2 : Int)) (hs2 : s2 < 401) (h7 : m 7 s2 = (b2 : Int)) (hb2 : b2 < 64) (h19 : m 19 b2 = (nd : Int)) (hnd : nd < 12) (h21 : m 21 nd = if hub then 1 else 0) (la : LSa c D H x g (aCh k o v n t ch hub g) E E) (k9 : c (D + 1) x ≠ 9) (k10 : c (D + 1) x ≠ 10) : LRN m0 m ck g E d s c D H x nn := by
  have hW' := hW
  obtain ⟨-, -, w3, w4, w5, -, w7, -⟩ := hW'
  have le : 2 ^ ck ≤ 2 ^ 16 := Nat.pow_le_pow_right (by decide) hck
  have e16 : (2 : Nat) ^ 16 = 65536 := rfl
  have q9 := w4.2.1
  have q10 := w4.2.2
  have r : ∀ q, q ≠ 0 → sset m 0 48 (m 6 s) q = m q := fun q hq => sset_row _ _ _ hq
  have p : ∀ i, i ≠ 48 → sset m 0 48 (m 6 s) 0 i = m 0 i := fun i hi => sset_place _ _ _ hi
  obtain ⟨m1, j1, j2, j3, j4, j5, j6⟩ := r_offers (σ := sset m 0 48 (m 6 s)) (s := s) (t := t) (n := n) (g := g) (k := k) (o := o) (v := v) (ch := ch) (s2 := s2) (b2 := b2) (nd := nd) (hub := hub) hs (by rw [r 10 (by decide)]; exact h10) (by rw [r 11 (by decide)]; exact h11) hn (fun s' u w => by rw [r 12 (by decide), r 13 (by decide), r 14 (by decide)]; exact hT s' u w) w4.1 hg0 (MRg_keep w3 (fun i hi => by rw [r 37 (by decide)])) (by rw [r 4 (by decide)]; exact h4) (by omega) (by rw [r 24 (by decide)]; exact h24) hs2 (by rw [r 7 (by decide)]; exact h7) hb2 (by rw [r 19 (by decide)]; exact h19) hnd (by rw [r 21 (by decide)]; exact h21) (by rw [p 67 (by decide)]; exact w5.1) (by rw [p 68 (by decide)]; exact w5.2) (by omega) (by omega)
  refine LRN_flow (m' := m1) (g1 := aCh k o v n t ch hub g) hW (fun q a b => by rw [j1 q a b, r q a]) (fun i a b e => by rw [j2 i b e, p i a]) (fun i a b => by rw [j3 i (by omega), r 37 (by decide)]) (by rw [j2 48 (by decide) (by decide), sset_at, vu_eq]) ⟨?_, fun u i hi => ?_⟩ (aCh_ck hch w4) (by rw [aCh_lo (by decide), hg0]) j4 j5 la k9 k10 (fun Q w => ?_)
  · rw [aCh_lo (by decide), j3 0 (by omega), r 37 (by decide)]; exact w3.1
  · rw [aCh_lo hi, j3 (0 + i) (by omega), r 37 (by decide)]; exact w3.2 (by omega) i hi
  · exact r_lrn w7 hs hk (by decide) (by decide) (fun u => absurd u (by decide)) (fun u => absurd u (by decide)) (fun u => absurd u (by decide)) (fun u => absurd u (by decide)) (fun _ => j6 _ w) (fun u => absurd u (by decide)) (fun u => absurd u (by decide)) (fun u => absurd u (by decide))
end MOFF
