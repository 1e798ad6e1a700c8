/-! ===== pure layer: parts only narrow; a largest solution ===== -/
section LES
variable {g : Nat → Nat} {k o v l u : Nat}
theorem rng_le (ho : o < 3) (hg : g 0 = 0 ∨ g 0 = 1) (h1 : g (1 + o) ≤ l) (h2 : u ≤ g (4 + o)) : SLE (rng g o l u) g := by
  by_cases z : u < l
  · exact Or.inl (rng_no ho z)
  · obtain ⟨a1, a2, a3⟩ := rng_at (g := g) ho (by omega : l ≤ u)
    have a0 : rng g o l u 0 = g 0 := a1 0 (by omega) (by omega)
    rcases hg with y | y
    · exact Or.inl (by rw [a0]; exact y)
    · refine Or.inr ⟨⟨y, fun i hi => ?_, fun i hi => ?_, by rw [a1 7 (by omega) (by omega)]; exact sub2_refl _, by rw [a1 8 (by omega) (by omega)]; exact sub2_refl _⟩, by rw [a1 9 (by omega) (by omega)]; exact sub2_refl _, by rw [a1 10 (by omega) (by omega)]; exact sub2_refl _⟩
      · by_cases e : i = o
        · rw [e, a2]; exact h1
        · rw [a1 (1 + i) (by omega) (by omega)]; exact Nat.le_refl _
      · by_cases e : i = o
        · rw [e, a3]; exact h2
        · rw [a1 (4 + i) (by omega) (by omega)]; exact Nat.le_refl _
theorem kfl_le {b : Nat} (hg : g 0 = 0 ∨ g 0 = 1) : SLE (kfl g o b) g := by
  unfold kfl
  split
  · exact Or.inl (noth_0 g)
  · rcases hg with y | y
    · exact Or.inl (by rw [vu_ne _ _ (by decide)]; exact y)
    · refine Or.inr ⟨⟨y, fun i hi => by rw [vu_ne _ _ (by omega)]; exact Nat.le_refl _, fun i hi => by rw [vu_ne _ _ (by omega)]; exact Nat.le_refl _, ?_, by rw [vu_ne _ _ (by decide)]; exact sub2_refl _⟩, by rw [vu_ne _ _ (by decide)]; exact sub2_refl _, by rw [vu_ne _ _ (by decide)]; exact sub2_refl _⟩
      rw [vu_eq]
      intro i hi
      rw [clr_tb, Bool.and_eq_true] at hi
      exact hi.1
theorem noth_le : SLE (noth g) g := Or.inl (noth_0 g)
theorem opN_le (ho : 2 ≤ k → o < 3) (hg : g 0 = 0 ∨ g 0 = 1) : SLE (opN k o v g) g := by
  unfold opN
  split
  · exact kfl_le hg
  · split
    · exact kfl_le hg
    · have ho := ho (by omega)
      split
      · split
        · exact noth_le
        · exact rng_le ho hg (Nat.le_refl _) (Nat.min_le_left _ _)
      · split
        · exact rng_le ho hg (Nat.le_max_left _ _) (Nat.le_refl _)
        · exact rng_le ho hg (Nat.le_max_left _ _) (Nat.min_le_left _ _)
theorem opO_le (ho : 2 ≤ k → o < 3) (hg : g 0 = 0 ∨ g 0 = 1) : SLE (opO k o v g) g := by
  unfold opO
  split
  · exact kfl_le hg
  · split
    · exact kfl_le hg
    · have ho := ho (by omega)
      split
      · exact rng_le ho hg (Nat.le_max_left _ _) (Nat.le_refl _)
      · split
        · exact rng_le ho hg (Nat.le_refl _) (Nat.min_le_left _ _)
        · split
          · exact noth_le
          · refine rng_le ho hg ?_ ?_
            · split <;> omega
            · split <;> omega
theorem tpF_le {k o v : Nat → Nat} : ∀ (n t : Nat) (g : Nat → Nat), (∀ s, t ≤ s → s < t + n → TRN (k s) (o s) (v s)) → KV g → SLE (tpF k o v n t g) g := by
  intro n
  induction n with
  | zero => intro t g _ hv; exact SLE_refl (KV_01 hv)
  | succ n ih =>
    intro t g hT hv
    unfold tpF
    split
    · exact SLE_refl (KV_01 hv)
    · have T := TRN_of (hT t (Nat.le_refl _) (by omega))
      exact SLE_trans (ih (t + 1) _ (fun s a b => hT s (by omega) (by omega)) (opN_KV T.1 T.2 hv)) (opN_le T.2 (KV_01 hv))
theorem fpF_le {k o v : Nat → Nat} {n t : Nat} {g : Nat → Nat} (hT : n = 1 → TRN (k t) (o t) (v t)) (hv : KV g) : SLE (fpF k o v n t g) g := by
  unfold fpF
  split
  · rename_i u
    exact opO_le (TRN_of (hT u.1)).2 (KV_01 hv)
  · exact SLE_refl (KV_01 hv)
end LES
theorem sub2_ones {x n : Nat} (h : x < 2 ^ n) : sub2 x (2 ^ n - 1) := by
  intro i hi
  rw [Nat.testBit_two_pow_sub_one]
  apply Classical.byContradiction
  intro u
  have : ¬ i < n := fun w => u (by rw [decide_eq_true w])
  have := tb_ck (i := i) h (by omega)
  rw [hi] at this
  exact absurd this (by decide)
/-- the largest knowledge with a set of hubs -/
def tpT (hm : Nat) (i : Nat) : Nat := if i = 0 then 1 else if i ≤ 3 then 0 else if i ≤ 6 then 9 else if i = 7 then 4095 else if i = 8 then hm else if i = 9 then 65535 else 0
theorem tpT_KV {hm : Nat} (h : hm < 8192) : KV (tpT hm) := by
  refine Or.inr ⟨rfl, fun i hi => ?_, (by decide : 4095 < 4096), fun f hf => ?_, h⟩
  · have : i = 0 ∨ i = 1 ∨ i = 2 := by omega
    rcases this with rfl | rfl | rfl <;> exact ⟨(by decide : 0 ≤ 9), (by decide : 9 ≤ 9)⟩
  · show 4095 / 2 ^ (2 * f) % 4 ≠ 0
    have : f = 0 ∨ f = 1 ∨ f = 2 ∨ f = 3 ∨ f = 4 ∨ f = 5 := by omega
    rcases this with rfl | rfl | rfl | rfl | rfl | rfl <;> decide
theorem top_le {hm : Nat} {g : Nat → Nat} (hv : KV g) (h8 : sub2 (g 8) hm) (h9 : g 9 < 65536) : SLE g (tpT hm) := by
  rcases hv with u | ⟨u0, u1, u2, -, -⟩
  · exact Or.inl u
  · refine Or.inr ⟨⟨rfl, fun i hi => ?_, fun i hi => ?_, ?_, h8⟩, ?_, ?_⟩
    · have : i = 0 ∨ i = 1 ∨ i = 2 := by omega
      rcases this with rfl | rfl | rfl <;> exact Nat.zero_le _
    · have := (u1 i hi).2
      have e : tpT hm (4 + i) = 9 := by
        have : i = 0 ∨ i = 1 ∨ i = 2 := by omega
        rcases this with rfl | rfl | rfl <;> rfl
      rw [e]; exact this
    · exact sub2_ones (n := 12) u2
    · exact sub2_ones (n := 16) h9
    · intro i hi
      have : (tpT hm 10).testBit i = false := Nat.zero_testBit i
      rw [this] at hi
      exact absurd hi (by decide)
section TOPS
variable {c m : St} {D N S B nd ck ts tm H hh : Nat} {φ : Nat → Nat} {e : Nat → Int}
/-- what else the story says of places -/
theorem SX_more (hS : SRx D c m φ e N S B nd ck ts tm) {x : Nat} (hx : x < S) : (c (D + 1) x = 8 → 0 ≤ c (D + 2) x ∧ c (D + 2) x < nd) ∧ (c (D + 1) x = 12 → 0 ≤ c (D + 16) (c (D + 2) x).toNat ∧ c (D + 16) (c (D + 2) x).toNat < nd) := by
  obtain ⟨-, ⟨-, hYA, -, -, hYD, -, hYF, -⟩, hmk, -, -, -, -, ⟨hYK, hgo⟩, -, -, -, hYQ, hYU, -⟩ := hS
  rcases hYU x hx with ⟨s, hs, rfl⟩ | ⟨b, hb, hbx⟩
  · have hk := hYK s hs
    unfold KR at hk
    refine ⟨fun u => ?_, fun u => by omega⟩
    have k5 : m 3 s = 5 ∧ c (D + 2) (φ s) = m 4 s := by omega
    have := hgo s hs k5.1
    omega
  · have mk := hmk b hb
    have k2 : m 15 b ≠ 2 := by
      intro u
      have := mk.1 u
      omega
    obtain ⟨e1, e2, e3⟩ := mk.2 k2
    rw [hbx, Int.toNat_natCast] at e3
    refine ⟨fun u => by omega, fun u => ?_⟩
    have k1 : m 15 b = 1 ∧ c (D + 2) x = m 16 b := by omega
    have r16 : 0 ≤ m 16 b ∧ m 16 b < ck := by
      rcases (hYD.1 b hb).2.2 with ⟨w, -⟩ | ⟨-, w1, w2, -⟩ | ⟨w, -⟩
      · omega
      · exact ⟨w1, w2⟩
      · omega
    obtain ⟨f1, f2, -⟩ := hYF.1 (m 16 b).toNat (by omega)
    have a7 := hYA (m 24 (m 16 b).toNat).toNat (by omega)
    obtain ⟨d1, d2, -⟩ := hYD.1 (m 7 (m 24 (m 16 b).toNat).toNat).toNat (by omega)
    rw [k1.2, (hYQ (m 16 b).toNat (by omega)).2]
    exact ⟨d1, d2⟩
theorem top_SOL (hS : SRx D c m φ e N S B nd ck ts tm) : ∃ A2 E2 : Nat → Nat → Nat, SOL c D S H nd ck hh A2 E2 ∧ ∀ n, nd ≤ n → n < 12 → E2 n 0 = 0 := by
  have hXQ := XQ_of hS
  have hmo := @SX_more c m D N S B nd ck ts tm φ e hS
  have nd0 : 0 < nd := hS.1.2.2.2.2.2.2.2.2.2.2.2.1
  have nd12 : nd ≤ 12 := hS.1.2.2.2.2.2.2.2.2.2.2.2.2.1
  have ck16 : ck ≤ 16 := hS.1.2.2.2.2.2.2.2.2.2.2.2.2.2.1
  obtain ⟨hm, ehm⟩ : ∃ hm, hm = (2 ^ nd - 1) ||| 2 ^ 12 := ⟨_, rfl⟩
  have ptb : ∀ i, hm.testBit i = true ↔ (i < nd ∨ i = 12) := by
    intro i
    rw [ehm, or_pow_tb, Nat.testBit_two_pow_sub_one, decide_eq_true_iff]
  have pnd : 2 ^ nd ≤ 2 ^ 12 := Nat.pow_le_pow_right (by decide) nd12
  have hlt : hm < 8192 := by
    rw [ehm]
    exact Nat.or_lt_two_pow (n := 13) (by have : (2 : Nat) ^ 12 < 2 ^ 13 := by decide
                                          omega) (by decide)
  have kt := tpT_KV hlt
  have t8 : tpT hm 8 = hm := rfl
  have t9 : tpT hm 9 = 65535 := rfl
  have t9l : tpT hm 9 < 65536 := (by decide : 65535 < 65536)
  have tle : ∀ g : Nat → Nat, KV g → g 8 = hm → g 9 < 65536 → SLE g (tpT hm) := fun g a b d => top_le a (by rw [b]; exact sub2_refl _) d
  have s16 : SVk 16 (tpT hm) := ⟨kt, by show 65535 < 2 ^ 16; decide, by show 0 < 2 ^ 16; decide⟩
  obtain ⟨E2, eE⟩ : ∃ E2 : Nat → Nat → Nat, ∀ i, E2 i = if i < nd ∨ 12 ≤ i then tpT hm else fun _ => 0 := ⟨fun i => if i < nd ∨ 12 ≤ i then tpT hm else fun _ => 0, fun _ => rfl⟩
  have E1 : ∀ i, i < nd ∨ 12 ≤ i → E2 i = tpT hm := fun i hi => by rw [eE i, if_pos hi]
  have krefl : KLE (tpT hm) (tpT hm) := KLE_refl (Or.inr rfl)
  refine ⟨fun _ => tpT hm, E2, ⟨fun x hx _ => ?_, ⟨fun n hn => ?_, fun k hk => ?_⟩, ?_, fun z _ => kt, fun i hi => ?_⟩, fun n h1 h2 => ?_⟩
  · obtain ⟨q0, q1, q2, q3, q6, q7, q8, q10, q12⟩ := hXQ x hx
    obtain ⟨o8, o12⟩ := hmo hx
    refine ⟨fun _ => SLE_refl (Or.inr rfl), fun w => tle _ (aFl_KV (by have := q2 (Or.inl w); omega) (by decide) kt) (aFl_ne (by decide)) (by rw [aFl_ne (by decide)]; exact t9l), fun w => tle _ (aFl_KV (by have := q2 (Or.inr w); omega) (by decide) kt) (aFl_ne (by decide)) (by rw [aFl_ne (by decide)]; exact t9l), fun w w' => ?_, fun w => ⟨tpF_le _ _ _ (TQ_trn (q6 w).2.2.2.2.2.2) kt, fpF_le (fun u => TQ_trn (q6 w).2.2.2.2.2.2 _ (Nat.le_refl _) (by omega)) kt⟩, fun w => ?_, fun w => ?_, fun w h' hh' hb => ?_, fun _ k hk _ => ?_, fun w _ => ?_⟩
    · have r := q3 w w'
      exact tle _ (aMt_KV (by omega) (by omega) kt) (aMt_ne (by omega) (by omega)) (by rw [aMt_ne (by omega) (by omega)]; exact t9l)
    · have r := q7 w
      have sv : SVk 16 (cch c D H x (tpT hm)) := aCh_ck (ck := 16) (by have := hS.1.2.2.2.2.2.2.2.2.2.1; omega) s16
      exact tle _ sv.1 (aCh_lo (by decide)) sv.2.1
    · have r := o8 w
      show KLE (tpT hm) (E2 (c (D + 2) x).toNat)
      rw [E1 _ (Or.inl (by omega))]; exact krefl
    · have r := (ptb h').1 hb
      show KLE (tpT hm) (E2 h')
      rw [E1 _ (Or.inl (by omega))]; exact krefl
    · show KLE (tpT hm) (E2 (12 + k))
      rw [E1 _ (Or.inr (by omega))]; exact krefl
    · have r := o12 w
      show KLE (tpT hm) (E2 (c (D + 16) (c (D + 2) x).toNat).toNat)
      rw [E1 _ (Or.inl (by omega))]; exact krefl
  · show SLE (ent (aHb hh n (E2 n))) (tpT hm)
    rw [E1 n (Or.inl hn)]
    refine top_le (ent_SV (aHb_KV (by omega) kt)).1 ?_ (by rw [ent_9.1]; decide)
    rw [ent_lo (by decide)]
    unfold aHb
    split
    · rw [vu_eq]
      intro i hi
      rw [Nat.testBit_two_pow, decide_eq_true_iff] at hi
      exact (ptb i).2 (Or.inl (by omega))
    · exact sub2_refl _
  · show SLE (ent (E2 (12 + k))) (tpT hm)
    rw [E1 _ (Or.inr (by omega))]
    exact top_le (ent_SV kt).1 (by rw [ent_lo (by decide)]; exact sub2_refl _) (by rw [ent_9.1]; decide)
  · rw [E1 0 (Or.inl nd0)]
    refine SLE_K (top_le e00_KV ?_ (by decide))
    intro i hi
    have : (2 ^ 12 : Nat).testBit i = true := hi
    rw [Nat.testBit_two_pow, decide_eq_true_iff] at this
    exact (ptb i).2 (Or.inr (by omega))
  · rw [eE i]
    split
    · exact kt
    · exact Or.inl rfl
  · rw [eE n, if_neg (by omega)]
end TOPS
