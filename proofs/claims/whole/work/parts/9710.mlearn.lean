/-! ===== pure layer: one statement of the reference's walk ===== -/
/-- knowledge with offered and certain choices -/
def SVk (ck : Nat) (g : Nat → Nat) : Prop := KV g ∧ g 9 < 2 ^ ck ∧ g 10 < 2 ^ ck
/-- what a walk leaves alone -/
def FRw (m0 m : St) : Prop := (∀ q, q ≠ 0 → q < 36 ∨ 44 < q → m q = m0 q) ∧ ∀ i, i ≠ 48 → i ≠ 49 → i ≠ 66 → i ≠ 67 → i ≠ 68 → i ≠ 69 → i ≠ 72 → i ≠ 73 → m 0 i = m0 0 i
/-- a state of the walk: d tests are open, the next statement is v -/
def WSt (m0 m : St) (ck : Nat) (g : Nat → Nat) (E : Nat → Nat → Nat) (d : Nat) (v : Int) : Prop := FRw m0 m ∧ MEr m E ∧ MRg m 37 0 g ∧ SVk ck g ∧ (m 0 67 = ((g 9 : Nat) : Int) ∧ m 0 68 = ((g 10 : Nat) : Int)) ∧ m 0 66 = (d : Int) ∧ m 0 48 = v ∧ (m 0 69 = 0 ∨ m 0 69 = 1) ∧ (∃ a : Nat, m 0 72 = (a : Int) ∧ a < 65536) ∧ ∃ a : Nat, m 0 73 = (a : Int) ∧ a < 65536
/-- the stack of tests is left alone -/
def SFn (m m1 : St) : Prop := (∀ q, 38 ≤ q → q ≤ 43 → m1 q = m q) ∧ ∀ i, 9 ≤ i → i < 132 → m1 37 i = m 37 i
/-- entries have grown, and whether that is told -/
def GRW (m m1 : St) (E E1 : Nat → Nat → Nat) : Prop := (∀ i, i < 28 → KLE (E i) (E1 i)) ∧ (m 0 69 ≠ 0 → m1 0 69 ≠ 0) ∧ (m1 0 69 = 0 → ∀ i, i < 28 → pkg (E1 i) = pkg (E i)) ∧ (m 0 69 = 0 → m1 0 69 ≠ 0 → mu E 28 < mu E1 28)
theorem GRW_same {m m1 : St} {E : Nat → Nat → Nat} (hE : ∀ i, i < 28 → KV (E i)) (h : m1 0 69 = m 0 69) : GRW m m1 E E := ⟨fun i hi => KLE_refl (KV_01 (hE i hi)), fun u => by rw [h]; exact u, fun _ _ _ => rfl, fun u w => absurd (by rw [h]; exact u) w⟩
theorem GRW_trans {m m1 m2 : St} {E E1 E2 : Nat → Nat → Nat} (hE : ∀ i, i < 28 → KV (E i)) (hE1 : ∀ i, i < 28 → KV (E1 i)) (hE2 : ∀ i, i < 28 → KV (E2 i)) (h : GRW m m1 E E1) (h' : GRW m1 m2 E1 E2) : GRW m m2 E E2 := by
  obtain ⟨a2, a8, a9, a10⟩ := h
  obtain ⟨b2, b8, b9, b10⟩ := h'
  have u1 := mu_le (E := E) (E' := E1) 28 (fun i hi => ⟨hE i hi, hE1 i hi, a2 i hi⟩)
  have u2 := mu_le (E := E1) (E' := E2) 28 (fun i hi => ⟨hE1 i hi, hE2 i hi, b2 i hi⟩)
  refine ⟨fun i hi => KLE_trans (a2 i hi) (b2 i hi), fun u => b8 (a8 u), fun u i hi => ?_, fun u w => ?_⟩
  · by_cases z : m1 0 69 = 0
    · rw [b9 u i hi, a9 z i hi]
    · exact absurd u (b8 z)
  · by_cases z : m1 0 69 = 0
    · have := b10 z w; omega
    · have := a10 u z; omega
theorem GRW_E {m m1 : St} {E E1 : Nat → Nat → Nat} {g : Nat → Nat} {P : Nat → Prop} (h : EMr m m1 E E1 g P) : GRW m m1 E E1 := ⟨h.2.1, h.2.2.2.2.2.2.2.2.1, h.2.2.2.2.2.2.2.2.2.1, h.2.2.2.2.2.2.2.2.2.2⟩
/-- a step, held against the inequations of its statement -/
def LSa (c : St) (D H x : Nat) (g g1 : Nat → Nat) (E E1 : Nat → Nat → Nat) : Prop := (∀ A2 E2 : Nat → Nat → Nat, CLS c D H A2 E2 x → KV (A2 x) → SLE g (A2 x) → (∀ i, i < 28 → KLE (E i) (E2 i)) → SLE g1 (A2 (c (D + 4) x).toNat) ∧ ∀ i, i < 28 → KLE (E1 i) (E2 i)) ∧ ∀ M Ef : Nat → Nat → Nat, M x = g → SLE g1 (M (c (D + 4) x).toNat) → (∀ i, i < 28 → KLE (E1 i) (Ef i)) → CLS c D H M Ef x
section LSA
variable {c : St} {D H S x : Nat} {g g1 : Nat → Nat} {E E1 : Nat → Nat → Nat}
theorem LSa_0 (hk : c (D + 1) x = 0) (hg : g 0 = 1) : LSa c D H x g g E E := by
  refine ⟨fun A2 E2 hC _ hl hE => ⟨SLE_trans hl ((hC (SLE_ne hl (by omega))).1 hk), hE⟩, fun M Ef e1 l _ u => ?_⟩
  rw [e1] at u ⊢
  exact ⟨fun _ => l, fun w => by omega, fun w => by omega, fun w w' => by omega, fun w => by omega, fun w => by omega, fun w => by omega, fun w => by omega, fun w => by omega, fun w => by omega⟩
theorem LSa_1 (hk : c (D + 1) x = 1) (hg : g 0 = 1) : LSa c D H x g (aFl g (c (D + 2) x).toNat 1) E E := by
  refine ⟨fun A2 E2 hC _ hl hE => ⟨SLE_trans (aFl_mono hl) ((hC (SLE_ne hl (by omega))).2.1 hk), hE⟩, fun M Ef e1 l _ u => ?_⟩
  rw [e1] at u ⊢
  exact ⟨fun w => by omega, fun _ => l, fun w => by omega, fun w w' => by omega, fun w => by omega, fun w => by omega, fun w => by omega, fun w => by omega, fun w => by omega, fun w => by omega⟩
theorem LSa_2 (hk : c (D + 1) x = 2) (hg : g 0 = 1) : LSa c D H x g (aFl g (c (D + 2) x).toNat 0) E E := by
  refine ⟨fun A2 E2 hC _ hl hE => ⟨SLE_trans (aFl_mono hl) ((hC (SLE_ne hl (by omega))).2.2.1 hk), hE⟩, fun M Ef e1 l _ u => ?_⟩
  rw [e1] at u ⊢
  exact ⟨fun w => by omega, fun w => by omega, fun _ => l, fun w w' => by omega, fun w => by omega, fun w => by omega, fun w => by omega, fun w => by omega, fun w => by omega, fun w => by omega⟩
theorem LSa_3 (hk : 3 ≤ c (D + 1) x) (hk2 : c (D + 1) x ≤ 5) (ho : (c (D + 2) x).toNat < 3) (hg : g 0 = 1) : LSa c D H x g (aMt g (c (D + 2) x).toNat (c (D + 1) x).toNat (c (D + 3) x).toNat) E E := by
  refine ⟨fun A2 E2 hC _ hl hE => ⟨SLE_trans (aMt_mono ho hl) ((hC (SLE_ne hl (by omega))).2.2.2.1 hk hk2), hE⟩, fun M Ef e1 l _ u => ?_⟩
  rw [e1] at u ⊢
  exact ⟨fun w => by omega, fun w => by omega, fun w => by omega, fun _ _ => l, fun w => by omega, fun w => by omega, fun w => by omega, fun w => by omega, fun w => by omega, fun w => by omega⟩
theorem LSa_7 (hk : c (D + 1) x = 7) (hq : TQ c D x) (hv : KV g) (hg : g 0 = 1) : LSa c D H x g (cch c D H x g) E E := by
  refine ⟨fun A2 E2 hC hv2 hl hE => ⟨SLE_trans (aCh_mono (TQ_trn hq) hv hv2 hl) ((hC (SLE_ne hl (by omega))).2.2.2.2.2.1 hk), hE⟩, fun M Ef e1 l _ u => ?_⟩
  rw [e1] at u ⊢
  exact ⟨fun w => by omega, fun w => by omega, fun w => by omega, fun w w' => by omega, fun w => by omega, fun _ => l, fun w => by omega, fun w => by omega, fun w => by omega, fun w => by omega⟩
theorem LSa_8 {a : Nat} (hk : c (D + 1) x = 8) (ha : c (D + 2) x = (a : Int)) (ha2 : a < 28) (hg : g 0 = 1) (hg1 : g1 0 = 0) (h1 : KLE g (E1 a)) (h2 : ∀ E2 : Nat → Nat → Nat, (∀ i, i < 28 → KLE (E i) (E2 i)) → KLE g (E2 a) → ∀ i, i < 28 → KLE (E1 i) (E2 i)) : LSa c D H x g g1 E E1 := by
  have ea : (c (D + 2) x).toNat = a := by omega
  refine ⟨fun A2 E2 hC _ hl hE => ⟨Or.inl hg1, h2 E2 hE ?_⟩, fun M Ef e1 _ l u => ?_⟩
  · have := (hC (SLE_ne hl (by omega))).2.2.2.2.2.2.1 hk
    rw [ea] at this
    exact KLE_trans (SLE_K hl) this
  · rw [e1] at u ⊢
    exact ⟨fun w => by omega, fun w => by omega, fun w => by omega, fun w w' => by omega, fun w => by omega, fun w => by omega, fun _ => by rw [ea]; exact KLE_trans h1 (l a ha2), fun w => by omega, fun w => by omega, fun w => by omega⟩
theorem LSa_9 (hk : c (D + 1) x = 9) (hg : g 0 = 1) (hg1 : g1 0 = 0) (h1 : ∀ i, i < 28 → i < 12 ∧ (g 8).testBit i = true → KLE g (E1 i)) (h2 : ∀ E2 : Nat → Nat → Nat, (∀ i, i < 28 → KLE (E i) (E2 i)) → (∀ i, i < 28 → i < 12 ∧ (g 8).testBit i = true → KLE g (E2 i)) → ∀ i, i < 28 → KLE (E1 i) (E2 i)) : LSa c D H x g g1 E E1 := by
  refine ⟨fun A2 E2 hC _ hl hE => ⟨Or.inl hg1, h2 E2 hE (fun i _ hi => ?_)⟩, fun M Ef e1 _ l u => ?_⟩
  · have := (hC (SLE_ne hl (by omega))).2.2.2.2.2.2.2.1 hk i hi.1
    refine KLE_trans (SLE_K hl) (this ?_)
    rcases hl with z | z
    · omega
    · exact z.1.2.2.2.2 i hi.2
  · rw [e1] at u ⊢
    exact ⟨fun w => by omega, fun w => by omega, fun w => by omega, fun w w' => by omega, fun w => by omega, fun w => by omega, fun w => by omega, fun _ i hi b => KLE_trans (h1 i (by omega) ⟨hi, b⟩) (l i (by omega)), fun w => by omega, fun w => by omega⟩
theorem LSa_10 (hk : c (D + 1) x = 10) (hg1 : g1 0 = 0) : LSa c D H x g g1 E E := by
  refine ⟨fun A2 E2 hC _ hl hE => ⟨Or.inl hg1, hE⟩, fun M Ef e1 _ l u => ?_⟩
  rw [e1] at u ⊢
  exact ⟨fun w => by omega, fun w => by omega, fun w => by omega, fun w w' => by omega, fun w => by omega, fun w => by omega, fun w => by omega, fun w => by omega, fun w => by omega, fun w => by omega⟩
end LSA
/-- what a statement gives -/
def LRN (m0 m : St) (ck : Nat) (g : Nat → Nat) (E : Nat → Nat → Nat) (d : Nat) (s : Nat) (c : St) (D H x : Nat) (n : Int) : Prop := ∃ (m1 : St) (g1 : Nat → Nat) (E1 : Nat → Nat → Nat), WSt m0 m1 ck g1 E1 d (if g1 0 = 1 then m 6 s else -1) ∧ SFn m m1 ∧ LSa c D H x g g1 E E1 ∧ GRW m m1 E E1 ∧ m1 44 = m 44 ∧ BITs m m1 72 (fun i => c (D + 1) x = 10 ∧ c (D + 2) x = (i : Int)) ∧ BITs m m1 73 (fun i => c (D + 1) x = 9 ∧ (g 8).testBit 12 = true ∧ c (D + 2) x = (i : Int)) ∧ ∀ Q : St → Prop, Q m1 → f_X10_learns n m Q
section LRN1
variable {m0 m m' c : St} {ck d s D H x : Nat} {g g1 : Nat → Nat} {E E1 : Nat → Nat → Nat} {n : Int} {Q : St → Prop}
theorem r_l198a (h : m' 37 0 = 1) (hQ : Q (sset m' 0 48 (m' 0 48))) : f_X10_learns_J198 Q m' := by
  unfold f_X10_learns_J198
  refine ⟨by rw [h]; exact ⟨by decide, by decide⟩, fun u => absurd h u, fun _ => ?_⟩
  rintro σ1 rfl
  exact hQ
theorem r_l198b (h : m' 37 0 = 0) (hQ : Q (sset m' 0 48 (-1))) : f_X10_learns_J198 Q m' := by
  unfold f_X10_learns_J198
  refine ⟨by rw [h]; exact ⟨by decide, by decide⟩, fun _ => ?_, fun u => by omega⟩
  rintro σ1 rfl
  exact hQ
theorem LRN_flow (hW : WSt m0 m ck g E d (s : Int)) (hr : ∀ q, q ≠ 0 → q ≠ 37 → m' q = m q) (h0 : ∀ i, i ≠ 48 → i ≠ 67 → i ≠ 68 → m' 0 i = m 0 i) (h37 : ∀ i, 9 ≤ i → i < 132 → m' 37 i = m 37 i) (h48 : m' 0 48 = m 6 s) (mg : MRg m' 37 0 g1) (sv : SVk ck g1) (g10 : g1 0 = 1) (h67 : m' 0 67 = ((g1 9 : Nat) : Int)) (h68 : m' 0 68 = ((g1 10 : Nat) : Int)) (la : LSa c D H x g g1 E E) (k9 : c (D + 1) x ≠ 9) (k10 : c (D + 1) x ≠ 10) (go : ∀ Q : St → Prop, f_X10_learns_J198 Q m' → f_X10_learns n m Q) : LRN m0 m ck g E d s c D H x n := by
  obtain ⟨⟨w1, w1'⟩, w2, w3, w4, w5, w6, w7, w8, w9, w10⟩ := hW
  obtain ⟨m1, e1⟩ : ∃ m1 : St, m1 = sset m' 0 48 (m' 0 48) := ⟨_, rfl⟩
  have r : ∀ q, q ≠ 0 → m1 q = m' q := fun q hq => by rw [e1, sset_row _ _ _ hq]
  have p : ∀ i, i ≠ 48 → m1 0 i = m' 0 i := fun i hi => by rw [e1, sset_place _ _ _ hi]
  refine ⟨m1, g1, E, ⟨⟨fun q a b => by rw [r q a, hr q a (by omega), w1 q a b], fun i a1 a2 a3 a4 a5 a6 a7 a8 => by rw [p i a1, h0 i a1 a4 a5, w1' i a1 a2 a3 a4 a5 a6 a7 a8]⟩, fun k hk => ⟨(w2 k hk).1, (w2 k hk).2.1, fun i hi => by rw [r 36 (by decide), hr 36 (by decide) (by decide)]; exact (w2 k hk).2.2 i hi⟩, MRg_keep mg (fun i hi => by rw [r 37 (by decide)]), sv, ⟨by rw [p 67 (by decide), h67], by rw [p 68 (by decide), h68]⟩, by rw [p 66 (by decide), h0 66 (by decide) (by decide) (by decide), w6], by rw [if_pos g10, e1, sset_at, vu_eq, h48], by rw [p 69 (by decide), h0 69 (by decide) (by decide) (by decide)]; exact w8, by rw [p 72 (by decide), h0 72 (by decide) (by decide) (by decide)]; exact w9, by rw [p 73 (by decide), h0 73 (by decide) (by decide) (by decide)]; exact w10⟩, ⟨fun q a b => by rw [r q (by omega), hr q (by omega) (by omega)], fun i a b => by rw [r 37 (by decide), h37 i a b]⟩, la, GRW_same (MEr_KV w2) (by rw [p 69 (by decide), h0 69 (by decide) (by decide) (by decide)]), by rw [r 44 (by decide), hr 44 (by decide) (by decide)], BITs_refl (by rw [p 72 (by decide), h0 72 (by decide) (by decide) (by decide)]) (fun i u => k10 u.1), BITs_refl (by rw [p 73 (by decide), h0 73 (by decide) (by decide) (by decide)]) (fun i u => k9 u.1), fun Q hQ => go Q (r_l198a ?_ (by rw [← e1]; exact hQ))⟩
  rw [mg.1, g10]; rfl
theorem LRN_dead (hW : WSt m0 m ck g E d (s : Int)) (hE : MEr m' E1) (hr : ∀ q, q ≠ 0 → q ≠ 36 → q ≠ 37 → m' q = m q) (h0 : ∀ i, i ≠ 48 → i ≠ 69 → i ≠ 72 → i ≠ 73 → m' 0 i = m 0 i) (h37 : ∀ i, 9 ≤ i → i < 132 → m' 37 i = m 37 i) (hz : m' 37 0 = 0) (h69 : m' 0 69 = 0 ∨ m' 0 69 = 1) (la : LSa c D H x g (noth g) E E1) (hG : GRW m m' E E1) (b72 : BITs m m' 72 (fun i => c (D + 1) x = 10 ∧ c (D + 2) x = (i : Int))) (b73 : BITs m m' 73 (fun i => c (D + 1) x = 9 ∧ (g 8).testBit 12 = true ∧ c (D + 2) x = (i : Int))) (go : ∀ Q : St → Prop, f_X10_learns_J198 Q m' → f_X10_learns n m Q) : LRN m0 m ck g E d s c D H x n := by
  obtain ⟨⟨w1, w1'⟩, w2, w3, w4, w5, w6, w7, w8, ⟨a9, w9, w9'⟩, ⟨a10, w10, w10'⟩⟩ := hW
  obtain ⟨m1, e1⟩ : ∃ m1 : St, m1 = sset m' 0 48 (-1) := ⟨_, rfl⟩
  have r : ∀ q, q ≠ 0 → m1 q = m' q := fun q hq => by rw [e1, sset_row _ _ _ hq]
  have p : ∀ i, i ≠ 48 → m1 0 i = m' 0 i := fun i hi => by rw [e1, sset_place _ _ _ hi]
  have n9 : noth g 9 = g 9 := vu_ne _ _ (by decide)
  have n10 : noth g 10 = g 10 := vu_ne _ _ (by decide)
  refine ⟨m1, noth g, E1, ⟨⟨fun q a b => by rw [r q a, hr q a (by omega) (by omega), w1 q a b], fun i a1 a2 a3 a4 a5 a6 a7 a8 => by rw [p i a1, h0 i a1 a6 a7 a8, w1' i a1 a2 a3 a4 a5 a6 a7 a8]⟩, fun k hk => ⟨(hE k hk).1, (hE k hk).2.1, fun i hi => by rw [r 36 (by decide)]; exact (hE k hk).2.2 i hi⟩, MRg_noth (by rw [r 37 (by decide), hz]), ⟨Or.inl (noth_0 g), by rw [n9]; exact w4.2.1, by rw [n10]; exact w4.2.2⟩, ⟨by rw [n9, p 67 (by decide), h0 67 (by decide) (by decide) (by decide) (by decide), w5.1], by rw [n10, p 68 (by decide), h0 68 (by decide) (by decide) (by decide) (by decide), w5.2]⟩, by rw [p 66 (by decide), h0 66 (by decide) (by decide) (by decide) (by decide), w6], by rw [if_neg (by rw [noth_0]; decide), e1, sset_at, vu_eq], by rw [p 69 (by decide)]; exact h69, ?_, ?_⟩, ⟨fun q a b => by rw [r q (by omega), hr q (by omega) (by omega) (by omega)], fun i a b => by rw [r 37 (by decide), h37 i a b]⟩, la, ⟨hG.1, fun u => by rw [p 69 (by decide)]; exact hG.2.1 u, fun u => hG.2.2.1 (by rw [p 69 (by decide)] at u; exact u), fun u w => hG.2.2.2 u (by rw [p 69 (by decide)] at w; exact w)⟩, by rw [r 44 (by decide), hr 44 (by decide) (by decide) (by decide)], fun a u v => by rw [p 72 (by decide)]; exact b72 a u v, fun a u v => by rw [p 73 (by decide)]; exact b73 a u v, fun Q hQ => go Q (r_l198b hz (by rw [← e1]; exact hQ))⟩
  · obtain ⟨b, b1, b2, -⟩ := b72 a9 w9 w9'
    exact ⟨b, by rw [p 72 (by decide), b1], b2⟩
  · obtain ⟨b, b1, b2, -⟩ := b73 a10 w10 w10'
    exact ⟨b, by rw [p 73 (by decide), b1], b2⟩
/-- the reference looks at its statement -/
theorem r_lrn {k : Int} (h48 : m 0 48 = (s : Int)) (hs : s < 401) (hk : m 3 s = k) (hk0 : 0 ≤ k) (hk7 : k ≤ 7)
    (h0 : k = 0 → f_X10_learns_J198 Q (sset m 0 48 (m 6 s)))
    (h1 : k = 1 → f_X10_learns_J198 Q (sset (sset m 0 48 (m 6 s)) 37 7 (ior32 (iand32 (m 37 7) (ixor32 (ishl32 3 (2 * (m 4 s))) (-1))) (ishl32 1 ((2 * (m 4 s)) + (m 5 s))))))
    (h2 : k = 2 → f_X10_learnsMeter (s : Int) (sset m 0 48 (m 6 s)) (fun σ3 => f_X10_learns_J198 Q σ3))
    (h3 : k = 3 → f_X10_opensTest (s : Int) (sset m 0 48 (m 6 s)) (fun σ4 => f_X10_learns_J198 Q σ4))
    (h4 : k = 4 → f_X10_offers (s : Int) (sset m 0 48 (m 6 s)) (fun σ5 => f_X10_learns_J198 Q σ5))
    (h5 : k = 5 → f_X10_comesTo (m 4 s) (sset m 0 48 (m 6 s)) (fun σ6 => ∀ σ7 : St, σ7 = sset σ6 37 0 0 → f_X10_learns_J198 Q σ7))
    (h6 : k = 6 → f_X10_goesToHubs n (sset m 0 48 (m 6 s)) (fun σ8 => ∀ σ9 : St, σ9 = sset σ8 37 0 0 → f_X10_learns_J198 Q σ9))
    (h7 : k = 7 → f_X10_learns_J198 Q (sset (sset (sset m 0 48 (m 6 s)) 0 72 (ior32 (m 0 72) (ishl32 1 (m 4 s)))) 37 0 0)) : f_X10_learns n m Q := by
  have r3 : sset m 0 48 (m 6 s) 3 = m 3 := sset_row _ _ _ (by decide)
  have r4 : sset m 0 48 (m 6 s) 4 = m 4 := sset_row _ _ _ (by decide)
  have r5 : sset m 0 48 (m 6 s) 5 = m 5 := sset_row _ _ _ (by decide)
  have r37 : sset m 0 48 (m 6 s) 37 = m 37 := sset_row _ _ _ (by decide)
  have r72 : sset m 0 48 (m 6 s) 0 72 = m 0 72 := sset_place _ _ _ (by decide)
  unfold f_X10_learns
  rintro x1 rfl
  rw [h48, Int.toNat_natCast]
  refine ⟨by omega, by omega, ?_⟩
  rintro σ1 rfl
  rw [r3, r4, r5, r37, r72, hk]
  refine ⟨by omega, by omega, ⟨by omega, by omega⟩, fun u => ⟨by omega, by omega, by omega, by omega, by omega, by omega, ?_⟩, fun u => h2 u, fun u => h3 u, fun u => h4 u, fun u => ⟨by omega, by omega, h5 u⟩, fun u => h6 u, fun u => ⟨by omega, by omega, ?_⟩, fun u => h0 (by omega)⟩
  · rintro σ2 rfl
    exact h1 u
  · rintro σ2 rfl
    rintro σ3 rfl
    exact h7 u
end LRN1
