/-! ===== pure layer: both analyses say the same ===== -/
/-- the analyses belong together -/
def ANx (c m : St) : Prop := ∃ E Em : Nat → Nat → Nat, CEr c E ∧ MEr m Em ∧ (∀ i, i < 28 → KLE (E i) (Em i) ∧ KLE (Em i) (E i)) ∧ (∀ j, j < 16 → m 44 j = c 71 j ∧ 0 ≤ m 44 j ∧ m 44 j ≤ 3) ∧ (∃ a : Nat, m 0 72 = (a : Int) ∧ c 65 9 = (a : Int) ∧ a < 65536) ∧ ∃ a : Nat, m 0 73 = (a : Int) ∧ c 65 10 = (a : Int) ∧ a < 65536
section SET2
variable {c m : St} {D N S B nd ck ts tm H : Nat} {φ : Nat → Nat} {e : Nat → Int} {g g' : Nat → Nat}
theorem SLE_zz (h : SLE g g') (h' : SLE g' g) : (g 0 = 0 ↔ g' 0 = 0) := by
  constructor
  · intro u
    apply Classical.byContradiction
    intro w
    exact SLE_ne h' w u
  · intro u
    apply Classical.byContradiction
    intro w
    exact SLE_ne h w u
theorem KLE_zz (h : KLE g g') (h' : KLE g' g) : (g 0 = 0 ↔ g' 0 = 0) := by
  constructor
  · intro u
    rcases h' with w | w
    · exact w
    · rw [w.1] at u; exact absurd u (by decide)
  · intro u
    rcases h with w | w
    · exact w
    · rw [w.1] at u; exact absurd u (by decide)
theorem vd_eq {x : Nat} (hq : TQ c D x) (hv : KV g) (hv' : KV g') (h : SLE g g') (h' : SLE g' g) : vdN c D x g = vdN c D x g' := by
  have t := SLE_zz (tpF_mono (k := tk c D) (o := tq c D) (v := tv c D) (tn c D x) (c (D + 7) x).toNat g g' (TQ_trn hq) h) (tpF_mono (k := tk c D) (o := tq c D) (v := tv c D) (tn c D x) (c (D + 7) x).toNat g' g (TQ_trn hq) h')
  have f := SLE_zz (fpF_mono (k := tk c D) (o := tq c D) (v := tv c D) (n := tn c D x) (t := (c (D + 7) x).toNat) (fun u => TQ_trn hq _ (Nat.le_refl _) (by omega)) hv hv' h) (fpF_mono (k := tk c D) (o := tq c D) (v := tv c D) (n := tn c D x) (t := (c (D + 7) x).toNat) (fun u => TQ_trn hq _ (Nat.le_refl _) (by omega)) hv' hv h')
  have t2 : ctp c D x g 0 = 0 ↔ ctp c D x g' 0 = 0 := t
  have f2 : cfp c D x g 0 = 0 ↔ cfp c D x g' 0 = 0 := f
  unfold vdN
  by_cases a : ctp c D x g 0 = 0
  · by_cases b : cfp c D x g 0 = 0
    · rw [if_pos a, if_pos b, if_pos (t2.1 a), if_pos (f2.1 b)]
    · rw [if_pos a, if_neg b, if_pos (t2.1 a), if_neg (fun u => b (f2.2 u))]
  · by_cases b : cfp c D x g 0 = 0
    · rw [if_neg a, if_pos b, if_neg (fun u => a (t2.2 u)), if_pos (f2.1 b)]
    · rw [if_neg a, if_neg b, if_neg (fun u => a (t2.2 u)), if_neg (fun u => b (f2.2 u))]
theorem vd_r {x : Nat} : 0 ≤ vdN c D x g ∧ vdN c D x g ≤ 3 := by
  unfold vdN
  by_cases a : ctp c D x g 0 = 0
  · by_cases b : cfp c D x g 0 = 0
    · rw [if_pos a, if_pos b]; decide
    · rw [if_pos a, if_neg b]; decide
  · by_cases b : cfp c D x g 0 = 0
    · rw [if_neg a, if_pos b]; decide
    · rw [if_neg a, if_neg b]; decide
theorem DE_mono {A R : Nat → Nat → Nat} {x : Nat} (h : SLE (A x) (R x)) (h' : SLE (R x) (A x)) (d : DEx c D A x) : DEx c D R x := by
  obtain ⟨d0, d1⟩ := d
  have r0 := SLE_ne h d0
  rcases h with w | w
  · exact absurd w d0
  · rcases h' with w' | w'
    · exact absurd w' r0
    · refine ⟨r0, ?_⟩
      rcases d1 with ⟨k, t⟩ | ⟨k, t⟩
      · exact Or.inl ⟨k, w.1.2.2.2.2 12 t⟩
      · refine Or.inr ⟨k, ?_⟩
        have := sub2_antisymm w.2.2 w'.2.2
        rw [this]; exact t
theorem rch_cong {E E1 : Nat → Nat → Nat} : ∀ n, (∀ i, i < n → (E i 0 = 0 ↔ E1 i 0 = 0)) → rchN E n = rchN E1 n := by
  intro n
  induction n with
  | zero => intro _; rfl
  | succ n ih =>
    intro h
    show rchN E n + (if E n 0 = 0 then 0 else 1) = rchN E1 n + (if E1 n 0 = 0 then 0 else 1)
    rw [ih (fun i hi => h i (by omega))]
    by_cases z : E n 0 = 0
    · rw [if_pos z, if_pos ((h n (by omega)).1 z)]
    · rw [if_neg z, if_neg (fun u => z ((h n (by omega)).2 u))]
theorem rch_dead {E : Nat → Nat → Nat} {nd : Nat} : ∀ j, (∀ i, nd ≤ i → i < nd + j → E i 0 = 0) → rchN E (nd + j) = rchN E nd := by
  intro j
  induction j with
  | zero => intro _; rfl
  | succ j ih =>
    intro h
    show rchN E (nd + j) + (if E (nd + j) 0 = 0 then 0 else 1) = _
    rw [ih (fun i a b => h i a (by omega)), if_pos (h (nd + j) (by omega) (by omega)), Nat.add_zero]
theorem rch_le {E : Nat → Nat → Nat} : ∀ n, rchN E n ≤ n := by
  intro n
  induction n with
  | zero => exact Nat.le_refl _
  | succ n ih =>
    show rchN E n + (if E n 0 = 0 then 0 else 1) ≤ n + 1
    split <;> omega
/-- both analyse -/
theorem J_settle (hD : D = 2 ∨ D = 20) (hS : SRx D c m φ e N S B nd ck ts tm) (hH : HM c D ck H) (h4 : m 0 4 = 1) : ∃ (c1 m1 : St) (r : Nat), ANx c1 m1 ∧ (∀ q, q < 65 ∨ 71 < q → c1 q = c q) ∧ c1 65 0 = (D : Int) ∧ c1 65 1 = 1 ∧ FRa m m1 ∧ m1 0 5 = 0 ∧ m1 0 70 = 1 ∧ r ≤ 12 ∧ (∀ Q : St → Prop, Q c1 → f_X0_settle D c Q) ∧ (∀ Q : St → Int → Prop, Q c1 (r : Int) → f_X0_reachedNodes c1 Q) ∧ ∀ Q : St → Int → Prop, Q m1 (r : Int) → f_X10_analyze m Q := by
  obtain ⟨hh, hb⟩ := BDSx_of hD hS hH
  have hXQ := XQ_of hS
  have h13 : c D 13 = (hh : Int) := hb.2.2.2.2.2.1.1
  have hS4 : S ≤ 400 := hb.2.2.1
  have nd12 : nd ≤ 12 := hb.2.2.2.1.2
  have ck16 : ck ≤ 16 := hb.2.2.2.2.1.2
  obtain ⟨c1, A, E, ⟨f1, f2, f3, f4, f5⟩, fr, z0, z1, go⟩ := T_settle hb
  obtain ⟨m1, m2, E0, E1, R, mz, ⟨y69, y72, y73, y44⟩, q69, qE, qF, q5, q70, q44, q72, q73, ⟨m0, a1, a2, a3, a4, a5, a6⟩, k0, k1, k2, gom⟩ := r_analyze hS hH h13 h4
  have kE1 : ∀ i, i < 28 → KV (E1 i) := MEr_KV qE
  have le01 : ∀ i, i < 28 → KLE (E1 i) (E0 i) := fun i hi => pkg_KLE (kE1 i hi) (k0 i hi) (a5.2.2.1 q69 i hi)
  obtain ⟨p1, p2⟩ := a4 R E1 (fun x _ => rfl) (fun i hi => KLE_refl (KV_01 (kE1 i hi)))
  have p2 := p2 le01
  have sol : SOL c D S H nd ck hh R E1 := by
    refine ⟨fun x hx u => p1 x u u, ⟨fun n hn => ?_, fun k hk => ?_⟩, KLE_trans k1 (a5.1 0 (by decide)), fun z _ => (a2 z).1, kE1⟩
    · have := p2 n (Or.inl hn)
      unfold stg stp at this
      rw [if_pos (by omega), if_pos (by omega)] at this
      exact this
    · have := p2 (12 + k) (Or.inr ⟨by omega, by omega⟩)
      unfold stg stp at this
      rw [if_neg (by omega), if_neg (by omega), show 12 + k - 12 = k by omega] at this
      exact this
  obtain ⟨u1, u2⟩ := a3 A E f3 (fun i hi => k2 A E f3 i hi)
  obtain ⟨l1, l2⟩ := f5 R E1 sol
  have dn : ∀ n, nd ≤ n → n < 12 → E n 0 = 0 := by
    obtain ⟨A2, E2, s1, s2⟩ := top_SOL (H := H) (hh := hh) hS
    intro n h1 h2
    rcases (f5 A2 E2 s1).2 n (by omega) with w | w
    · exact w
    · have := s2 n h1 h2
      rw [w.1] at this
      exact absurd this (by decide)
  have rr : rchN E 12 = rchN E1 nd := by
    have := rch_dead (E := E) (nd := nd) (12 - nd) (fun i x y => dn i x (by omega))
    rw [show nd + (12 - nd) = 12 by omega] at this
    rw [this]
    exact rch_cong nd (fun i hi => KLE_zz (l2 i (by omega)) (u1 i (by omega)))
  obtain ⟨o1, o2, ⟨e1, o3, o4, o5⟩, ⟨e2, o6, o7, o8⟩⟩ := f4
  obtain ⟨w1, w2, w3, w4⟩ := a6
  have xs : ∀ x, R x 0 ≠ 0 → x < S := fun x hx => (a1 x hx).1
  have bitz : ∀ i : Nat, (0 : Nat).testBit i = true → False := fun i hi => by rw [Nat.zero_testBit] at hi; exact absurd hi (by decide)
  refine ⟨c1, m2, rchN E1 nd, ⟨E, E1, f1, qE, fun i hi => ⟨l2 i hi, u1 i hi⟩, fun j hj => ?_, ?_, ?_⟩, fr, z0, z1, qF, q5, q70, by have := rch_le (E := E1) nd; omega, go, fun Q hQ => t_reached f1 (by rw [rr]; exact hQ), gom⟩
  · rw [q44]
    by_cases ex : ∃ x, x < S ∧ c (D + 1) x = 6 ∧ c (D + 2) x = (j : Int) ∧ A x 0 ≠ 0
    · obtain ⟨x, x1, x2, x3, x4⟩ := ex
      have lx := l1 x (by omega)
      have r0 := SLE_ne lx x4
      have v1 := o1 x x1 x2 x4
      have v2 := w1 x r0 x2
      rw [x3, Int.toNat_natCast] at v1 v2
      have tq := ((hXQ x x1).2.2.2.2.1 x2).2.2.2.2.2.2
      rw [v1, v2, vd_eq tq (f2 x (by omega)).1 (a2 x).1 lx (u2 x)]
      exact ⟨rfl, vd_r⟩
    · have v1 := o2 j hj (fun x x1 x2 x3 => by
        apply Classical.byContradiction
        intro u
        exact ex ⟨x, x1, x2, x3, u⟩)
      have v2 := w2 j (fun x x1 x2 x3 => by
        have xS := xs x x1
        have k6 := ((hXQ x xS).2.2.2.2.1 x2).2.2.2.2.1
        exact ex ⟨x, xS, x2, by omega, SLE_ne (u2 x) x1⟩)
      rw [v1, v2, y44 j hj]
      exact ⟨rfl, by decide, by decide⟩
  · obtain ⟨b, b1, b2, b3⟩ := w3 0 (by rw [y72]; rfl) (by decide)
    have eb : b = e1 := by
      refine sub2_antisymm (fun i hi => ?_) (fun i hi => ?_)
      · rcases (b3 i).1 hi with u | ⟨x, x1, x2, x3⟩
        · exact (bitz i u).elim
        · exact (o5 i).2 ⟨x, xs x x1, x2, x3, SLE_ne (u2 x) x1⟩
      · obtain ⟨x, x1, x2, x3, x4⟩ := (o5 i).1 hi
        exact (b3 i).2 (Or.inr ⟨x, SLE_ne (l1 x (by omega)) x4, x2, x3⟩)
    exact ⟨b, by rw [q72]; exact b1, by rw [eb]; exact o3, b2⟩
  · obtain ⟨b, b1, b2, b3⟩ := w4 0 (by rw [y73]; rfl) (by decide)
    have eb : b = e2 := by
      refine sub2_antisymm (fun i hi => ?_) (fun i hi => ?_)
      · rcases (b3 i).1 hi with u | ⟨x, x1, x3⟩
        · exact (bitz i u).elim
        · have xS := xs x x1.1
          exact (o8 i).2 ⟨x, xS, DE_mono (u2 x) (l1 x (by omega)) x1, x3⟩
      · obtain ⟨x, x1, x2, x3⟩ := (o8 i).1 hi
        exact (b3 i).2 (Or.inr ⟨x, DE_mono (l1 x (by omega)) (u2 x) x2, x3⟩)
    exact ⟨b, by rw [q73]; exact b1, by rw [eb]; exact o6, b2⟩
end SET2
