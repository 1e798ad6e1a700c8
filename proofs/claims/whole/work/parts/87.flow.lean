/-! ===== pure layer: a flow, by both ===== -/
section FLOW
variable {D P s N S B nd ck ts tm H : Nat} {c m : St} {φ : Nat → Nat} {e : Nat → Int}
theorem r_L4_exec {Qm : St → Prop} {n : Nat} {k : Nat} (h48 : m 0 48 = (s : Int)) (hs : s < 401) (hk : k < 150) (h : f_X10_executes m (fun σ r => f_X10_flows_L4 Qm n σ ((k + 1 : Nat) : Int) r)) : f_X10_flows_L4 Qm (n + 1) m (k : Int) 1 := by
  unfold f_X10_flows_L4
  rw [h48]
  refine ⟨⟨by decide, by decide⟩, fun g => absurd g (by decide), fun _ => ⟨⟨by omega, by omega⟩, fun _ => ⟨⟨by omega, by omega⟩, fun _ => h, fun g => by omega⟩, fun g => by omega⟩⟩
theorem r_L4_off {Qm : St → Prop} {n : Nat} {k : Int} (h : f_X10_flows_L54 Qm FU m 0) : f_X10_flows_L4 Qm (n + 1) m k 0 := by
  unfold f_X10_flows_L4
  exact ⟨⟨by decide, by decide⟩, fun _ => h, fun g => absurd rfl g⟩
theorem r_L4_loop {Qm : St → Prop} {n : Nat} (h48 : m 0 48 = (s : Int)) (hs : s < 401) (h : f_X10_flows_L54 Qm FU (sset (sset m 26 0 4) 26 9 0) 0) : f_X10_flows_L4 Qm (n + 2) m ((150 : Nat) : Int) 1 := by
  unfold f_X10_flows_L4
  rw [h48]
  refine ⟨⟨by decide, by decide⟩, fun g => absurd g (by decide), fun _ => ⟨⟨by omega, by omega⟩, fun _ => ⟨⟨by decide, by decide⟩, fun g => absurd rfl g, fun _ => ?_⟩, fun g => by omega⟩⟩
  unfold f_X10_ends
  intro σ1 e1 σ2 e2
  rw [e2, e1]
  exact r_L4_off h
theorem r_L4_leave {Qm : St → Prop} {n : Nat} {k : Int} (h48 : m 0 48 = -1) (h : f_X10_leavesBlock m (fun σ r => f_X10_flows_L4 Qm n σ k r)) : f_X10_flows_L4 Qm (n + 1) m k 1 := by
  unfold f_X10_flows_L4
  rw [h48]
  exact ⟨⟨by decide, by decide⟩, fun g => absurd g (by decide), fun _ => ⟨⟨by decide, by decide⟩, fun g => absurd rfl g, fun _ => h⟩⟩
/-- blocks of tests are left -/
theorem r_settle (h : SRx D c m φ e N S B nd ck ts tm) {x : Int} : ∀ (n : Nat) (m1 : St), (∀ q, q ≠ 0 → m1 q = m q) → AT c m D φ e N B (m1 0 48) (m1 0 49) x → (m1 0 48 = -1 → m 15 (m1 0 49).toNat = 2 → (m 16 (m1 0 49).toNat).toNat < n) → ∃ (m2 : St) (j : Nat), j ≤ n ∧ (∀ q, q ≠ 0 → m2 q = m q) ∧ (∀ i, i ≠ 48 → i ≠ 49 → m2 0 i = m1 0 i) ∧ AT c m D φ e N B (m2 0 48) (m2 0 49) x ∧ (m2 0 48 ≠ -1 ∨ m 15 (m2 0 49).toNat ≠ 2) ∧ (GS m (m1 0 49).toNat → GS m (m2 0 49).toNat) ∧ ∀ (Qm : St → Prop) (k : Int) (fu : Nat), f_X10_flows_L4 Qm fu m2 k 1 → f_X10_flows_L4 Qm (fu + j) m1 k 1 := by
  have h' := h
  obtain ⟨⟨-, -, -, -, -, -, -, -, -, -, -, -, -, -, -, nS, nB, -⟩, ⟨hYP, hYA, -, -, hYD, -⟩, -⟩ := h'
  intro n
  induction n with
  | zero =>
    intro m1 hr hat hn
    refine ⟨m1, 0, Nat.le_refl _, hr, fun _ _ _ => rfl, hat, ?_, fun g => g, fun Qm k fu g => g⟩
    by_cases g1 : m1 0 48 = -1
    · by_cases g2 : m 15 (m1 0 49).toNat = 2
      · have := hn g1 g2; omega
      · exact Or.inr g2
    · exact Or.inl g1
  | succ n ih =>
    intro m1 hr hat hn
    by_cases g1 : m1 0 48 = -1
    · by_cases g2 : m 15 (m1 0 49).toNat = 2
      · have hlt := hn g1 g2
        obtain ⟨b1, b2, b3⟩ := hat
        have d := hYD.1 (m1 0 49).toNat (by omega)
        have d' : 0 ≤ m 16 (m1 0 49).toNat ∧ m 16 (m1 0 49).toNat < N := by
          rcases d.2.2 with ⟨u, -⟩ | ⟨u, -⟩ | ⟨u1, u2, u3, -⟩
          · omega
          · omega
          · exact ⟨u2, u3⟩
        obtain ⟨t, ht⟩ : ∃ t : Nat, m 16 (m1 0 49).toNat = (t : Int) := ⟨(m 16 (m1 0 49).toNat).toNat, (Int.toNat_of_nonneg d'.1).symm⟩
        rw [ht, Int.toNat_natCast] at hlt
        have htN : t < N := by omega
        have hge := phi_ge hYP t htN
        have hφ := hYP.1 t htN
        have ex : x = c (D + 4) (φ t) := by
          rcases b3 with ⟨s, u, -⟩ | ⟨-, u⟩
          · omega
          · rw [if_pos g2, ht, Int.toNat_natCast] at u; exact u
        have at1 := AT_next h htN
        rw [← ex] at at1
        obtain ⟨m3, hm3⟩ : ∃ m3 : St, m3 = sset (sset m1 0 48 (m 6 t)) 0 49 (m 7 t) := ⟨_, rfl⟩
        have q48 : m3 0 48 = m 6 t := by rw [hm3, sset_place _ _ _ (by decide), sset_self]
        have q49 : m3 0 49 = m 7 t := by rw [hm3, sset_self]
        obtain ⟨m2, j, j1, j2, j3, j4, j5, j6, j7⟩ := ih m3 (fun q hq => by rw [hm3, sset_row _ _ _ hq, sset_row _ _ _ hq, hr q hq]) (by rw [q48, q49]; exact at1) (fun _ u => by
          rw [q49] at u ⊢
          have u2 := hYD.2 t htN u
          have u3 := hYA t htN
          have u4 := hYD.1 (m 7 t).toNat (by omega)
          have u5 : 0 ≤ m 16 (m 7 t).toNat := by
            rcases u4.2.2 with ⟨v, -⟩ | ⟨v, -⟩ | ⟨-, v, -⟩
            · omega
            · omega
            · exact v
          clear b3 d u4
          omega)
        refine ⟨m2, j + 1, by omega, j2, fun i a b => by rw [j3 i a b, hm3, sset_place _ _ _ b, sset_place _ _ _ a], j4, j5, fun g => j6 (by rw [q49]; have := GS_up g2 g; rw [ht, Int.toNat_natCast] at this; exact this), fun Qm k fu g => ?_⟩
        rw [← Nat.add_assoc]
        refine r_L4_leave g1 ?_
        unfold f_X10_leavesBlock
        rw [hr 15 (by decide), hr 16 (by decide), g2, ht]
        refine ⟨b1, by omega, ⟨by decide, by decide⟩, fun u => absurd rfl u, fun _ => ⟨b1, by omega, ?_⟩⟩
        rintro x1 rfl
        rw [Int.toNat_natCast]
        refine ⟨by omega, by omega, fun σ4 e4 => ⟨by omega, by omega, fun σ5 e5 => ?_⟩⟩
        have a7 : σ4 7 t = m 7 t := by rw [e4, sset_cell _ _ _ _ (by decide), hr 7 (by decide)]
        rw [hr 6 (by decide)] at e4
        rw [a7, e4, ← hm3] at e5
        rw [e5]
        exact j7 Qm k fu g
      · exact ⟨m1, 0, by omega, hr, fun _ _ _ => rfl, hat, Or.inr g2, fun g => g, fun Qm k fu g => g⟩
    · exact ⟨m1, 0, by omega, hr, fun _ _ _ => rfl, hat, Or.inl g1, fun g => g, fun Qm k fu g => g⟩
/-! the class's loop -/
theorem t_L7_end {Q : St → Prop} {n : Nat} {k tu : Int} (hP : isP P) (hD : D = 2 ∨ D = 20) (h0 : c P 0 = (D : Int)) (hS : inR (c D 0)) (ht : 0 ≤ tu ∧ tu ≤ 1000) (h : Q c) : f_X5_run_L7 Q (n + 1) c P (-1) k tu := by
  unfold f_X5_run_L7
  rw [h0, Int.toNat_natCast]
  refine ⟨⟨by omega, by omega⟩, fun _ => h, fun _ => ⟨hP, hD, t_has hD ⟨by decide, by decide⟩ hS (fun g => absurd g (by decide)) (fun _ => ⟨⟨by decide, by decide⟩, fun _ => h, fun g => absurd rfl g⟩)⟩⟩
theorem t_L7_ex {Q : St → Prop} {n x k tu : Nat} {w : Int} (hP : isP P) (hD : D = 2 ∨ D = 20) (h0 : c P 0 = (D : Int)) (hS : c D 0 = (S : Int)) (hS4 : S ≤ 400) (hx : x < S) (ht : tu < 153) (hw : c (D + 1) x = w) (hw2 : 0 ≤ w ∧ w ≤ 10) (hk : k < 150) (h : f_X5_execute P (x : Int) w c (fun σ r => f_X5_run_L7 Q n σ P r ((k + 1 : Nat) : Int) ((tu + 1 : Nat) : Int))) : f_X5_run_L7 Q (n + 1) c P (x : Int) (k : Int) (tu : Int) := by
  unfold f_X5_run_L7
  rw [h0, Int.toNat_natCast]
  refine ⟨⟨by omega, by omega⟩, fun g => by omega, fun _ => ⟨hP, hD, t_has hD ⟨by omega, by omega⟩ ⟨by omega, by omega⟩ (fun _ _ _ => ⟨⟨by decide, by decide⟩, fun g => absurd g (by decide), fun _ => ?_⟩) (fun g => by omega)⟩⟩
  rw [h0, Int.toNat_natCast, Int.toNat_natCast, hw]
  refine ⟨hD, by omega, by omega, ?_⟩
  rintro x1 rfl
  refine ⟨⟨by omega, by omega⟩, fun g => by omega, fun _ => ⟨⟨by omega, by omega⟩, fun _ => ⟨⟨by omega, by omega⟩, fun _ => h, fun g => by omega⟩, fun g => by omega⟩⟩
theorem t_L7_loop {Q : St → Prop} {n x tu : Nat} {w : Int} (hP : isP P) (hD : D = 2 ∨ D = 20) (h0 : c P 0 = (D : Int)) (hS : c D 0 = (S : Int)) (hS4 : S ≤ 400) (hx : x < S) (ht : tu < 153) (hw : c (D + 1) x = w) (hw2 : 0 ≤ w ∧ w ≤ 10) (h : Q (sset (sset c P 1 4) P 8 0)) : f_X5_run_L7 Q (n + 2) c P (x : Int) ((150 : Nat) : Int) (tu : Int) := by
  have hPD : D ≠ P := by unfold isP at hP; omega
  have hend : f_X5_run_L7 Q (n + 1) (sset (sset c P 1 4) P 8 0) P (-1) ((150 : Nat) : Int) ((tu : Int) + 1) := t_L7_end hP hD (by rw [sset_place _ _ _ (by decide), sset_place _ _ _ (by decide), h0]) (by rw [sset_cell _ _ _ _ hPD, sset_cell _ _ _ _ hPD, hS]; exact ⟨by omega, by omega⟩) (by omega) h
  unfold f_X5_run_L7
  rw [h0, Int.toNat_natCast]
  refine ⟨⟨by omega, by omega⟩, fun g => by omega, fun _ => ⟨hP, hD, t_has hD ⟨by omega, by omega⟩ ⟨by omega, by omega⟩ (fun _ _ _ => ⟨⟨by decide, by decide⟩, fun g => absurd g (by decide), fun _ => ?_⟩) (fun g => by omega)⟩⟩
  rw [h0, Int.toNat_natCast, Int.toNat_natCast, hw]
  refine ⟨hD, by omega, by omega, ?_⟩
  rintro x1 rfl
  refine ⟨⟨by omega, by omega⟩, fun g => by omega, fun _ => ⟨⟨by omega, by omega⟩, fun _ => ⟨⟨by omega, by omega⟩, fun g => absurd rfl g, fun _ => ?_⟩, fun g => by omega⟩⟩
  unfold f_X5_endFlow
  refine ⟨hP, fun σ1 e1 σ2 e2 => ?_⟩
  rw [e2, e1]; exact hend
theorem t_L7_blk {Q : St → Prop} {n x k tu : Nat} {w : Int} (hP : isP P) (hD : D = 2 ∨ D = 20) (h0 : c P 0 = (D : Int)) (hS : c D 0 = (S : Int)) (hS4 : S ≤ 400) (hx : x < S) (ht : tu < 153) (hw : c (D + 1) x = w) (hw2 : w = 11 ∨ w = 12) (h : f_X5_endBlock P w c (fun σ r => f_X5_run_L7 Q n σ P r (k : Int) ((tu + 1 : Nat) : Int))) : f_X5_run_L7 Q (n + 1) c P (x : Int) (k : Int) (tu : Int) := by
  unfold f_X5_run_L7 f_X5_run_J51
  rw [h0, Int.toNat_natCast]
  refine ⟨⟨by omega, by omega⟩, fun g => by omega, fun _ => ⟨hP, hD, t_has hD ⟨by omega, by omega⟩ ⟨by omega, by omega⟩ (fun _ _ _ => ⟨⟨by decide, by decide⟩, fun g => absurd g (by decide), fun _ => ?_⟩) (fun g => by omega)⟩⟩
  rw [h0, Int.toNat_natCast, Int.toNat_natCast, hw]
  refine ⟨hD, by omega, by omega, ?_⟩
  rintro x1 rfl
  exact ⟨⟨by omega, by omega⟩, fun _ => ⟨hP, h⟩, fun _ => ⟨⟨by omega, by omega⟩, fun g => by omega, fun _ => ⟨hP, h⟩⟩⟩
/-- how a flow ends, in both -/
def FLE (c m c' m' : St) (P D nd ck H r : Nat) : Prop := FRP P c c' ∧ FM m m' ∧ PW c' m' P D nd ck H ∧ BX m' ∧ m' 26 10 ≤ m 26 10 + r ∧ 1 ≤ m' 26 0 ∧ m' 26 0 ≤ 4 ∧ (m' 26 0 = 1 ↔ m' 26 9 ≠ 0)
theorem SRx_FPM {c1 m1 : St} (hP : isP P) (hD : D = 2 ∨ D = 20) (h : SRx D c m φ e N S B nd ck ts tm) (h1 : FRP P c c1) (h2 : FM m m1) : SRx D c1 m1 φ e N S B nd ck ts tm := by
  unfold isP at hP
  exact SRx_frame h (fun q a b => h1 q (by omega) (by omega) (by omega) (by omega)) (fun q a b => h2.1 q (by omega) (by omega) (by omega) (by omega) (by omega)) (fun i hi => h2.2.1 i (by omega) (by omega))
theorem HM_FRP {c1 : St} (hP : isP P) (hD : D = 2 ∨ D = 20) (h : HM c D ck H) (h1 : FRP P c c1) : HM c1 D ck H := by
  unfold isP at hP
  unfold HM at *
  rw [h1 D (by omega) (by omega) (by omega) (by omega), h1 (D + 16) (by omega) (by omega) (by omega) (by omega)]; exact h
theorem flow_main (hP : isP P) (hD : D = 2 ∨ D = 20) : ∀ (n r k tu z : Nat) (c m : St) (x : Int), 2 * r + 1 - z = n → z ≤ 1 → k + r = 150 → tu = k + z → SRx D c m φ e N S B nd ck ts tm → HM c D ck H → PW c m P D nd ck H → BX m → AT c m D φ e N B (m 0 48) (m 0 49) x → (z = 1 → GS m (m 0 49).toNat) → m 26 10 + r < 900000000 → ∃ c' m' : St, FLE c m c' m' P D nd ck H r ∧ (∀ (Q : St → Prop) (fu : Nat), r + 3 - z ≤ fu → Q c' → f_X5_run_L7 Q fu c P x (k : Int) (tu : Int)) ∧ ∀ (Qm : St → Prop) (fu : Nat), 402 * (r + 2 - z) + 1 ≤ fu → f_X10_flows_L54 Qm FU m' 0 → f_X10_flows_L4 Qm fu m (k : Int) 1 := by
  intro n
  induction n using Nat.strongRecOn with
  | _ n ih =>
    intro r k tu z c m x hn hz hkr htu h hH hw hX hat hgs hK
    have h' := h
    obtain ⟨⟨-, -, -, -, -, -, nS0, -, -, -, -, -, nd12, ck16, -, nS, nB, -⟩, ⟨hYP, hYA, -, -, hYD, -⟩, hmk, -, -, -, -, ⟨hYK, -⟩, -⟩ := h'
    have hPD : D ≠ P := by unfold isP at hP; omega
    have hpos : 0 < 2 ^ ck := Nat.pow_pos (by decide)
    obtain ⟨m2, j, j1, j2, j3, j4, j5, j6, j7⟩ := r_settle h 401 m (fun _ _ => rfl) hat (fun u1 u2 => by
      have d := hYD.1 (m 0 49).toNat (by have := hat.2.1; have := hat.1; omega)
      have d' : 0 ≤ m 16 (m 0 49).toNat ∧ m 16 (m 0 49).toNat < N := by
        rcases d.2.2 with ⟨u, -⟩ | ⟨u, -⟩ | ⟨u1, u2, u3, -⟩
        · omega
        · omega
        · exact ⟨u2, u3⟩
      have hge := phi_ge hYP (m 16 (m 0 49).toNat).toNat (by omega)
      have hφ := hYP.1 (m 16 (m 0 49).toNat).toNat (by omega)
      omega)
    have fm2 : FM m m2 := ⟨fun q a b d f g => j2 q a, j3, fun _ => ⟨j2 29 (by decide), j2 30 (by decide)⟩, j2 31 (by decide)⟩
    have h44 := j3 44 (by decide) (by decide)
    have h2 := SRx_FPM hP hD h (FRP_refl (P := P)) fm2
    have hw2 := PW_same hw j2 h44
    have hX2 := BX_same hX h44 (j2 29 (by decide)) (j2 30 (by decide)) (j2 31 (by decide))
    have hat2 : AT c m2 D φ e N B (m2 0 48) (m2 0 49) x := AT_frame j4 rfl (j2 7 (by decide)) (j2 15 (by decide)) (j2 16 (by decide))
    have gs2 : ∀ b, GS m2 b ↔ GS m b := fun b => GS_frame (j2 7 (by decide)) (j2 15 (by decide)) (j2 16 (by decide))
    have p2 := j2 26 (by decide)
    have w0 := hw.1.1
    -- an end of both
    have fin : ∀ (c' m' : St), FRP P c c' → FM m2 m' → PW c' m' P D nd ck H → BX m' → m' 26 10 ≤ m 26 10 + r → 1 ≤ m' 26 0 → m' 26 0 ≤ 4 → (m' 26 0 = 1 ↔ m' 26 9 ≠ 0) → FLE c m c' m' P D nd ck H r := fun c' m' a1 a2 a3 a4 a5 a6 a7 a8 => ⟨a1, FM_trans fm2 a2, a3, a4, a5, a6, a7, a8⟩
    have fuel : ∀ (Qm : St → Prop) (fu : Nat), 402 * (r + 2 - z) + 1 ≤ fu → (∀ f, 402 * (r + 2 - z) + 1 - 401 ≤ f → f_X10_flows_L4 Qm f m2 (k : Int) 1) → f_X10_flows_L4 Qm fu m (k : Int) 1 := by
      intro Qm fu hf hh
      have := j7 Qm k (fu - j) (hh (fu - j) (by omega))
      rw [show fu - j + j = fu by omega] at this
      exact this
    rcases hat2.2.2 with ⟨s, s1, s2, s3, s4⟩ | ⟨s1, s4⟩
    · -- a statement
      have hφ := hYP.1 s s2
      have hge := phi_ge hYP s s2
      have hw10 : 0 ≤ c (D + 1) (φ s) ∧ c (D + 1) (φ s) ≤ 10 := by
        rcases hYK s s2 with ⟨-, u, -⟩ | ⟨-, -, -, -, u⟩ | ⟨-, -, -, -, -, -, -, u⟩ | ⟨-, u, -⟩ | ⟨-, u, -⟩ | ⟨-, u, -⟩ | ⟨-, u, -⟩ | ⟨-, u, -⟩ <;> omega
      by_cases g : k = 150
      · -- a loop
        subst g
        obtain ⟨c', hc'⟩ : ∃ c' : St, c' = sset (sset c P 1 4) P 8 0 := ⟨_, rfl⟩
        obtain ⟨m', hm'⟩ : ∃ m' : St, m' = sset (sset m2 26 0 4) 26 9 0 := ⟨_, rfl⟩
        have cr : ∀ q, q ≠ P → c' q = c q := fun q hq => by rw [hc', sset_row _ _ _ hq, sset_row _ _ _ hq]
        have mr : ∀ q, q ≠ 26 → m' q = m2 q := fun q hq => by rw [hm', sset_row _ _ _ hq, sset_row _ _ _ hq]
        have mp : ∀ i, i ≠ 0 → i ≠ 9 → m' 26 i = m2 26 i := fun i a b => by rw [hm', sset_place _ _ _ b, sset_place _ _ _ a]
        have e0 : m' 26 0 = 4 := by rw [hm', sset_place _ _ _ (by decide), sset_self]
        have e9 : m' 26 9 = 0 := by rw [hm', sset_self]
        have pw : PW c' m' P D nd ck H := PW_end hw2 (fun i a b d => by rw [hc', sset_place _ _ _ d, sset_place _ _ _ a]) cr (fun i a b d => mp i a d) (fun q a b => mr q b) (by rw [mr 0 (by decide)]) (st := 4) (O := 0) (by rw [hc', sset_place _ _ _ (by decide), sset_self]) e0 (by rw [hc', sset_self]) e9 ⟨by omega, by omega⟩ (fun g => absurd g (by decide))
        refine ⟨c', m', fin c' m' (fun q a b d f => cr q a) ⟨fun q a b d f g => mr q b, fun i a b => by rw [mr 0 (by decide)], fun _ => ⟨mr 29 (by decide), mr 30 (by decide)⟩, mr 31 (by decide)⟩ pw (BX_same hX2 (by rw [mr 0 (by decide)]) (mr 29 (by decide)) (mr 30 (by decide)) (mr 31 (by decide))) (by rw [mp 10 (by decide) (by decide), p2]; omega) (by omega) (by omega) (by rw [e0, e9]; decide), fun Q fu hf hQ => ?_, fun Qm fu hf hQ => fuel Qm fu hf (fun f hf2 => ?_)⟩
        · obtain ⟨f, rfl⟩ : ∃ f, fu = f + 2 := ⟨fu - 2, by omega⟩
          rw [s4]
          exact t_L7_loop hP hD w0 nS0 nS hφ (by omega) rfl hw10 (by rw [← hc']; exact hQ)
        · obtain ⟨f', rfl⟩ : ∃ f', f = f' + 2 := ⟨f - 2, by omega⟩
          exact r_L4_loop s1 (by omega) (by rw [← hm']; exact hQ)
      · obtain ⟨c1, m1, x1, on, t1, t2, t3, t4, t5, t6, t7, t8⟩ := S_any hP hD h2 hH hw2 hX2 s2 s1 (by rw [s3]) (by rw [p2]; omega)
        have w0' := t3.1.1
        have cS1 : c1 D 0 = (S : Int) := by rw [t1 D hPD (by unfold isP at hP; omega) (by unfold isP at hP; omega) (by unfold isP at hP; omega), nS0]
        rw [p2] at t5
        rcases t8 with ⟨o1, o2, o3⟩ | ⟨o1, o2, o3, o4, o5⟩
        · -- the flow goes on
          have hsr := SRx_FPM hP hD h2 t1 t2
          have hat1 : AT c1 m1 D φ e N B (m1 0 48) (m1 0 49) x1 := AT_frame o2 (t1 (D + 4) (by unfold isP at hP; omega) (by unfold isP at hP; omega) (by unfold isP at hP; omega) (by unfold isP at hP; omega)) (t2.1 7 (by decide) (by decide) (by decide) (by decide) (by decide)) (t2.1 15 (by decide) (by decide) (by decide) (by decide) (by decide)) (t2.1 16 (by decide) (by decide) (by decide) (by decide) (by decide))
          have gs1 : ∀ b, GS m1 b ↔ GS m2 b := fun b => GS_frame (t2.1 7 (by decide) (by decide) (by decide) (by decide) (by decide)) (t2.1 15 (by decide) (by decide) (by decide) (by decide) (by decide)) (t2.1 16 (by decide) (by decide) (by decide) (by decide) (by decide))
          obtain ⟨c', m', ⟨f1, f2, f3, f4, f5, f6, f7, f8⟩, goc, gom⟩ := ih (2 * (r - 1) + 1 - z) (by omega) (r - 1) (k + 1) (tu + 1) z c1 m1 x1 rfl hz (by omega) (by omega) hsr (HM_FRP hP hD hH t1) t3 t4 hat1 (fun u => (gs1 _).2 (o3 ((gs2 _).2 (j6 (hgs u))))) (by omega)
          refine ⟨c', m', fin c' m' (FRP_trans t1 f1) (FM_trans t2 f2) f3 f4 (by omega) f6 f7 f8, fun Q fu hf hQ => ?_, fun Qm fu hf hQ => fuel Qm fu hf (fun f hf2 => ?_)⟩
          · obtain ⟨f, rfl⟩ : ∃ f, fu = f + 1 := ⟨fu - 1, by omega⟩
            rw [s4]
            exact t_L7_ex hP hD w0 nS0 nS hφ (by omega) rfl hw10 (by omega) (t6 _ (goc Q f (by omega) hQ))
          · obtain ⟨f', rfl⟩ : ∃ f', f = f' + 1 := ⟨f - 1, by omega⟩
            refine r_L4_exec s1 (by omega) (by omega) (t7 _ ?_)
            rw [o1]
            exact gom Qm f' (by omega) hQ
        · -- it ends
          refine ⟨c1, m1, fin c1 m1 t1 t2 t3 t4 (by omega) (by omega) (by omega) (by rw [o5]; constructor <;> intro u <;> omega), fun Q fu hf hQ => ?_, fun Qm fu hf hQ => fuel Qm fu hf (fun f hf2 => ?_)⟩
          · obtain ⟨f, rfl⟩ : ∃ f, fu = f + 2 := ⟨fu - 2, by omega⟩
            rw [s4]
            refine t_L7_ex hP hD w0 nS0 nS hφ (by omega) rfl hw10 (by omega) (t6 _ ?_)
            rw [o2]
            exact t_L7_end hP hD w0' (by rw [cS1]; exact ⟨by omega, by omega⟩) (by omega) hQ
          · obtain ⟨f', rfl⟩ : ∃ f', f = f' + 2 := ⟨f - 2, by omega⟩
            refine r_L4_exec s1 (by omega) (by omega) (t7 _ ?_)
            rw [o1]
            exact r_L4_off hQ
    · -- the end of a block of a node or a choice
      have hk2 : m 15 (m2 0 49).toNat ≠ 2 := by
        rcases j5 with u | u
        · exact absurd s1 u
        · exact u
      have hb1 := hat2.1
      have hb2 := hat2.2.1
      rw [j2 15 (by decide), if_neg hk2] at s4
      obtain ⟨e1, e2, e3⟩ := (hmk (m2 0 49).toNat (by omega)).2 hk2
      obtain ⟨y, hy⟩ : ∃ y : Nat, e (m2 0 49).toNat = (y : Int) := ⟨(e (m2 0 49).toNat).toNat, by omega⟩
      rw [hy, Int.toNat_natCast] at e3
      have hw11 : c (D + 1) y = 11 ∨ c (D + 1) y = 12 := by rcases e3 with ⟨-, u, -⟩ | ⟨-, u, -⟩ <;> omega
      have w8 : c P 8 = m 26 9 := hw.1.2.2.2.2.2.2.1
      have a13 : 0 ≤ m 26 9 := hw.2.1.2.2.2.2.2.2.2.2.2.2.2.2.1
      have a14 : m 26 9 < ((2 ^ ck : Nat) : Int) := hw.2.1.2.2.2.2.2.2.2.2.2.2.2.2.2.1
      have hpow2 : 2 ^ ck ≤ 2 ^ 16 := Nat.pow_le_pow_right (by decide) ck16
      have hpow3 : (2 : Nat) ^ 16 = 65536 := rfl
      have kin : inR (m2 15 (m2 0 49).toNat) := by rw [j2 15 (by decide)]; rcases e3 with ⟨u, -⟩ | ⟨u, -⟩ <;> rw [u] <;> exact ⟨by decide, by decide⟩
      have k2' : ¬ m2 15 (m2 0 49).toNat = 2 := by rw [j2 15 (by decide)]; exact hk2
      by_cases g : m 26 9 = 0
      · rcases e3 with ⟨u1, u2, u3⟩ | ⟨u1, u2, u3⟩
        · -- a dead end
          obtain ⟨c', hc'⟩ : ∃ c' : St, c' = sset (sset c P 1 3) P 8 0 := ⟨_, rfl⟩
          obtain ⟨m', hm'⟩ : ∃ m' : St, m' = sset (sset m2 26 0 3) 26 9 0 := ⟨_, rfl⟩
          have cr : ∀ q, q ≠ P → c' q = c q := fun q hq => by rw [hc', sset_row _ _ _ hq, sset_row _ _ _ hq]
          have mr : ∀ q, q ≠ 26 → m' q = m2 q := fun q hq => by rw [hm', sset_row _ _ _ hq, sset_row _ _ _ hq]
          have mp : ∀ i, i ≠ 0 → i ≠ 9 → m' 26 i = m2 26 i := fun i a b => by rw [hm', sset_place _ _ _ b, sset_place _ _ _ a]
          have q0 : m' 26 0 = 3 := by rw [hm', sset_place _ _ _ (by decide), sset_self]
          have q9 : m' 26 9 = 0 := by rw [hm', sset_self]
          have pw : PW c' m' P D nd ck H := PW_end hw2 (fun i a b d => by rw [hc', sset_place _ _ _ d, sset_place _ _ _ a]) cr (fun i a b d => mp i a d) (fun q a b => mr q b) (by rw [mr 0 (by decide)]) (st := 3) (O := 0) (by rw [hc', sset_place _ _ _ (by decide), sset_self]) q0 (by rw [hc', sset_self]) q9 ⟨by omega, by omega⟩ (fun g => absurd g (by decide))
          refine ⟨c', m', fin c' m' (fun q a b d f => cr q a) ⟨fun q a b d f g => mr q b, fun i a b => by rw [mr 0 (by decide)], fun _ => ⟨mr 29 (by decide), mr 30 (by decide)⟩, mr 31 (by decide)⟩ pw (BX_same hX2 (by rw [mr 0 (by decide)]) (mr 29 (by decide)) (mr 30 (by decide)) (mr 31 (by decide))) (by rw [mp 10 (by decide) (by decide), p2]; omega) (by omega) (by omega) (by rw [q0, q9]; decide), fun Q fu hf hQ => ?_, fun Qm fu hf hQ => fuel Qm fu hf (fun f hf2 => ?_)⟩
          · obtain ⟨f, rfl⟩ : ∃ f, fu = f + 2 := ⟨fu - 2, by omega⟩
            rw [s4, hy]
            refine t_L7_blk hP hD w0 nS0 nS (by omega) (by omega) rfl hw11 ?_
            unfold f_X5_endBlock f_X5_endFlow
            rw [w8, u2]
            refine ⟨hP, ⟨by omega, by omega⟩, fun _ => ⟨⟨by decide, by decide⟩, fun _ => ⟨hP, fun σ1 e1 σ2 e2 => ?_⟩, fun q => absurd q (by decide)⟩, fun q => absurd g q⟩
            rw [e2, e1, ← hc']
            exact t_L7_end hP hD (by rw [hc', sset_place _ _ _ (by decide), sset_place _ _ _ (by decide), w0]) (by rw [cr D hPD, nS0]; exact ⟨by omega, by omega⟩) (by omega) hQ
          · obtain ⟨f', rfl⟩ : ∃ f', f = f' + 2 := ⟨f - 2, by omega⟩
            refine r_L4_leave s1 ?_
            unfold f_X10_leavesBlock f_X10_ends
            rw [p2]
            refine ⟨hb1, by omega, kin, fun _ => ⟨⟨by omega, by omega⟩, fun _ => ⟨hb1, by omega, kin, fun _ σ1 e1 σ2 e2 => ?_, fun q => by rw [j2 15 (by decide)] at q; omega⟩, fun q => absurd g q⟩, fun q => absurd q k2'⟩
            rw [e2, e1, ← hm']
            exact r_L4_off hQ
        · -- the end of a choice's block: the node is entered again
          have hz0 : z = 0 := by
            rcases Nat.lt_or_ge z 1 with q | q
            · omega
            · have := GS_no1 (j6 (hgs (by omega)))
              exact absurd u1 this
          have a1 : 0 ≤ m 26 2 := hw.2.1.1
          have a2 : m 26 2 < nd := hw.2.1.2.1
          have w3 : c P 3 = m 26 2 := hw.1.2.2.1
          obtain ⟨v, hv⟩ : ∃ v : Nat, m 26 2 = (v : Int) := ⟨(m 26 2).toNat, by omega⟩
          obtain ⟨at1, at2⟩ := AT_node h2 (v := v) (by omega)
          obtain ⟨c1, m1, i1, i2, i3, i4, i5, i6, i7, i8, i9, i10⟩ := J_enter (ma := m2) (v := v) hP hD h2 (PW_e hw2) hX2 (by omega) (fun _ _ _ => rfl) (fun _ _ _ => rfl) (by rw [up_same (by rw [p2]; exact g)])
          have hsr := SRx_FPM hP hD h2 i1 i2
          have hat1 : AT c1 m1 D φ e N B (m1 0 48) (m1 0 49) (c (D + 14) v) := by
            rw [i7, i8]
            exact AT_frame at1 (i1 (D + 4) (by unfold isP at hP; omega) (by unfold isP at hP; omega) (by unfold isP at hP; omega) (by unfold isP at hP; omega)) (i2.1 7 (by decide) (by decide) (by decide) (by decide) (by decide)) (i2.1 15 (by decide) (by decide) (by decide) (by decide) (by decide)) (i2.1 16 (by decide) (by decide) (by decide) (by decide) (by decide))
          have gs1 : GS m1 (m1 0 49).toNat := by
            rw [i8]
            refine GS_node ?_
            rw [i2.1 15 (by decide) (by decide) (by decide) (by decide) (by decide)]; exact at2
          rw [p2] at i5
          obtain ⟨c', m', ⟨f1, f2, f3, f4, f5, f6, f7, f8⟩, goc, gom⟩ := ih (2 * r + 1 - 1) (by omega) r k (tu + 1) 1 c1 m1 (c (D + 14) v) rfl (Nat.le_refl _) hkr (by omega) hsr (HM_FRP hP hD hH i1) i3 i4 hat1 (fun _ => gs1) (by omega)
          refine ⟨c', m', fin c' m' (FRP_trans i1 f1) (FM_trans i2 f2) f3 f4 (by omega) f6 f7 f8, fun Q fu hf hQ => ?_, fun Qm fu hf hQ => fuel Qm fu hf (fun f hf2 => ?_)⟩
          · obtain ⟨f, rfl⟩ : ∃ f, fu = f + 1 := ⟨fu - 1, by omega⟩
            rw [s4, hy]
            refine t_L7_blk hP hD w0 nS0 nS (by omega) (by omega) rfl hw11 ?_
            unfold f_X5_endBlock
            rw [w8, u2, w3, hv]
            exact ⟨hP, ⟨by omega, by omega⟩, fun _ => ⟨⟨by decide, by decide⟩, fun q => absurd rfl q, fun _ => i9 _ (goc Q f (by omega) hQ)⟩, fun q => absurd g q⟩
          · obtain ⟨f', rfl⟩ : ∃ f', f = f' + 1 := ⟨f - 1, by omega⟩
            refine r_L4_leave s1 ?_
            unfold f_X10_leavesBlock
            rw [p2, hv]
            exact ⟨hb1, by omega, kin, fun _ => ⟨⟨by omega, by omega⟩, fun _ => ⟨hb1, by omega, kin, fun q => absurd (by rw [j2 15 (by decide)]; exact u1) q, fun _ => i10 _ (gom Qm f' (by omega) hQ)⟩, fun q => absurd g q⟩, fun q => absurd q k2'⟩
      · -- it waits
        obtain ⟨c', hc'⟩ : ∃ c' : St, c' = sset c P 1 1 := ⟨_, rfl⟩
        obtain ⟨m', hm'⟩ : ∃ m' : St, m' = sset m2 26 0 1 := ⟨_, rfl⟩
        have cr : ∀ q, q ≠ P → c' q = c q := fun q hq => by rw [hc', sset_row _ _ _ hq]
        have mr : ∀ q, q ≠ 26 → m' q = m2 q := fun q hq => by rw [hm', sset_row _ _ _ hq]
        have mp : ∀ i, i ≠ 0 → m' 26 i = m2 26 i := fun i a => by rw [hm', sset_place _ _ _ a]
        have q0 : m' 26 0 = 1 := by rw [hm', sset_self]
        have q9 : m' 26 9 = m 26 9 := by rw [mp 9 (by decide), p2]
        have pw : PW c' m' P D nd ck H := PW_end hw2 (fun i a b d => by rw [hc', sset_place _ _ _ a]) cr (fun i a b d => mp i a) (fun q a b => mr q b) (by rw [mr 0 (by decide)]) (st := 1) (O := m 26 9) (by rw [hc', sset_self]) q0 (by rw [hc', sset_place _ _ _ (by decide), w8]) q9 ⟨a13, a14⟩ (fun g => absurd g (by decide))
        refine ⟨c', m', fin c' m' (fun q a b d f => cr q a) ⟨fun q a b d f g => mr q b, fun i a b => by rw [mr 0 (by decide)], fun _ => ⟨mr 29 (by decide), mr 30 (by decide)⟩, mr 31 (by decide)⟩ pw (BX_same hX2 (by rw [mr 0 (by decide)]) (mr 29 (by decide)) (mr 30 (by decide)) (mr 31 (by decide))) (by rw [mp 10 (by decide), p2]; omega) (by omega) (by omega) (by rw [q0, q9]; exact ⟨fun _ => g, fun _ => rfl⟩), fun Q fu hf hQ => ?_, fun Qm fu hf hQ => fuel Qm fu hf (fun f hf2 => ?_)⟩
        · obtain ⟨f, rfl⟩ : ∃ f, fu = f + 2 := ⟨fu - 2, by omega⟩
          rw [s4, hy]
          refine t_L7_blk hP hD w0 nS0 nS (by omega) (by omega) rfl hw11 ?_
          unfold f_X5_endBlock
          rw [w8]
          refine ⟨hP, ⟨by omega, by omega⟩, fun q => absurd q g, fun _ σ3 e3 => ?_⟩
          rw [e3, ← hc']
          exact t_L7_end hP hD (by rw [hc', sset_place _ _ _ (by decide), w0]) (by rw [cr D hPD, nS0]; exact ⟨by omega, by omega⟩) (by omega) hQ
        · obtain ⟨f', rfl⟩ : ∃ f', f = f' + 2 := ⟨f - 2, by omega⟩
          refine r_L4_leave s1 ?_
          unfold f_X10_leavesBlock
          rw [p2]
          refine ⟨hb1, by omega, kin, fun _ => ⟨⟨by omega, by omega⟩, fun q => absurd q g, fun _ σ3 e3 => ?_⟩, fun q => absurd q k2'⟩
          rw [e3, ← hm']
          exact r_L4_off hQ
end FLOW
