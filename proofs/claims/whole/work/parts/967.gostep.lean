/-! ===== pure layer: the class goes through a statement ===== -/
/-- what is sure of a statement of the class -/
def XQ (c : St) (D S x : Nat) : Prop :=
  (0 ≤ c (D + 1) x ∧ c (D + 1) x ≤ 12) ∧ (c (D + 1) x ≤ 5 ∨ c (D + 1) x = 7 → (x : Int) < c (D + 4) x ∧ c (D + 4) x < S) ∧ (c (D + 1) x = 1 ∨ c (D + 1) x = 2 → 0 ≤ c (D + 2) x ∧ c (D + 2) x < 6) ∧ (3 ≤ c (D + 1) x → c (D + 1) x ≤ 5 → 0 ≤ c (D + 2) x ∧ c (D + 2) x < 3 ∧ 0 ≤ c (D + 3) x ∧ c (D + 3) x ≤ 9) ∧ (c (D + 1) x = 6 → (x : Int) < c (D + 5) x ∧ c (D + 5) x < S ∧ (x : Int) < c (D + 6) x ∧ c (D + 6) x < S ∧ 0 ≤ c (D + 2) x ∧ c (D + 2) x < 16 ∧ TQ c D x) ∧ (c (D + 1) x = 7 → 0 ≤ c (D + 2) x ∧ c (D + 2) x < c D 14 ∧ TQ c D x) ∧ (c (D + 1) x = 8 ∨ c (D + 1) x = 9 ∨ c (D + 1) x = 11 → 0 ≤ c (D + 2) x ∧ c (D + 2) x < 12) ∧ (c (D + 1) x = 10 → 0 ≤ c (D + 2) x ∧ c (D + 2) x < 10) ∧ (c (D + 1) x = 12 → 0 ≤ c (D + 2) x ∧ c (D + 2) x < 16 ∧ 0 ≤ c (D + 16) (c (D + 2) x).toNat ∧ c (D + 16) (c (D + 2) x).toNat < 12)
/-- what is sure of choices -/
def HCk (c : St) (D H : Nat) : Prop := ∃ ck h : Nat, c D 14 = (ck : Int) ∧ ck ≤ 16 ∧ c D 13 = (h : Int) ∧ h < 4096 ∧ ∀ k, k < ck → H.testBit k = h.testBit (c (D + 16) k).toNat ∧ 0 ≤ c (D + 16) k ∧ c (D + 16) k < 12
def AVs (A : Nat → Nat → Nat) : Prop := ∀ z, z < 400 → SV (A z)
/-- whether what is changed is told -/
def CHG (c c1 : St) (E E1 : Nat → Nat → Nat) : Prop := (c1 65 2 = 0 ∨ c1 65 2 = 1) ∧ (c 65 2 ≠ 0 → c1 65 2 ≠ 0) ∧ (c1 65 2 = 0 → ∀ i, i < 28 → pkg (E1 i) = pkg (E i)) ∧ (c 65 2 = 0 → c1 65 2 ≠ 0 → mu E 28 < mu E1 28)
/-- one statement further -/
def GST (c c1 : St) (D H : Nat) (A A1 E E1 : Nat → Nat → Nat) (x : Nat) : Prop := (CAr (x + 1) c1 A1 ∧ CEr c1 E1 ∧ AVs A1) ∧ (∀ z, z ≤ x → A1 z = A z) ∧ (∀ z, z < 400 → SLE (A z) (A1 z)) ∧ (∀ i, i < 28 → KLE (E i) (E1 i)) ∧ CLS c D H A1 E1 x ∧ (∀ A2 E2 : Nat → Nat → Nat, CLS c D H A2 E2 x → (∀ z, z < 400 → KV (A2 z)) → (∀ z, z < 400 → SLE (A z) (A2 z)) → (∀ i, i < 28 → KLE (E i) (E2 i)) → (∀ z, z < 400 → SLE (A1 z) (A2 z)) ∧ ∀ i, i < 28 → KLE (E1 i) (E2 i)) ∧ (∀ q, q < 65 ∨ 71 < q → c1 q = c q) ∧ (∀ i, i ≠ 2 → i ≠ 9 → i ≠ 10 → c1 65 i = c 65 i) ∧ CHG c c1 E E1
/-- what comes out, too -/
def vdN (c : St) (D x : Nat) (g : Nat → Nat) : Int := (if ctp c D x g 0 = 0 then 0 else 1) + (if cfp c D x g 0 = 0 then 0 else 2)
def GOUT (c c1 : St) (D x : Nat) (g : Nat → Nat) : Prop := c1 71 = (if c (D + 1) x = 6 then va_up (c 71) (c (D + 2) x).toNat (vdN c D x g) else c 71) ∧ c1 65 9 = (if c (D + 1) x = 10 then ior32 (c 65 9) (ishl32 1 (c (D + 2) x)) else c 65 9) ∧ c1 65 10 = (if (c (D + 1) x = 9 ∧ (g 8).testBit 12 = true) ∨ (c (D + 1) x = 11 ∧ g 10 = 0) then ior32 (c 65 10) (ishl32 1 (c (D + 2) x)) else c 65 10)
section GOSTEP
variable {c : St} {A E : Nat → Nat → Nat} {D S H x : Nat}
theorem CHG_same {c1 : St} (h2 : c 65 2 = 0 ∨ c 65 2 = 1) (e : c1 65 2 = c 65 2) : CHG c c1 E E := ⟨by rw [e]; exact h2, fun u => by rw [e]; exact u, fun _ _ _ => rfl, fun u w => absurd (by rw [e]; exact u) w⟩
/-- on to another place -/
theorem G_pour {c' : St} {T : (Nat → Nat) → Nat → Nat} {y : Nat} {o k : Int} (hD : D = 2 ∨ D = 20) (h65 : c 65 0 = (D : Int)) (hS : c D 0 = (S : Int)) (hS4 : S ≤ 400) (hxy : x < y) (hy : y < S) (hA : CAr (x + 1) c A) (hE : CEr c E) (hV : AVs A) (h2 : c 65 2 = 0 ∨ c 65 2 = 1) (hx0 : A x 0 ≠ 0) (hc' : ∀ q, q ≠ 69 → q ≠ 70 → c' q = c q) (hcj : ∀ q j, j ≠ x → c' q j = c q j) (hT : SV (T (A x))) (ho : T (A x) 0 ≠ 0 → o = ((T (A x) 9 : Nat) : Int) ∧ k = ((T (A x) 10 : Nat) : Int))
    (hm : ∀ a b : Nat → Nat, KV a → KV b → SLE a b → SLE (T a) (T b)) (hc1 : ∀ A E : Nat → Nat → Nat, (A x 0 ≠ 0 → SLE (T (A x)) (A y)) → CLS c D H A E x) (hc2 : ∀ A E : Nat → Nat → Nat, CLS c D H A E x → A x 0 ≠ 0 → SLE (T (A x)) (A y)) : ∃ (c1 : St) (A1 : Nat → Nat → Nat), GST c c1 D H A A1 E E x ∧ c1 71 = c' 71 ∧ c1 65 = c' 65 ∧ ∀ Q : St → Prop, Q c1 → f_X0_pour (y : Int) ((pkg (T (A x)) : Nat) : Int) o k c' Q := by
  have hA' : CAr (x + 1) c' A := fun z z1 z2 => by rw [hcj 68 z (by omega), hcj 69 z (by omega), hcj 70 z (by omega)]; exact hA z z1 z2
  obtain ⟨c1, A1, i1, i2, i3, i4, i5, i6, i7, i8⟩ := t_pour (t := x + 1) (o := o) (k := k) hD (by rw [hc' 65 (by decide) (by decide)]; exact h65) (by rw [hc' D (by omega) (by omega)]; exact hS) hS4 hy hxy hA' hT ho
  have same : ∀ z, z ≤ x → A1 z = A z := fun z hz => i2 z (by omega)
  have r65 : c1 65 = c 65 := by rw [i6 65 (by decide) (by decide) (by decide), hc' 65 (by decide) (by decide)]
  have up : ∀ z, z < 400 → SLE (A z) (A1 z) := fun z hz => by
    by_cases e : z = y
    · rw [e]; exact i3
    · rw [i2 z e]; exact SLE_refl (KV_01 (hV z hz).1)
  refine ⟨c1, A1, ⟨⟨i1, ⟨fun n hn => ?_, fun n hn => ?_, hE.2.2⟩, fun z hz => ?_⟩, same, up, fun i hi => KLE_refl (KV_01 (hE.2.2 i hi)), hc1 A1 E (fun _ => by rw [same x (Nat.le_refl _)]; exact i4), fun A2 E2 u1 u2 u3 u4 => ⟨fun z hz => ?_, u4⟩, fun q hq => ?_, fun i _ _ _ => by rw [r65], CHG_same h2 (by rw [r65])⟩, i6 71 (by decide) (by decide) (by decide), i6 65 (by decide) (by decide) (by decide), i8⟩
  · rw [i6 66 (by decide) (by decide) (by decide), hc' 66 (by decide) (by decide)]; exact hE.1 n hn
  · rw [i6 67 (by decide) (by decide) (by decide), hc' 67 (by decide) (by decide)]; exact hE.2.1 n hn
  · by_cases e : z ≤ x
    · rw [same z e]; exact hV z hz
    · exact (i1 z (by omega) hz).2.2
  · by_cases e : z = y
    · rw [e]
      refine i5 _ (u3 y (by omega)) ?_
      have ax := u3 x (by omega)
      exact SLE_trans (hm _ _ (hV x (by omega)).1 (u2 x (by omega)) ax) (hc2 A2 E2 u1 (SLE_ne ax hx0))
    · rw [i2 z e]; exact u3 z hz
  · rw [i6 q (by omega) (by omega) (by omega), hc' q (by omega) (by omega)]
/-- into entries -/
theorem G_ent {c1 : St} {E1 : Nat → Nat → Nat} {P : Nat → Prop} (hA : CAr (x + 1) c A) (hV : AVs A) (hx4 : x < 400) (hx0 : A x 0 ≠ 0) (he : EST c c1 E E1 (A x) P) (hc1 : ∀ E' : Nat → Nat → Nat, (∀ i, i < 28 → P i → KLE (A x) (E' i)) → CLS c D H A E' x) (hc2 : ∀ A2 E2 : Nat → Nat → Nat, CLS c D H A2 E2 x → SLE (A x) (A2 x) → A2 x 0 ≠ 0 → ∀ i, i < 28 → P i → KLE (A2 x) (E2 i)) : GST c c1 D H A A E E1 x := by
  obtain ⟨a1, a2, a3, a4, a5, a6, a7, a8, a9, a10⟩ := he
  refine ⟨⟨fun z z1 z2 => ?_, a1, hV⟩, fun _ _ => rfl, fun z hz => SLE_refl (KV_01 (hV z hz).1), a2, hc1 E1 a3, fun A2 E2 u1 u2 u3 u4 => ⟨u3, a4 E2 u4 (fun i hi u => ?_)⟩, fun q hq => a5 q (by omega) (by omega) (by omega), fun i u _ _ => a6 i u, ⟨a7, a8, a9, a10⟩⟩
  · rw [a5 68 (by decide) (by decide) (by decide), a5 69 (by decide) (by decide) (by decide), a5 70 (by decide) (by decide) (by decide)]; exact hA z z1 z2
  · exact KLE_trans (SLE_K (u3 x hx4)) (hc2 A2 E2 u1 (u3 x hx4) (SLE_ne (u3 x hx4) hx0) i hi u)
theorem GST_65 {c1 : St} {A1 E1 : Nat → Nat → Nat} {j : Nat} {v : Int} (hj : j = 9 ∨ j = 10) (h : GST c c1 D H A A1 E E1 x) : GST c (sset c1 65 j v) D H A A1 E E1 x := by
  obtain ⟨⟨a1, a2, a3⟩, b, d, e, f, k, l, m, n⟩ := h
  have rr : ∀ q, q ≠ 65 → sset c1 65 j v q = c1 q := fun q hq => sset_row _ _ _ hq
  have r2 : sset c1 65 j v 65 2 = c1 65 2 := sset_place _ _ _ (by omega)
  refine ⟨⟨fun z z1 z2 => by rw [rr 68 (by decide), rr 69 (by decide), rr 70 (by decide)]; exact a1 z z1 z2, ⟨fun q hq => by rw [rr 66 (by decide)]; exact a2.1 q hq, fun q hq => by rw [rr 67 (by decide)]; exact a2.2.1 q hq, a2.2.2⟩, a3⟩, b, d, e, f, k, fun q hq => by rw [rr q (by omega)]; exact l q hq, fun i u1 u2 u3 => by rw [sset_place _ _ _ (by omega)]; exact m i u1 u2 u3, ?_⟩
  unfold CHG at *
  rw [r2]; exact n
end GOSTEP
