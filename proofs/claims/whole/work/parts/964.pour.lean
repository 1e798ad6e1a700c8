/-! ===== pure layer: the class pours what is known ===== -/
theorem jn_KV {a b : Nat → Nat} (h : KV a) (h' : KV b) : KV (jn a b) := by
  by_cases u : a 0 = 0
  · rw [jn_0 u]; exact h'
  · by_cases w : b 0 = 0
    · rw [jn_1 u w]; exact h
    · have k1 := fun i (hi : i < 3) => KV_hi h u hi
      have k2 := fun i (hi : i < 3) => KV_hi h' w hi
      obtain ⟨a1, a2, a3, -⟩ := KV_16 h u
      obtain ⟨b1, b2, b3, -⟩ := KV_16 h' w
      rcases h with q | ⟨-, -, -, u3, -⟩
      · exact absurd q u
      · refine Or.inr ⟨jn_there u w, fun i hi => ?_, ?_, fun f hf => ?_, ?_⟩
        · rw [jn_low u w hi, jn_high u w hi]
          have := k1 i hi
          have := k2 i hi
          omega
        · rw [jn_7 u w]; exact Nat.or_lt_two_pow (n := 12) a2 b2
        · rw [jn_7 u w]; exact pair_mono (sub2_or_l _ _) (u3 f hf)
        · rw [jn_8 u w]; exact Nat.or_lt_two_pow (n := 13) a3 b3
theorem jn_SV {a b : Nat → Nat} (h : SV a) (h' : SV b) : SV (jn a b) := by
  refine ⟨jn_KV h.1 h'.1, fun _ => ?_⟩
  by_cases u : a 0 = 0
  · rename_i q
    rw [jn_0 u] at q ⊢; exact h'.2 q
  · by_cases w : b 0 = 0
    · rename_i q
      rw [jn_1 u w] at q ⊢; exact h.2 q
    · have x1 := h.2 (by rcases KV_01 h.1 with z | z; exact absurd z u; exact z)
      have x2 := h'.2 (by rcases KV_01 h'.1 with z | z; exact absurd z w; exact z)
      rw [jn_9 u w, jn_10 u w]
      exact ⟨Nat.or_lt_two_pow (n := 16) x1.1 x2.1, Nat.and_lt_two_pow (n := 16) _ x2.2⟩
/-- the class's rows from t on -/
def CAr (t : Nat) (c : St) (A : Nat → Nat → Nat) : Prop := ∀ x, t ≤ x → x < 400 → c 68 x = ((pkg (A x) : Nat) : Int) ∧ (A x 0 ≠ 0 → c 69 x = ((A x 9 : Nat) : Int) ∧ c 70 x = ((A x 10 : Nat) : Int)) ∧ SV (A x)
def CEr (c : St) (E : Nat → Nat → Nat) : Prop := (∀ n, n < 12 → c 66 n = ((pkg (E n) : Nat) : Int)) ∧ (∀ k, k < 16 → c 67 k = ((pkg (E (12 + k)) : Nat) : Int)) ∧ ∀ i, i < 28 → KV (E i)
section POUR
variable {c : St} {A : Nat → Nat → Nat} {g : Nat → Nat} {D S t : Nat}
theorem t_pour0 {y o k : Int} {Q : St → Prop} (hQ : Q c) : f_X0_pour y 0 o k c Q := by
  unfold f_X0_pour
  have : lcmp64 0 0 = 0 := lcmp_self 0
  rw [this]
  exact ⟨⟨by decide, by decide⟩, fun _ => hQ, fun u => absurd rfl u⟩
theorem t_pour1 {y : Nat} (hD : D = 2 ∨ D = 20) (h65 : c 65 0 = (D : Int)) (hS : c D 0 = (S : Int)) (hS4 : S ≤ 400) (hy : y < S) (hty : t ≤ y) (hA : CAr t c A) (hg : SV g) (hg0 : g 0 ≠ 0) : ∃ c1 : St, CAr t c1 (va_up A y (jn (A y) g)) ∧ (∀ q, q ≠ 68 → q ≠ 69 → q ≠ 70 → c1 q = c q) ∧ (∀ q j, j ≠ y → c1 q j = c q j) ∧ ∀ Q : St → Prop, Q c1 → f_X0_pour (y : Int) ((pkg g : Nat) : Int) ((g 9 : Nat) : Int) ((g 10 : Nat) : Int) c Q := by
  obtain ⟨a1, a2, a3⟩ := hA y hty (by omega)
  have gv := hg.2 (by rcases KV_01 hg.1 with z | z; exact absurd z hg0; exact z)
  have jv := jn_SV a3 hg
  obtain ⟨s2, hs2⟩ : ∃ s2 : St, s2 = sset c 68 y ((pkg (jn (A y) g) : Nat) : Int) := ⟨_, rfl⟩
  obtain ⟨c1, hc1⟩ : ∃ c1 : St, c1 = sset (sset s2 69 y ((jn (A y) g 9 : Nat) : Int)) 70 y ((jn (A y) g 10 : Nat) : Int) := ⟨_, rfl⟩
  have r68 : c1 68 = va_up (c 68) y ((pkg (jn (A y) g) : Nat) : Int) := by rw [hc1, sset_row _ _ _ (by decide), sset_row _ _ _ (by decide), hs2, sset_at]
  have r69 : c1 69 = va_up (c 69) y ((jn (A y) g 9 : Nat) : Int) := by rw [hc1, sset_row _ _ _ (by decide), sset_at, hs2, sset_row _ _ _ (by decide)]
  have r70 : c1 70 = va_up (c 70) y ((jn (A y) g 10 : Nat) : Int) := by rw [hc1, sset_at, sset_row _ _ _ (by decide), hs2, sset_row _ _ _ (by decide)]
  have rr : ∀ q, q ≠ 68 → q ≠ 69 → q ≠ 70 → c1 q = c q := fun q u v w => by rw [hc1, sset_row _ _ _ w, sset_row _ _ _ v, hs2, sset_row _ _ _ u]
  have rj : ∀ q j, j ≠ y → c1 q j = c q j := by
    intro q j hj
    by_cases u : q = 68
    · rw [u, r68, vu_ne _ _ hj]
    · by_cases v : q = 69
      · rw [v, r69, vu_ne _ _ hj]
      · by_cases w : q = 70
        · rw [w, r70, vu_ne _ _ hj]
        · rw [rr q u v w]
  refine ⟨c1, fun x hx hx4 => ?_, rr, rj, fun Q hQ => ?_⟩
  · by_cases e : x = y
    · subst e
      rw [vu_eq, r68, r69, r70, vu_eq, vu_eq, vu_eq]
      exact ⟨rfl, fun _ => ⟨rfl, rfl⟩, jv⟩
    · rw [vu_ne _ _ e, rj 68 x e, rj 69 x e, rj 70 x e]
      exact hA x hx hx4
  · have fin : ∀ s0 : Int, (s0 = if A y 0 = 0 then 1 else 0) → f_X0_pour_J34 Q c (y : Int) ((pkg g : Nat) : Int) ((g 9 : Nat) : Int) ((g 10 : Nat) : Int) s0 := by
      intro s0 hs0
      unfold f_X0_pour_J34 f_X0_pour_J76
      rw [Int.toNat_natCast, a1]
      refine ⟨by omega, by omega, t_union a3.1 hg.1 ⟨by omega, by omega, fun σ2 e2 => ?_⟩⟩
      have es : σ2 = s2 := by rw [e2, hs2]
      have b69 : s2 69 = c 69 := by rw [hs2, sset_row _ _ _ (by decide)]
      have b70 : s2 70 = c 70 := by rw [hs2, sset_row _ _ _ (by decide)]
      rw [es, b69]
      by_cases u : A y 0 = 0
      · rw [if_pos u] at hs0
        have e9 : jn (A y) g 9 = g 9 := by rw [jn_0 u]
        have e10 : jn (A y) g 10 = g 10 := by rw [jn_0 u]
        rw [e9, e10] at hc1
        rw [hs0]
        refine ⟨⟨by decide, by decide⟩, fun v => absurd v (by decide), fun _ => ⟨by omega, by omega, fun σ1 f1 => ⟨⟨by decide, by decide⟩, fun v => absurd v (by decide), fun _ => ⟨by omega, by omega, fun σ3 f3 => ?_⟩⟩⟩⟩
        rw [f3, f1, ← hc1]; exact hQ
      · rw [if_neg u] at hs0
        have av := a3.2 (by rcases KV_01 a3.1 with z | z; exact absurd z u; exact z)
        obtain ⟨o1, o2⟩ := a2 u
        have e9 : jn (A y) g 9 = A y 9 ||| g 9 := jn_9 u hg0
        have e10 : jn (A y) g 10 = A y 10 &&& g 10 := jn_10 u hg0
        rw [e9, e10] at hc1
        rw [hs0, o1, ior_nat (by omega) (by omega)]
        refine ⟨⟨by decide, by decide⟩, fun _ => ⟨by omega, by omega, by omega, by omega, fun σ1 f1 => ?_⟩, fun v => absurd rfl v⟩
        have b1 : σ1 70 y = ((A y 10 : Nat) : Int) := by rw [f1, sset_cell _ _ _ _ (by decide), b70, o2]
        rw [b1, iand_nat (by omega) (by omega)]
        refine ⟨⟨by decide, by decide⟩, fun _ => ⟨by omega, by omega, by omega, by omega, fun σ3 f3 => ?_⟩, fun v => absurd rfl v⟩
        rw [f3, f1, ← hc1]; exact hQ
    unfold f_X0_pour
    rw [h65, Int.toNat_natCast]
    refine ⟨lcmp_r _ _, fun u => absurd ((lcmp_pkg0 hg.1).1 u) hg0, fun _ => ⟨hD, t_has hD ⟨by omega, by omega⟩ (by rw [hS]; exact ⟨by omega, by omega⟩) (fun _ _ _ => ⟨⟨by decide, by decide⟩, fun _ => ⟨by omega, by omega, ?_⟩, fun u => absurd u (by decide)⟩) (fun u => by omega)⟩⟩
    rw [Int.toNat_natCast, a1]
    refine ⟨lcmp_r _ _, fun u => fin 0 ?_, fun u => fin 1 ?_⟩
    · rw [if_neg (fun w => u ((lcmp_pkg0 a3.1).2 w))]
    · rw [if_pos ((lcmp_pkg0 a3.1).1 u)]
/-- any pour -/
theorem t_pour {y : Nat} {o k : Int} (hD : D = 2 ∨ D = 20) (h65 : c 65 0 = (D : Int)) (hS : c D 0 = (S : Int)) (hS4 : S ≤ 400) (hy : y < S) (hty : t ≤ y) (hA : CAr t c A) (hg : SV g) (ho : g 0 ≠ 0 → o = ((g 9 : Nat) : Int) ∧ k = ((g 10 : Nat) : Int)) : ∃ (c1 : St) (A1 : Nat → Nat → Nat), CAr t c1 A1 ∧ (∀ z, z ≠ y → A1 z = A z) ∧ SLE (A y) (A1 y) ∧ SLE g (A1 y) ∧ (∀ b : Nat → Nat, SLE (A y) b → SLE g b → SLE (A1 y) b) ∧ (∀ q, q ≠ 68 → q ≠ 69 → q ≠ 70 → c1 q = c q) ∧ (∀ q j, j ≠ y → c1 q j = c q j) ∧ ∀ Q : St → Prop, Q c1 → f_X0_pour (y : Int) ((pkg g : Nat) : Int) o k c Q := by
  have ay := (hA y hty (by omega)).2.2
  by_cases u : g 0 = 0
  · refine ⟨c, A, hA, fun _ _ => rfl, SLE_refl (KV_01 ay.1), Or.inl u, fun b h1 _ => h1, fun _ _ _ _ => rfl, fun _ _ _ => rfl, fun Q hQ => ?_⟩
    rw [pkg_0 u]; exact t_pour0 hQ
  · obtain ⟨c1, i1, i2, i3, i4⟩ := t_pour1 hD h65 hS hS4 hy hty hA hg u
    obtain ⟨o1, o2⟩ := ho u
    refine ⟨c1, va_up A y (jn (A y) g), i1, fun z hz => vu_ne _ _ hz, ?_, ?_, fun b h1 h2 => ?_, i2, i3, fun Q hQ => by rw [o1, o2]; exact i4 Q hQ⟩
    · rw [vu_eq]; exact jn_l (KV_01 ay.1) (KV_01 hg.1)
    · rw [vu_eq]; exact jn_r (KV_01 ay.1) (KV_01 hg.1)
    · rw [vu_eq]; exact jn_lub h1 h2
end POUR
