/-! ===== pure layer: the reference's reading, step by step ===== -/
def pf (j : Nat) : Bool := [15, 19, 25, 30, 32, 33, 34, 35, 36, 37, 39].contains j
def FrP (z σ : St) : Prop := σ 1 = z 1 ∧ σ 2 = z 2 ∧ (∀ c, 26 ≤ c → σ c = z c) ∧ (∀ j, pf j = false → σ 0 j = z 0 j) ∧ 0 ≤ σ 0 32 ∧ σ 0 32 ≤ 16
def PS (T : Nat → Int) (n : Nat) (z σ : St) : Prop := RT T n σ ∧ FrP z σ
theorem PS_cell {T : Nat → Int} {n : Nat} {z σ : St} (h : PS T n z σ) (c j : Nat) (v : Int) (h1 : 3 ≤ c) (h2 : c < 26) : PS T n z (sset σ c j v) := by
  have e : ∀ c', c' ≠ c → sset σ c j v c' = σ c' := fun c' hc => sset_row _ _ _ hc
  refine ⟨RT_same h.1 (by rw [e 0 (by omega)]) (by rw [e 0 (by omega)]) (e 1 (by omega)) (e 2 (by omega)), ?_⟩
  obtain ⟨-, f1, f2, f3, f4, f5⟩ := h
  exact ⟨by rw [e 1 (by omega)]; exact f1, by rw [e 2 (by omega)]; exact f2, fun c' hc => by rw [e c' (by omega)]; exact f3 c' hc, fun j' hj => by rw [e 0 (by omega)]; exact f4 j' hj, by rw [e 0 (by omega)]; exact f5⟩
theorem PS_fld {T : Nat → Int} {n : Nat} {z σ : St} (h : PS T n z σ) (j : Nat) (v : Int) (h1 : pf j = true) (h2 : j ≠ 34) (h3 : j ≠ 35) (h4 : j = 32 → 0 ≤ v ∧ v ≤ 16 := by intro h; exact absurd h (by decide)) : PS T n z (sset σ 0 j v) := by
  have e : ∀ c', c' ≠ 0 → sset σ 0 j v c' = σ c' := fun c' hc => sset_row _ _ _ hc
  refine ⟨RT_same h.1 (sset_place _ _ _ (by omega)) (sset_place _ _ _ (by omega)) (e 1 (by omega)) (e 2 (by omega)), ?_⟩
  obtain ⟨-, f1, f2, f3, f4, f5⟩ := h
  refine ⟨by rw [e 1 (by omega)]; exact f1, by rw [e 2 (by omega)]; exact f2, fun c' hc => by rw [e c' (by omega)]; exact f3 c' hc, fun j' hj => ?_, ?_⟩
  · have hne : j' ≠ j := by intro q; subst q; rw [h1] at hj; cases hj
    rw [sset_place _ _ _ hne]; exact f4 j' hj
  · by_cases q : j = 32
    · have e32 : sset σ 0 j v 0 32 = v := by rw [q, sset_self]
      rw [e32]; exact h4 q
    · rw [sset_place _ _ _ (fun w => q w.symm)]; exact f5
theorem PS_at {T : Nat → Int} {n : Nat} {z σ : St} (h : PS T n z σ) (v : Int) : PS T n z (sset σ 0 36 v) := PS_fld h 36 v rfl (by decide) (by decide)
theorem PS_fine {T : Nat → Int} {n : Nat} {z σ : St} (h : PS T n z σ) (v : Int) : PS T n z (sset σ 0 37 v) := PS_fld h 37 v rfl (by decide) (by decide)
theorem s_req1 {σ : St} {Q : St → Prop} (h : σ 0 37 = 1) (hQ : Q σ) : f_X10_requires 1 σ Q := by
  unfold f_X10_requires
  rw [h]
  refine ⟨⟨by decide, by decide⟩, fun c => absurd c (by decide), fun _ => ⟨⟨by decide, by decide⟩, fun c => absurd c (by decide), fun _ σ1 e => ?_⟩⟩
  rw [e, sset_id _ _ _ h]; exact hQ
theorem s_req0 {σ : St} {Q : St → Prop} (h : σ 0 37 = 0 ∨ σ 0 37 = 1) (hQ : Q (sset σ 0 37 0)) : f_X10_requires 0 σ Q := by
  unfold f_X10_requires f_X10_requires_J16
  refine ⟨inR_01 h, fun _ σ1 e => by rw [e]; exact hQ, fun _ => ⟨⟨by decide, by decide⟩, fun _ σ1 e => by rw [e]; exact hQ, fun c => absurd rfl c⟩⟩
theorem s_reqD {σ : St} {Q : St → Prop} {x : Int} (h : σ 0 37 = 0) (hQ : Q σ) : f_X10_requires x σ Q := by
  unfold f_X10_requires f_X10_requires_J16
  rw [h]
  refine ⟨⟨by decide, by decide⟩, fun _ σ1 e => ?_, fun c => absurd rfl c⟩
  rw [e, sset_id _ _ _ h]; exact hQ
/-- reads, in a good state -/
theorem s_reads {T : Nat → Int} {n a : Nat} {σ : St} {Q : St → Prop} {x : Int} (h : RT T n σ) (ha : a ≤ n) (h6 : σ 0 36 = (a : Int)) (h7 : σ 0 37 = 1) (hx : inR x)
    (hy : ch T n (sk T n a) = x → Q (sset σ 0 36 (((sk T n a + 1 : Nat)) : Int)))
    (hn : ch T n (sk T n a) ≠ x → Q (sset (sset σ 0 36 ((sk T n a : Nat) : Int)) 0 37 0)) : f_X10_reads x σ Q := by
  unfold f_X10_reads
  refine s_here h ha h6 ?_
  have k7 : sset σ 0 36 ((sk T n a : Nat) : Int) 0 37 = 1 := by rw [sset_place _ _ _ (by decide)]; exact h7
  refine ⟨ch_inR h.2.1, hx, fun c => ?_, fun c => ?_⟩
  · unfold f_X10_reads_J14
    refine s_req0 (Or.inr k7) ?_
    have k : ∀ w, sset (sset σ 0 36 w) 0 37 0 0 36 = w := fun w => by rw [sset_place _ _ _ (by decide), sset_self]
    rw [sset_self, k]
    refine ⟨⟨by decide, by decide⟩, fun _ σ2 e => ?_, fun c => absurd rfl c⟩
    rw [e, Int.add_zero, sset_id _ _ _ (k _)]
    exact hn c
  · unfold f_X10_reads_J14
    refine s_req1 k7 ?_
    rw [k7, sset_self]
    refine ⟨⟨by decide, by decide⟩, fun c => absurd c (by decide), fun _ σ2 e => ?_⟩
    rw [e, sset_twice]
    exact hy c
theorem s_readsD {T : Nat → Int} {n a : Nat} {σ : St} {Q : St → Prop} {x : Int} (h : RT T n σ) (ha : a ≤ n) (h6 : σ 0 36 = (a : Int)) (hs : sk T n a = a) (h7 : σ 0 37 = 0) (hx : inR x) (hQ : Q σ) : f_X10_reads x σ Q := by
  unfold f_X10_reads f_X10_reads_J14
  refine s_here0 h ha h6 hs ?_
  have k : ∀ x, f_X10_requires x σ (fun σ1 => inR (σ1 0 37) ∧ (((σ1 0 37) = 0 → ∀ σ2 : St, σ2 = sset σ1 0 36 ((σ1 0 36) + 0) → Q σ2) ∧ (¬ (σ1 0 37) = 0 → ∀ σ3 : St, σ3 = sset σ1 0 36 ((σ1 0 36) + 1) → Q σ3))) := by
    intro x
    refine s_reqD h7 ?_
    rw [h7]
    refine ⟨⟨by decide, by decide⟩, fun _ σ2 e => ?_, fun c => absurd rfl c⟩
    rw [e, Int.add_zero, sset_id _ _ _ rfl]; exact hQ
  exact ⟨ch_inR h.2.1, hx, fun _ => k 0, fun _ => k 1⟩
theorem s_readsOf {T : Nat → Int} {n a : Nat} {σ : St} {Q : St → Int → Prop} {lo hi : Int} (h : RT T n σ) (ha : a ≤ n) (h6 : σ 0 36 = (a : Int)) (h7 : σ 0 37 = 1) (hl : inR lo) (hh : inR hi)
    (hy : lo ≤ ch T n (sk T n a) → ch T n (sk T n a) ≤ hi → Q (sset σ 0 36 (((sk T n a + 1 : Nat)) : Int)) (ch T n (sk T n a) - lo))
    (hn : (ch T n (sk T n a) < lo ∨ hi < ch T n (sk T n a)) → Q (sset (sset σ 0 36 ((sk T n a : Nat) : Int)) 0 37 0) (ch T n (sk T n a) - lo)) : f_X10_readsOf lo hi σ Q := by
  unfold f_X10_readsOf
  refine s_here h ha h6 ?_
  have k7 : sset σ 0 36 ((sk T n a : Nat) : Int) 0 37 = 1 := by rw [sset_place _ _ _ (by decide)]; exact h7
  refine s_in (ch_inR h.2.1) hl hh (fun c1 c2 => ?_) (fun c => ?_)
  · refine s_req1 k7 ?_
    rw [k7, sset_self]
    refine ⟨⟨by decide, by decide⟩, fun c => absurd c (by decide), fun _ σ2 e => ?_⟩
    rw [e, sset_twice]
    exact hy c1 c2
  · refine s_req0 (Or.inr k7) ?_
    have k : ∀ w, sset (sset σ 0 36 w) 0 37 0 0 36 = w := fun w => by rw [sset_place _ _ _ (by decide), sset_self]
    rw [sset_self, k]
    refine ⟨⟨by decide, by decide⟩, fun _ σ2 e => ?_, fun c => absurd rfl c⟩
    rw [e, Int.add_zero, sset_id _ _ _ (k _)]
    exact hn c
theorem s_readsOfD {T : Nat → Int} {n a : Nat} {σ : St} {Q : St → Int → Prop} {lo hi : Int} (h : RT T n σ) (ha : a ≤ n) (h6 : σ 0 36 = (a : Int)) (hs : sk T n a = a) (h7 : σ 0 37 = 0) (hl : inR lo) (hh : inR hi) (hQ : Q σ (ch T n a - lo)) : f_X10_readsOf lo hi σ Q := by
  unfold f_X10_readsOf
  refine s_here0 h ha h6 hs ?_
  have k : ∀ x, f_X10_requires x σ (fun σ3 => inR (σ3 0 37) ∧ (((σ3 0 37) = 0 → ∀ σ4 : St, σ4 = sset σ3 0 36 ((σ3 0 36) + 0) → Q σ4 (ch T n a - lo)) ∧ (¬ (σ3 0 37) = 0 → ∀ σ5 : St, σ5 = sset σ3 0 36 ((σ3 0 36) + 1) → Q σ5 (ch T n a - lo)))) := by
    intro x
    refine s_reqD h7 ?_
    rw [h7]
    refine ⟨⟨by decide, by decide⟩, fun _ σ2 e => ?_, fun c => absurd rfl c⟩
    rw [e, Int.add_zero, sset_id _ _ _ rfl]; exact hQ
  exact s_in (ch_inR h.2.1) hl hh (fun _ _ => k 1) (fun _ => k 0)
/-! numbers: how many digits from here on, and the value of the first two -/
def dgf (T : Nat → Int) (n : Nat) : Nat → Nat → Nat
  | 0, _ => 0
  | k + 1, i => if i < n ∧ 48 ≤ T i ∧ T i ≤ 57 then dgf T n k (i + 1) + 1 else 0
def dg (T : Nat → Int) (n i : Nat) : Nat := dgf T n (n - i) i
theorem dg_y {T : Nat → Int} {n i : Nat} (h : i < n) (h1 : 48 ≤ T i) (h2 : T i ≤ 57) : dg T n i = dg T n (i + 1) + 1 := by
  unfold dg
  have e : n - i = (n - (i + 1)) + 1 := by omega
  rw [e, dgf, if_pos ⟨h, h1, h2⟩]
theorem dg_n {T : Nat → Int} {n i : Nat} (h : n ≤ i ∨ T i < 48 ∨ 57 < T i) : dg T n i = 0 := by
  unfold dg
  cases e : n - i with
  | zero => rfl
  | succ k => rw [dgf, if_neg (by omega)]
theorem dg_le {T : Nat → Int} {n : Nat} : ∀ (k i : Nat), n - i = k → i ≤ n → i + dg T n i ≤ n := by
  intro k
  induction k with
  | zero => intro i hk hi; rw [dg_n (Or.inl (by omega))]; omega
  | succ k ih =>
    intro i hk hi
    by_cases h : 48 ≤ T i ∧ T i ≤ 57
    · rw [dg_y (by omega) h.1 h.2]
      have := ih (i + 1) (by omega) (by omega)
      omega
    · rw [dg_n (by omega)]; omega
def nm (T : Nat → Int) (n i : Nat) : Int := if dg T n i = 0 then 0 else if dg T n i = 1 then T i - 48 else 10 * (T i - 48) + T (i + 1) - 48
