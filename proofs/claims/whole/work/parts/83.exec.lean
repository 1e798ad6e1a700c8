/-! ===== pure layer: a statement is executed: the cases (written by wip/whole/gen2/exec.py) ===== -/
section EXE
variable {m c : St} {Q : St → Int → Prop} {s P D x : Nat}
theorem r_ex0 (h48 : m 0 48 = (s : Int)) (hs : s < 401) (hk : m 3 s = 0) (h : f_X10_says (m 4 s) (sset m 0 48 (m 6 s)) (fun σ => Q σ 1)) : f_X10_executes m Q := by
  unfold f_X10_executes
  rw [h48]
  rintro x1 rfl
  refine ⟨by omega, by omega, fun σ1 e1 => ?_⟩
  rw [Int.toNat_natCast] at e1 ⊢
  have a3 : σ1 3 s = 0 := by rw [e1, sset_cell _ _ _ _ (by decide), hk]
  have a4 : σ1 4 s = m 4 s := by rw [e1, sset_cell _ _ _ _ (by decide)]
  have a5 : σ1 5 s = m 5 s := by rw [e1, sset_cell _ _ _ _ (by decide)]
  have a26 : σ1 26 = m 26 := by rw [e1, sset_row _ _ _ (by decide)]
  rw [a3]
  refine ⟨by omega, by omega, ⟨by decide, by decide⟩, fun _ => ?_, fun g => absurd g (by decide), fun g => absurd g (by decide), fun g => absurd g (by decide), fun g => absurd g (by decide), fun g => absurd g (by decide), fun g => absurd g (by decide), fun g => by omega⟩
  refine ⟨by omega, by omega, ?_⟩
  rw [a4, e1]; exact h
theorem r_ex1 (h48 : m 0 48 = (s : Int)) (hs : s < 401) (hk : m 3 s = 1) (h5 : inR (m 5 s)) (h1 : m 5 s = 1 → Q (sset (sset m 0 48 (m 6 s)) 26 4 (ior32 (m 26 4) (ishl32 1 (m 4 s)))) 1) (h0 : m 5 s ≠ 1 → Q (sset (sset m 0 48 (m 6 s)) 26 4 (iand32 (m 26 4) (ixor32 (ishl32 1 (m 4 s)) (-1)))) 1) : f_X10_executes m Q := by
  unfold f_X10_executes
  rw [h48]
  rintro x1 rfl
  refine ⟨by omega, by omega, fun σ1 e1 => ?_⟩
  rw [Int.toNat_natCast] at e1 ⊢
  have a3 : σ1 3 s = 1 := by rw [e1, sset_cell _ _ _ _ (by decide), hk]
  have a4 : σ1 4 s = m 4 s := by rw [e1, sset_cell _ _ _ _ (by decide)]
  have a5 : σ1 5 s = m 5 s := by rw [e1, sset_cell _ _ _ _ (by decide)]
  have a26 : σ1 26 = m 26 := by rw [e1, sset_row _ _ _ (by decide)]
  rw [a3]
  refine ⟨by omega, by omega, ⟨by decide, by decide⟩, fun g => absurd g (by decide), fun _ => ?_, fun g => absurd g (by decide), fun g => absurd g (by decide), fun g => absurd g (by decide), fun g => absurd g (by decide), fun g => absurd g (by decide), fun g => by omega⟩
  rw [a5, a4, a26]
  refine ⟨by omega, by omega, h5, fun g => ⟨by omega, by omega, fun σ3 e3 => ?_⟩, fun g => ⟨by omega, by omega, fun σ3 e3 => ?_⟩⟩
  · rw [e3, e1]; exact h0 g
  · rw [e3, e1]; exact h1 g
theorem r_ex2 (h48 : m 0 48 = (s : Int)) (hs : s < 401) (hk : m 3 s = 2) (h : f_X10_changesMeter (s : Int) (sset m 0 48 (m 6 s)) (fun σ => Q σ 1)) : f_X10_executes m Q := by
  unfold f_X10_executes
  rw [h48]
  rintro x1 rfl
  refine ⟨by omega, by omega, fun σ1 e1 => ?_⟩
  rw [Int.toNat_natCast] at e1 ⊢
  have a3 : σ1 3 s = 2 := by rw [e1, sset_cell _ _ _ _ (by decide), hk]
  have a4 : σ1 4 s = m 4 s := by rw [e1, sset_cell _ _ _ _ (by decide)]
  have a5 : σ1 5 s = m 5 s := by rw [e1, sset_cell _ _ _ _ (by decide)]
  have a26 : σ1 26 = m 26 := by rw [e1, sset_row _ _ _ (by decide)]
  rw [a3]
  refine ⟨by omega, by omega, ⟨by decide, by decide⟩, fun g => absurd g (by decide), fun g => absurd g (by decide), fun _ => ?_, fun g => absurd g (by decide), fun g => absurd g (by decide), fun g => absurd g (by decide), fun g => absurd g (by decide), fun g => by omega⟩
  rw [e1]; exact h
theorem r_ex3 (h48 : m 0 48 = (s : Int)) (hs : s < 401) (hk : m 3 s = 3) (h : f_X10_holds (s : Int) (sset m 0 48 (m 6 s)) (fun σ r => inR r ∧ ((r = 0 → 0 ≤ (s : Int) ∧ (s : Int) < 401 ∧ f_X10_executes_J159 Q σ (σ 9 s)) ∧ (¬ r = 0 → 0 ≤ (s : Int) ∧ (s : Int) < 401 ∧ f_X10_executes_J159 Q σ (σ 8 s))))) : f_X10_executes m Q := by
  unfold f_X10_executes
  rw [h48]
  rintro x1 rfl
  refine ⟨by omega, by omega, fun σ1 e1 => ?_⟩
  rw [Int.toNat_natCast] at e1 ⊢
  have a3 : σ1 3 s = 3 := by rw [e1, sset_cell _ _ _ _ (by decide), hk]
  have a4 : σ1 4 s = m 4 s := by rw [e1, sset_cell _ _ _ _ (by decide)]
  have a5 : σ1 5 s = m 5 s := by rw [e1, sset_cell _ _ _ _ (by decide)]
  have a26 : σ1 26 = m 26 := by rw [e1, sset_row _ _ _ (by decide)]
  rw [a3]
  refine ⟨by omega, by omega, ⟨by decide, by decide⟩, fun g => absurd g (by decide), fun g => absurd g (by decide), fun g => absurd g (by decide), fun _ => ?_, fun g => absurd g (by decide), fun g => absurd g (by decide), fun g => absurd g (by decide), fun g => by omega⟩
  rw [e1]; exact h
theorem r_ex5 (h48 : m 0 48 = (s : Int)) (hs : s < 401) (hk : m 3 s = 5) (h : f_X10_goes (m 4 s) (sset m 0 48 (m 6 s)) (fun σ => Q σ 1)) : f_X10_executes m Q := by
  unfold f_X10_executes
  rw [h48]
  rintro x1 rfl
  refine ⟨by omega, by omega, fun σ1 e1 => ?_⟩
  rw [Int.toNat_natCast] at e1 ⊢
  have a3 : σ1 3 s = 5 := by rw [e1, sset_cell _ _ _ _ (by decide), hk]
  have a4 : σ1 4 s = m 4 s := by rw [e1, sset_cell _ _ _ _ (by decide)]
  have a5 : σ1 5 s = m 5 s := by rw [e1, sset_cell _ _ _ _ (by decide)]
  have a26 : σ1 26 = m 26 := by rw [e1, sset_row _ _ _ (by decide)]
  rw [a3]
  refine ⟨by omega, by omega, ⟨by decide, by decide⟩, fun g => absurd g (by decide), fun g => absurd g (by decide), fun g => absurd g (by decide), fun g => absurd g (by decide), fun g => absurd g (by decide), fun _ => ?_, fun g => absurd g (by decide), fun g => by omega⟩
  refine ⟨by omega, by omega, ?_⟩
  rw [a4, e1]; exact h
theorem r_ex6 (h48 : m 0 48 = (s : Int)) (hs : s < 401) (hk : m 3 s = 6) (h3 : inR (m 26 3)) (h1 : m 26 3 ≠ -1 → f_X10_goes (m 26 3) (sset m 0 48 (m 6 s)) (fun σ => Q σ 1)) (h0 : m 26 3 = -1 → f_X10_ends 3 (sset m 0 48 (m 6 s)) (fun σ => Q σ 0)) : f_X10_executes m Q := by
  unfold f_X10_executes
  rw [h48]
  rintro x1 rfl
  refine ⟨by omega, by omega, fun σ1 e1 => ?_⟩
  rw [Int.toNat_natCast] at e1 ⊢
  have a3 : σ1 3 s = 6 := by rw [e1, sset_cell _ _ _ _ (by decide), hk]
  have a4 : σ1 4 s = m 4 s := by rw [e1, sset_cell _ _ _ _ (by decide)]
  have a5 : σ1 5 s = m 5 s := by rw [e1, sset_cell _ _ _ _ (by decide)]
  have a26 : σ1 26 = m 26 := by rw [e1, sset_row _ _ _ (by decide)]
  rw [a3]
  refine ⟨by omega, by omega, ⟨by decide, by decide⟩, fun g => absurd g (by decide), fun g => absurd g (by decide), fun g => absurd g (by decide), fun g => absurd g (by decide), fun g => absurd g (by decide), fun g => absurd g (by decide), fun _ => ?_, fun g => by omega⟩
  rw [a26, e1]
  exact ⟨h3, h1, h0⟩
theorem r_ex7 (h48 : m 0 48 = (s : Int)) (hs : s < 401) (hk : m 3 s = 7) (h : Q (sset (sset (sset (sset m 0 48 (m 6 s)) 26 0 2) 26 9 0) 26 1 (m 4 s)) 0) : f_X10_executes m Q := by
  unfold f_X10_executes
  rw [h48]
  rintro x1 rfl
  refine ⟨by omega, by omega, fun σ1 e1 => ?_⟩
  rw [Int.toNat_natCast] at e1 ⊢
  have a3 : σ1 3 s = 7 := by rw [e1, sset_cell _ _ _ _ (by decide), hk]
  have a4 : σ1 4 s = m 4 s := by rw [e1, sset_cell _ _ _ _ (by decide)]
  have a5 : σ1 5 s = m 5 s := by rw [e1, sset_cell _ _ _ _ (by decide)]
  have a26 : σ1 26 = m 26 := by rw [e1, sset_row _ _ _ (by decide)]
  rw [a3]
  refine ⟨by omega, by omega, ⟨by decide, by decide⟩, fun g => absurd g (by decide), fun g => absurd g (by decide), fun g => absurd g (by decide), fun g => absurd g (by decide), fun g => absurd g (by decide), fun g => absurd g (by decide), fun g => absurd g (by decide), fun _ => ?_⟩
  unfold f_X10_ends
  intro σ2 e2 σ3 e3
  refine ⟨by omega, by omega, fun σ4 e4 => ?_⟩
  have b4 : σ3 4 s = m 4 s := by rw [e3, sset_cell _ _ _ _ (by decide), e2, sset_cell _ _ _ _ (by decide), a4]
  rw [b4] at e4
  rw [e4, e3, e2, e1]; exact h
theorem r_ex4 {bar : Int} (h48 : m 0 48 = (s : Int)) (hs : s < 401) (hk : m 3 s = 4) (hc : 0 ≤ m 4 s ∧ m 4 s < 16) (h24 : m 24 (m 4 s).toNat = (s : Int)) (h7 : 0 ≤ m 7 s ∧ m 7 s < 64) (h19 : 0 ≤ m 19 (m 7 s).toNat ∧ m 19 (m 7 s).toNat < 12) (h21 : m 21 (m 19 (m 7 s).toNat).toNat = 0 ∨ m 21 (m 19 (m 7 s).toNat).toNat = 1) (hb : iand32 (ishr32 (m 26 8) (m 4 s)) 1 = 0 ∨ iand32 (ishr32 (m 26 8) (m 4 s)) 1 = 1) (hbar : bar = if m 21 (m 19 (m 7 s).toNat).toNat = 0 then 0 else iand32 (ishr32 (m 26 8) (m 4 s)) 1) (h : f_X10_executes_J225 Q (sset m 0 48 (m 6 s)) (s : Int) bar) : f_X10_executes m Q := by
  unfold f_X10_executes
  rw [h48]
  rintro x1 rfl
  refine ⟨by omega, by omega, fun σ1 e1 => ?_⟩
  rw [Int.toNat_natCast] at e1 ⊢
  have rr : ∀ q, q ≠ 0 → σ1 q = m q := fun q hq => by rw [e1, sset_row _ _ _ hq]
  have a3 : σ1 3 s = 4 := by rw [rr 3 (by decide), hk]
  rw [a3, rr 4 (by decide)]
  refine ⟨by omega, by omega, ⟨by decide, by decide⟩, fun g => absurd g (by decide), fun g => absurd g (by decide), fun g => absurd g (by decide), fun g => absurd g (by decide), fun _ => ?_, fun g => absurd g (by decide), fun g => absurd g (by decide), fun g => by omega⟩
  refine ⟨by omega, by omega, ?_⟩
  unfold f_X10_nodeOfChoice f_X10_executes_J224
  dsimp only
  rw [rr 24 (by decide), h24, Int.toNat_natCast, rr 7 (by decide), rr 19 (by decide), rr 21 (by decide), rr 26 (by decide), rr 4 (by decide), e1]
  refine ⟨hc.1, hc.2, by omega, by omega, h7.1, h7.2, h19.1, h19.2, inR_01 h21, fun g => ?_, fun g => ⟨by omega, by omega, inR_01 hb, fun g2 => ?_, fun g2 => ?_⟩⟩
  · rw [hbar, if_pos g] at h; exact h
  · rw [hbar, if_neg g] at h
    have : iand32 (ishr32 (m 26 8) (m 4 s)) 1 = 0 := by omega
    rw [this] at h; exact h
  · rw [hbar, if_neg g, g2] at h; exact h
theorem t_ex0 {a1 : Int} (hP : isP P) (hD : D = 2 ∨ D = 20) (h0 : c P 0 = (D : Int)) (hx : x < 400) (hk : a1 = 0) (h : f_X4_append (P + 1) (c (D + 2) x) c (fun σ => isS ((σ P 0).toNat) ∧ 0 ≤ (x : Int) ∧ (x : Int) < 400 ∧ Q σ (σ ((σ P 0).toNat + 4) x))) : f_X5_execute P (x : Int) a1 c Q := by
  unfold f_X5_execute
  rw [h0, Int.toNat_natCast, Int.toNat_natCast]
  refine ⟨hP, hD, by omega, by omega, ?_⟩
  rintro x1 rfl
  refine ⟨⟨by omega, by omega⟩, fun _ => ?_, fun g => by omega, fun g => by omega, fun g => by omega, fun g => by omega, fun g => by omega, fun g => by omega, fun g => by omega, fun g => by omega, fun g => by omega, fun g => by omega⟩
  exact h
theorem t_ex1 {a1 : Int} (hP : isP P) (hD : D = 2 ∨ D = 20) (h0 : c P 0 = (D : Int)) (hx : x < 400) (hk : a1 = 1) (h : Q (sset c P 5 (ior32 (c P 5) (ishl32 1 (c (D + 2) x)))) (c (D + 4) x)) : f_X5_execute P (x : Int) a1 c Q := by
  unfold f_X5_execute
  rw [h0, Int.toNat_natCast, Int.toNat_natCast]
  refine ⟨hP, hD, by omega, by omega, ?_⟩
  rintro x1 rfl
  refine ⟨⟨by omega, by omega⟩, fun g => by omega, fun _ => ?_, fun g => by omega, fun g => by omega, fun g => by omega, fun g => by omega, fun g => by omega, fun g => by omega, fun g => by omega, fun g => by omega, fun g => by omega⟩
  intro σ2 e2
  have b0 : σ2 P 0 = (D : Int) := by rw [e2, sset_place _ _ _ (by decide), h0]
  have b4 : σ2 (D + 4) = c (D + 4) := by rw [e2, sset_row _ _ _ (by unfold isP at hP; omega)]
  rw [b0, Int.toNat_natCast, b4, e2]
  exact ⟨hD, by omega, by omega, h⟩
theorem t_ex2 {a1 : Int} (hP : isP P) (hD : D = 2 ∨ D = 20) (h0 : c P 0 = (D : Int)) (hx : x < 400) (hk : a1 = 2) (h : Q (sset c P 5 (iand32 (c P 5) (ixor32 (ishl32 1 (c (D + 2) x)) (-1)))) (c (D + 4) x)) : f_X5_execute P (x : Int) a1 c Q := by
  unfold f_X5_execute
  rw [h0, Int.toNat_natCast, Int.toNat_natCast]
  refine ⟨hP, hD, by omega, by omega, ?_⟩
  rintro x1 rfl
  refine ⟨⟨by omega, by omega⟩, fun g => by omega, fun g => by omega, fun _ => ?_, fun g => by omega, fun g => by omega, fun g => by omega, fun g => by omega, fun g => by omega, fun g => by omega, fun g => by omega, fun g => by omega⟩
  intro σ2 e2
  have b0 : σ2 P 0 = (D : Int) := by rw [e2, sset_place _ _ _ (by decide), h0]
  have b4 : σ2 (D + 4) = c (D + 4) := by rw [e2, sset_row _ _ _ (by unfold isP at hP; omega)]
  rw [b0, Int.toNat_natCast, b4, e2]
  exact ⟨hD, by omega, by omega, h⟩
theorem t_ex3 {a1 : Int} (hP : isP P) (hD : D = 2 ∨ D = 20) (h0 : c P 0 = (D : Int)) (hx : x < 400) (hk : a1 = 3) (h : f_X5_changeMeter P a1 (c (D + 2) x) (c (D + 3) x) c (fun σ => isS ((σ P 0).toNat) ∧ 0 ≤ (x : Int) ∧ (x : Int) < 400 ∧ Q σ (σ ((σ P 0).toNat + 4) x))) : f_X5_execute P (x : Int) a1 c Q := by
  unfold f_X5_execute
  rw [h0, Int.toNat_natCast, Int.toNat_natCast]
  refine ⟨hP, hD, by omega, by omega, ?_⟩
  rintro x1 rfl
  refine ⟨⟨by omega, by omega⟩, fun g => by omega, fun g => by omega, fun g => by omega, fun _ => ?_, fun g => by omega, fun g => by omega, fun g => by omega, fun g => by omega, fun g => by omega, fun g => by omega, fun g => by omega⟩
  exact ⟨by omega, by omega, h⟩
theorem t_ex4 {a1 : Int} (hP : isP P) (hD : D = 2 ∨ D = 20) (h0 : c P 0 = (D : Int)) (hx : x < 400) (hk : a1 = 4) (h : f_X5_changeMeter P a1 (c (D + 2) x) (c (D + 3) x) c (fun σ => isS ((σ P 0).toNat) ∧ 0 ≤ (x : Int) ∧ (x : Int) < 400 ∧ Q σ (σ ((σ P 0).toNat + 4) x))) : f_X5_execute P (x : Int) a1 c Q := by
  unfold f_X5_execute
  rw [h0, Int.toNat_natCast, Int.toNat_natCast]
  refine ⟨hP, hD, by omega, by omega, ?_⟩
  rintro x1 rfl
  refine ⟨⟨by omega, by omega⟩, fun g => by omega, fun g => by omega, fun g => by omega, fun g => by omega, fun _ => ?_, fun g => by omega, fun g => by omega, fun g => by omega, fun g => by omega, fun g => by omega, fun g => by omega⟩
  exact ⟨by omega, by omega, h⟩
theorem t_ex5 {a1 : Int} (hP : isP P) (hD : D = 2 ∨ D = 20) (h0 : c P 0 = (D : Int)) (hx : x < 400) (hk : a1 = 5) (h : f_X5_changeMeter P a1 (c (D + 2) x) (c (D + 3) x) c (fun σ => isS ((σ P 0).toNat) ∧ 0 ≤ (x : Int) ∧ (x : Int) < 400 ∧ Q σ (σ ((σ P 0).toNat + 4) x))) : f_X5_execute P (x : Int) a1 c Q := by
  unfold f_X5_execute
  rw [h0, Int.toNat_natCast, Int.toNat_natCast]
  refine ⟨hP, hD, by omega, by omega, ?_⟩
  rintro x1 rfl
  refine ⟨⟨by omega, by omega⟩, fun g => by omega, fun g => by omega, fun g => by omega, fun g => by omega, fun g => by omega, fun _ => ?_, fun g => by omega, fun g => by omega, fun g => by omega, fun g => by omega, fun g => by omega⟩
  exact ⟨by omega, by omega, h⟩
theorem t_ex6 {a1 : Int} (hP : isP P) (hD : D = 2 ∨ D = 20) (h0 : c P 0 = (D : Int)) (hx : x < 400) (hk : a1 = 6) (h : f_X5_conditionHolds P (x : Int) c (fun σ r => inR r ∧ ((r = 0 → isS ((σ P 0).toNat) ∧ 0 ≤ (x : Int) ∧ (x : Int) < 400 ∧ Q σ (σ ((σ P 0).toNat + 6) x)) ∧ (¬ r = 0 → isS ((σ P 0).toNat) ∧ 0 ≤ (x : Int) ∧ (x : Int) < 400 ∧ Q σ (σ ((σ P 0).toNat + 5) x))))) : f_X5_execute P (x : Int) a1 c Q := by
  unfold f_X5_execute
  rw [h0, Int.toNat_natCast, Int.toNat_natCast]
  refine ⟨hP, hD, by omega, by omega, ?_⟩
  rintro x1 rfl
  refine ⟨⟨by omega, by omega⟩, fun g => by omega, fun g => by omega, fun g => by omega, fun g => by omega, fun g => by omega, fun g => by omega, fun _ => ?_, fun g => by omega, fun g => by omega, fun g => by omega, fun g => by omega⟩
  exact h
theorem t_ex7 {a1 : Int} (hP : isP P) (hD : D = 2 ∨ D = 20) (h0 : c P 0 = (D : Int)) (hx : x < 400) (hk : a1 = 7) (hb : iand32 (ishr32 (c P 7) (c (D + 2) x)) 1 = 0 ∨ iand32 (ishr32 (c P 7) (c (D + 2) x)) 1 = 1) (h1 : iand32 (ishr32 (c P 7) (c (D + 2) x)) 1 ≠ 0 → Q c (c (D + 4) x)) (h : iand32 (ishr32 (c P 7) (c (D + 2) x)) 1 = 0 → f_X5_conditionHolds P (x : Int) c (fun σ r => inR r ∧ ((r = 0 → isS ((σ P 0).toNat) ∧ 0 ≤ (x : Int) ∧ (x : Int) < 400 ∧ Q σ (σ ((σ P 0).toNat + 4) x)) ∧ (¬ r = 0 → ∀ σ9 : St, σ9 = sset σ P 8 (ior32 (σ P 8) (ishl32 1 (c (D + 2) x))) → isS ((σ9 P 0).toNat) ∧ 0 ≤ (x : Int) ∧ (x : Int) < 400 ∧ Q σ9 (σ9 ((σ9 P 0).toNat + 4) x))))) : f_X5_execute P (x : Int) a1 c Q := by
  unfold f_X5_execute
  rw [h0, Int.toNat_natCast, Int.toNat_natCast]
  refine ⟨hP, hD, by omega, by omega, ?_⟩
  rintro x1 rfl
  refine ⟨⟨by omega, by omega⟩, fun g => by omega, fun g => by omega, fun g => by omega, fun g => by omega, fun g => by omega, fun g => by omega, fun g => by omega, fun _ => ?_, fun g => by omega, fun g => by omega, fun g => by omega⟩
  exact ⟨inR_01 hb, fun g => ⟨by omega, by omega, h1 g⟩, h⟩
theorem t_ex8 {a1 : Int} (hP : isP P) (hD : D = 2 ∨ D = 20) (h0 : c P 0 = (D : Int)) (hx : x < 400) (hk : a1 = 8) (h : f_X5_enter P (c (D + 2) x) c Q) : f_X5_execute P (x : Int) a1 c Q := by
  unfold f_X5_execute
  rw [h0, Int.toNat_natCast, Int.toNat_natCast]
  refine ⟨hP, hD, by omega, by omega, ?_⟩
  rintro x1 rfl
  refine ⟨⟨by omega, by omega⟩, fun g => by omega, fun g => by omega, fun g => by omega, fun g => by omega, fun g => by omega, fun g => by omega, fun g => by omega, fun g => by omega, fun _ => ?_, fun g => by omega, fun g => by omega⟩
  exact h
theorem t_ex9 {a1 : Int} (hP : isP P) (hD : D = 2 ∨ D = 20) (h0 : c P 0 = (D : Int)) (hx : x < 400) (hk : a1 = 9) (h4 : inR (c P 4)) (h1 : c P 4 ≠ -1 → f_X5_enter P (c P 4) c Q) (h : c P 4 = -1 → f_X5_endFlow P 3 c Q) : f_X5_execute P (x : Int) a1 c Q := by
  unfold f_X5_execute
  rw [h0, Int.toNat_natCast, Int.toNat_natCast]
  refine ⟨hP, hD, by omega, by omega, ?_⟩
  rintro x1 rfl
  refine ⟨⟨by omega, by omega⟩, fun g => by omega, fun g => by omega, fun g => by omega, fun g => by omega, fun g => by omega, fun g => by omega, fun g => by omega, fun g => by omega, fun g => by omega, fun _ => ?_, fun g => by omega⟩
  exact ⟨h4, h1, h⟩
theorem t_ex10 {a1 : Int} (hP : isP P) (hD : D = 2 ∨ D = 20) (h0 : c P 0 = (D : Int)) (hx : x < 400) (hk : 9 < a1 ∧ a1 < 100) (h : Q (sset (sset (sset c P 2 (c (D + 2) x)) P 1 2) P 8 0) (-1)) : f_X5_execute P (x : Int) a1 c Q := by
  unfold f_X5_execute
  rw [h0, Int.toNat_natCast, Int.toNat_natCast]
  refine ⟨hP, hD, by omega, by omega, ?_⟩
  rintro x1 rfl
  refine ⟨⟨by omega, by omega⟩, fun g => by omega, fun g => by omega, fun g => by omega, fun g => by omega, fun g => by omega, fun g => by omega, fun g => by omega, fun g => by omega, fun g => by omega, fun g => by omega, fun _ => ?_⟩
  unfold f_X5_endFlow
  intro σ2 e2
  refine ⟨hP, fun σ3 e3 σ4 e4 => ?_⟩
  rw [e4, e3, e2]; exact h
end EXE
