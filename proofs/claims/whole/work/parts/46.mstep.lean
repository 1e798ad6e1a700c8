/-! ===== pure layer: the reference's statements, one by one ===== -/
/-- the bounds that the reference's rows need -/
def MB (σ : St) : Prop := 0 ≤ σ 0 15 ∧ σ 0 15 < 401 ∧ 1 ≤ σ 0 39 ∧ σ 0 39 ≤ 6 ∧ 0 ≤ σ 25 ((σ 0 39) - 1).toNat ∧ σ 25 ((σ 0 39) - 1).toNat < 64 ∧ -1 ≤ σ 18 (σ 25 ((σ 0 39) - 1).toNat).toNat ∧ σ 18 (σ 25 ((σ 0 39) - 1).toNat).toNat < 401
theorem MB_fld {σ : St} (h : MB σ) (j : Nat) (v : Int) (h1 : j ≠ 15) (h2 : j ≠ 39) : MB (sset σ 0 j v) := by
  unfold MB at *
  rw [sset_place _ _ _ (Ne.symm h1), sset_place _ _ _ (Ne.symm h2), sset_row (c' := 25) _ _ _ (by decide), sset_row (c' := 18) _ _ _ (by decide)]
  exact h
theorem s_stmtB {σ : St} {Q : St → Int → Prop} {w a b : Int} (h : MB σ) (hQ : Q (mSt σ w a b) (σ 0 15)) : f_X10_statement w a b σ Q := by
  obtain ⟨h1, h2, h3, h4, h5, h6, h7, h8⟩ := h
  exact s_stmt h1 h2 h3 (by omega) h5 h6 h7 h8 hQ
theorem at_37 {σ : St} {v : Int} : sset σ 0 36 v 0 37 = σ 0 37 := sset_place _ _ _ (by decide)
theorem at_x {σ : St} {v : Int} {j : Nat} (h : j ≠ 36) : sset σ 0 36 v 0 j = σ 0 j := sset_place _ _ _ h
theorem dd_36 {σ : St} {v : Int} : sset (sset σ 0 36 v) 0 37 0 0 36 = v := by rw [sset_place _ _ _ (by decide), sset_self]
section MSTEP
variable {T : Nat → Int} {n a : Nat} {z σ : St} {K : St → Prop}
theorem ch_lt {i : Nat} (h : i < n) : ch T n i = T i := by unfold ch; rw [if_pos h]
theorem ch_ge {i : Nat} (h : ¬ i < n) : ch T n i = -1 := by unfold ch; rw [if_neg h]
theorem ch_pos {i : Nat} (h : 0 ≤ ch T n i) : i < n := by
  by_cases q : i < n
  · exact q
  · rw [ch_ge q] at h; omega
theorem PS_dd (hP : PS T n z σ) (v : Int) : PS T n z (sset (sset σ 0 36 v) 0 37 0) := PS_fine (PS_at hP _) _
theorem MB_dd (hB : MB σ) (v : Int) : MB (sset (sset σ 0 36 v) 0 37 0) := MB_fld (MB_fld hB 36 _ (by decide) (by decide)) 37 _ (by decide) (by decide)
/-- what becomes of a failed reading -/
def DE (T : Nat → Int) (n : Nat) (z : St) (K : St → Prop) (e : Nat) : Prop := ∀ σ', PS T n z σ' → σ' 0 36 = (e : Int) → σ' 0 37 = 0 → inR (σ' 0 39) → K σ'
theorem MB_9 (hB : MB σ) : inR (σ 0 39) := ⟨by have := hB.2.2.1; omega, by have := hB.2.2.2.1; omega⟩
theorem DE_st (hP : PS T n z σ) (hB : MB σ) {w x y : Int} {e : Nat} (h : DE T n z K e) : K (mSt (sset (sset σ 0 36 (e : Int)) 0 37 0) w x y) := by
  refine h _ (PS_st (PS_dd hP _)) ?_ ?_ ?_
  · rw [mSt_fld (by decide), dd_36]
  · rw [mSt_fld (by decide), sset_self]
  · rw [mSt_fld (by decide)]; exact MB_9 (MB_dd hB _)
theorem r_line (hP : PS T n z σ) (hB : MB σ) (ha : a < n) (h6 : σ 0 36 = (a : Int)) (h7 : σ 0 37 = 1) (hc1 : 48 ≤ T a) (hc2 : T a ≤ 57) 
    (hy : dg T n a ≤ 2 → K (mSt (sset σ 0 36 ((a + dg T n a : Nat) : Int)) 0 (nm T n a) 0)) (hn : 2 < dg T n a → DE T n z K a) : f_X10_readsStatement (T a) σ K := by
  have hk : sk T n a = a := sk_stop (by omega)
  have hT := hP.1.2.1 a
  unfold f_X10_readsStatement
  refine s_in ⟨by omega, by omega⟩ ⟨by decide, by decide⟩ ⟨by decide, by decide⟩ (fun _ _ => ⟨⟨by decide, by decide⟩, fun c => absurd c (by decide), fun _ => ?_⟩) (fun c => by omega)
  have e := dg_y ha hc1 hc2
  refine s_readsNumber hP.1 (by omega) h6 h7 (fun q1 q2 => ?_) (fun q v => ?_)
  · rw [hk] at q2 ⊢
    exact s_stmtB (MB_fld hB 36 _ (by decide) (by decide)) (hy q2)
  · rw [hk] at q ⊢
    exact s_stmtB (MB_dd hB _) (DE_st hP hB (hn (by omega)))
theorem r_flag (hP : PS T n z σ) (hB : MB σ) (ha : a < n) (h6 : σ 0 36 = (a : Int)) (h7 : σ 0 37 = 1) (hc : T a = 43 ∨ T a = 45) 
    (hy : 97 ≤ ch T n (sk T n (a + 1)) → ch T n (sk T n (a + 1)) ≤ 102 → K (mSt (sset σ 0 36 ((sk T n (a + 1) + 1 : Nat) : Int)) 1 (ch T n (sk T n (a + 1)) - 97) (if T a = 43 then 1 else 0)))
    (hn : (ch T n (sk T n (a + 1)) < 97 ∨ 102 < ch T n (sk T n (a + 1))) → DE T n z K (sk T n (a + 1))) : f_X10_readsStatement (T a) σ K := by
  have key : ∀ x, T a = x → (x = 43 ∨ x = 45) → f_X10_readsStatement_J39 K σ x := by
    intro x hx hx2
    unfold f_X10_readsStatement_J39
    intro σ1 e1
    have e2 : σ1 = sset σ 0 36 ((a + 1 : Nat) : Int) := by rw [e1, h6]; rfl
    have hP1 : PS T n z σ1 := by rw [e2]; exact PS_at hP _
    refine s_readsOf hP1.1 (by omega) (a := a + 1) (by rw [e2, sset_self]) (by rw [e2, at_37]; exact h7) ⟨by decide, by decide⟩ ⟨by decide, by decide⟩ (fun q1 q2 => ?_) (fun q => ?_)
    · have hB1 : MB (sset σ1 0 36 ((sk T n (a + 1) + 1 : Nat) : Int)) := by rw [e2, sset_twice]; exact MB_fld hB 36 _ (by decide) (by decide)
      have := hy q1 q2
      rw [hx] at this
      rw [e2, sset_twice] at hB1 ⊢
      refine ⟨⟨by omega, by omega⟩, fun c => ?_, fun c => ?_⟩
      · rw [if_neg c] at this; exact s_stmtB hB1 this
      · rw [if_pos c] at this; exact s_stmtB hB1 this
    · have hd : ∀ w x y, K (mSt (sset (sset σ1 0 36 ((sk T n (a + 1) : Nat) : Int)) 0 37 0) w x y) := fun w x y => DE_st hP1 (by rw [e2]; exact MB_fld hB 36 _ (by decide) (by decide)) (hn q)
      have hB1 : MB (sset (sset σ1 0 36 ((sk T n (a + 1) : Nat) : Int)) 0 37 0) := by rw [e2]; exact MB_dd (MB_fld hB 36 _ (by decide) (by decide)) _
      exact ⟨⟨by omega, by omega⟩, fun c => s_stmtB hB1 (hd _ _ _), fun c => s_stmtB hB1 (hd _ _ _)⟩
  unfold f_X10_readsStatement
  refine s_in ⟨by omega, by omega⟩ ⟨by decide, by decide⟩ ⟨by decide, by decide⟩ (fun c1 c2 => by omega) (fun c => ⟨⟨by decide, by decide⟩, fun _ => ⟨⟨by omega, by omega⟩, fun q => ?_, fun q => ⟨⟨by omega, by omega⟩, fun q2 => by omega, fun q2 => ?_⟩⟩, fun c => absurd rfl c⟩)
  · exact key _ rfl (Or.inl q)
  · exact key _ rfl (Or.inr q2)
theorem r_meter (hP : PS T n z σ) (hB : MB σ) (ha : a < n) (h6 : σ 0 36 = (a : Int)) (h7 : σ 0 37 = 1) (hc1 : 120 ≤ T a) (hc2 : T a ≤ 122)
    (hy : ∀ s, ch T n (sk T n (a + 1)) = s → (s = 61 ∨ s = 43 ∨ s = 45) → 48 ≤ ch T n (sk T n (sk T n (a + 1) + 1)) → ch T n (sk T n (sk T n (a + 1) + 1)) ≤ 57 → K (sset (mSt (sset σ 0 36 ((sk T n (sk T n (a + 1) + 1) + 1 : Nat) : Int)) 2 (T a - 120) (ch T n (sk T n (sk T n (a + 1) + 1)) - 48)) 8 (σ 0 15).toNat s))
    (hn1 : (ch T n (sk T n (a + 1)) ≠ 61 ∧ ch T n (sk T n (a + 1)) ≠ 43 ∧ ch T n (sk T n (a + 1)) ≠ 45) → DE T n z K (sk T n (a + 1)))
    (hn2 : (ch T n (sk T n (a + 1)) = 61 ∨ ch T n (sk T n (a + 1)) = 43 ∨ ch T n (sk T n (a + 1)) = 45) → (ch T n (sk T n (sk T n (a + 1) + 1)) < 48 ∨ 57 < ch T n (sk T n (sk T n (a + 1) + 1))) → DE T n z K (sk T n (sk T n (a + 1) + 1))) : f_X10_readsStatement (T a) σ K := by
  have hc0 := ch_inR (n := n) (i := sk T n (a + 1)) hP.1.2.1
  have hle : sk T n (a + 1) ≤ n := sk_le (by omega)
  have hss := sk_sk (T := T) (n := n) (i := a + 1) (by omega)
  have good : ∀ s, ch T n (sk T n (a + 1)) = s → (s = 61 ∨ s = 43 ∨ s = 45) → f_X10_readsStatement_J129 K (sset σ 0 36 ((sk T n (a + 1) : Nat) : Int)) (T a) s 1 := by
    intro s hs hs2
    have hlt : sk T n (a + 1) < n := ch_pos (T := T) (by omega)
    unfold f_X10_readsStatement_J129
    refine s_req1 (by rw [at_37]; exact h7) ?_
    rw [at_37, h7, sset_self]
    refine ⟨⟨by decide, by decide⟩, fun c => absurd c (by decide), fun _ => ?_⟩
    unfold f_X10_readsStatement_J149
    intro σ1 e1
    rw [sset_twice] at e1
    have e2 : σ1 = sset σ 0 36 ((sk T n (a + 1) + 1 : Nat) : Int) := e1
    have hP1 : PS T n z σ1 := by rw [e2]; exact PS_at hP _
    refine s_readsOf hP1.1 (by omega) (a := sk T n (a + 1) + 1) (by rw [e2, sset_self]) (by rw [e2, at_37]; exact h7) ⟨by decide, by decide⟩ ⟨by decide, by decide⟩ (fun q1 q2 => ?_) (fun q => ?_)
    · have := hy s hs hs2 q1 q2
      rw [e2, sset_twice]
      refine s_stmtB (MB_fld hB 36 _ (by decide) (by decide)) ?_
      rw [at_x (by decide)]
      have b1 := hB.1
      have b2 := hB.2.1
      refine ⟨b1, b2, fun σ4 e4 => ?_⟩
      rw [e4]; exact this
    · have hB1 : MB (sset (sset σ1 0 36 ((sk T n (sk T n (a + 1) + 1) : Nat) : Int)) 0 37 0) := by rw [e2]; exact MB_dd (MB_fld hB 36 _ (by decide) (by decide)) _
      have hd := hn2 (by omega) q
      refine s_stmtB hB1 ?_
      have e15 : sset (sset σ1 0 36 ((sk T n (sk T n (a + 1) + 1) : Nat) : Int)) 0 37 0 0 15 = σ 0 15 := by rw [sset_place _ _ _ (by decide), at_x (by decide), e2, at_x (by decide)]
      rw [e15]
      refine ⟨hB.1, hB.2.1, fun σ4 e4 => ?_⟩
      refine hd _ ?_ ?_ ?_ ?_
      · rw [e4]; exact PS_cell (PS_st (PS_dd hP1 _)) _ _ _ (by decide) (by decide)
      · rw [e4, sset_row _ _ _ (by decide), mSt_fld (by decide), dd_36]
      · rw [e4, sset_row _ _ _ (by decide), mSt_fld (by decide), sset_self]
      · rw [e4, sset_row _ _ _ (by decide), mSt_fld (by decide)]; exact MB_9 hB1
  have bad : (ch T n (sk T n (a + 1)) ≠ 61 ∧ ch T n (sk T n (a + 1)) ≠ 43 ∧ ch T n (sk T n (a + 1)) ≠ 45) → f_X10_readsStatement_J129 K (sset σ 0 36 ((sk T n (a + 1) : Nat) : Int)) (T a) (ch T n (sk T n (a + 1))) 0 := by
    intro hs
    have hd := hn1 hs
    unfold f_X10_readsStatement_J129
    refine s_req0 (by rw [at_37]; exact Or.inr h7) ?_
    rw [sset_self, dd_36]
    refine ⟨⟨by decide, by decide⟩, fun _ => ?_, fun c => absurd rfl c⟩
    unfold f_X10_readsStatement_J149
    intro σ1 e1
    rw [Int.add_zero, sset_id _ _ _ dd_36] at e1
    have hP1 : PS T n z σ1 := by rw [e1]; exact PS_dd hP _
    have hB1 : MB σ1 := by rw [e1]; exact MB_dd hB _
    refine s_readsOfD hP1.1 hle (by rw [e1, dd_36]) hss (by rw [e1, sset_self]) ⟨by decide, by decide⟩ ⟨by decide, by decide⟩ ?_
    refine s_stmtB hB1 ?_
    refine ⟨hB1.1, hB1.2.1, fun σ4 e4 => ?_⟩
    refine hd _ ?_ ?_ ?_ ?_
    · rw [e4]; exact PS_cell (PS_st hP1) _ _ _ (by decide) (by decide)
    · rw [e4, sset_row _ _ _ (by decide), mSt_fld (by decide), e1, dd_36]
    · rw [e4, sset_row _ _ _ (by decide), mSt_fld (by decide), e1, sset_self]
    · rw [e4, sset_row _ _ _ (by decide), mSt_fld (by decide)]; exact MB_9 hB1
  unfold f_X10_readsStatement
  refine s_in ⟨by omega, by omega⟩ ⟨by decide, by decide⟩ ⟨by decide, by decide⟩ (fun c1 c2 => by omega) (fun c => ⟨⟨by decide, by decide⟩, fun _ => ⟨⟨by omega, by omega⟩, fun q => by omega, fun q => ⟨⟨by omega, by omega⟩, fun q2 => ?_, fun q2 => by omega⟩⟩, fun c => absurd rfl c⟩)
  refine s_in ⟨by omega, by omega⟩ ⟨by decide, by decide⟩ ⟨by decide, by decide⟩ (fun c1 c2 => ?_) (fun c => by omega)
  refine ⟨⟨by decide, by decide⟩, fun c => absurd c (by decide), fun _ σ1 e1 => ?_⟩
  have e2 : σ1 = sset σ 0 36 ((a + 1 : Nat) : Int) := by rw [e1, h6]; rfl
  have hP1 : PS T n z σ1 := by rw [e2]; exact PS_at hP _
  refine s_here hP1.1 (a := a + 1) (by omega) (by rw [e2, sset_self]) ?_
  rw [e2, sset_twice]
  unfold f_X10_readsStatement_J124
  exact ⟨hc0, fun q => good _ rfl (by omega), fun q => ⟨hc0, fun q2 => good _ rfl (by omega), fun q2 => ⟨hc0, fun q3 => bad ⟨q, q2, q3⟩, fun q3 => good _ rfl (by omega)⟩⟩⟩
theorem r_hub (hP : PS T n z σ) (hB : MB σ) (ha : a < n) (h6 : σ 0 36 = (a : Int)) (h7 : σ 0 37 = 1) (hc : T a = 60)
    (hy : K (mSt (sset σ 0 36 ((a + 1 : Nat) : Int)) 6 0 0)) : f_X10_readsStatement (T a) σ K := by
  rw [hc]
  unfold f_X10_readsStatement
  refine s_in ⟨by omega, by omega⟩ ⟨by decide, by decide⟩ ⟨by decide, by decide⟩ (fun c1 c2 => by omega) (fun c => ⟨⟨by decide, by decide⟩, fun _ => ⟨⟨by omega, by omega⟩, fun q => by omega, fun q => ⟨⟨by omega, by omega⟩, fun q2 => ?_, fun q2 => by omega⟩⟩, fun c => absurd rfl c⟩)
  refine s_in ⟨by omega, by omega⟩ ⟨by decide, by decide⟩ ⟨by decide, by decide⟩ (fun c1 c2 => by omega) (fun c => ?_)
  refine ⟨⟨by decide, by decide⟩, fun _ => ⟨⟨by omega, by omega⟩, fun _ => ⟨⟨by omega, by omega⟩, fun _ => ⟨⟨by omega, by omega⟩, fun _ => ⟨⟨by omega, by omega⟩, fun q => absurd rfl q, fun _ σ6 e6 => ?_⟩, fun q => by omega⟩, fun q => by omega⟩, fun q => by omega⟩, fun c => absurd rfl c⟩
  have e2 : σ6 = sset σ 0 36 ((a + 1 : Nat) : Int) := by rw [e6, h6]; rfl
  rw [e2]
  exact s_stmtB (MB_fld hB 36 _ (by decide) (by decide)) hy
theorem r_go (hP : PS T n z σ) (hB : MB σ) (ha : a < n) (h6 : σ 0 36 = (a : Int)) (h7 : σ 0 37 = 1) (hc : T a = 62)
    (hy : 65 ≤ ch T n (sk T n (a + 1)) → ch T n (sk T n (a + 1)) ≤ 76 → K (mSt (sset σ 0 36 ((sk T n (a + 1) + 1 : Nat) : Int)) 5 (ch T n (sk T n (a + 1)) - 65) ((sk T n (a + 1) : Nat) : Int)))
    (hn : (ch T n (sk T n (a + 1)) < 65 ∨ 76 < ch T n (sk T n (a + 1))) → DE T n z K (sk T n (a + 1))) : f_X10_readsStatement (T a) σ K := by
  rw [hc]
  unfold f_X10_readsStatement
  refine s_in ⟨by omega, by omega⟩ ⟨by decide, by decide⟩ ⟨by decide, by decide⟩ (fun c1 c2 => by omega) (fun c => ⟨⟨by decide, by decide⟩, fun _ => ⟨⟨by omega, by omega⟩, fun q => by omega, fun q => ⟨⟨by omega, by omega⟩, fun q2 => ?_, fun q2 => by omega⟩⟩, fun c => absurd rfl c⟩)
  refine s_in ⟨by omega, by omega⟩ ⟨by decide, by decide⟩ ⟨by decide, by decide⟩ (fun c1 c2 => by omega) (fun c => ?_)
  refine ⟨⟨by decide, by decide⟩, fun _ => ⟨⟨by omega, by omega⟩, fun _ => ⟨⟨by omega, by omega⟩, fun _ => ⟨⟨by omega, by omega⟩, fun q => absurd rfl q, fun _ σ8 e8 => ?_⟩, fun q => by omega⟩, fun q => by omega⟩, fun c => absurd rfl c⟩
  have e2 : σ8 = sset σ 0 36 ((a + 1 : Nat) : Int) := by rw [e8, h6]; rfl
  have hP1 : PS T n z σ8 := by rw [e2]; exact PS_at hP _
  refine s_readsOf hP1.1 (a := a + 1) (by omega) (by rw [e2, sset_self]) (by rw [e2, at_37]; exact h7) ⟨by decide, by decide⟩ ⟨by decide, by decide⟩ (fun q1 q2 => ?_) (fun q => ?_)
  · have := hy q1 q2
    rw [e2, sset_twice, sset_self]
    refine s_stmtB (MB_fld hB 36 _ (by decide) (by decide)) ?_
    have e : ((sk T n (a + 1) + 1 : Nat) : Int) - 1 = ((sk T n (a + 1) : Nat) : Int) := by omega
    rw [e]; exact this
  · have hB1 : MB (sset (sset σ8 0 36 ((sk T n (a + 1) : Nat) : Int)) 0 37 0) := by rw [e2]; exact MB_dd (MB_fld hB 36 _ (by decide) (by decide)) _
    exact s_stmtB hB1 (DE_st hP1 (by rw [e2]; exact MB_fld hB 36 _ (by decide) (by decide)) (hn q))
theorem r_ending (hP : PS T n z σ) (hB : MB σ) (ha : a < n) (h6 : σ 0 36 = (a : Int)) (h7 : σ 0 37 = 1) (hb : T a ≠ 32) (hc1 : T a < 48 ∨ 57 < T a) (hc2 : T a < 120 ∨ 122 < T a) (hc3 : T a ≠ 43 ∧ T a ≠ 45 ∧ T a ≠ 63 ∧ T a ≠ 91 ∧ T a ≠ 62 ∧ T a ≠ 60)
    (hy : T a = 46 → 48 ≤ ch T n (sk T n (a + 1)) → ch T n (sk T n (a + 1)) ≤ 57 → K (mSt (sset σ 0 36 ((sk T n (a + 1) + 1 : Nat) : Int)) 7 (ch T n (sk T n (a + 1)) - 48) 0))
    (hn1 : T a ≠ 46 → DE T n z K a)
    (hn2 : T a = 46 → (ch T n (sk T n (a + 1)) < 48 ∨ 57 < ch T n (sk T n (a + 1))) → DE T n z K (sk T n (a + 1))) : f_X10_readsStatement (T a) σ K := by
  have hT := hP.1.2.1 a
  have hk : sk T n a = a := sk_stop hb
  unfold f_X10_readsStatement
  refine s_in ⟨by omega, by omega⟩ ⟨by decide, by decide⟩ ⟨by decide, by decide⟩ (fun c1 c2 => by omega) (fun c => ⟨⟨by decide, by decide⟩, fun _ => ⟨⟨by omega, by omega⟩, fun q => by omega, fun q => ⟨⟨by omega, by omega⟩, fun q2 => ?_, fun q2 => by omega⟩⟩, fun c => absurd rfl c⟩)
  refine s_in ⟨by omega, by omega⟩ ⟨by decide, by decide⟩ ⟨by decide, by decide⟩ (fun c1 c2 => by omega) (fun c => ?_)
  refine ⟨⟨by decide, by decide⟩, fun _ => ⟨⟨by omega, by omega⟩, fun _ => ⟨⟨by omega, by omega⟩, fun _ => ⟨⟨by omega, by omega⟩, fun _ => ⟨⟨by omega, by omega⟩, fun _ => ?_, fun q => by omega⟩, fun q => by omega⟩, fun q => by omega⟩, fun q => by omega⟩, fun c => absurd rfl c⟩
  refine s_reads hP.1 (by omega) h6 h7 ⟨by decide, by decide⟩ (fun q => ?_) (fun q => ?_)
  · rw [hk, ch_lt ha] at q
    rw [hk]
    have hP1 : PS T n z (sset σ 0 36 ((a + 1 : Nat) : Int)) := PS_at hP _
    refine s_readsOf hP1.1 (a := a + 1) (by omega) (by rw [sset_self]) (by rw [at_37]; exact h7) ⟨by decide, by decide⟩ ⟨by decide, by decide⟩ (fun q1 q2 => ?_) (fun q1 => ?_)
    · have := hy q q1 q2
      rw [sset_twice]
      exact s_stmtB (MB_fld hB 36 _ (by decide) (by decide)) this
    · exact s_stmtB (MB_dd (MB_fld hB 36 _ (by decide) (by decide)) _) (DE_st hP1 (MB_fld hB 36 _ (by decide) (by decide)) (hn2 q q1))
  · rw [hk, ch_lt ha] at q
    rw [hk]
    have hd := hn1 q
    refine s_readsOfD (PS_dd hP _).1 (a := a) (by omega) dd_36 hk (sset_self _ _ _ _) ⟨by decide, by decide⟩ ⟨by decide, by decide⟩ ?_
    exact s_stmtB (MB_dd hB _) (DE_st hP hB hd)
end MSTEP
