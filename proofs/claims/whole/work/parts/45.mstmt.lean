/-! ===== pure layer: the reference's tables ===== -/
/-- the state behind statement(w, a, b) -/
def mSt9 (σ : St) (w a b : Int) : St := sset (sset (sset (sset (sset (sset (sset (sset (sset σ 3 (σ 0 15).toNat w) 4 (σ 0 15).toNat a) 5 (σ 0 15).toNat b) 6 (σ 0 15).toNat (-1)) 7 (σ 0 15).toNat (σ 25 ((σ 0 39) - 1).toNat)) 8 (σ 0 15).toNat (-1)) 9 (σ 0 15).toNat (-1)) 10 (σ 0 15).toNat (σ 0 19)) 11 (σ 0 15).toNat (σ 0 19)
def mSt10 (σ : St) (w a b : Int) : St := if σ 18 (σ 25 ((σ 0 39) - 1).toNat).toNat = -1 then sset (mSt9 σ w a b) 17 (σ 25 ((σ 0 39) - 1).toNat).toNat (σ 0 15) else sset (mSt9 σ w a b) 6 (σ 18 (σ 25 ((σ 0 39) - 1).toNat).toNat).toNat (σ 0 15)
def mSt (σ : St) (w a b : Int) : St := sset (sset (mSt10 σ w a b) 18 (σ 25 ((σ 0 39) - 1).toNat).toNat (σ 0 15)) 0 15 (σ 0 15 + 1)
theorem mSt9_row {σ : St} {w a b : Int} {c : Nat} (h : c < 3 ∨ 11 < c) : mSt9 σ w a b c = σ c := by
  unfold mSt9
  rw [sset_row _ _ _ (by omega), sset_row _ _ _ (by omega), sset_row _ _ _ (by omega), sset_row _ _ _ (by omega), sset_row _ _ _ (by omega), sset_row _ _ _ (by omega), sset_row _ _ _ (by omega), sset_row _ _ _ (by omega), sset_row _ _ _ (by omega)]
theorem mSt10_row {σ : St} {w a b : Int} {c : Nat} (h : c < 3 ∨ 11 < c) (h2 : c ≠ 17) : mSt10 σ w a b c = σ c := by
  unfold mSt10
  by_cases q : σ 18 (σ 25 ((σ 0 39) - 1).toNat).toNat = -1
  · rw [if_pos q, sset_row _ _ _ (by omega), mSt9_row h]
  · rw [if_neg q, sset_row _ _ _ (by omega), mSt9_row h]
theorem mSt_row {σ : St} {w a b : Int} {c : Nat} (h : c < 3 ∨ 11 < c) (h0 : c ≠ 0) (h2 : c ≠ 17) (h3 : c ≠ 18) : mSt σ w a b c = σ c := by
  unfold mSt
  rw [sset_row _ _ _ h0, sset_row _ _ _ h3, mSt10_row h h2]
theorem mSt_fld {σ : St} {w a b : Int} {j : Nat} (h : j ≠ 15) : mSt σ w a b 0 j = σ 0 j := by
  unfold mSt
  rw [sset_place _ _ _ h, sset_row _ _ _ (by decide), mSt10_row (by omega) (by omega)]
theorem mSt_15 {σ : St} {w a b : Int} : mSt σ w a b 0 15 = σ 0 15 + 1 := by unfold mSt; rw [sset_self]
theorem mSt_18 {σ : St} {w a b : Int} : mSt σ w a b 18 = va_up (σ 18) (σ 25 ((σ 0 39) - 1).toNat).toNat (σ 0 15) := by
  unfold mSt
  rw [sset_row _ _ _ (by decide)]
  unfold sset
  rw [vu_eq, mSt10_row (by omega) (by omega)]
theorem mSt_17 {σ : St} {w a b : Int} : mSt σ w a b 17 = if σ 18 (σ 25 ((σ 0 39) - 1).toNat).toNat = -1 then va_up (σ 17) (σ 25 ((σ 0 39) - 1).toNat).toNat (σ 0 15) else σ 17 := by
  unfold mSt mSt10
  rw [sset_row _ _ _ (by decide), sset_row _ _ _ (by decide)]
  by_cases q : σ 18 (σ 25 ((σ 0 39) - 1).toNat).toNat = -1
  · rw [if_pos q, if_pos q]; unfold sset; rw [vu_eq]; rw [mSt9_row (by omega)]
  · rw [if_neg q, if_neg q, sset_row _ _ _ (by decide), mSt9_row (by omega)]
theorem mSt_k {σ : St} {w a b : Int} {c : Nat} (h : c = 3 ∨ c = 4 ∨ c = 5 ∨ c = 7 ∨ c = 8 ∨ c = 9 ∨ c = 10 ∨ c = 11) : mSt σ w a b c = mSt9 σ w a b c := by
  unfold mSt mSt10
  rw [sset_row _ _ _ (by omega), sset_row _ _ _ (by omega)]
  by_cases q : σ 18 (σ 25 ((σ 0 39) - 1).toNat).toNat = -1
  · rw [if_pos q, sset_row _ _ _ (by omega)]
  · rw [if_neg q, sset_row _ _ _ (by omega)]
theorem sset_same (σ : St) (c j : Nat) (v : Int) : sset σ c j v c = va_up (σ c) j v := by unfold sset; rw [vu_eq]
theorem mSt_3 {σ : St} {w a b : Int} : mSt σ w a b 3 = va_up (σ 3) (σ 0 15).toNat w := by
  rw [mSt_k (by omega)]; unfold mSt9; rw [sset_row _ _ _ (by decide), sset_row _ _ _ (by decide), sset_row _ _ _ (by decide), sset_row _ _ _ (by decide), sset_row _ _ _ (by decide), sset_row _ _ _ (by decide), sset_row _ _ _ (by decide), sset_row _ _ _ (by decide), sset_same]
theorem mSt_4 {σ : St} {w a b : Int} : mSt σ w a b 4 = va_up (σ 4) (σ 0 15).toNat a := by
  rw [mSt_k (by omega)]; unfold mSt9; rw [sset_row _ _ _ (by decide), sset_row _ _ _ (by decide), sset_row _ _ _ (by decide), sset_row _ _ _ (by decide), sset_row _ _ _ (by decide), sset_row _ _ _ (by decide), sset_row _ _ _ (by decide), sset_same, sset_row _ _ _ (by decide)]
theorem mSt_5 {σ : St} {w a b : Int} : mSt σ w a b 5 = va_up (σ 5) (σ 0 15).toNat b := by
  rw [mSt_k (by omega)]; unfold mSt9; rw [sset_row _ _ _ (by decide), sset_row _ _ _ (by decide), sset_row _ _ _ (by decide), sset_row _ _ _ (by decide), sset_row _ _ _ (by decide), sset_row _ _ _ (by decide), sset_same, sset_row _ _ _ (by decide), sset_row _ _ _ (by decide)]
theorem mSt_7 {σ : St} {w a b : Int} : mSt σ w a b 7 = va_up (σ 7) (σ 0 15).toNat (σ 25 ((σ 0 39) - 1).toNat) := by
  rw [mSt_k (by omega)]; unfold mSt9; rw [sset_row _ _ _ (by decide), sset_row _ _ _ (by decide), sset_row _ _ _ (by decide), sset_row _ _ _ (by decide), sset_same, sset_row _ _ _ (by decide), sset_row _ _ _ (by decide), sset_row _ _ _ (by decide), sset_row _ _ _ (by decide)]
theorem mSt_8 {σ : St} {w a b : Int} : mSt σ w a b 8 = va_up (σ 8) (σ 0 15).toNat (-1) := by
  rw [mSt_k (by omega)]; unfold mSt9; rw [sset_row _ _ _ (by decide), sset_row _ _ _ (by decide), sset_row _ _ _ (by decide), sset_same, sset_row _ _ _ (by decide), sset_row _ _ _ (by decide), sset_row _ _ _ (by decide), sset_row _ _ _ (by decide), sset_row _ _ _ (by decide)]
theorem mSt_9 {σ : St} {w a b : Int} : mSt σ w a b 9 = va_up (σ 9) (σ 0 15).toNat (-1) := by
  rw [mSt_k (by omega)]; unfold mSt9; rw [sset_row _ _ _ (by decide), sset_row _ _ _ (by decide), sset_same, sset_row _ _ _ (by decide), sset_row _ _ _ (by decide), sset_row _ _ _ (by decide), sset_row _ _ _ (by decide), sset_row _ _ _ (by decide), sset_row _ _ _ (by decide)]
theorem mSt_10 {σ : St} {w a b : Int} : mSt σ w a b 10 = va_up (σ 10) (σ 0 15).toNat (σ 0 19) := by
  rw [mSt_k (by omega)]; unfold mSt9; rw [sset_row _ _ _ (by decide), sset_same, sset_row _ _ _ (by decide), sset_row _ _ _ (by decide), sset_row _ _ _ (by decide), sset_row _ _ _ (by decide), sset_row _ _ _ (by decide), sset_row _ _ _ (by decide), sset_row _ _ _ (by decide)]
theorem mSt_11 {σ : St} {w a b : Int} : mSt σ w a b 11 = va_up (σ 11) (σ 0 15).toNat (σ 0 19) := by
  rw [mSt_k (by omega)]; unfold mSt9; rw [sset_same, sset_row _ _ _ (by decide), sset_row _ _ _ (by decide), sset_row _ _ _ (by decide), sset_row _ _ _ (by decide), sset_row _ _ _ (by decide), sset_row _ _ _ (by decide), sset_row _ _ _ (by decide), sset_row _ _ _ (by decide)]
theorem mSt9_6 {σ : St} {w a b : Int} : mSt9 σ w a b 6 = va_up (σ 6) (σ 0 15).toNat (-1) := by
  unfold mSt9; rw [sset_row _ _ _ (by decide), sset_row _ _ _ (by decide), sset_row _ _ _ (by decide), sset_row _ _ _ (by decide), sset_row _ _ _ (by decide), sset_same, sset_row _ _ _ (by decide), sset_row _ _ _ (by decide), sset_row _ _ _ (by decide)]
theorem mSt_6 {σ : St} {w a b : Int} : mSt σ w a b 6 = if σ 18 (σ 25 ((σ 0 39) - 1).toNat).toNat = -1 then va_up (σ 6) (σ 0 15).toNat (-1) else va_up (va_up (σ 6) (σ 0 15).toNat (-1)) (σ 18 (σ 25 ((σ 0 39) - 1).toNat).toNat).toNat (σ 0 15) := by
  unfold mSt mSt10
  rw [sset_row _ _ _ (by decide), sset_row _ _ _ (by decide)]
  by_cases q : σ 18 (σ 25 ((σ 0 39) - 1).toNat).toNat = -1
  · rw [if_pos q, if_pos q, sset_row _ _ _ (by decide), mSt9_6]
  · rw [if_neg q, if_neg q, sset_same, mSt9_6]
theorem s_stmt {σ : St} {Q : St → Int → Prop} {w a b : Int} (hn : 0 ≤ σ 0 15) (hn2 : σ 0 15 < 401) (hd : 1 ≤ σ 0 39) (hd2 : σ 0 39 ≤ 8) (hb : 0 ≤ σ 25 ((σ 0 39) - 1).toNat) (hb2 : σ 25 ((σ 0 39) - 1).toNat < 64) (hl : -1 ≤ σ 18 (σ 25 ((σ 0 39) - 1).toNat).toNat) (hl2 : σ 18 (σ 25 ((σ 0 39) - 1).toNat).toNat < 401) (hQ : Q (mSt σ w a b) (σ 0 15)) : f_X10_statement w a b σ Q := by
  unfold f_X10_statement
  rintro x1 rfl
  refine ⟨by omega, by omega, ?_⟩
  rintro x2 rfl
  refine ⟨hn, hn2, ?_⟩; rintro σ1 e1
  refine ⟨hn, hn2, ?_⟩; rintro σ2 e2
  refine ⟨hn, hn2, ?_⟩; rintro σ3 e3
  refine ⟨hn, hn2, ?_⟩; rintro σ4 e4
  refine ⟨hn, hn2, ?_⟩; rintro σ5 e5
  refine ⟨hn, hn2, ?_⟩; rintro σ6 e6
  refine ⟨hn, hn2, ?_⟩; rintro σ7 e7
  refine ⟨hn, hn2, ?_⟩; rintro σ8 e8
  refine ⟨hn, hn2, ?_⟩; rintro σ9 e9
  have k7 : σ7 0 19 = σ 0 19 := by rw [e7, e6, e5, e4, e3, e2, e1, sset_row _ _ _ (by decide), sset_row _ _ _ (by decide), sset_row _ _ _ (by decide), sset_row _ _ _ (by decide), sset_row _ _ _ (by decide), sset_row _ _ _ (by decide), sset_row _ _ _ (by decide)]
  have k8 : σ8 0 19 = σ 0 19 := by rw [e8, sset_row _ _ _ (by decide), k7]
  have h9 : σ9 = mSt9 σ w a b := by rw [e9, k8, e8, k7, e7, e6, e5, e4, e3, e2, e1]; rfl
  rw [h9, mSt9_row (by omega)]
  have hf : ∀ σ10, σ10 = mSt10 σ w a b → f_X10_statement_J135 Q σ10 (σ 0 15) (σ 25 ((σ 0 39) - 1).toNat) := by
    intro σ10 e
    unfold f_X10_statement_J135
    refine ⟨hb, hb2, ?_⟩
    rintro τ1 rfl τ2 rfl
    have : sset σ10 18 (σ 25 ((σ 0 39) - 1).toNat).toNat (σ 0 15) 0 15 = σ 0 15 := by rw [sset_row _ _ _ (by decide), e, mSt10_row (by omega) (by omega)]
    rw [this, e]
    exact hQ
  refine ⟨hb, hb2, ⟨by omega, by omega⟩, fun c => ⟨hb, hb2, by omega, by omega, fun τ e => hf τ ?_⟩, fun c => ⟨hb, hb2, fun τ e => hf τ ?_⟩⟩
  · rw [e]; unfold mSt10; rw [if_neg c]
  · rw [e]; unfold mSt10; rw [if_pos c]
theorem PS_st {T : Nat → Int} {n : Nat} {z σ : St} {w a b : Int} (h : PS T n z σ) : PS T n z (mSt σ w a b) := by
  unfold mSt mSt10 mSt9
  refine PS_fld (PS_cell ?_ 18 _ _ (by decide) (by decide)) 15 _ rfl (by decide) (by decide)
  by_cases q : σ 18 (σ 25 ((σ 0 39) - 1).toNat).toNat = -1
  · rw [if_pos q]
    iterate 10 refine PS_cell ?_ _ _ _ (by decide) (by decide)
    exact h
  · rw [if_neg q]
    iterate 10 refine PS_cell ?_ _ _ _ (by decide) (by decide)
    exact h
/-- the state behind newBlock -/
def mBk (σ : St) (k o v : Int) : St := sset (sset (sset (sset (sset (sset (sset (sset σ 15 (σ 0 25).toNat k) 16 (σ 0 25).toNat o) 17 (σ 0 25).toNat (-1)) 18 (σ 0 25).toNat (-1)) 19 (σ 0 25).toNat v) 25 (σ 0 39).toNat (σ 0 25)) 0 39 (σ 0 39 + 1)) 0 25 (σ 0 25 + 1)
theorem s_newBlock {σ : St} {Q : St → Prop} {k o v : Int} (hb : 0 ≤ σ 0 25) (hb2 : σ 0 25 < 64) (hd : 0 ≤ σ 0 39) (hd2 : σ 0 39 < 8) (hQ : Q (mBk σ k o v)) : f_X10_newBlock k o v σ Q := by
  unfold f_X10_newBlock
  refine ⟨hb, hb2, ?_⟩
  rintro σ1 e1
  have r1 : σ1 0 = σ 0 := by rw [e1, sset_row _ _ _ (by decide)]
  rw [r1]; refine ⟨hb, hb2, ?_⟩
  rintro σ2 e2
  have r2 : σ2 0 = σ 0 := by rw [e2, sset_row _ _ _ (by decide), r1]
  rw [r2]; refine ⟨hb, hb2, ?_⟩
  rintro σ3 e3
  have r3 : σ3 0 = σ 0 := by rw [e3, sset_row _ _ _ (by decide), r2]
  rw [r3]; refine ⟨hb, hb2, ?_⟩
  rintro σ4 e4
  have r4 : σ4 0 = σ 0 := by rw [e4, sset_row _ _ _ (by decide), r3]
  rw [r4]; refine ⟨hb, hb2, ?_⟩
  rintro σ5 e5
  have r5 : σ5 0 = σ 0 := by rw [e5, sset_row _ _ _ (by decide), r4]
  rw [r5]; refine ⟨hd, hd2, ?_⟩
  rintro σ6 e6
  have r6 : σ6 0 = σ 0 := by rw [e6, sset_row _ _ _ (by decide), r5]
  rw [r6]
  rintro σ7 e7
  have r7 : σ7 0 25 = σ 0 25 := by rw [e7, sset_place _ _ _ (by decide), r6]
  rw [r7]
  rintro σ8 e8
  rw [e8, e7, e6, e5, e4, e3, e2, e1]
  exact hQ
theorem PS_bk {T : Nat → Int} {n : Nat} {z σ : St} {k o v : Int} (h : PS T n z σ) : PS T n z (mBk σ k o v) := by
  unfold mBk
  refine PS_fld (PS_fld ?_ 39 _ rfl (by decide) (by decide)) 25 _ rfl (by decide) (by decide)
  iterate 6 refine PS_cell ?_ _ _ _ (by decide) (by decide)
  exact h
def mTm (σ : St) (k o v : Int) : St := sset (sset (sset (sset σ 12 (σ 0 19).toNat k) 13 (σ 0 19).toNat o) 14 (σ 0 19).toNat v) 0 19 (σ 0 19 + 1)
theorem s_term {σ : St} {Q : St → Prop} {k o v : Int} (hb : 0 ≤ σ 0 19) (hb2 : σ 0 19 < 401) (hQ : Q (mTm σ k o v)) : f_X10_term k o v σ Q := by
  unfold f_X10_term
  refine ⟨hb, hb2, ?_⟩
  rintro σ1 e1
  have r1 : σ1 0 = σ 0 := by rw [e1, sset_row _ _ _ (by decide)]
  rw [r1]; refine ⟨hb, hb2, ?_⟩
  rintro σ2 e2
  have r2 : σ2 0 = σ 0 := by rw [e2, sset_row _ _ _ (by decide), r1]
  rw [r2]; refine ⟨hb, hb2, ?_⟩
  rintro σ3 e3
  have r3 : σ3 0 = σ 0 := by rw [e3, sset_row _ _ _ (by decide), r2]
  rw [r3]
  rintro σ4 e4
  rw [e4, e3, e2, e1]
  exact hQ
theorem PS_tm {T : Nat → Int} {n : Nat} {z σ : St} {k o v : Int} (h : PS T n z σ) : PS T n z (mTm σ k o v) := by
  unfold mTm
  refine PS_fld ?_ 19 _ rfl (by decide) (by decide)
  iterate 3 refine PS_cell ?_ _ _ _ (by decide) (by decide)
  exact h
