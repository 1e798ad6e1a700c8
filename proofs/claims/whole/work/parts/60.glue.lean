/-! ===== pure layer: the states of the two readers as steps of the relation ===== -/
section GLUE
variable {c m m' : St} {D N S B nd ck ts tm dp b : Nat} {φ : Nat → Nat} {e : Nat → Int} {w x y : Int}
theorem vu_vu {r : Nat → Int} {k : Nat} {u v : Int} : va_up (va_up r k u) k v = va_up r k v := by
  funext j
  by_cases g : j = k
  · rw [g, vu_eq, vu_eq]
  · rw [vu_ne _ _ g, vu_ne _ _ g, vu_ne _ _ g]
theorem AM_st (hN : m 0 15 = (N : Int)) (hcur : m 25 ((m 0 39) - 1).toNat = (b : Int)) (htm : m 0 19 = (tm : Int)) (hw : w ≠ 4) : AM m (mSt m w x y) N b tm tm w x y (-1) := by
  unfold AM
  rw [mSt_3, mSt_4, mSt_5, mSt_6, mSt_7, mSt_8, mSt_9, mSt_10, mSt_11, mSt_17, mSt_18, hN, hcur, htm, Int.toNat_natCast, Int.toNat_natCast, if_neg hw, mSt_row (by omega) (by omega) (by omega) (by omega), mSt_row (by omega) (by omega) (by omega) (by omega), mSt_row (by omega) (by omega) (by omega) (by omega), mSt_row (by omega) (by omega) (by omega) (by omega), mSt_row (by omega) (by omega) (by omega) (by omega), mSt_row (by omega) (by omega) (by omega) (by omega), mSt_row (by omega) (by omega) (by omega) (by omega), mSt_row (by omega) (by omega) (by omega) (by omega), mSt_row (by omega) (by omega) (by omega) (by omega), mSt_row (by omega) (by omega) (by omega) (by omega), mSt_row (by omega) (by omega) (by omega) (by omega), mSt_row (by omega) (by omega) (by omega) (by omega)]
  exact ⟨rfl, rfl, rfl, rfl, rfl, rfl, rfl, rfl, rfl, rfl, rfl, rfl, rfl, rfl, rfl, rfl, rfl, rfl, rfl, rfl, rfl, rfl, rfl⟩
/-- the same with another row of signs -/
theorem AM_f {tm' : Nat} {f f' : Int} (h : AM m m' N b tm tm' w x y f) : AM m (sset m' 8 N f') N b tm tm' w x y f' := by
  obtain ⟨h3, h4, h5, h6, h7, h8, h9, h10, h11, h17, h18, h24, h12, h13, h14, h15, h16, h19, h20, h21, h22, h23, h25⟩ := h
  unfold AM
  rw [sset_row (c' := 3) _ _ _ (by decide), sset_row (c' := 4) _ _ _ (by decide), sset_row (c' := 5) _ _ _ (by decide), sset_row (c' := 6) _ _ _ (by decide), sset_row (c' := 7) _ _ _ (by decide), sset_row (c' := 9) _ _ _ (by decide), sset_row (c' := 10) _ _ _ (by decide), sset_row (c' := 11) _ _ _ (by decide), sset_row (c' := 17) _ _ _ (by decide), sset_row (c' := 18) _ _ _ (by decide), sset_row (c' := 24) _ _ _ (by decide), sset_row (c' := 12) _ _ _ (by decide), sset_row (c' := 13) _ _ _ (by decide), sset_row (c' := 14) _ _ _ (by decide), sset_row (c' := 15) _ _ _ (by decide), sset_row (c' := 16) _ _ _ (by decide), sset_row (c' := 19) _ _ _ (by decide), sset_row (c' := 20) _ _ _ (by decide), sset_row (c' := 21) _ _ _ (by decide), sset_row (c' := 22) _ _ _ (by decide), sset_row (c' := 23) _ _ _ (by decide), sset_row (c' := 25) _ _ _ (by decide), sset_same]
  refine ⟨h3, h4, h5, h6, h7, ?_, h9, h10, h11, h17, h18, h24, h12, h13, h14, h15, h16, h19, h20, h21, h22, h23, h25⟩
  rw [h8, vu_vu]
/-- rows that are the same serve as well -/
theorem AM_rq {m0 m1 : St} {tm' : Nat} {f : Int} (h : AM m m' N b tm tm' w x y f) (h0 : RQ m0 m) (h1 : RQ m' m1) : AM m0 m1 N b tm tm' w x y f := by
  unfold AM at *
  rw [h1 3 (by decide) (by decide), h1 4 (by decide) (by decide), h1 5 (by decide) (by decide), h1 6 (by decide) (by decide), h1 7 (by decide) (by decide), h1 8 (by decide) (by decide), h1 9 (by decide) (by decide), h1 10 (by decide) (by decide), h1 11 (by decide) (by decide), h1 12 (by decide) (by decide), h1 13 (by decide) (by decide), h1 14 (by decide) (by decide), h1 15 (by decide) (by decide), h1 16 (by decide) (by decide), h1 17 (by decide) (by decide), h1 18 (by decide) (by decide), h1 19 (by decide) (by decide), h1 20 (by decide) (by decide), h1 21 (by decide) (by decide), h1 22 (by decide) (by decide), h1 23 (by decide) (by decide), h1 24 (by decide) (by decide), h1 25 (by decide) (by decide)]
  rw [h0 3 (by decide) (by decide), h0 4 (by decide) (by decide), h0 5 (by decide) (by decide), h0 6 (by decide) (by decide), h0 7 (by decide) (by decide), h0 8 (by decide) (by decide), h0 9 (by decide) (by decide), h0 10 (by decide) (by decide), h0 11 (by decide) (by decide), h0 12 (by decide) (by decide), h0 13 (by decide) (by decide), h0 14 (by decide) (by decide), h0 15 (by decide) (by decide), h0 16 (by decide) (by decide), h0 17 (by decide) (by decide), h0 18 (by decide) (by decide), h0 19 (by decide) (by decide), h0 20 (by decide) (by decide), h0 21 (by decide) (by decide), h0 22 (by decide) (by decide), h0 23 (by decide) (by decide), h0 24 (by decide) (by decide), h0 25 (by decide) (by decide)] at h
  exact h
theorem RQ_0 {j : Nat} {v : Int} : RQ m (sset m 0 j v) := fun q h1 _ => sset_row _ _ _ (by omega)
theorem RQ_rfl : RQ m m := fun _ _ _ => rfl
theorem RQ_tr {m1 m2 m3 : St} (h1 : RQ m1 m2) (h2 : RQ m2 m3) : RQ m1 m3 := fun q a1 a2 => (h2 q a1 a2).trans (h1 q a1 a2)
theorem CQ_rfl : CQ c c D := ⟨fun _ _ => rfl, rfl⟩
/-- the choice's statement, with its label -/
theorem AM_ch {lab : Int} (hN : m 0 15 = (N : Int)) (hcur : m 25 ((m 0 39) - 1).toNat = (b : Int)) (htm : m 0 19 = (tm : Int)) (hck : m 0 32 = (ck : Int)) : AM m (sset (mCh m) 5 N lab) N b tm tm 4 ck lab (-1) := by
  have h : ∀ q, q ≠ 0 → q ≠ 24 → mCh m q = mSt m 4 (m 0 32) 0 q := fun q h1 h2 => by unfold mCh; rw [sset_row _ _ _ h1, sset_row _ _ _ h2]
  have h24 : mCh m 24 = va_up (m 24) ck N := by
    unfold mCh; rw [sset_row _ _ _ (by decide), sset_same, mSt_row (by omega) (by omega) (by omega) (by omega), hck, hN, Int.toNat_natCast]
  unfold AM
  rw [sset_row (c' := 3) _ _ _ (by decide), sset_row (c' := 4) _ _ _ (by decide), sset_row (c' := 6) _ _ _ (by decide), sset_row (c' := 7) _ _ _ (by decide), sset_row (c' := 8) _ _ _ (by decide), sset_row (c' := 9) _ _ _ (by decide), sset_row (c' := 10) _ _ _ (by decide), sset_row (c' := 11) _ _ _ (by decide), sset_row (c' := 17) _ _ _ (by decide), sset_row (c' := 18) _ _ _ (by decide), sset_row (c' := 24) _ _ _ (by decide), sset_row (c' := 12) _ _ _ (by decide), sset_row (c' := 13) _ _ _ (by decide), sset_row (c' := 14) _ _ _ (by decide), sset_row (c' := 15) _ _ _ (by decide), sset_row (c' := 16) _ _ _ (by decide), sset_row (c' := 19) _ _ _ (by decide), sset_row (c' := 20) _ _ _ (by decide), sset_row (c' := 21) _ _ _ (by decide), sset_row (c' := 22) _ _ _ (by decide), sset_row (c' := 23) _ _ _ (by decide), sset_row (c' := 25) _ _ _ (by decide), sset_same, h24]
  rw [h 3 (by decide) (by decide), h 4 (by decide) (by decide), h 5 (by decide) (by decide), h 6 (by decide) (by decide), h 7 (by decide) (by decide), h 8 (by decide) (by decide), h 9 (by decide) (by decide), h 10 (by decide) (by decide), h 11 (by decide) (by decide), h 12 (by decide) (by decide), h 13 (by decide) (by decide), h 14 (by decide) (by decide), h 15 (by decide) (by decide), h 16 (by decide) (by decide), h 17 (by decide) (by decide), h 18 (by decide) (by decide), h 19 (by decide) (by decide), h 20 (by decide) (by decide), h 21 (by decide) (by decide), h 22 (by decide) (by decide), h 23 (by decide) (by decide), h 25 (by decide) (by decide)]
  rw [mSt_3, mSt_4, mSt_5, mSt_6, mSt_7, mSt_8, mSt_9, mSt_10, mSt_11, mSt_17, mSt_18, hN, hcur, htm, hck, Int.toNat_natCast, Int.toNat_natCast, if_pos rfl, Int.toNat_natCast, vu_vu, mSt_row (by omega) (by omega) (by omega) (by omega), mSt_row (by omega) (by omega) (by omega) (by omega), mSt_row (by omega) (by omega) (by omega) (by omega), mSt_row (by omega) (by omega) (by omega) (by omega), mSt_row (by omega) (by omega) (by omega) (by omega), mSt_row (by omega) (by omega) (by omega) (by omega), mSt_row (by omega) (by omega) (by omega) (by omega), mSt_row (by omega) (by omega) (by omega) (by omega), mSt_row (by omega) (by omega) (by omega) (by omega), mSt_row (by omega) (by omega) (by omega) (by omega), mSt_row (by omega) (by omega) (by omega) (by omega)]
  exact ⟨rfl, rfl, rfl, rfl, rfl, rfl, rfl, rfl, rfl, rfl, rfl, rfl, rfl, rfl, rfl, rfl, rfl, rfl, rfl, rfl, rfl, rfl, rfl⟩
theorem mBk_row {k o v : Int} {q : Nat} (h : q ≠ 0 ∧ q ≠ 15 ∧ q ≠ 16 ∧ q ≠ 17 ∧ q ≠ 18 ∧ q ≠ 19 ∧ q ≠ 25) : mBk m k o v q = m q := by
  unfold mBk
  rw [sset_row _ _ _ (by omega), sset_row _ _ _ (by omega), sset_row _ _ _ (by omega), sset_row _ _ _ (by omega), sset_row _ _ _ (by omega), sset_row _ _ _ (by omega), sset_row _ _ _ (by omega), sset_row _ _ _ (by omega)]
theorem mBk_rows {k o v : Int} (hB : m 0 25 = (B : Int)) (hd : m 0 39 = (dp : Int)) : mBk m k o v 15 = va_up (m 15) B k ∧ mBk m k o v 16 = va_up (m 16) B o ∧ mBk m k o v 17 = va_up (m 17) B (-1) ∧ mBk m k o v 18 = va_up (m 18) B (-1) ∧ mBk m k o v 19 = va_up (m 19) B v ∧ mBk m k o v 25 = va_up (m 25) dp B := by
  unfold mBk
  rw [hB, hd, Int.toNat_natCast, Int.toNat_natCast]
  refine ⟨?_, ?_, ?_, ?_, ?_, ?_⟩
  · rw [sset_row _ _ _ (by decide), sset_row _ _ _ (by decide), sset_row _ _ _ (by decide), sset_row _ _ _ (by decide), sset_row _ _ _ (by decide), sset_row _ _ _ (by decide), sset_row _ _ _ (by decide), sset_same]
  · rw [sset_row _ _ _ (by decide), sset_row _ _ _ (by decide), sset_row _ _ _ (by decide), sset_row _ _ _ (by decide), sset_row _ _ _ (by decide), sset_row _ _ _ (by decide), sset_same, sset_row _ _ _ (by decide)]
  · rw [sset_row _ _ _ (by decide), sset_row _ _ _ (by decide), sset_row _ _ _ (by decide), sset_row _ _ _ (by decide), sset_row _ _ _ (by decide), sset_same, sset_row _ _ _ (by decide), sset_row _ _ _ (by decide)]
  · rw [sset_row _ _ _ (by decide), sset_row _ _ _ (by decide), sset_row _ _ _ (by decide), sset_row _ _ _ (by decide), sset_same, sset_row _ _ _ (by decide), sset_row _ _ _ (by decide), sset_row _ _ _ (by decide)]
  · rw [sset_row _ _ _ (by decide), sset_row _ _ _ (by decide), sset_row _ _ _ (by decide), sset_same, sset_row _ _ _ (by decide), sset_row _ _ _ (by decide), sset_row _ _ _ (by decide), sset_row _ _ _ (by decide)]
  · rw [sset_row _ _ _ (by decide), sset_row _ _ _ (by decide), sset_same, sset_row _ _ _ (by decide), sset_row _ _ _ (by decide), sset_row _ _ _ (by decide), sset_row _ _ _ (by decide), sset_row _ _ _ (by decide)]
theorem mBk_fld {k o v : Int} {j : Nat} (h1 : j ≠ 25) (h2 : j ≠ 39) : mBk m k o v 0 j = m 0 j := by
  unfold mBk
  rw [sset_place _ _ _ h1, sset_place _ _ _ h2, sset_row _ _ _ (by decide), sset_row _ _ _ (by decide), sset_row _ _ _ (by decide), sset_row _ _ _ (by decide), sset_row _ _ _ (by decide), sset_row _ _ _ (by decide)]
theorem mBk_25 {k o v : Int} : mBk m k o v 0 25 = m 0 25 + 1 := by unfold mBk; rw [sset_self]
theorem mBk_39 {k o v : Int} : mBk m k o v 0 39 = m 0 39 + 1 := by unfold mBk; rw [sset_place _ _ _ (by decide), sset_self]
/-- a block is opened by the reference -/
theorem OM_bk {s : Nat} {z k o p : Int} (hz : z = 0 ∨ z = 1) (hB : m 0 25 = (B : Int)) (hd : m 0 39 = (dp : Int)) : OM m (mBk (sset (sset m 0 36 p) (if z = 0 then 8 else 9) s (m 0 25)) k o (m 19 b)) s B b dp z k o := by
  have f0 : ∀ q, q ≠ 8 → q ≠ 9 → q ≠ 0 → sset (sset m 0 36 p) (if z = 0 then 8 else 9) s (m 0 25) q = m q := by
    intro q h8 h9 h0
    rcases hz with g | g
    · rw [if_pos g, sset_row _ _ _ h8, sset_row _ _ _ h0]
    · rw [if_neg (by omega), sset_row _ _ _ h9, sset_row _ _ _ h0]
  have g0 : ∀ j, j ≠ 36 → sset (sset m 0 36 p) (if z = 0 then 8 else 9) s (m 0 25) 0 j = m 0 j := by
    intro j hj
    rcases hz with g | g
    · rw [if_pos g, sset_row _ _ _ (by decide), sset_place _ _ _ hj]
    · rw [if_neg (by omega), sset_row _ _ _ (by decide), sset_place _ _ _ hj]
  obtain ⟨b15, b16, b17, b18, b19, b25⟩ := mBk_rows (m := sset (sset m 0 36 p) (if z = 0 then 8 else 9) s (m 0 25)) (B := B) (dp := dp) (k := k) (o := o) (v := m 19 b) (by rw [g0 25 (by decide)]; exact hB) (by rw [g0 39 (by decide)]; exact hd)
  unfold OM
  rw [b15, b16, b17, b18, b19, b25, f0 15 (by decide) (by decide) (by decide), f0 16 (by decide) (by decide) (by decide), f0 17 (by decide) (by decide) (by decide), f0 18 (by decide) (by decide) (by decide), f0 19 (by decide) (by decide) (by decide), f0 25 (by decide) (by decide) (by decide)]
  refine ⟨?_, ?_, rfl, rfl, rfl, rfl, rfl, rfl, fun q hq => ?_⟩
  · rw [mBk_row (by omega)]
    rcases hz with g | g
    · rw [if_pos g, if_pos g, sset_same, sset_row _ _ _ (by decide), hB]
    · rw [if_neg (by omega), if_neg (by omega), sset_row _ _ _ (by decide), sset_row _ _ _ (by decide)]
  · rw [mBk_row (by omega)]
    rcases hz with g | g
    · rw [if_pos g, if_pos g, sset_row _ _ _ (by decide), sset_row _ _ _ (by decide)]
    · rw [if_neg (by omega), if_neg (by omega), sset_same, sset_row _ _ _ (by decide), hB]
  · rw [mBk_row (by omega)]
    exact f0 q (by omega) (by omega) (by omega)
/-- a node begins -/
theorem NM_nd {v p : Nat} {hub : Int} (hB : m 0 25 = (B : Int)) (hn : m 0 30 = (nd : Int)) : NM m (mNd m v p hub) B nd v hub := by
  unfold mNd
  rw [hn, hB, Int.toNat_natCast, Int.toNat_natCast]
  obtain ⟨b15, b16, b17, b18, b19, b25⟩ := mBk_rows (m := sset (sset (sset (sset (sset (sset m 0 36 (p : Int)) 23 v (nd : Int)) 20 nd (65 + (v : Int))) 21 nd hub) 22 nd (B : Int)) 0 39 0) (B := B) (dp := 0) (k := 0) (o := (nd : Int)) (v := (nd : Int)) (by rw [sset_place _ _ _ (by decide), sset_row _ _ _ (by decide), sset_row _ _ _ (by decide), sset_row _ _ _ (by decide), sset_row _ _ _ (by decide), sset_place _ _ _ (by decide)]; exact hB) (by rw [sset_self]; rfl)
  have f0 : ∀ q, q ≠ 0 → q ≠ 20 → q ≠ 21 → q ≠ 22 → q ≠ 23 → sset (sset (sset (sset (sset (sset m 0 36 (p : Int)) 23 v (nd : Int)) 20 nd (65 + (v : Int))) 21 nd hub) 22 nd (B : Int)) 0 39 0 q = m q := fun q h0 h20 h21 h22 h23 => by
    rw [sset_row _ _ _ h0, sset_row _ _ _ h22, sset_row _ _ _ h21, sset_row _ _ _ h20, sset_row _ _ _ h23, sset_row _ _ _ h0]
  unfold NM
  rw [sset_row (c' := 23) _ _ _ (by decide), sset_row (c' := 20) _ _ _ (by decide), sset_row (c' := 21) _ _ _ (by decide), sset_row (c' := 22) _ _ _ (by decide), sset_row (c' := 15) _ _ _ (by decide), sset_row (c' := 16) _ _ _ (by decide), sset_row (c' := 17) _ _ _ (by decide), sset_row (c' := 18) _ _ _ (by decide), sset_row (c' := 19) _ _ _ (by decide), sset_row (c' := 25) _ _ _ (by decide), b15, b16, b17, b18, b19, b25, mBk_row (by omega), mBk_row (by omega), mBk_row (by omega), mBk_row (by omega)]
  refine ⟨?_, ?_, ?_, ?_, ?_, ?_, ?_, ?_, ?_, ?_, fun q hq => ?_⟩
  · rw [sset_row _ _ _ (by decide), sset_row _ _ _ (by decide), sset_row _ _ _ (by decide), sset_row _ _ _ (by decide), sset_same, sset_row _ _ _ (by decide)]
  · rw [sset_row _ _ _ (by decide), sset_row _ _ _ (by decide), sset_row _ _ _ (by decide), sset_same, sset_row _ _ _ (by decide), sset_row _ _ _ (by decide)]
  · rw [sset_row _ _ _ (by decide), sset_row _ _ _ (by decide), sset_same, sset_row _ _ _ (by decide), sset_row _ _ _ (by decide), sset_row _ _ _ (by decide)]
  · rw [sset_row _ _ _ (by decide), sset_same, sset_row _ _ _ (by decide), sset_row _ _ _ (by decide), sset_row _ _ _ (by decide), sset_row _ _ _ (by decide)]
  · rw [f0 15 (by decide) (by decide) (by decide) (by decide) (by decide)]
  · rw [f0 16 (by decide) (by decide) (by decide) (by decide) (by decide)]
  · rw [f0 17 (by decide) (by decide) (by decide) (by decide) (by decide)]
  · rw [f0 18 (by decide) (by decide) (by decide) (by decide) (by decide)]
  · rw [f0 19 (by decide) (by decide) (by decide) (by decide) (by decide)]
  · rw [f0 25 (by decide) (by decide) (by decide) (by decide) (by decide)]
  · rw [sset_row _ _ _ (by omega), mBk_row (by omega), f0 q (by omega) (by omega) (by omega) (by omega) (by omega)]
/-- the class adds a statement -/
theorem AC_add (hD : D = 2 ∨ D = 20) (hS : c D 0 = (S : Int)) (hd : c 38 2 = (dp : Int)) (hd1 : 0 < dp) (hn : c D 10 = (nd : Int)) (hn1 : 0 < nd) (ht : c (D + 9) 0 = (tm : Int)) (ho : 2 ≤ dp → 0 ≤ c 40 (dp - 1)) : AC c (cAdd c D w x y) D S nd dp tm tm w x y := by
  have ow : cOw c = if 2 ≤ dp then c 40 (dp - 1) else -1 := by
    unfold cOw
    rw [hd]
    by_cases g : 2 ≤ dp
    · rw [if_neg (by omega), if_pos g, show ((dp : Int) - 1).toNat = dp - 1 by omega]
    · rw [if_pos (by omega), if_neg g]
  have t42 : cAt c D w x y 42 = va_up (c 42) S (if 2 ≤ dp ∧ c (D + 1) (c 40 (dp - 1)).toNat = 6 then c 40 (dp - 1) else -1) := by
    unfold cAt
    rw [sset_same, cAp_row (by omega), hS, Int.toNat_natCast, ow]
    by_cases g : 2 ≤ dp
    · have := ho g
      rw [if_pos g]
      by_cases g2 : c (D + 1) (c 40 (dp - 1)).toNat = 6
      · rw [if_pos ⟨this, g2⟩, if_pos ⟨g, g2⟩]
      · rw [if_neg (fun u => g2 u.2), if_neg (fun u => g2 u.2)]
    · rw [if_neg g, if_neg (fun u => by omega), if_neg (fun u => g u.1)]
  have tr : ∀ q, q ≠ 42 → cAt c D w x y q = cAp c D w x y q := fun q hq => by unfold cAt; rw [sset_row _ _ _ hq]
  have cr : ∀ q, q ≠ 38 → q ≠ 40 → cAdd c D w x y q = cAl c D w x y q := fun q h1 h2 => by unfold cAdd; rw [sset_row _ _ _ h1, sset_row _ _ _ h2]
  have lr : ∀ q, q ≠ D + 4 → q ≠ D + 5 → q ≠ D + 6 → q ≠ D + 14 → cAl c D w x y q = cAt c D w x y q := by
    intro q h4 h5 h6 h14
    unfold cAl
    split
    · rw [sset_row _ _ _ h4]
    · split
      · rw [sset_row _ _ _ h14]
      · split
        · rw [sset_row _ _ _ h5]
        · rw [sset_row _ _ _ h6]
  have k40 : cAdd c D w x y 40 = va_up (c 40) dp S := by
    unfold cAdd
    rw [sset_row _ _ _ (by decide), sset_same, lr 40 (by omega) (by omega) (by omega) (by omega), tr 40 (by decide), cAp_row (by omega), hd, hS, Int.toNat_natCast]
  have n1 : ((nd : Int) - 1).toNat = nd - 1 := by omega
  unfold AC
  rw [k40, cr (D + 1) (by omega) (by omega), cr (D + 2) (by omega) (by omega), cr (D + 3) (by omega) (by omega), cr (D + 4) (by omega) (by omega), cr (D + 5) (by omega) (by omega), cr (D + 6) (by omega) (by omega), cr (D + 7) (by omega) (by omega), cr (D + 8) (by omega) (by omega), cr (D + 14) (by omega) (by omega), cr 42 (by omega) (by omega), cr (D + 10) (by omega) (by omega), cr (D + 11) (by omega) (by omega), cr (D + 12) (by omega) (by omega), cr (D + 13) (by omega) (by omega), cr 39 (by omega) (by omega), cr 41 (by omega) (by omega), cr D (by omega) (by omega)]
  rw [lr (D + 1) (by omega) (by omega) (by omega) (by omega), lr (D + 2) (by omega) (by omega) (by omega) (by omega), lr (D + 3) (by omega) (by omega) (by omega) (by omega), lr (D + 7) (by omega) (by omega) (by omega) (by omega), lr (D + 8) (by omega) (by omega) (by omega) (by omega), lr 42 (by omega) (by omega) (by omega) (by omega), lr (D + 10) (by omega) (by omega) (by omega) (by omega), lr (D + 11) (by omega) (by omega) (by omega) (by omega), lr (D + 12) (by omega) (by omega) (by omega) (by omega), lr (D + 13) (by omega) (by omega) (by omega) (by omega), lr 39 (by omega) (by omega) (by omega) (by omega), lr 41 (by omega) (by omega) (by omega) (by omega), lr D (by omega) (by omega) (by omega) (by omega)]
  rw [t42, tr (D + 1) (by omega), tr (D + 2) (by omega), tr (D + 3) (by omega), tr (D + 7) (by omega), tr (D + 8) (by omega), tr (D + 10) (by omega), tr (D + 11) (by omega), tr (D + 12) (by omega), tr (D + 13) (by omega), tr 39 (by omega), tr 41 (by omega), tr D (by omega)]
  rw [cAp_1, cAp_2, cAp_3, cAp_7, cAp_8, cAp_fld (by decide), cAp_row (c := D + 10) (by omega), cAp_row (c := D + 11) (by omega), cAp_row (c := D + 12) (by omega), cAp_row (c := D + 13) (by omega), cAp_row (c := 39) (by omega), cAp_row (c := 41) (by omega), hS, Int.toNat_natCast, ht]
  have b4 : cAt c D w x y (D + 4) = va_up (c (D + 4)) S (-1) := by rw [tr _ (by omega), cAp_4, hS, Int.toNat_natCast]
  have b5 : cAt c D w x y (D + 5) = va_up (c (D + 5)) S (-1) := by rw [tr _ (by omega), cAp_5, hS, Int.toNat_natCast]
  have b6 : cAt c D w x y (D + 6) = va_up (c (D + 6)) S (-1) := by rw [tr _ (by omega), cAp_6, hS, Int.toNat_natCast]
  have b14 : cAt c D w x y (D + 14) = c (D + 14) := by rw [tr _ (by omega), cAp_row (by omega)]
  refine ⟨rfl, rfl, rfl, ?_, ?_, ?_, rfl, rfl, ?_, rfl, rfl, rfl, rfl, rfl, rfl, rfl, rfl, rfl⟩
  · unfold cAl
    rw [hd, hS, hn, n1, Int.toNat_natCast]
    by_cases g : c 40 dp = -1
    · rw [if_pos g, if_neg (fun u => u g)]
      split
      · rw [sset_row _ _ _ (by omega), b4]
      · split
        · rw [sset_row _ _ _ (by omega), b4]
        · rw [sset_row _ _ _ (by omega), b4]
    · rw [if_neg g, if_pos g, sset_same, b4]
  · unfold cAl
    rw [hd, hS, hn, n1, Int.toNat_natCast, ow]
    by_cases g : c 40 dp = -1
    · rw [if_neg (fun u => u g)]
      by_cases g2 : 2 ≤ dp
      · have := ho g2
        rw [if_pos g2, if_neg (by omega)]
        by_cases g3 : c 41 dp = 0
        · rw [if_pos g3, if_pos ⟨g, g2, g3⟩, sset_same, b5]
        · rw [if_neg g3, if_neg (fun u => g3 u.2.2), sset_row _ _ _ (by omega), b5]
      · rw [if_neg g2, if_pos rfl, if_neg (fun u => g2 u.2.1), sset_row _ _ _ (by omega), b5]
    · rw [if_pos g, if_neg (fun u => g u.1), sset_row _ _ _ (by omega), b5]
  · unfold cAl
    rw [hd, hS, hn, n1, Int.toNat_natCast, ow]
    by_cases g : c 40 dp = -1
    · rw [if_neg (fun u => u g)]
      by_cases g2 : 2 ≤ dp
      · have := ho g2
        rw [if_pos g2, if_neg (by omega)]
        by_cases g3 : c 41 dp = 0
        · rw [if_pos g3, if_neg (fun u => u.2.2 g3), sset_row _ _ _ (by omega), b6]
        · rw [if_neg g3, if_pos ⟨g, g2, g3⟩, sset_same, b6]
      · rw [if_neg g2, if_pos rfl, if_neg (fun u => g2 u.2.1), sset_row _ _ _ (by omega), b6]
    · rw [if_pos g, if_neg (fun u => g u.1), sset_row _ _ _ (by omega), b6]
  · unfold cAl
    rw [hd, hS, hn, n1, Int.toNat_natCast, ow]
    by_cases g : c 40 dp = -1
    · rw [if_neg (fun u => u g)]
      by_cases g2 : 2 ≤ dp
      · have := ho g2
        rw [if_pos g2, if_neg (by omega), if_neg (show ¬ (c 40 dp = -1 ∧ dp < 2) from fun u => by omega)]
        split
        · rw [sset_row _ _ _ (by omega), b14]
        · rw [sset_row _ _ _ (by omega), b14]
      · rw [if_neg g2, if_pos rfl, if_pos ⟨g, by omega⟩, sset_same, b14]
    · rw [if_pos g, if_neg (fun u => g u.1), sset_row _ _ _ (by omega), b14]
theorem cAdd_row (hD : D = 2 ∨ D = 20) {q : Nat} (h : q < D ∨ D + 14 < q) (h2 : q ≠ 38) (h3 : q ≠ 40) (h4 : q ≠ 42) : cAdd c D w x y q = c q := by
  unfold cAdd cAl cAt
  rw [sset_row _ _ _ h2, sset_row _ _ _ h3]
  split
  · rw [sset_row _ _ _ (by omega), sset_row _ _ _ h4, cAp_row (by omega)]
  · split
    · rw [sset_row _ _ _ (by omega), sset_row _ _ _ h4, cAp_row (by omega)]
    · split
      · rw [sset_row _ _ _ (by omega), sset_row _ _ _ h4, cAp_row (by omega)]
      · rw [sset_row _ _ _ (by omega), sset_row _ _ _ h4, cAp_row (by omega)]
theorem cAdd_D (hD : D = 2 ∨ D = 20) {q : Nat} (h : q = D ∨ q = D + 9) : cAdd c D w x y q = cAp c D w x y q := by
  unfold cAdd cAl cAt
  rw [sset_row _ _ _ (by omega), sset_row _ _ _ (by omega)]
  split
  · rw [sset_row _ _ _ (by omega), sset_row _ _ _ (by omega)]
  · split
    · rw [sset_row _ _ _ (by omega), sset_row _ _ _ (by omega)]
    · split
      · rw [sset_row _ _ _ (by omega), sset_row _ _ _ (by omega)]
      · rw [sset_row _ _ _ (by omega), sset_row _ _ _ (by omega)]
theorem cAdd_38 (hD : D = 2 ∨ D = 20) : cAdd c D w x y 38 1 = 3 ∧ ∀ j, j ≠ 1 → cAdd c D w x y 38 j = c 38 j := by
  refine ⟨by unfold cAdd; rw [sset_self], fun j hj => ?_⟩
  unfold cAdd cAl cAt
  rw [sset_place _ _ _ hj, sset_row _ _ _ (by omega)]
  split
  · rw [sset_row _ _ _ (by omega), sset_row _ _ _ (by omega), cAp_row (by omega)]
  · split
    · rw [sset_row _ _ _ (by omega), sset_row _ _ _ (by omega), cAp_row (by omega)]
    · split
      · rw [sset_row _ _ _ (by omega), sset_row _ _ _ (by omega), cAp_row (by omega)]
      · rw [sset_row _ _ _ (by omega), sset_row _ _ _ (by omega), cAp_row (by omega)]
end GLUE
