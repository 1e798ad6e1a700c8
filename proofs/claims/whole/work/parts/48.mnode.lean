/-! ===== pure layer: tests, choices, ends of blocks, nodes of the reference ===== -/
section MNODE
variable {T : Nat → Int} {n a : Nat} {z σ : St} {K : St → Prop}
theorem r_test (hP : PS T n z σ) (hB : MB σ) (ha : a < n) (h6 : σ 0 36 = (a : Int)) (h7 : σ 0 37 = 1) (hc : T a = 63) (ht : inR (σ 0 33))
    (hy : σ 0 33 < 16 → f_X10_readsCondition_L2 (fun τ => f_X10_opens 2 (σ 0 15) (σ 0 15) 0 τ K) FU (sset (mSt (sset σ 0 36 ((a + 1 : Nat) : Int)) 3 (σ 0 33) 0) 0 33 (σ 0 33 + 1)) (σ 0 15) 1)
    (hn : 16 ≤ σ 0 33 → DE T n z K a) : f_X10_readsStatement (T a) σ K := by
  rw [hc]
  unfold f_X10_readsStatement
  refine s_in ⟨by omega, by omega⟩ ⟨by decide, by decide⟩ ⟨by decide, by decide⟩ (fun c1 c2 => by omega) (fun c => ⟨⟨by decide, by decide⟩, fun _ => ⟨⟨by omega, by omega⟩, fun q => by omega, fun q => ⟨⟨by omega, by omega⟩, fun q2 => ?_, fun q2 => by omega⟩⟩, fun c => absurd rfl c⟩)
  refine s_in ⟨by omega, by omega⟩ ⟨by decide, by decide⟩ ⟨by decide, by decide⟩ (fun c1 c2 => by omega) (fun c => ?_)
  refine ⟨⟨by decide, by decide⟩, fun _ => ⟨⟨by omega, by omega⟩, fun q => absurd rfl q, fun _ => ?_⟩, fun c => absurd rfl c⟩
  unfold f_X10_readsTest f_X10_readsTest_J15
  refine ⟨ht, fun q => ?_, fun q => ?_⟩
  · refine s_req0 (Or.inr h7) ?_
    rw [sset_self]
    refine ⟨⟨by decide, by decide⟩, fun c => absurd rfl c, fun _ => hn q _ (PS_fine hP _) ?_ (sset_self _ _ _ _) (MB_9 (MB_fld hB 37 _ (by decide) (by decide)))⟩
    rw [sset_place _ _ _ (by decide)]; exact h6
  · refine s_req1 h7 ?_
    rw [h7]
    refine ⟨⟨by decide, by decide⟩, fun _ σ2 e2 => ?_, fun c => absurd c (by decide)⟩
    have e3 : σ2 = sset σ 0 36 ((a + 1 : Nat) : Int) := by rw [e2, h6]; rfl
    rw [e3, at_x (by decide)]
    refine s_stmtB (MB_fld hB 36 _ (by decide) (by decide)) ?_
    intro σ4 e4
    rw [mSt_fld (by decide), at_x (by decide)] at e4
    rw [at_x (by decide), e4]
    unfold f_X10_readsCondition
    exact hy (by omega)
theorem r_openD {k o s sec : Int} {e : Nat} (he : e ≤ n) (hse : sk T n e = e) (h : DE T n z K e) : DE T n z (fun τ => f_X10_opens k o s sec τ K) e := by
  intro τ hPτ e6 e7 e9
  exact r_opensD hPτ he e6 hse e7 e9 (h τ hPτ e6 e7 e9)
theorem r_j108D {s : Int} (hs : 0 ≤ s) (hs2 : s < 401) {e : Nat} (he : e ≤ n) (hse : sk T n e = e) (h : DE T n z K e) : DE T n z (fun τ => f_X10_readsChoice_J108 K τ s) e := by
  intro τ hPτ e6 e7 e9
  show f_X10_readsChoice_J108 K τ s
  unfold f_X10_readsChoice_J108
  refine s_readsD hPτ.1 he e6 hse e7 ⟨by decide, by decide⟩ ?_
  refine ⟨hs, hs2, ?_⟩
  exact r_opensD hPτ he e6 hse e7 e9 (h τ hPτ e6 e7 e9)
theorem r_j108 {s : Int} (hP : PS T n z σ) (h9 : inR (σ 0 39)) (ha : a ≤ n) (h6 : σ 0 36 = (a : Int)) (h7 : σ 0 37 = 1) (hs : 0 ≤ s) (hs2 : s < 401)
    (hy : ch T n (sk T n a) = 93 → f_X10_opens 1 (σ 4 s.toNat) s 0 (sset σ 0 36 ((sk T n a + 1 : Nat) : Int)) K)
    (hn : ch T n (sk T n a) ≠ 93 → DE T n z K (sk T n a)) : f_X10_readsChoice_J108 K σ s := by
  unfold f_X10_readsChoice_J108
  refine s_reads hP.1 ha h6 h7 ⟨by decide, by decide⟩ (fun q => ?_) (fun q => ?_)
  · refine ⟨hs, hs2, ?_⟩
    rw [sset_row (c' := 4) _ _ _ (by decide)]
    exact hy q
  · refine ⟨hs, hs2, ?_⟩
    have hd := hn q
    have hle := sk_le (T := T) ha
    have hss := sk_sk (T := T) ha
    have k9 : inR (sset (sset σ 0 36 ((sk T n a : Nat) : Int)) 0 37 0 0 39) := by rw [dd_x (by decide) (by decide)]; exact h9
    exact r_opensD (PS_dd hP _) hle dd_36 hss (sset_self _ _ _ _) k9 (hd _ (PS_dd hP _) dd_36 (sset_self _ _ _ _) k9)
/-- the state behind the choice's statement -/
def mCh (σ : St) : St := sset (sset (mSt σ 4 (σ 0 32) 0) 24 (σ 0 32).toNat (σ 0 15)) 0 32 (σ 0 32 + 1)
theorem mCh_fld {j : Nat} (h1 : j ≠ 15) (h2 : j ≠ 32) : mCh σ 0 j = σ 0 j := by
  unfold mCh; rw [sset_place _ _ _ h2, sset_row _ _ _ (by decide), mSt_fld h1]
theorem PS_ch (hP : PS T n z σ) (h16 : σ 0 32 < 16) : PS T n z (mCh σ) := PS_fld (PS_cell (PS_st hP) _ _ _ (by decide) (by decide)) 32 _ rfl (by decide) (by decide) (fun _ => ⟨by have := hP.2.2.2.2.2; omega, by omega⟩)
theorem r_choice (hP : PS T n z σ) (hB : MB σ) (ha : a < n) (h6 : σ 0 36 = (a : Int)) (h7 : σ 0 37 = 1) (hc : T a = 91) (hk0 : 0 ≤ σ 0 32) (hk1 : σ 0 32 ≤ 16)
    (hn : 16 ≤ σ 0 32 → DE T n z K a)
    (hn2 : σ 0 32 < 16 → (dg T n (sk T n (a + 1)) = 0 ∨ 2 < dg T n (sk T n (a + 1))) → DE T n z K (sk T n (a + 1)))
    (hy1 : σ 0 32 < 16 → 1 ≤ dg T n (sk T n (a + 1)) → dg T n (sk T n (a + 1)) ≤ 2 → ch T n (sk T n (sk T n (a + 1) + dg T n (sk T n (a + 1)))) ≠ 63 → f_X10_readsChoice_J108 K (sset (sset (mCh (sset σ 0 36 ((a + 1 : Nat) : Int))) 5 (σ 0 15).toNat (nm T n (sk T n (a + 1)))) 0 36 ((sk T n (sk T n (a + 1) + dg T n (sk T n (a + 1))) : Nat) : Int)) (σ 0 15))
    (hy2 : σ 0 32 < 16 → 1 ≤ dg T n (sk T n (a + 1)) → dg T n (sk T n (a + 1)) ≤ 2 → ch T n (sk T n (sk T n (a + 1) + dg T n (sk T n (a + 1)))) = 63 → f_X10_readsCondition_L2 (fun τ => f_X10_readsChoice_J108 K τ (σ 0 15)) FU (sset (sset (mCh (sset σ 0 36 ((a + 1 : Nat) : Int))) 5 (σ 0 15).toNat (nm T n (sk T n (a + 1)))) 0 36 ((sk T n (sk T n (a + 1) + dg T n (sk T n (a + 1))) + 1 : Nat) : Int)) (σ 0 15) 1) : f_X10_readsStatement (T a) σ K := by
  have hs := hB.1
  have hs2 := hB.2.1
  have hle : sk T n (a + 1) ≤ n := sk_le (by omega)
  have hss := sk_sk (T := T) (n := n) (i := a + 1) (by omega)
  have hdl := dg_le (T := T) _ (sk T n (a + 1)) rfl hle
  rw [hc]
  unfold f_X10_readsStatement
  refine s_in ⟨by omega, by omega⟩ ⟨by decide, by decide⟩ ⟨by decide, by decide⟩ (fun c1 c2 => by omega) (fun c => ⟨⟨by decide, by decide⟩, fun _ => ⟨⟨by omega, by omega⟩, fun q => by omega, fun q => ⟨⟨by omega, by omega⟩, fun q2 => ?_, fun q2 => by omega⟩⟩, fun c => absurd rfl c⟩)
  refine s_in ⟨by omega, by omega⟩ ⟨by decide, by decide⟩ ⟨by decide, by decide⟩ (fun c1 c2 => by omega) (fun c => ?_)
  refine ⟨⟨by decide, by decide⟩, fun _ => ⟨⟨by omega, by omega⟩, fun q => ⟨⟨by omega, by omega⟩, fun q => absurd rfl q, fun _ => ?_⟩, fun q => by omega⟩, fun c => absurd rfl c⟩
  unfold f_X10_readsChoice f_X10_readsChoice_J15
  refine ⟨⟨by omega, by omega⟩, fun q => ?_, fun q => ?_⟩
  · refine s_req0 (Or.inr h7) ?_
    rw [sset_self]
    refine ⟨⟨by decide, by decide⟩, fun c => absurd rfl c, fun _ => hn q _ (PS_fine hP _) ?_ (sset_self _ _ _ _) (MB_9 (MB_fld hB 37 _ (by decide) (by decide)))⟩
    rw [sset_place _ _ _ (by decide)]; exact h6
  · have q : σ 0 32 < 16 := by omega
    have hn2 := hn2 q
    have hy1 := hy1 q
    have hy2 := hy2 q
    refine s_req1 h7 ?_
    rw [h7]
    refine ⟨⟨by decide, by decide⟩, fun _ σ2 e2 => ?_, fun c => absurd c (by decide)⟩
    have e3 : σ2 = sset σ 0 36 ((a + 1 : Nat) : Int) := by rw [e2, h6]; rfl
    have hP2 : PS T n z σ2 := by rw [e3]; exact PS_at hP _
    have hB2 : MB σ2 := by rw [e3]; exact MB_fld hB 36 _ (by decide) (by decide)
    have f15 : σ2 0 15 = σ 0 15 := by rw [e3, at_x (by decide)]
    have f32 : σ2 0 32 = σ 0 32 := by rw [e3, at_x (by decide)]
    refine s_stmtB hB2 ?_
    rw [mSt_fld (by decide), f32, f15]
    refine ⟨hk0, q, fun σ4 e4 σ5 e5 => ?_⟩
    have e6 : σ5 = mCh σ2 := by
      rw [e5, e4, sset_row (c' := 0) _ _ _ (by decide), mSt_fld (by decide)]
      unfold mCh
      rw [f32, f15]
    have hP5 : PS T n z σ5 := by rw [e6]; exact PS_ch hP2 (by rw [f32]; exact q)
    have g6 : σ5 0 36 = ((a + 1 : Nat) : Int) := by rw [e6, mCh_fld (by decide) (by decide), e3, sset_self]
    have g7 : σ5 0 37 = 1 := by rw [e6, mCh_fld (by decide) (by decide), e3, at_37]; exact h7
    have g9 : inR (σ5 0 39) := by rw [e6, mCh_fld (by decide) (by decide)]; exact MB_9 hB2
    rw [← e3, ← e6] at hy1 hy2
    refine s_readsNumber hP5.1 (a := a + 1) (by omega) g6 g7 (fun q1 q2 => ?_) (fun q1 v => ?_)
    · refine ⟨hs, hs2, fun σ7 e7 => ?_⟩
      have e8 : σ7 = sset (sset σ5 5 (σ 0 15).toNat (nm T n (sk T n (a + 1)))) 0 36 ((sk T n (a + 1) + dg T n (sk T n (a + 1)) : Nat) : Int) := by rw [e7, sset_comm _ _ _ (Or.inl (by decide))]
      have hP7 : PS T n z σ7 := by rw [e8]; exact PS_at (PS_cell hP5 _ _ _ (by decide) (by decide)) _
      have k7 : σ7 0 37 = 1 := by rw [e8, at_37, sset_row _ _ _ (by decide)]; exact g7
      rw [k7]
      refine ⟨⟨by decide, by decide⟩, fun c => absurd c (by decide), fun _ => ?_⟩
      refine s_here hP7.1 (a := sk T n (a + 1) + dg T n (sk T n (a + 1))) hdl (by rw [e8, sset_self]) ?_
      rw [e8, sset_twice]
      refine ⟨ch_inR hP.1.2.1, fun q3 => hy1 q1 q2 q3, fun q3 σ9 e9 => ?_⟩
      rw [sset_self, sset_twice] at e9
      rw [e9]
      unfold f_X10_readsCondition
      exact hy2 q1 q2 q3
    · refine ⟨hs, hs2, fun σ7 e7 => ?_⟩
      have hd := r_j108D (s := σ 0 15) hs hs2 hle hss (hn2 q1)
      have k7 : σ7 0 37 = 0 := by rw [e7, sset_row _ _ _ (by decide), sset_self]
      rw [k7]
      refine ⟨⟨by decide, by decide⟩, fun _ => hd σ7 ?_ ?_ k7 ?_, fun c => absurd rfl c⟩
      · rw [e7]; exact PS_cell (PS_dd hP5 _) _ _ _ (by decide) (by decide)
      · rw [e7, sset_row _ _ _ (by decide), dd_36]
      · rw [e7, sset_row _ _ _ (by decide), dd_x (by decide) (by decide)]; exact g9
theorem r_closes (hP : PS T n z σ) (ha : a < n) (h6 : σ 0 36 = (a : Int)) (h7 : σ 0 37 = 1) (hd1 : 0 ≤ σ 0 39) (hd2 : σ 0 39 ≤ 6)
    (hb : 1 < σ 0 39 → 0 ≤ σ 25 ((σ 0 39) - 1).toNat ∧ σ 25 ((σ 0 39) - 1).toNat < 64 ∧ inR (σ 15 (σ 25 ((σ 0 39) - 1).toNat).toNat) ∧ (σ 15 (σ 25 ((σ 0 39) - 1).toNat).toNat = 2 → 0 ≤ σ 16 (σ 25 ((σ 0 39) - 1).toNat).toNat ∧ σ 16 (σ 25 ((σ 0 39) - 1).toNat).toNat < 401 ∧ inR (σ 8 (σ 16 (σ 25 ((σ 0 39) - 1).toNat).toNat).toNat)))
    (hn : σ 0 39 ≤ 1 → DE T n z K a)
    (hy1 : 1 < σ 0 39 → (σ 15 (σ 25 ((σ 0 39) - 1).toNat).toNat ≠ 2 ∨ σ 8 (σ 16 (σ 25 ((σ 0 39) - 1).toNat).toNat).toNat ≠ σ 25 ((σ 0 39) - 1).toNat) → K (sset (sset σ 0 36 ((a + 1 : Nat) : Int)) 0 39 (σ 0 39 - 1)))
    (hy2 : 1 < σ 0 39 → σ 15 (σ 25 ((σ 0 39) - 1).toNat).toNat = 2 → σ 8 (σ 16 (σ 25 ((σ 0 39) - 1).toNat).toNat).toNat = σ 25 ((σ 0 39) - 1).toNat → ch T n (sk T n (a + 1)) ≠ 123 → K (sset (sset σ 0 36 ((sk T n (a + 1) : Nat) : Int)) 0 39 (σ 0 39 - 1)))
    (hy3 : 1 < σ 0 39 → σ 15 (σ 25 ((σ 0 39) - 1).toNat).toNat = 2 → σ 8 (σ 16 (σ 25 ((σ 0 39) - 1).toNat).toNat).toNat = σ 25 ((σ 0 39) - 1).toNat → ch T n (sk T n (a + 1)) = 123 → f_X10_opens 2 (σ 16 (σ 25 ((σ 0 39) - 1).toNat).toNat) (σ 16 (σ 25 ((σ 0 39) - 1).toNat).toNat) 1 (sset (sset σ 0 36 ((sk T n (a + 1) : Nat) : Int)) 0 39 (σ 0 39 - 1)) K) : f_X10_closes σ K := by
  unfold f_X10_closes f_X10_closes_J14
  refine ⟨⟨by omega, by omega⟩, fun q => ?_, fun q => ?_⟩
  · refine s_req0 (Or.inr h7) ?_
    rw [sset_self]
    refine ⟨⟨by decide, by decide⟩, fun c => absurd rfl c, fun _ => hn q _ (PS_fine hP _) ?_ (sset_self _ _ _ _) ?_⟩
    · rw [sset_place _ _ _ (by decide)]; exact h6
    · rw [sset_place _ _ _ (by decide)]; exact ⟨by omega, by omega⟩
  · have q : 1 < σ 0 39 := by omega
    obtain ⟨b1, b2, b3, b4⟩ := hb q
    have hy1 := hy1 q
    have hy2 := hy2 q
    have hy3 := hy3 q
    refine s_req1 h7 ?_
    rw [h7]
    refine ⟨⟨by decide, by decide⟩, fun _ σ2 e2 => ?_, fun c => absurd c (by decide)⟩
    have e3 : σ2 = sset σ 0 36 ((a + 1 : Nat) : Int) := by rw [e2, h6]; rfl
    rw [e3, at_x (by decide), sset_row (c' := 25) _ _ _ (by decide)]
    refine ⟨by omega, by omega, ?_⟩
    rintro x1 rfl σ3 e4
    have r15 : σ3 15 = σ 15 := by rw [e4, sset_row _ _ _ (by decide), sset_row _ _ _ (by decide)]
    have r16 : σ3 16 = σ 16 := by rw [e4, sset_row _ _ _ (by decide), sset_row _ _ _ (by decide)]
    have r8 : σ3 8 = σ 8 := by rw [e4, sset_row _ _ _ (by decide), sset_row _ _ _ (by decide)]
    rw [r15, r16, r8]
    have hP3 : PS T n z σ3 := by rw [e4]; exact PS_fld (PS_at hP _) 39 _ rfl (by decide) (by decide)
    refine ⟨b1, b2, b3, fun c => ?_, fun c => ?_⟩
    · rw [e4]; exact hy1 (Or.inl c)
    · obtain ⟨c1, c2, c3⟩ := b4 c
      refine ⟨b1, b2, c1, c2, c3, ⟨by omega, by omega⟩, fun d => ?_, fun d => ?_⟩
      · rw [e4]; exact hy1 (Or.inr d)
      · refine s_here hP3.1 (a := a + 1) (by omega) (by rw [e4, sset_place _ _ _ (by decide), sset_self]) ?_
        have e5 : sset σ3 0 36 ((sk T n (a + 1) : Nat) : Int) = sset (sset σ 0 36 ((sk T n (a + 1) : Nat) : Int)) 0 39 (σ 0 39 - 1) := by
          rw [e4, sset_comm _ _ _ (Or.inr (by decide)), sset_twice]
        rw [sset_row (c' := 16) _ _ _ (by decide), r16, e5]
        exact ⟨ch_inR hP.1.2.1, fun g => hy2 c d g, fun g => ⟨b1, b2, b1, b2, hy3 c d g⟩⟩
/-- the state behind a node's head -/
def mNd (σ : St) (v : Int) (p : Nat) (h : Int) : St := sset (mBk (sset (sset (sset (sset (sset (sset σ 0 36 (p : Int)) 23 v.toNat (σ 0 30)) 20 (σ 0 30).toNat (65 + v)) 21 (σ 0 30).toNat h) 22 (σ 0 30).toNat (σ 0 25)) 0 39 0) 0 (σ 0 30) (σ 0 30)) 0 30 (σ 0 30 + 1)
theorem r_node (hP : PS T n z σ) (h9 : inR (σ 0 39)) (ha : a ≤ n) (h6 : σ 0 36 = (a : Int)) (h7 : σ 0 37 = 1) (hb1 : 0 ≤ σ 0 25)
    (hnm : ∀ k, k < 12 → inR (σ 23 k)) (hnd0 : 0 ≤ σ 0 30)
    (hnd : ∀ k : Nat, k < 12 → σ 23 k = -1 → σ 0 30 < 12 ∧ σ 0 25 < 64)
    (hn1 : ch T n (sk T n a) ≠ 61 → DE T n z K (sk T n a))
    (hn2 : ch T n (sk T n a) = 61 → (ch T n (sk T n (sk T n a + 1)) < 65 ∨ 76 < ch T n (sk T n (sk T n a + 1))) → DE T n z K (sk T n (sk T n a + 1)))
    (hn3 : ch T n (sk T n a) = 61 → 65 ≤ ch T n (sk T n (sk T n a + 1)) → ch T n (sk T n (sk T n a + 1)) ≤ 76 → σ 23 (ch T n (sk T n (sk T n a + 1)) - 65).toNat ≠ -1 → DE T n z K (sk T n (sk T n a + 1)))
    (hy : ch T n (sk T n a) = 61 → 65 ≤ ch T n (sk T n (sk T n a + 1)) → ch T n (sk T n (sk T n a + 1)) ≤ 76 → σ 23 (ch T n (sk T n (sk T n a + 1)) - 65).toNat = -1 → K (mNd σ (ch T n (sk T n (sk T n a + 1)) - 65) (if ch T n (sk T n (sk T n (sk T n a + 1) + 1)) = 35 then sk T n (sk T n (sk T n a + 1) + 1) + 1 else sk T n (sk T n (sk T n a + 1) + 1)) (if ch T n (sk T n (sk T n (sk T n a + 1) + 1)) = 35 then 1 else 0))) : f_X10_readsNode σ K := by
  have hR := hP.1.2.1
  have hle := sk_le (T := T) ha
  have hss := sk_sk (T := T) ha
  unfold f_X10_readsNode
  refine s_reads hP.1 ha h6 h7 ⟨by decide, by decide⟩ (fun q => ?_) (fun q => ?_)
  · have hlt : sk T n a < n := ch_pos (T := T) (by omega)
    have hle2 : sk T n (sk T n a + 1) ≤ n := sk_le (by omega)
    have hn2 := hn2 q
    have hn3 := hn3 q
    have hy := hy q
    have hP1 : PS T n z (sset σ 0 36 ((sk T n a + 1 : Nat) : Int)) := PS_at hP _
    refine s_readsOf hP1.1 (a := sk T n a + 1) (by omega) (sset_self _ _ _ _) (by rw [at_37]; exact h7) ⟨by decide, by decide⟩ ⟨by decide, by decide⟩ (fun q1 q2 => ?_) (fun q1 => ?_)
    · have hlt2 : sk T n (sk T n a + 1) < n := ch_pos (T := T) (by omega)
      have hn3 := hn3 q1 q2
      have hy := hy q1 q2
      have hk : (ch T n (sk T n (sk T n a + 1)) - 65).toNat < 12 := by omega
      rw [sset_twice, at_37, h7, sset_row (c' := 23) _ _ _ (by decide)]
      refine ⟨⟨by decide, by decide⟩, fun c => absurd c (by decide), fun _ => ⟨by omega, by omega, hnm _ hk, fun c => ?_, fun c σ3 e3 σ4 e4 => ?_⟩⟩
      · obtain ⟨hnd1, hbk⟩ := hnd _ hk c
        have hy := hy c
        generalize hv : ch T n (sk T n (sk T n a + 1)) - 65 = v at *
        unfold f_X10_readsNode_J47
        rw [at_37, h7]
        refine ⟨⟨by decide, by decide⟩, fun _ => ⟨by omega, by omega, fun σ1 e1 => ⟨by omega, by omega, fun σ2 e2 => ?_⟩⟩, fun c => absurd c (by decide)⟩
        rw [at_x (by decide)] at e1
        have f1 : σ1 0 30 = σ 0 30 := by rw [e1, sset_row _ _ _ (by decide), at_x (by decide)]
        rw [f1, e1, sset_twice] at e2
        have f2 : σ2 0 30 = σ 0 30 := by rw [e2, sset_row _ _ _ (by decide), at_x (by decide)]
        rw [f2]
        refine ⟨hnd0, hnd1, fun σ3 e3 => ?_⟩
        have f3 : σ3 0 30 = σ 0 30 := by rw [e3, sset_row _ _ _ (by decide), f2]
        have hP3 : PS T n z σ3 := by rw [e3, e2]; exact PS_cell (PS_cell (PS_at hP _) _ _ _ (by decide) (by decide)) _ _ _ (by decide) (by decide)
        refine s_here hP3.1 (a := sk T n (sk T n a + 1) + 1) (by omega) (by rw [e3, sset_row _ _ _ (by decide), e2, sset_row _ _ _ (by decide), sset_self]) ?_
        rw [f3]
        have e4 : sset σ3 0 36 ((sk T n (sk T n (sk T n a + 1) + 1) : Nat) : Int) = sset (sset (sset σ 0 36 ((sk T n (sk T n (sk T n a + 1) + 1) : Nat) : Int)) 23 v.toNat (σ 0 30)) 20 (σ 0 30).toNat (65 + v) := by
          rw [e3, e2, sset_comm _ _ _ (Or.inl (by decide)), sset_comm (c := 23) _ _ _ (Or.inl (by decide)), sset_twice]
        rw [e4]
        have fin : ∀ h : Int, (h = 0 ∨ h = 1) → ∀ p : Nat, ((p : Nat) : Int) = ((sk T n (sk T n (sk T n a + 1) + 1) : Nat) : Int) + h → K (mNd σ v p h) → f_X10_readsNode_J110 K (sset (sset (sset σ 0 36 ((sk T n (sk T n (sk T n a + 1) + 1) : Nat) : Int)) 23 v.toNat (σ 0 30)) 20 (σ 0 30).toNat (65 + v)) (σ 0 30) h := by
          intro h hh p hp hK
          unfold f_X10_readsNode_J110
          refine ⟨hnd0, hnd1, hh, fun τ1 d1 => ?_⟩
          have t1 : ∀ j, j ≠ 36 → τ1 0 j = σ 0 j := fun j hj => by rw [d1, sset_row _ _ _ (by decide), sset_row _ _ _ (by decide), sset_row _ _ _ (by decide), at_x hj]
          have t36 : τ1 0 36 = ((sk T n (sk T n (sk T n a + 1) + 1) : Nat) : Int) := by rw [d1, sset_row _ _ _ (by decide), sset_row _ _ _ (by decide), sset_row _ _ _ (by decide), sset_self]
          have t21 : τ1 21 (σ 0 30).toNat = h := by rw [d1, sset_self]
          rw [t1 30 (by decide), t21, t36]
          have fin2 : f_X10_readsNode_J133 K τ1 ((sk T n (sk T n (sk T n a + 1) + 1) : Nat) : Int) h := by
            unfold f_X10_readsNode_J133
            intro τ2 d2
            rw [← hp] at d2
            have u2 : ∀ j, j ≠ 36 → τ2 0 j = σ 0 j := fun j hj => by rw [d2, at_x hj]; exact t1 j hj
            rw [u2 30 (by decide), u2 25 (by decide)]
            refine ⟨hnd0, hnd1, fun τ3 d3 τ4 d4 => ?_⟩
            have u4 : ∀ j, j ≠ 36 → j ≠ 39 → τ4 0 j = σ 0 j := fun j hj hj2 => by rw [d4, sset_place _ _ _ hj2, d3, sset_row _ _ _ (by decide)]; exact u2 j hj
            rw [u4 30 (by decide) (by decide)]
            have u9 : τ4 0 39 = 0 := by rw [d4, sset_self]
            refine s_newBlock (by rw [u4 25 (by decide) (by decide)]; exact hb1) (by rw [u4 25 (by decide) (by decide)]; exact hbk) (by rw [u9]; decide) (by rw [u9]; decide) ?_
            intro τ5 d5
            have w : τ4 = sset (sset (sset (sset (sset (sset σ 0 36 (p : Int)) 23 v.toNat (σ 0 30)) 20 (σ 0 30).toNat (65 + v)) 21 (σ 0 30).toNat h) 22 (σ 0 30).toNat (σ 0 25)) 0 39 0 := by
              rw [d4, d3, d2, d1, sset_comm (c := 21) _ _ _ (Or.inl (by decide)), sset_comm (c := 20) _ _ _ (Or.inl (by decide)), sset_comm (c := 23) _ _ _ (Or.inl (by decide)), sset_twice]
            have w30 : mBk τ4 0 (σ 0 30) (σ 0 30) 0 30 = σ 0 30 := by
              unfold mBk
              rw [sset_place _ _ _ (by decide), sset_place _ _ _ (by decide), sset_row _ _ _ (by decide), sset_row _ _ _ (by decide), sset_row _ _ _ (by decide), sset_row _ _ _ (by decide), sset_row _ _ _ (by decide), sset_row _ _ _ (by decide)]
              exact u4 30 (by decide) (by decide)
            rw [d5, w30, w]
            exact hK
          refine ⟨hnd0, hnd1, inR_01 hh, fun c => ?_, fun c => ?_⟩
          · rw [c] at fin2; exact fin2
          · have : h = 1 := by omega
            rw [this] at fin2; exact fin2
        refine ⟨ch_inR hR, fun g => ?_, fun g => ?_⟩
        · rw [if_neg g, if_neg g] at hy
          exact fin 0 (Or.inl rfl) _ (by omega) hy
        · rw [if_pos g, if_pos g] at hy
          exact fin 1 (Or.inr rfl) _ (by omega) hy
      · have e5 : σ4 = sset (sset σ 0 36 ((sk T n (sk T n a + 1) : Nat) : Int)) 0 37 0 := by
          rw [e4, e3, sset_place _ _ _ (by decide), sset_self, sset_comm _ _ _ (Or.inr (by decide)), sset_twice]
          congr 2
          omega
        unfold f_X10_readsNode_J47
        rw [e5, sset_self]
        refine ⟨⟨by decide, by decide⟩, fun g => absurd rfl g, fun _ => hn3 c _ (PS_dd hP _) dd_36 (sset_self _ _ _ _) (by rw [dd_x (by decide) (by decide)]; exact h9)⟩
    · rw [sset_twice, sset_self]
      refine ⟨⟨by decide, by decide⟩, fun _ => ?_, fun c => absurd rfl c⟩
      unfold f_X10_readsNode_J47
      rw [sset_self]
      exact ⟨⟨by decide, by decide⟩, fun g => absurd rfl g, fun _ => hn2 q1 _ (PS_dd hP _) dd_36 (sset_self _ _ _ _) (by rw [dd_x (by decide) (by decide)]; exact h9)⟩
  · refine s_readsOfD (PS_dd hP _).1 (a := sk T n a) hle dd_36 hss (sset_self _ _ _ _) ⟨by decide, by decide⟩ ⟨by decide, by decide⟩ ?_
    rw [sset_self]
    refine ⟨⟨by decide, by decide⟩, fun _ => ?_, fun c => absurd rfl c⟩
    unfold f_X10_readsNode_J47
    rw [sset_self]
    exact ⟨⟨by decide, by decide⟩, fun g => absurd rfl g, fun _ => hn1 q _ (PS_dd hP _) dd_36 (sset_self _ _ _ _) (by rw [dd_x (by decide) (by decide)]; exact h9)⟩
end MNODE
