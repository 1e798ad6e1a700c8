theorem dX10_verdict_0 : decode cX10_verdict 0 = .ok (.aload_n 0, 1) := by decide +kernel
theorem dX10_verdict_1 : decode cX10_verdict 1 = .ok (.aload_n 0, 1) := by decide +kernel
theorem dX10_verdict_2 : decode cX10_verdict 2 = .ok (.getfield 273, 3) := by decide +kernel
theorem dX10_verdict_5 : decode cX10_verdict 5 = .ok (.ifCond .ne 7, 3) := by decide +kernel
theorem dX10_verdict_8 : decode cX10_verdict 8 = .ok (.iconst 1, 1) := by decide +kernel
theorem dX10_verdict_9 : decode cX10_verdict 9 = .ok (.goto 22, 3) := by decide +kernel
theorem dX10_verdict_12 : decode cX10_verdict 12 = .ok (.iload_n 1, 1) := by decide +kernel
theorem dX10_verdict_13 : decode cX10_verdict 13 = .ok (.iconst 0, 1) := by decide +kernel
theorem dX10_verdict_14 : decode cX10_verdict 14 = .ok (.aload_n 0, 1) := by decide +kernel
theorem dX10_verdict_15 : decode cX10_verdict 15 = .ok (.getfield 208, 3) := by decide +kernel
theorem dX10_verdict_18 : decode cX10_verdict 18 = .ok (.iconst 1, 1) := by decide +kernel
theorem dX10_verdict_19 : decode cX10_verdict 19 = .ok (.isub, 1) := by decide +kernel
theorem dX10_verdict_20 : decode cX10_verdict 20 = .ok (.invokestatic 168, 3) := by decide +kernel
theorem dX10_verdict_23 : decode cX10_verdict 23 = .ok (.ifCond .ne 7, 3) := by decide +kernel
theorem dX10_verdict_26 : decode cX10_verdict 26 = .ok (.iconst 2, 1) := by decide +kernel
theorem dX10_verdict_27 : decode cX10_verdict 27 = .ok (.goto 4, 3) := by decide +kernel
theorem dX10_verdict_30 : decode cX10_verdict 30 = .ok (.iconst 0, 1) := by decide +kernel
theorem dX10_verdict_31 : decode cX10_verdict 31 = .ok (.putfield 143, 3) := by decide +kernel
theorem dX10_verdict_34 : decode cX10_verdict 34 = .ok (.aload_n 0, 1) := by decide +kernel
theorem dX10_verdict_35 : decode cX10_verdict 35 = .ok (.getfield 143, 3) := by decide +kernel
theorem dX10_verdict_38 : decode cX10_verdict 38 = .ok (.ifCond .le 7, 3) := by decide +kernel
theorem dX10_verdict_41 : decode cX10_verdict 41 = .ok (.iconst 0, 1) := by decide +kernel
theorem dX10_verdict_42 : decode cX10_verdict 42 = .ok (.goto 9, 3) := by decide +kernel
theorem dX10_verdict_45 : decode cX10_verdict 45 = .ok (.aload_n 0, 1) := by decide +kernel
theorem dX10_verdict_46 : decode cX10_verdict 46 = .ok (.getfield 140, 3) := by decide +kernel
theorem dX10_verdict_49 : decode cX10_verdict 49 = .ok (.iload_n 1, 1) := by decide +kernel
theorem dX10_verdict_50 : decode cX10_verdict 50 = .ok (.iaload, 1) := by decide +kernel
theorem dX10_verdict_51 : decode cX10_verdict 51 = .ok (.ireturn, 1) := by decide +kernel
theorem dX10_possible_0 : decode cX10_possible 0 = .ok (.aload_n 0, 1) := by decide +kernel
theorem dX10_possible_1 : decode cX10_possible 1 = .ok (.iload_n 1, 1) := by decide +kernel
theorem dX10_possible_2 : decode cX10_possible 2 = .ok (.iconst 0, 1) := by decide +kernel
theorem dX10_possible_3 : decode cX10_possible 3 = .ok (.iconst 1, 1) := by decide +kernel
theorem dX10_possible_4 : decode cX10_possible 4 = .ok (.invokestatic 168, 3) := by decide +kernel
theorem dX10_possible_7 : decode cX10_possible 7 = .ok (.ifCond .ne 7, 3) := by decide +kernel
theorem dX10_possible_10 : decode cX10_possible 10 = .ok (.iconst 1, 1) := by decide +kernel
theorem dX10_possible_11 : decode cX10_possible 11 = .ok (.goto 15, 3) := by decide +kernel
theorem dX10_possible_14 : decode cX10_possible 14 = .ok (.aload_n 0, 1) := by decide +kernel
theorem dX10_possible_15 : decode cX10_possible 15 = .ok (.getfield 273, 3) := by decide +kernel
theorem dX10_possible_18 : decode cX10_possible 18 = .ok (.ifCond .ne 7, 3) := by decide +kernel
theorem dX10_possible_21 : decode cX10_possible 21 = .ok (.iconst 2, 1) := by decide +kernel
theorem dX10_possible_22 : decode cX10_possible 22 = .ok (.goto 4, 3) := by decide +kernel
theorem dX10_possible_25 : decode cX10_possible 25 = .ok (.iconst 0, 1) := by decide +kernel
theorem dX10_possible_26 : decode cX10_possible 26 = .ok (.putfield 143, 3) := by decide +kernel
theorem dX10_possible_29 : decode cX10_possible 29 = .ok (.aload_n 0, 1) := by decide +kernel
theorem dX10_possible_30 : decode cX10_possible 30 = .ok (.getfield 143, 3) := by decide +kernel
theorem dX10_possible_33 : decode cX10_possible 33 = .ok (.ifCond .le 7, 3) := by decide +kernel
theorem dX10_possible_36 : decode cX10_possible 36 = .ok (.iconst 0, 1) := by decide +kernel
theorem dX10_possible_37 : decode cX10_possible 37 = .ok (.goto 18, 3) := by decide +kernel
theorem dX10_possible_40 : decode cX10_possible 40 = .ok (.iload_n 1, 1) := by decide +kernel
theorem dX10_possible_41 : decode cX10_possible 41 = .ok (.ifCond .ne 10, 3) := by decide +kernel
theorem dX10_possible_44 : decode cX10_possible 44 = .ok (.aload_n 0, 1) := by decide +kernel
theorem dX10_possible_45 : decode cX10_possible 45 = .ok (.getfield 429, 3) := by decide +kernel
theorem dX10_possible_48 : decode cX10_possible 48 = .ok (.goto 7, 3) := by decide +kernel
theorem dX10_possible_51 : decode cX10_possible 51 = .ok (.aload_n 0, 1) := by decide +kernel
theorem dX10_possible_52 : decode cX10_possible 52 = .ok (.getfield 414, 3) := by decide +kernel
theorem dX10_possible_55 : decode cX10_possible 55 = .ok (.ireturn, 1) := by decide +kernel
/-! BranchingStoryModel.verdict(I)I -/
def f_X10_verdict_J31 (Q : St → Int → Prop) (σ : St) (v1 : Int) (s1 : Int) : Prop :=
  ∀ σ1 : St, σ1 = sset σ 0 5 s1 → inR (σ1 0 5) ∧ (((σ1 0 5) ≤ 0 → 0 ≤ v1 ∧ v1 < 16 ∧ Q σ1 (σ1 44 v1.toNat)) ∧ (¬ (σ1 0 5) ≤ 0 → Q σ1 0))
def f_X10_verdict (a0 : Int) (σ : St) (Q : St → Int → Prop) : Prop :=
  inR (σ 0 70) ∧ ((¬ (σ 0 70) = 0 → f_X10_in a0 0 ((σ 0 33) - 1) σ (fun σ1 r1 => inR r1 ∧ ((¬ r1 = 0 → f_X10_verdict_J31 Q σ1 a0 0) ∧ (r1 = 0 → f_X10_verdict_J31 Q σ1 a0 2)))) ∧ ((σ 0 70) = 0 → f_X10_verdict_J31 Q σ a0 1))
set_option maxRecDepth 100000 in
set_option maxHeartbeats 4000000 in
theorem w_X10_verdict_J31 {X : Cx} {Y : Cy} {Q : St → Int → Prop} (ok : Ok X Y KM cX10_verdict 2 RX10 (rm0q 1 22) (some .int)) (σ : St) (v1 : Int) (s1 : Int) (h : f_X10_verdict_J31 Q σ v1 s1) : Wq X Y KM 2 (QF X Y (Qiq Y KM Q)) σ 31 [(0, .inr (.inr 0)), (1, .inl v1)] [.inl s1, .inr (.inr 0)] := by
  unfold f_X10_verdict_J31 at h
  refine q_putI ok fp_X10_143 kM_0 fM_0_5 dX10_verdict_31 (wq_s (fun σ1 eσ1 => ?_))
  have h := h σ1 eσ1
  refine q_aload_n ok dX10_verdict_34 0 rfl ?_
  refine q_getI ok fl_X10_143 kM_0 fM_0_5 dX10_verdict_35 ?_
  obtain ⟨g1, hT1a, hT1b⟩ := h
  refine q_if_le (tgt := 45) ok dX10_verdict_38 (by decide) g1 (fun c1 => ?_) (fun c1 => ?_)
  · have h := hT1a c1
    refine q_aload_n ok dX10_verdict_45 0 rfl ?_
    refine q_getC ok fl_X10_140 kM_0 fM_0_71 dX10_verdict_46 ?_
    refine q_iload_n ok dX10_verdict_49 1 rfl ?_
    obtain ⟨g2, g3, h⟩ := h
    refine q_iald ok kM_ok kM_44 g2 g3 dX10_verdict_50 ?_
    exact q_iret ok dX10_verdict_51 h
  · have h := hT1b c1
    refine q_iconst ok dX10_verdict_41 ?_
    refine q_goto (tgt := 51) ok dX10_verdict_42 (by decide) ?_
    exact q_iret ok dX10_verdict_51 h
set_option maxRecDepth 100000 in
set_option maxHeartbeats 4000000 in
theorem c_X10_verdict (l : Launch) (Y : Cy) (hD : ∀ σ, va_D Y.2.2.2 (wsOf KM Y.2.1 Y.2.2.1 σ)) {a0 : Int} {σ : St} {Q : St → Int → Prop} (h : f_X10_verdict a0 σ Q) : ConI l yX10_verdict cX10_verdict 2 .int (rm0q 1 22) Y KM σ [.inr (.inr 0), .inl a0] Q := con_of (lv := [(0, .inr (.inr 0)), (1, .inl a0)]) (by decide) hD (Nat.le_of_ble_eq_true rfl) rfl (fun X _ ok => by
  have ok : Ok X Y KM cX10_verdict 2 RX10 (rm0q 1 22) (some .int) := ok
  unfold f_X10_verdict at h
  refine q_aload_n ok dX10_verdict_0 0 rfl ?_
  refine q_aload_n ok dX10_verdict_1 0 rfl ?_
  refine q_getI ok fl_X10_273 kM_0 fM_0_70 dX10_verdict_2 ?_
  obtain ⟨g1, hT2a, hT2b⟩ := h
  refine q_if_ne (tgt := 12) ok dX10_verdict_5 (by decide) g1 (fun c2 => ?_) (fun c2 => ?_)
  · have h := hT2a c2
    refine q_iload_n ok dX10_verdict_12 1 rfl ?_
    refine q_iconst ok dX10_verdict_13 ?_
    refine q_aload_n ok dX10_verdict_14 0 rfl ?_
    refine q_getI ok fl_X10_208 kM_0 fM_0_33 dX10_verdict_15 ?_
    refine q_iconst ok dX10_verdict_18 ?_
    refine q_isub ok dX10_verdict_19 ?_
    refine q_callSI (st := [.inr (.inr 0)]) ok cs_X10_168 (c_X10_in X.2.1 Y ok.2.2.2.2.2.2.2.2 h) ⟨rfl, rfl, Nat.le_of_ble_eq_true rfl, Nat.le_of_ble_eq_true rfl⟩ rfl rfl (Nat.le_of_ble_eq_true rfl) dX10_verdict_20 (fun σ1 r1 h => ?_)
    obtain ⟨g2, hT1a, hT1b⟩ := h
    refine q_if_ne (tgt := 30) ok dX10_verdict_23 (by decide) g2 (fun c1 => ?_) (fun c1 => ?_)
    · have h := hT1a c1
      refine q_iconst ok dX10_verdict_30 ?_
      exact w_X10_verdict_J31 ok σ1 a0 0 h
    · have h := hT1b c1
      refine q_iconst ok dX10_verdict_26 ?_
      refine q_goto (tgt := 31) ok dX10_verdict_27 (by decide) ?_
      exact w_X10_verdict_J31 ok σ1 a0 2 h
  · have h := hT2b c2
    refine q_iconst ok dX10_verdict_8 ?_
    refine q_goto (tgt := 31) ok dX10_verdict_9 (by decide) ?_
    exact w_X10_verdict_J31 ok σ a0 1 h)
/-! BranchingStoryModel.possible(I)I -/
def f_X10_possible_J26 (Q : St → Int → Prop) (σ : St) (v1 : Int) (s1 : Int) : Prop :=
  ∀ σ1 : St, σ1 = sset σ 0 5 s1 → inR (σ1 0 5) ∧ (((σ1 0 5) ≤ 0 → inR v1 ∧ ((¬ v1 = 0 → Q σ1 (σ1 0 73)) ∧ (v1 = 0 → Q σ1 (σ1 0 72)))) ∧ (¬ (σ1 0 5) ≤ 0 → Q σ1 0))
def f_X10_possible (a0 : Int) (σ : St) (Q : St → Int → Prop) : Prop :=
  f_X10_in a0 0 1 σ (fun σ1 r1 => inR r1 ∧ ((¬ r1 = 0 → inR (σ1 0 70) ∧ ((¬ (σ1 0 70) = 0 → f_X10_possible_J26 Q σ1 a0 0) ∧ ((σ1 0 70) = 0 → f_X10_possible_J26 Q σ1 a0 2))) ∧ (r1 = 0 → f_X10_possible_J26 Q σ1 a0 1)))
set_option maxRecDepth 100000 in
set_option maxHeartbeats 4000000 in
theorem w_X10_possible_J26 {X : Cx} {Y : Cy} {Q : St → Int → Prop} (ok : Ok X Y KM cX10_possible 2 RX10 (rm0q 1 22) (some .int)) (σ : St) (v1 : Int) (s1 : Int) (h : f_X10_possible_J26 Q σ v1 s1) : Wq X Y KM 2 (QF X Y (Qiq Y KM Q)) σ 26 [(0, .inr (.inr 0)), (1, .inl v1)] [.inl s1, .inr (.inr 0)] := by
  unfold f_X10_possible_J26 at h
  refine q_putI ok fp_X10_143 kM_0 fM_0_5 dX10_possible_26 (wq_s (fun σ1 eσ1 => ?_))
  have h := h σ1 eσ1
  refine q_aload_n ok dX10_possible_29 0 rfl ?_
  refine q_getI ok fl_X10_143 kM_0 fM_0_5 dX10_possible_30 ?_
  obtain ⟨g1, hT2a, hT2b⟩ := h
  refine q_if_le (tgt := 40) ok dX10_possible_33 (by decide) g1 (fun c2 => ?_) (fun c2 => ?_)
  · have h := hT2a c2
    refine q_iload_n ok dX10_possible_40 1 rfl ?_
    obtain ⟨g2, hT1a, hT1b⟩ := h
    refine q_if_ne (tgt := 51) ok dX10_possible_41 (by decide) g2 (fun c1 => ?_) (fun c1 => ?_)
    · have h := hT1a c1
      refine q_aload_n ok dX10_possible_51 0 rfl ?_
      refine q_getI ok fl_X10_414 kM_0 fM_0_73 dX10_possible_52 ?_
      exact q_iret ok dX10_possible_55 h
    · have h := hT1b c1
      refine q_aload_n ok dX10_possible_44 0 rfl ?_
      refine q_getI ok fl_X10_429 kM_0 fM_0_72 dX10_possible_45 ?_
      refine q_goto (tgt := 55) ok dX10_possible_48 (by decide) ?_
      exact q_iret ok dX10_possible_55 h
  · have h := hT2b c2
    refine q_iconst ok dX10_possible_36 ?_
    refine q_goto (tgt := 55) ok dX10_possible_37 (by decide) ?_
    exact q_iret ok dX10_possible_55 h
set_option maxRecDepth 100000 in
set_option maxHeartbeats 4000000 in
theorem c_X10_possible (l : Launch) (Y : Cy) (hD : ∀ σ, va_D Y.2.2.2 (wsOf KM Y.2.1 Y.2.2.1 σ)) {a0 : Int} {σ : St} {Q : St → Int → Prop} (h : f_X10_possible a0 σ Q) : ConI l yX10_possible cX10_possible 2 .int (rm0q 1 22) Y KM σ [.inr (.inr 0), .inl a0] Q := con_of (lv := [(0, .inr (.inr 0)), (1, .inl a0)]) (by decide) hD (Nat.le_of_ble_eq_true rfl) rfl (fun X _ ok => by
  have ok : Ok X Y KM cX10_possible 2 RX10 (rm0q 1 22) (some .int) := ok
  unfold f_X10_possible at h
  refine q_aload_n ok dX10_possible_0 0 rfl ?_
  refine q_iload_n ok dX10_possible_1 1 rfl ?_
  refine q_iconst ok dX10_possible_2 ?_
  refine q_iconst ok dX10_possible_3 ?_
  refine q_callSI (st := [.inr (.inr 0)]) ok cs_X10_168 (c_X10_in X.2.1 Y ok.2.2.2.2.2.2.2.2 h) ⟨rfl, rfl, Nat.le_of_ble_eq_true rfl, Nat.le_of_ble_eq_true rfl⟩ rfl rfl (Nat.le_of_ble_eq_true rfl) dX10_possible_4 (fun σ1 r1 h => ?_)
  obtain ⟨g1, hT2a, hT2b⟩ := h
  refine q_if_ne (tgt := 14) ok dX10_possible_7 (by decide) g1 (fun c2 => ?_) (fun c2 => ?_)
  · have h := hT2a c2
    refine q_aload_n ok dX10_possible_14 0 rfl ?_
    refine q_getI ok fl_X10_273 kM_0 fM_0_70 dX10_possible_15 ?_
    obtain ⟨g2, hT1a, hT1b⟩ := h
    refine q_if_ne (tgt := 25) ok dX10_possible_18 (by decide) g2 (fun c1 => ?_) (fun c1 => ?_)
    · have h := hT1a c1
      refine q_iconst ok dX10_possible_25 ?_
      exact w_X10_possible_J26 ok σ1 a0 0 h
    · have h := hT1b c1
      refine q_iconst ok dX10_possible_21 ?_
      refine q_goto (tgt := 26) ok dX10_possible_22 (by decide) ?_
      exact w_X10_possible_J26 ok σ1 a0 2 h
  · have h := hT2b c2
    refine q_iconst ok dX10_possible_10 ?_
    refine q_goto (tgt := 26) ok dX10_possible_11 (by decide) ?_
    exact w_X10_possible_J26 ok σ1 a0 1 h)
