/-! ===== pure layer: the law ===== -/
section HANDLERS
variable {A B C : String}
theorem G_1 (Q : St → Int → Prop) (e : String) (σ1 : St) (code : Int) (h : e = A ∧ code = 1) (q : Q σ1 code) : e = A ∧ Q σ1 1 := ⟨h.1, h.2 ▸ q⟩
theorem G_2 (Q : St → Int → Prop) (e : String) (σ1 : St) (code : Int) (h : (e = A ∧ code = 1) ∨ (e = B ∧ code = 2)) (q : Q σ1 code) : (e = A ∧ Q σ1 1) ∨ (e = B ∧ Q σ1 2) := h.elim (fun h => Or.inl ⟨h.1, h.2 ▸ q⟩) (fun h => Or.inr ⟨h.1, h.2 ▸ q⟩)
theorem G_3 (Q : St → Int → Prop) (e : String) (σ1 : St) (code : Int) (h : (e = A ∧ code = 1) ∨ (e = B ∧ code = 2) ∨ (e = C ∧ code = 3)) (q : Q σ1 code) : (e = A ∧ Q σ1 1) ∨ (e = B ∧ Q σ1 2) ∨ (e = C ∧ Q σ1 3) := h.elim (fun h => Or.inl ⟨h.1, h.2 ▸ q⟩) (fun h => Or.inr (h.elim (fun h => Or.inl ⟨h.1, h.2 ▸ q⟩) (fun h => Or.inr ⟨h.1, h.2 ▸ q⟩)))
end HANDLERS
theorem Jx_mono {KB KB1 : Int} {c m : St} (h : Jx KB c m) (hK : KB ≤ KB1) : Jx KB1 c m := by
  obtain ⟨a1, a2, D, a3, a4⟩ := h
  exact ⟨a1, a2, D, a3, JB_fr a3.1 hK a4 (fun _ _ => rfl) (fun _ _ => rfl) (fun _ _ _ => rfl)⟩
section LAWC
variable {xs : Nat → Int32} {i : Int} {σ : St} {k : St → Prop} {KB : Int}
theorem lawc_0 (hJ : Jx KB (ssub σ 0) (ssub σ 72)) (hk : ∀ σ' : St, Jx (KB) (ssub σ' 0) (ssub σ' 72) → k σ') : f_W_0 xs i σ k := by
  unfold f_W_0 f_L_type
  exact W_i (J := Jx (KB)) (fC := (f_X9_type (xs (i + 1).toNat).toInt)) (fM := (f_X10_type (xs (i + 1).toNat).toInt)) (G := fun Q e σ1 => (e = IAE ∧ Q σ1 1) ∨ (e = ISE ∧ Q σ1 2)) G_2 (Q_type hJ (toI_inR _)) hk
theorem lawc_1 (hJ : Jx KB (ssub σ 0) (ssub σ 72)) (hk : ∀ σ' : St, Jx (KB) (ssub σ' 0) (ssub σ' 72) → k σ') : f_W_1 xs i σ k := by
  unfold f_W_1
  exact W_n (J := Jx (KB)) (fC := f_X9_clearText) (fM := f_X10_clearText) (Q_clear hJ) hk
theorem lawc_4 (hJ : Jx KB (ssub σ 0) (ssub σ 72)) (hk : ∀ σ' : St, Jx (KB) (ssub σ' 0) (ssub σ' 72) → k σ') : f_W_4 xs i σ k := by
  unfold f_W_4 f_L_count
  exact W_i (J := Jx (KB)) (fC := (f_X9_count (xs (i + 1).toNat).toInt)) (fM := (f_X10_count (xs (i + 1).toNat).toInt)) (G := fun Q e σ1 => (e = IAE ∧ Q σ1 1)) G_1 (Q_count hJ (toI_inR _)) hk
theorem lawc_5 (hJ : Jx KB (ssub σ 0) (ssub σ 72)) (hk : ∀ σ' : St, Jx (KB) (ssub σ' 0) (ssub σ' 72) → k σ') : f_W_5 xs i σ k := by
  unfold f_W_5 f_L_name
  exact W_i (J := Jx (KB)) (fC := (f_X9_name (xs (i + 1).toNat).toInt)) (fM := (f_X10_name (xs (i + 1).toNat).toInt)) (G := fun Q e σ1 => (e = IOE ∧ Q σ1 1)) G_1 (Q_name hJ (toI_inR _)) hk
theorem lawc_6 (hJ : Jx KB (ssub σ 0) (ssub σ 72)) (hk : ∀ σ' : St, Jx (KB) (ssub σ' 0) (ssub σ' 72) → k σ') : f_W_6 xs i σ k := by
  unfold f_W_6 f_L_isHub
  exact W_b (J := Jx (KB)) (fC := (f_X9_isHub (xs (i + 1).toNat).toInt)) (fM := (f_X10_isHub (xs (i + 1).toNat).toInt)) (G := fun Q e σ1 => (e = IOE ∧ Q σ1 1)) G_1 (Q_isHub hJ (toI_inR _)) hk
theorem lawc_7 (hJ : Jx KB (ssub σ 0) (ssub σ 72)) (hk : ∀ σ' : St, Jx (KB) (ssub σ' 0) (ssub σ' 72) → k σ') : f_W_7 xs i σ k := by
  unfold f_W_7 f_L_label
  exact W_i (J := Jx (KB)) (fC := (f_X9_label (xs (i + 1).toNat).toInt)) (fM := (f_X10_label (xs (i + 1).toNat).toInt)) (G := fun Q e σ1 => (e = IOE ∧ Q σ1 1)) G_1 (Q_label hJ (toI_inR _)) hk
theorem lawc_8 (hJ : Jx KB (ssub σ 0) (ssub σ 72)) (hk : ∀ σ' : St, Jx (KB) (ssub σ' 0) (ssub σ' 72) → k σ') : f_W_8 xs i σ k := by
  unfold f_W_8 f_L_nodeOf
  exact W_i (J := Jx (KB)) (fC := (f_X9_nodeOf (xs (i + 1).toNat).toInt)) (fM := (f_X10_nodeOf (xs (i + 1).toNat).toInt)) (G := fun Q e σ1 => (e = IOE ∧ Q σ1 1)) G_1 (Q_nodeOf hJ (toI_inR _)) hk
theorem lawc_9 (hJ : Jx KB (ssub σ 0) (ssub σ 72)) (hK : 0 ≤ KB) (hk : ∀ σ' : St, Jx (KB + 150) (ssub σ' 0) (ssub σ' 72) → k σ') : f_W_9 xs i σ k := by
  unfold f_W_9 f_L_start
  exact W_i (J := Jx (KB + 150)) (fC := f_X9_start) (fM := f_X10_start) (G := fun Q e σ1 => (e = ISE ∧ Q σ1 1)) G_1 (Q_start hJ hK) hk
theorem lawc_10 (hJ : Jx KB (ssub σ 0) (ssub σ 72)) (hK0 : 0 ≤ KB) (hK : KB < 1000000) (hk : ∀ σ' : St, Jx (KB + 150) (ssub σ' 0) (ssub σ' 72) → k σ') : f_W_10 xs i σ k := by
  unfold f_W_10 f_L_choose
  exact W_i (J := Jx (KB + 150)) (fC := (f_X9_choose (xs (i + 1).toNat).toInt)) (fM := (f_X10_choose (xs (i + 1).toNat).toInt)) (G := fun Q e σ1 => (e = ISE ∧ Q σ1 1) ∨ (e = IOE ∧ Q σ1 2)) G_2 (Q_choose hJ hK0 hK (toI_inR _)) hk
theorem lawc_11 (hJ : Jx KB (ssub σ 0) (ssub σ 72)) (hk : ∀ σ' : St, Jx (KB) (ssub σ' 0) (ssub σ' 72) → k σ') : f_W_11 xs i σ k := by
  unfold f_W_11 f_L_back
  exact W_i (J := Jx (KB)) (fC := f_X9_back) (fM := f_X10_back) (G := fun Q e σ1 => (e = ISE ∧ Q σ1 1)) G_1 (Q_back hJ) hk
theorem lawc_12 (hJ : Jx KB (ssub σ 0) (ssub σ 72)) (hK : KB < 1000000) (hk : ∀ σ' : St, Jx (KB) (ssub σ' 0) (ssub σ' 72) → k σ') : f_W_12 xs i σ k := by
  unfold f_W_12
  exact W_n (J := Jx (KB)) (fC := f_X9_status) (fM := f_X10_status) (Q_status hJ hK) hk
theorem lawc_13 (hJ : Jx KB (ssub σ 0) (ssub σ 72)) (hK : KB < 1000000) (hk : ∀ σ' : St, Jx (KB) (ssub σ' 0) (ssub σ' 72) → k σ') : f_W_13 xs i σ k := by
  unfold f_W_13
  exact W_n (J := Jx (KB)) (fC := f_X9_ending) (fM := f_X10_ending) (Q_ending hJ hK) hk
theorem lawc_14 (hJ : Jx KB (ssub σ 0) (ssub σ 72)) (hK : KB < 1000000) (hk : ∀ σ' : St, Jx (KB) (ssub σ' 0) (ssub σ' 72) → k σ') : f_W_14 xs i σ k := by
  unfold f_W_14
  exact W_n (J := Jx (KB)) (fC := f_X9_node) (fM := f_X10_node) (Q_node hJ hK) hk
theorem lawc_15 (hJ : Jx KB (ssub σ 0) (ssub σ 72)) (hK : KB < 1000000) (hk : ∀ σ' : St, Jx (KB) (ssub σ' 0) (ssub σ' 72) → k σ') : f_W_15 xs i σ k := by
  unfold f_W_15
  exact W_n (J := Jx (KB)) (fC := f_X9_hub) (fM := f_X10_hub) (Q_hub hJ hK) hk
theorem lawc_16 (hJ : Jx KB (ssub σ 0) (ssub σ 72)) (hK : KB < 1000000) (hk : ∀ σ' : St, Jx (KB) (ssub σ' 0) (ssub σ' 72) → k σ') : f_W_16 xs i σ k := by
  unfold f_W_16
  exact W_n (J := Jx (KB)) (fC := f_X9_offered) (fM := f_X10_offered) (Q_offered hJ hK) hk
theorem lawc_17 (hJ : Jx KB (ssub σ 0) (ssub σ 72)) (hK : KB < 1000000) (hk : ∀ σ' : St, Jx (KB) (ssub σ' 0) (ssub σ' 72) → k σ') : f_W_17 xs i σ k := by
  unfold f_W_17 f_L_choice
  exact W_i (J := Jx (KB)) (fC := (f_X9_choice (xs (i + 1).toNat).toInt)) (fM := (f_X10_choice (xs (i + 1).toNat).toInt)) (G := fun Q e σ1 => (e = IOE ∧ Q σ1 1)) G_1 (Q_choice hJ hK (toI_inR _)) hk
theorem lawc_18 (hJ : Jx KB (ssub σ 0) (ssub σ 72)) (hK : KB < 1000000) (hk : ∀ σ' : St, Jx (KB) (ssub σ' 0) (ssub σ' 72) → k σ') : f_W_18 xs i σ k := by
  unfold f_W_18 f_L_flag
  exact W_i (J := Jx (KB)) (fC := (f_X9_flag (xs (i + 1).toNat).toInt)) (fM := (f_X10_flag (xs (i + 1).toNat).toInt)) (G := fun Q e σ1 => (e = IAE ∧ Q σ1 1)) G_1 (Q_flag hJ hK (toI_inR _)) hk
theorem lawc_19 (hJ : Jx KB (ssub σ 0) (ssub σ 72)) (hK : KB < 1000000) (hk : ∀ σ' : St, Jx (KB) (ssub σ' 0) (ssub σ' 72) → k σ') : f_W_19 xs i σ k := by
  unfold f_W_19 f_L_meter
  exact W_i (J := Jx (KB)) (fC := (f_X9_meter (xs (i + 1).toNat).toInt)) (fM := (f_X10_meter (xs (i + 1).toNat).toInt)) (G := fun Q e σ1 => (e = IAE ∧ Q σ1 1)) G_1 (Q_meter hJ hK (toI_inR _)) hk
theorem lawc_20 (hJ : Jx KB (ssub σ 0) (ssub σ 72)) (hK : KB < 1000000) (hk : ∀ σ' : St, Jx (KB) (ssub σ' 0) (ssub σ' 72) → k σ') : f_W_20 xs i σ k := by
  unfold f_W_20
  exact W_n (J := Jx (KB)) (fC := f_X9_said) (fM := f_X10_said) (Q_said hJ hK) hk
theorem lawc_21 (hJ : Jx KB (ssub σ 0) (ssub σ 72)) (hK : KB < 1000000) (hk : ∀ σ' : St, Jx (KB) (ssub σ' 0) (ssub σ' 72) → k σ') : f_W_21 xs i σ k := by
  unfold f_W_21 f_L_line
  exact W_i (J := Jx (KB)) (fC := (f_X9_line (xs (i + 1).toNat).toInt)) (fM := (f_X10_line (xs (i + 1).toNat).toInt)) (G := fun Q e σ1 => (e = IAE ∧ Q σ1 1)) G_1 (Q_line hJ hK (toI_inR _)) hk
theorem lawc_22 (hJ : Jx KB (ssub σ 0) (ssub σ 72)) (hk : ∀ σ' : St, Jx (KB) (ssub σ' 0) (ssub σ' 72) → k σ') : f_W_22 xs i σ k := by
  unfold f_W_22 f_L_explore
  exact W_i (J := Jx (KB)) (fC := (f_X9_explore (xs (i + 1).toNat).toInt)) (fM := (f_X10_explore (xs (i + 1).toNat).toInt)) (G := fun Q e σ1 => (e = IAE ∧ Q σ1 1) ∨ (e = ISE ∧ Q σ1 2)) G_2 (Q_explore hJ (toI_inR _)) hk
theorem lawc_23 (hJ : Jx KB (ssub σ 0) (ssub σ 72)) (hk : ∀ σ' : St, Jx (KB) (ssub σ' 0) (ssub σ' 72) → k σ') : f_W_23 xs i σ k := by
  unfold f_W_23 f_L_isComplete
  exact W_b (J := Jx (KB)) (fC := f_X9_isComplete) (fM := f_X10_isComplete) (G := fun Q e σ1 => (e = ISE ∧ Q σ1 1)) G_1 (Q_isComplete hJ) hk
theorem lawc_24 (hJ : Jx KB (ssub σ 0) (ssub σ 72)) (hk : ∀ σ' : St, Jx (KB) (ssub σ' 0) (ssub σ' 72) → k σ') : f_W_24 xs i σ k := by
  unfold f_W_24 f_L_wayLength
  exact W_i (J := Jx (KB)) (fC := (f_X9_wayLength (xs (i + 1).toNat).toInt)) (fM := (f_X10_wayLength (xs (i + 1).toNat).toInt)) (G := fun Q e σ1 => (e = IAE ∧ Q σ1 1) ∨ (e = ISE ∧ Q σ1 2)) G_2 (Q_wayLength hJ (toI_inR _)) hk
theorem lawc_25 (hJ : Jx KB (ssub σ 0) (ssub σ 72)) (hk : ∀ σ' : St, Jx (KB) (ssub σ' 0) (ssub σ' 72) → k σ') : f_W_25 xs i σ k := by
  unfold f_W_25 f_L_way
  exact W_i (J := Jx (KB)) (fC := (f_X9_way (xs (i + 1).toNat).toInt (xs (i + 2).toNat).toInt)) (fM := (f_X10_way (xs (i + 1).toNat).toInt (xs (i + 2).toNat).toInt)) (G := fun Q e σ1 => (e = IAE ∧ Q σ1 1) ∨ (e = ISE ∧ Q σ1 2) ∨ (e = IOE ∧ Q σ1 3)) G_3 (Q_way hJ (toI_inR _) (toI_inR _)) hk
theorem lawc_26 (hJ : Jx KB (ssub σ 0) (ssub σ 72)) (hk : ∀ σ' : St, Jx (KB) (ssub σ' 0) (ssub σ' 72) → k σ') : f_W_26 xs i σ k := by
  unfold f_W_26 f_L_outcomes
  exact W_i (J := Jx (KB)) (fC := (f_X9_outcomes (xs (i + 1).toNat).toInt)) (fM := (f_X10_outcomes (xs (i + 1).toNat).toInt)) (G := fun Q e σ1 => (e = IAE ∧ Q σ1 1) ∨ (e = ISE ∧ Q σ1 2)) G_2 (Q_outcomes hJ (toI_inR _)) hk
theorem lawc_27 (hJ : Jx KB (ssub σ 0) (ssub σ 72)) (hk : ∀ σ' : St, Jx (KB) (ssub σ' 0) (ssub σ' 72) → k σ') : f_W_27 xs i σ k := by
  unfold f_W_27 f_L_occurred
  exact W_b (J := Jx (KB)) (fC := (f_X9_occurred (xs (i + 1).toNat).toInt (xs (i + 2).toNat).toInt)) (fM := (f_X10_occurred (xs (i + 1).toNat).toInt (xs (i + 2).toNat).toInt)) (G := fun Q e σ1 => (e = IAE ∧ Q σ1 1) ∨ (e = ISE ∧ Q σ1 2) ∨ (e = IOE ∧ Q σ1 3)) G_3 (Q_occurred hJ (toI_inR _) (toI_inR _)) hk
theorem lawc_28 (hJ : Jx KB (ssub σ 0) (ssub σ 72)) (hk : ∀ σ' : St, Jx (KB) (ssub σ' 0) (ssub σ' 72) → k σ') : f_W_28 xs i σ k := by
  unfold f_W_28 f_L_analyze
  exact W_i (J := Jx (KB)) (fC := f_X9_analyze) (fM := f_X10_analyze) (G := fun Q e σ1 => (e = ISE ∧ Q σ1 1)) G_1 (Q_analyze hJ) hk
theorem lawc_29 (hJ : Jx KB (ssub σ 0) (ssub σ 72)) (hk : ∀ σ' : St, Jx (KB) (ssub σ' 0) (ssub σ' 72) → k σ') : f_W_29 xs i σ k := by
  unfold f_W_29 f_L_isReached
  exact W_b (J := Jx (KB)) (fC := (f_X9_isReached (xs (i + 1).toNat).toInt (xs (i + 2).toNat).toInt)) (fM := (f_X10_isReached (xs (i + 1).toNat).toInt (xs (i + 2).toNat).toInt)) (G := fun Q e σ1 => (e = IAE ∧ Q σ1 1) ∨ (e = ISE ∧ Q σ1 2) ∨ (e = IOE ∧ Q σ1 3)) G_3 (Q_isReached hJ (toI_inR _) (toI_inR _)) hk
theorem lawc_30 (hJ : Jx KB (ssub σ 0) (ssub σ 72)) (hk : ∀ σ' : St, Jx (KB) (ssub σ' 0) (ssub σ' 72) → k σ') : f_W_30 xs i σ k := by
  unfold f_W_30 f_L_lowest
  exact W_i (J := Jx (KB)) (fC := (f_X9_lowest (xs (i + 1).toNat).toInt (xs (i + 2).toNat).toInt)) (fM := (f_X10_lowest (xs (i + 1).toNat).toInt (xs (i + 2).toNat).toInt)) (G := fun Q e σ1 => (e = IAE ∧ Q σ1 1) ∨ (e = ISE ∧ Q σ1 2) ∨ (e = IOE ∧ Q σ1 3)) G_3 (Q_lowest hJ (toI_inR _) (toI_inR _)) hk
theorem lawc_31 (hJ : Jx KB (ssub σ 0) (ssub σ 72)) (hk : ∀ σ' : St, Jx (KB) (ssub σ' 0) (ssub σ' 72) → k σ') : f_W_31 xs i σ k := by
  unfold f_W_31 f_L_greatest
  exact W_i (J := Jx (KB)) (fC := (f_X9_greatest (xs (i + 1).toNat).toInt (xs (i + 2).toNat).toInt)) (fM := (f_X10_greatest (xs (i + 1).toNat).toInt (xs (i + 2).toNat).toInt)) (G := fun Q e σ1 => (e = IAE ∧ Q σ1 1) ∨ (e = ISE ∧ Q σ1 2) ∨ (e = IOE ∧ Q σ1 3)) G_3 (Q_greatest hJ (toI_inR _) (toI_inR _)) hk
theorem lawc_32 (hJ : Jx KB (ssub σ 0) (ssub σ 72)) (hk : ∀ σ' : St, Jx (KB) (ssub σ' 0) (ssub σ' 72) → k σ') : f_W_32 xs i σ k := by
  unfold f_W_32 f_L_values
  exact W_i (J := Jx (KB)) (fC := (f_X9_values (xs (i + 1).toNat).toInt (xs (i + 2).toNat).toInt)) (fM := (f_X10_values (xs (i + 1).toNat).toInt (xs (i + 2).toNat).toInt)) (G := fun Q e σ1 => (e = IAE ∧ Q σ1 1) ∨ (e = ISE ∧ Q σ1 2) ∨ (e = IOE ∧ Q σ1 3)) G_3 (Q_values hJ (toI_inR _) (toI_inR _)) hk
theorem lawc_33 (hJ : Jx KB (ssub σ 0) (ssub σ 72)) (hk : ∀ σ' : St, Jx (KB) (ssub σ' 0) (ssub σ' 72) → k σ') : f_W_33 xs i σ k := by
  unfold f_W_33 f_L_hubs
  exact W_i (J := Jx (KB)) (fC := (f_X9_hubs (xs (i + 1).toNat).toInt)) (fM := (f_X10_hubs (xs (i + 1).toNat).toInt)) (G := fun Q e σ1 => (e = ISE ∧ Q σ1 1) ∨ (e = IOE ∧ Q σ1 2)) G_2 (Q_hubs hJ (toI_inR _)) hk
theorem lawc_34 (hJ : Jx KB (ssub σ 0) (ssub σ 72)) (hk : ∀ σ' : St, Jx (KB) (ssub σ' 0) (ssub σ' 72) → k σ') : f_W_34 xs i σ k := by
  unfold f_W_34 f_L_verdict
  exact W_i (J := Jx (KB)) (fC := (f_X9_verdict (xs (i + 1).toNat).toInt)) (fM := (f_X10_verdict (xs (i + 1).toNat).toInt)) (G := fun Q e σ1 => (e = ISE ∧ Q σ1 1) ∨ (e = IOE ∧ Q σ1 2)) G_2 (Q_verdict hJ (toI_inR _)) hk
theorem lawc_35 (hJ : Jx KB (ssub σ 0) (ssub σ 72)) (hk : ∀ σ' : St, Jx (KB) (ssub σ' 0) (ssub σ' 72) → k σ') : f_W_35 xs i σ k := by
  unfold f_W_35 f_L_possible
  exact W_i (J := Jx (KB)) (fC := (f_X9_possible (xs (i + 1).toNat).toInt)) (fM := (f_X10_possible (xs (i + 1).toNat).toInt)) (G := fun Q e σ1 => (e = IAE ∧ Q σ1 1) ∨ (e = ISE ∧ Q σ1 2)) G_2 (Q_possible hJ (toI_inR _)) hk
theorem lawc_2 (hJ : Jx KB (ssub σ 0) (ssub σ 72)) (hk : ∀ σ' : St, Jx KB (ssub σ' 0) (ssub σ' 72) → k σ') : f_W_2 xs i σ k := by
  obtain ⟨D, hA, hB⟩ := J_open hJ
  obtain ⟨T, n, hT, h1, h1', hn, hTb, hT1⟩ := J_text hJ
  obtain ⟨D', hD'⟩ : ∃ D' : Nat, D' = 22 - D := ⟨_, rfl⟩
  have hd' : D' = 2 ∨ D' = 20 := by have := hA.1; omega
  have e3 : (ssub σ 0 0 3).toNat = D' := by rw [hA.2.2.1, Int.toNat_natCast, hD']
  unfold f_W_2 f_X9_fault
  rw [h1, e3]
  refine t_read hd' hT (fun c' r hF hP => ?_)
  intro σ1 q1
  subst q1
  rw [ssub_CM]
  refine r_fault hJ hA hB hD' hn hTb h1' hT1 hF hP _ (fun m1 hj1 _ _ => ?_)
  intro σ2 q2
  subst q2
  have hr : inR r := ⟨by have := hP.1; omega, by have := hP.1; omega⟩
  refine ⟨hr, hr, fun _ => hk _ ?_, fun u => absurd rfl u⟩
  rw [ssub_MC, ssub_M hj1.1.2, ssub_C hj1.1.1]
  exact hj1
theorem lawc_3 (hJ : Jx KB (ssub σ 0) (ssub σ 72)) (hK : 0 ≤ KB) (hk : ∀ σ' : St, Jx KB (ssub σ' 0) (ssub σ' 72) → k σ') : f_W_3 xs i σ k := by
  obtain ⟨D, hA, hB⟩ := J_open hJ
  obtain ⟨T, n, hT, h1, h1', hn, hTb, hT1⟩ := J_text hJ
  obtain ⟨D', hD'⟩ : ∃ D' : Nat, D' = 22 - D := ⟨_, rfl⟩
  have hd' : D' = 2 ∨ D' = 20 := by have := hA.1; omega
  have e3 : (ssub σ 0 0 3).toNat = D' := by rw [hA.2.2.1, Int.toNat_natCast, hD']
  unfold f_W_3 f_L_build f_X9_build
  rw [h1, e3]
  refine t_read hd' hT (fun c' r hF hP => ?_)
  have hr : inR r := ⟨by have := hP.1; omega, by have := hP.1; omega⟩
  refine ⟨hr, fun u => ?_, fun u => ?_⟩
  · subst u
    obtain ⟨c7, a1, a2, a3, a4, a5, a6, a7, a8, go⟩ := t_built hA hB hD' hF
    refine go (fun u r => ∀ σ1 : St, σ1 = mC σ u → ∀ σ2 : St, σ2 = sset σ1 117 0 (i2l64 r) → f_X10_build (ssub σ2 72) (Ti k σ2 0)) (fun _ _ => True) ?_
    intro σ1 q1 σ2 q2
    subst q1
    subst q2
    show f_X10_build (ssub (sset (mC σ c7) 117 0 (i2l64 (c7 D' 10))) 72) (Ti k (sset (mC σ c7) 117 0 (i2l64 (c7 D' 10))) 0)
    rw [ssub_117.1, ssub_CM]
    have e10 : c7 D' 10 = c' D' 10 := by rw [a1 D' (by omega) (by omega)]
    have c01 : c' 0 = ssub σ 0 0 := hF 0 (by omega) (by decide)
    refine r_build hJ hA hB hD' hn hTb h1' hT1 hF hP _ (fun u => absurd rfl u) (fun _ m1 b1 b2 b3 b4 b5 b6 b7 b8 b9 b10 b11 b12 => ?_)
    have hj : Jx KB c7 m1 := J_built hA.1 hD' hK a1 a2 ⟨by rw [a3.1, c01], a3.2⟩ a4 a5 a6 a7 a8 hP b1 b2 b3 b4 b5 b6 b7 b8 b9 b10 b11
    refine Ti_of b1.2 b12 ⟨by decide, by decide⟩ (hk _ ?_) (fun _ => by rw [sset_at, vu_eq, e10])
    rw [ssub_MC, ssub_M b1.2, ssub_117.2, ssub_C hj.1.1]
    exact hj
  · intro σ1 q1
    subst q1
    refine ⟨rfl, ?_⟩
    show f_X10_build (ssub (mC σ c') 72) (Ti k (mC σ c') 1)
    rw [ssub_CM]
    refine r_build hJ hA hB hD' hn hTb h1' hT1 hF hP _ (fun _ m1 hj1 h5 => ?_) (fun w => absurd w u)
    refine Ti_of hj1.1.2 h5 ⟨by decide, by decide⟩ (hk _ ?_) (fun z => absurd z (by decide))
    rw [ssub_MC, ssub_M hj1.1.2, ssub_C hj1.1.1]
    exact hj1
/-- one call of the run -/
theorem law_W (hJ : Jx KB (ssub σ 0) (ssub σ 72)) (hK0 : 0 ≤ KB) (hK : KB < 1000000) (hk : ∀ σ' : St, Jx (KB + 150) (ssub σ' 0) (ssub σ' 72) → k σ') : f_W xs i σ k := by
  have hk' : ∀ σ' : St, Jx KB (ssub σ' 0) (ssub σ' 72) → k σ' := fun σ' h => hk σ' (Jx_mono h (by omega))
  unfold f_W
  exact ⟨fun _ => lawc_0 hJ hk', fun _ => lawc_1 hJ hk', fun _ => lawc_2 hJ hk', fun _ => lawc_3 hJ hK0 hk', fun _ => lawc_4 hJ hk', fun _ => lawc_5 hJ hk', fun _ => lawc_6 hJ hk', fun _ => lawc_7 hJ hk', fun _ => lawc_8 hJ hk', fun _ => lawc_9 hJ hK0 hk, fun _ => lawc_10 hJ hK0 hK hk, fun _ => lawc_11 hJ hk', fun _ => lawc_12 hJ hK hk', fun _ => lawc_13 hJ hK hk', fun _ => lawc_14 hJ hK hk', fun _ => lawc_15 hJ hK hk', fun _ => lawc_16 hJ hK hk', fun _ => lawc_17 hJ hK hk', fun _ => lawc_18 hJ hK hk', fun _ => lawc_19 hJ hK hk', fun _ => lawc_20 hJ hK hk', fun _ => lawc_21 hJ hK hk', fun _ => lawc_22 hJ hk', fun _ => lawc_23 hJ hk', fun _ => lawc_24 hJ hk', fun _ => lawc_25 hJ hk', fun _ => lawc_26 hJ hk', fun _ => lawc_27 hJ hk', fun _ => lawc_28 hJ hk', fun _ => lawc_29 hJ hk', fun _ => lawc_30 hJ hk', fun _ => lawc_31 hJ hk', fun _ => lawc_32 hJ hk', fun _ => lawc_33 hJ hk', fun _ => lawc_34 hJ hk', fun _ => lawc_35 hJ hk', fun _ => hk' σ hJ⟩
end LAWC
theorem st00_m (q : Nat) : ssub st00 72 q = fun _ => 0 := by
  unfold ssub
  by_cases z : q < lim 72
  · rw [if_pos z]
    unfold st00
    rw [sset_row _ _ _ (by omega), sset_row _ _ _ (by omega), sset_row _ _ _ (by omega), sset_row _ _ _ (by omega), sset_row _ _ _ (by omega), sset_row _ _ _ (by omega), sset_row _ _ _ (by omega), sset_row _ _ _ (by omega), sset_row _ _ _ (by omega), sset_row _ _ _ (by omega)]
  · rw [if_neg z]
/-- both at the start -/
theorem Jx_start : Jx 0 (ssub st00 0) (ssub st00 72) := by
  have m0 : ∀ q i, ssub st00 72 q i = 0 := fun q i => by rw [st00_m]
  refine ⟨⟨fun q hq => ssub_hi.1 hq, fun q hq => ssub_hi.2 hq⟩, ⟨0, by decide, rfl, m0 _ _, fun j hj => by omega⟩, 2, ⟨Or.inl rfl, rfl, rfl, ⟨Or.inl (m0 _ _), fun v _ => Or.inl (m0 _ _), fun v _ => Or.inl (m0 _ _), fun v _ => Or.inl (m0 _ _)⟩, m0 _ _, 0, by decide, rfl⟩, Or.inl ⟨m0 _ _, ⟨rfl, rfl, rfl⟩, ⟨⟨rfl, rfl, rfl, rfl, rfl, rfl, rfl, rfl⟩, fun i _ => m0 _ _⟩, ⟨rfl, m0 _ _, 0, by decide, rfl⟩, ⟨rfl, m0 _ _⟩, ⟨rfl, m0 _ _⟩, by rw [m0]; decide, by rw [m0]; decide⟩⟩
theorem law_steps (xs : Nat → Int32) (L : Nat) (hL : L ≤ 1536) : ∀ (n j : Nat) (σ : St), 513 ≤ n + j → j ≤ 512 → Jx (150 * (j : Int)) (ssub σ 0) (ssub σ 72) → f_law xs L n σ j := by
  intro n
  induction n with
  | zero => intro j σ h1 h2 _; omega
  | succ n ih =>
    intro j σ h1 h2 hJ
    unfold f_law
    intro h3
    refine law_W hJ (by omega) (by omega) (fun σ' h => ih (j + 1) σ' (by omega) (by omega) ?_)
    have e : 150 * ((j + 1 : Nat) : Int) = 150 * (j : Int) + 150 := by omega
    rw [e]
    exact h
theorem pure_law (xs : Nat → Int32) (L : Nat) (hL : L ≤ 1536) : f_law xs L 1000 st00 0 := law_steps xs L hL 1000 0 st00 (by omega) (by omega) Jx_start
