/-! ===== pure layer: the cases of the reader (written by wip/whole/gen2/takes.py) ===== -/
section CTAKES
variable {σ : St} {K : St → Int → Prop} {c : Int}
theorem g_0 (h : σ 38 1 = 0) (h1 : inR c ∧ ((¬ c = 61 → K σ 0) ∧ (c = 61 → f_X6_await 1 σ (fun σ1 r1 => inR r1 ∧ ((r1 = 0 → K σ1 0) ∧ (¬ r1 = 0 → K σ1 1)))))) : f_X6_takes c σ K := by
  unfold f_X6_takes
  rw [h]
  refine ⟨⟨by decide, by decide⟩, ?_, ?_, ?_, ?_, ?_, ?_, ?_, ?_, ?_, ?_, ?_, ?_, ?_, ?_, ?_, ?_, ?_, ?_, ?_⟩
  all_goals (intro g; first | exact h1 | exact absurd g (by decide))
theorem g_1 (h : σ 38 1 = 1) (h1 : f_X6_takesNodeName c σ (fun σ2 r2 => (r2 = 0 ∨ r2 = 1) ∧ K σ2 r2)) : f_X6_takes c σ K := by
  unfold f_X6_takes
  rw [h]
  refine ⟨⟨by decide, by decide⟩, ?_, ?_, ?_, ?_, ?_, ?_, ?_, ?_, ?_, ?_, ?_, ?_, ?_, ?_, ?_, ?_, ?_, ?_, ?_⟩
  all_goals (intro g; first | exact h1 | exact absurd g (by decide))
theorem g_2 (h : σ 38 1 = 2) (h1 : inR c ∧ ((¬ c = 35 → f_X6_takesInBlock c σ (fun σ3 r3 => (r3 = 0 ∨ r3 = 1) ∧ K σ3 r3)) ∧ (c = 35 → f_X6_takesHubSign σ (fun σ4 r4 => (r4 = 0 ∨ r4 = 1) ∧ K σ4 r4)))) : f_X6_takes c σ K := by
  unfold f_X6_takes
  rw [h]
  refine ⟨⟨by decide, by decide⟩, ?_, ?_, ?_, ?_, ?_, ?_, ?_, ?_, ?_, ?_, ?_, ?_, ?_, ?_, ?_, ?_, ?_, ?_, ?_⟩
  all_goals (intro g; first | exact h1 | exact absurd g (by decide))
theorem g_3 (h : σ 38 1 = 3) (h1 : f_X6_takesInBlock c σ (fun σ5 r5 => (r5 = 0 ∨ r5 = 1) ∧ K σ5 r5)) : f_X6_takes c σ K := by
  unfold f_X6_takes
  rw [h]
  refine ⟨⟨by decide, by decide⟩, ?_, ?_, ?_, ?_, ?_, ?_, ?_, ?_, ?_, ?_, ?_, ?_, ?_, ?_, ?_, ?_, ?_, ?_, ?_⟩
  all_goals (intro g; first | exact h1 | exact absurd g (by decide))
theorem g_4 (h : σ 38 1 = 4) (h1 : inR c ∧ ((¬ c = 123 → f_X6_takesInBlock c σ (fun σ6 r6 => (r6 = 0 ∨ r6 = 1) ∧ K σ6 r6)) ∧ (c = 123 → f_X6_opensBlock 1 σ (fun σ7 r7 => (r7 = 0 ∨ r7 = 1) ∧ K σ7 r7)))) : f_X6_takes c σ K := by
  unfold f_X6_takes
  rw [h]
  refine ⟨⟨by decide, by decide⟩, ?_, ?_, ?_, ?_, ?_, ?_, ?_, ?_, ?_, ?_, ?_, ?_, ?_, ?_, ?_, ?_, ?_, ?_, ?_⟩
  all_goals (intro g; first | exact h1 | exact absurd g (by decide))
theorem g_5 (h : σ 38 1 = 5) (h1 : f_X6_isFlag c σ (fun σ8 r8 => inR r8 ∧ ((r8 = 0 → K σ8 0) ∧ (¬ r8 = 0 → f_X6_add (σ8 38 7) (c - 97) 0 σ8 (fun σ9 r9 => inR r9 ∧ ((r9 = 0 → K σ9 0) ∧ (¬ r9 = 0 → K σ9 1))))))) : f_X6_takes c σ K := by
  unfold f_X6_takes
  rw [h]
  refine ⟨⟨by decide, by decide⟩, ?_, ?_, ?_, ?_, ?_, ?_, ?_, ?_, ?_, ?_, ?_, ?_, ?_, ?_, ?_, ?_, ?_, ?_, ?_⟩
  all_goals (intro g; first | exact h1 | exact absurd g (by decide))
theorem g_6 (h : σ 38 1 = 6) (h1 : f_X6_takesMeterSign c σ (fun σ10 r10 => (r10 = 0 ∨ r10 = 1) ∧ K σ10 r10)) : f_X6_takes c σ K := by
  unfold f_X6_takes
  rw [h]
  refine ⟨⟨by decide, by decide⟩, ?_, ?_, ?_, ?_, ?_, ?_, ?_, ?_, ?_, ?_, ?_, ?_, ?_, ?_, ?_, ?_, ?_, ?_, ?_⟩
  all_goals (intro g; first | exact h1 | exact absurd g (by decide))
theorem g_7 (h : σ 38 1 = 7) (h1 : f_X6_isDigit c σ (fun σ11 r11 => inR r11 ∧ ((r11 = 0 → K σ11 0) ∧ (¬ r11 = 0 → f_X6_add (σ11 38 7) (σ11 38 8) (c - 48) σ11 (fun σ12 r12 => inR r12 ∧ ((r12 = 0 → K σ12 0) ∧ (¬ r12 = 0 → K σ12 1))))))) : f_X6_takes c σ K := by
  unfold f_X6_takes
  rw [h]
  refine ⟨⟨by decide, by decide⟩, ?_, ?_, ?_, ?_, ?_, ?_, ?_, ?_, ?_, ?_, ?_, ?_, ?_, ?_, ?_, ?_, ?_, ?_, ?_⟩
  all_goals (intro g; first | exact h1 | exact absurd g (by decide))
theorem g_8 (h : σ 38 1 = 8) (h1 : f_X6_takesInCondition c σ (fun σ13 r13 => (r13 = 0 ∨ r13 = 1) ∧ K σ13 r13)) : f_X6_takes c σ K := by
  unfold f_X6_takes
  rw [h]
  refine ⟨⟨by decide, by decide⟩, ?_, ?_, ?_, ?_, ?_, ?_, ?_, ?_, ?_, ?_, ?_, ?_, ?_, ?_, ?_, ?_, ?_, ?_, ?_⟩
  all_goals (intro g; first | exact h1 | exact absurd g (by decide))
theorem g_9 (h : σ 38 1 = 9) (h1 : f_X6_takesInCondition c σ (fun σ14 r14 => (r14 = 0 ∨ r14 = 1) ∧ K σ14 r14)) : f_X6_takes c σ K := by
  unfold f_X6_takes
  rw [h]
  refine ⟨⟨by decide, by decide⟩, ?_, ?_, ?_, ?_, ?_, ?_, ?_, ?_, ?_, ?_, ?_, ?_, ?_, ?_, ?_, ?_, ?_, ?_, ?_⟩
  all_goals (intro g; first | exact h1 | exact absurd g (by decide))
theorem g_10 (h : σ 38 1 = 10) (h1 : f_X6_takesInCondition c σ (fun σ15 r15 => (r15 = 0 ∨ r15 = 1) ∧ K σ15 r15)) : f_X6_takes c σ K := by
  unfold f_X6_takes
  rw [h]
  refine ⟨⟨by decide, by decide⟩, ?_, ?_, ?_, ?_, ?_, ?_, ?_, ?_, ?_, ?_, ?_, ?_, ?_, ?_, ?_, ?_, ?_, ?_, ?_⟩
  all_goals (intro g; first | exact h1 | exact absurd g (by decide))
theorem g_11 (h : σ 38 1 = 11) (h1 : f_X6_takesInCondition c σ (fun σ16 r16 => (r16 = 0 ∨ r16 = 1) ∧ K σ16 r16)) : f_X6_takes c σ K := by
  unfold f_X6_takes
  rw [h]
  refine ⟨⟨by decide, by decide⟩, ?_, ?_, ?_, ?_, ?_, ?_, ?_, ?_, ?_, ?_, ?_, ?_, ?_, ?_, ?_, ?_, ?_, ?_, ?_⟩
  all_goals (intro g; first | exact h1 | exact absurd g (by decide))
theorem g_12 (h : σ 38 1 = 12) (h1 : f_X6_takesInCondition c σ (fun σ17 r17 => (r17 = 0 ∨ r17 = 1) ∧ K σ17 r17)) : f_X6_takes c σ K := by
  unfold f_X6_takes
  rw [h]
  refine ⟨⟨by decide, by decide⟩, ?_, ?_, ?_, ?_, ?_, ?_, ?_, ?_, ?_, ?_, ?_, ?_, ?_, ?_, ?_, ?_, ?_, ?_, ?_⟩
  all_goals (intro g; first | exact h1 | exact absurd g (by decide))
theorem g_13 (h : σ 38 1 = 13) (h1 : f_X6_takesLabel c σ (fun σ18 r18 => (r18 = 0 ∨ r18 = 1) ∧ K σ18 r18)) : f_X6_takes c σ K := by
  unfold f_X6_takes
  rw [h]
  refine ⟨⟨by decide, by decide⟩, ?_, ?_, ?_, ?_, ?_, ?_, ?_, ?_, ?_, ?_, ?_, ?_, ?_, ?_, ?_, ?_, ?_, ?_, ?_⟩
  all_goals (intro g; first | exact h1 | exact absurd g (by decide))
theorem g_14 (h : σ 38 1 = 14) (h1 : inR c ∧ ((¬ c = 63 → inR c ∧ ((¬ c = 93 → K σ 0) ∧ (c = 93 → f_X6_await 15 σ (fun σ19 r19 => inR r19 ∧ ((r19 = 0 → K σ19 0) ∧ (¬ r19 = 0 → K σ19 1)))))) ∧ (c = 63 → f_X6_await 8 σ (fun σ20 r20 => (r20 = 0 ∨ r20 = 1) ∧ K σ20 r20)))) : f_X6_takes c σ K := by
  unfold f_X6_takes
  rw [h]
  refine ⟨⟨by decide, by decide⟩, ?_, ?_, ?_, ?_, ?_, ?_, ?_, ?_, ?_, ?_, ?_, ?_, ?_, ?_, ?_, ?_, ?_, ?_, ?_⟩
  all_goals (intro g; first | exact h1 | exact absurd g (by decide))
theorem g_15 (h : σ 38 1 = 15) (h1 : inR c ∧ ((¬ c = 123 → K σ 0) ∧ (c = 123 → f_X6_opensBlock 0 σ (fun σ21 r21 => inR r21 ∧ ((r21 = 0 → K σ21 0) ∧ (¬ r21 = 0 → K σ21 1)))))) : f_X6_takes c σ K := by
  unfold f_X6_takes
  rw [h]
  refine ⟨⟨by decide, by decide⟩, ?_, ?_, ?_, ?_, ?_, ?_, ?_, ?_, ?_, ?_, ?_, ?_, ?_, ?_, ?_, ?_, ?_, ?_, ?_⟩
  all_goals (intro g; first | exact h1 | exact absurd g (by decide))
theorem g_16 (h : σ 38 1 = 16) (h1 : f_X6_isName c σ (fun σ22 r22 => inR r22 ∧ ((r22 = 0 → K σ22 0) ∧ (¬ r22 = 0 → f_X6_addGoal (c - 65) σ22 (fun σ23 r23 => inR r23 ∧ ((r23 = 0 → K σ23 0) ∧ (¬ r23 = 0 → K σ23 1))))))) : f_X6_takes c σ K := by
  unfold f_X6_takes
  rw [h]
  refine ⟨⟨by decide, by decide⟩, ?_, ?_, ?_, ?_, ?_, ?_, ?_, ?_, ?_, ?_, ?_, ?_, ?_, ?_, ?_, ?_, ?_, ?_, ?_⟩
  all_goals (intro g; first | exact h1 | exact absurd g (by decide))
theorem g_17 (h : σ 38 1 = 17) (h1 : f_X6_isDigit c σ (fun σ24 r24 => inR r24 ∧ ((r24 = 0 → K σ24 0) ∧ (¬ r24 = 0 → f_X6_add 10 (c - 48) 0 σ24 (fun σ25 r25 => inR r25 ∧ ((r25 = 0 → K σ25 0) ∧ (¬ r25 = 0 → K σ25 1))))))) : f_X6_takes c σ K := by
  unfold f_X6_takes
  rw [h]
  refine ⟨⟨by decide, by decide⟩, ?_, ?_, ?_, ?_, ?_, ?_, ?_, ?_, ?_, ?_, ?_, ?_, ?_, ?_, ?_, ?_, ?_, ?_, ?_⟩
  all_goals (intro g; first | exact h1 | exact absurd g (by decide))
theorem ib_43 (h1 : f_X6_beginsStatement 1 5 σ (fun σ1 r1 => (r1 = 0 ∨ r1 = 1) ∧ K σ1 r1)) : f_X6_takesInBlock 43 σ K := by
  unfold f_X6_takesInBlock
  refine ⟨⟨by decide, by decide⟩, ?_, ?_, ?_, ?_, ?_, ?_, ?_, ?_, ?_, ?_⟩
  all_goals (intro g; first | exact h1 | exact absurd g (by decide) | (intros; exact absurd rfl (by assumption)))
theorem ib_45 (h1 : f_X6_beginsStatement 2 5 σ (fun σ2 r2 => (r2 = 0 ∨ r2 = 1) ∧ K σ2 r2)) : f_X6_takesInBlock 45 σ K := by
  unfold f_X6_takesInBlock
  refine ⟨⟨by decide, by decide⟩, ?_, ?_, ?_, ?_, ?_, ?_, ?_, ?_, ?_, ?_⟩
  all_goals (intro g; first | exact h1 | exact absurd g (by decide) | (intros; exact absurd rfl (by assumption)))
theorem ib_46 (h1 : f_X6_await 17 σ (fun σ3 r3 => (r3 = 0 ∨ r3 = 1) ∧ K σ3 r3)) : f_X6_takesInBlock 46 σ K := by
  unfold f_X6_takesInBlock
  refine ⟨⟨by decide, by decide⟩, ?_, ?_, ?_, ?_, ?_, ?_, ?_, ?_, ?_, ?_⟩
  all_goals (intro g; first | exact h1 | exact absurd g (by decide) | (intros; exact absurd rfl (by assumption)))
theorem ib_60 (h1 : isS ((σ 38 0).toNat) ∧ f_X6_add 9 ((σ ((σ 38 0).toNat) 10) - 1) 0 σ (fun σ4 r4 => (r4 = 0 ∨ r4 = 1) ∧ K σ4 r4)) : f_X6_takesInBlock 60 σ K := by
  unfold f_X6_takesInBlock
  refine ⟨⟨by decide, by decide⟩, ?_, ?_, ?_, ?_, ?_, ?_, ?_, ?_, ?_, ?_⟩
  all_goals (intro g; first | exact h1 | exact absurd g (by decide) | (intros; exact absurd rfl (by assumption)))
theorem ib_61 (h1 : inR (σ 38 2) ∧ ((¬ (σ 38 2) = 1 → K σ 0) ∧ ((σ 38 2) = 1 → isS ((σ 38 0).toNat) ∧ f_X6_add 11 ((σ ((σ 38 0).toNat) 10) - 1) 0 σ (fun σ5 r5 => inR r5 ∧ ((r5 = 0 → K σ5 0) ∧ (¬ r5 = 0 → f_X6_await 1 σ5 (fun σ6 r6 => inR r6 ∧ ((r6 = 0 → K σ6 0) ∧ (¬ r6 = 0 → K σ6 1))))))))) : f_X6_takesInBlock 61 σ K := by
  unfold f_X6_takesInBlock
  refine ⟨⟨by decide, by decide⟩, ?_, ?_, ?_, ?_, ?_, ?_, ?_, ?_, ?_, ?_⟩
  all_goals (intro g; first | exact h1 | exact absurd g (by decide) | (intros; exact absurd rfl (by assumption)))
theorem ib_62 (h1 : f_X6_await 16 σ (fun σ7 r7 => (r7 = 0 ∨ r7 = 1) ∧ K σ7 r7)) : f_X6_takesInBlock 62 σ K := by
  unfold f_X6_takesInBlock
  refine ⟨⟨by decide, by decide⟩, ?_, ?_, ?_, ?_, ?_, ?_, ?_, ?_, ?_, ?_⟩
  all_goals (intro g; first | exact h1 | exact absurd g (by decide) | (intros; exact absurd rfl (by assumption)))
theorem ib_63 (h1 : f_X6_beginsTest σ (fun σ8 r8 => (r8 = 0 ∨ r8 = 1) ∧ K σ8 r8)) : f_X6_takesInBlock 63 σ K := by
  unfold f_X6_takesInBlock
  refine ⟨⟨by decide, by decide⟩, ?_, ?_, ?_, ?_, ?_, ?_, ?_, ?_, ?_, ?_⟩
  all_goals (intro g; first | exact h1 | exact absurd g (by decide) | (intros; exact absurd rfl (by assumption)))
theorem ib_91 (h1 : f_X6_beginsChoice σ (fun σ9 r9 => (r9 = 0 ∨ r9 = 1) ∧ K σ9 r9)) : f_X6_takesInBlock 91 σ K := by
  unfold f_X6_takesInBlock
  refine ⟨⟨by decide, by decide⟩, ?_, ?_, ?_, ?_, ?_, ?_, ?_, ?_, ?_, ?_⟩
  all_goals (intro g; first | exact h1 | exact absurd g (by decide) | (intros; exact absurd rfl (by assumption)))
theorem ib_125 (h1 : f_X6_closesBlock σ (fun σ10 r10 => (r10 = 0 ∨ r10 = 1) ∧ K σ10 r10)) : f_X6_takesInBlock 125 σ K := by
  unfold f_X6_takesInBlock
  refine ⟨⟨by decide, by decide⟩, ?_, ?_, ?_, ?_, ?_, ?_, ?_, ?_, ?_, ?_⟩
  all_goals (intro g; first | exact h1 | exact absurd g (by decide) | (intros; exact absurd rfl (by assumption)))
theorem ib_x (hc : inR c) (h0 : ¬ c = 43) (h1 : ¬ c = 45) (h2 : ¬ c = 46) (h3 : ¬ c = 60) (h4 : ¬ c = 61) (h5 : ¬ c = 62) (h6 : ¬ c = 63) (h7 : ¬ c = 91) (h8 : ¬ c = 125) (hx : f_X6_isMeter c σ (fun σ11 r11 => inR r11 ∧ ((r11 = 0 → f_X6_isDigit c σ11 (fun σ12 r12 => inR r12 ∧ ((r12 = 0 → K σ12 0) ∧ (¬ r12 = 0 → f_X6_takesLine σ12 (fun σ13 r13 => inR r13 ∧ ((r13 = 0 → K σ13 0) ∧ (¬ r13 = 0 → K σ13 1))))))) ∧ (¬ r11 = 0 → f_X6_beginsMeter c σ11 (fun σ14 r14 => (r14 = 0 ∨ r14 = 1) ∧ K σ14 r14))))) : f_X6_takesInBlock c σ K := by
  unfold f_X6_takesInBlock
  refine ⟨hc, ?_, ?_, ?_, ?_, ?_, ?_, ?_, ?_, ?_, ?_⟩
  all_goals first | (intro g; exact absurd g (by assumption)) | (intros; exact hx)
theorem ic_8 (h : σ 38 1 = 8) (h1 : f_X6_takesTermBegin c σ (fun σ1 r1 => (r1 = 0 ∨ r1 = 1) ∧ K σ1 r1)) : f_X6_takesInCondition c σ K := by
  unfold f_X6_takesInCondition
  rw [h]
  refine ⟨⟨by decide, by decide⟩, ?_, ?_, ?_, ?_, ?_, ?_⟩
  all_goals (intro g; first | exact h1 | exact absurd g (by decide))
theorem ic_9 (h : σ 38 1 = 9) (h1 : f_X6_isFlag c σ (fun σ2 r2 => inR r2 ∧ ((r2 = 0 → K σ2 0) ∧ (¬ r2 = 0 → f_X6_addTerm 1 (c - 97) 0 σ2 (fun σ3 r3 => inR r3 ∧ ((r3 = 0 → K σ3 0) ∧ (¬ r3 = 0 → K σ3 1))))))) : f_X6_takesInCondition c σ K := by
  unfold f_X6_takesInCondition
  rw [h]
  refine ⟨⟨by decide, by decide⟩, ?_, ?_, ?_, ?_, ?_, ?_⟩
  all_goals (intro g; first | exact h1 | exact absurd g (by decide))
theorem ic_10 (h : σ 38 1 = 10) (h1 : f_X6_takesTermSign c σ (fun σ4 r4 => (r4 = 0 ∨ r4 = 1) ∧ K σ4 r4)) : f_X6_takesInCondition c σ K := by
  unfold f_X6_takesInCondition
  rw [h]
  refine ⟨⟨by decide, by decide⟩, ?_, ?_, ?_, ?_, ?_, ?_⟩
  all_goals (intro g; first | exact h1 | exact absurd g (by decide))
theorem ic_11 (h : σ 38 1 = 11) (h1 : f_X6_isDigit c σ (fun σ5 r5 => inR r5 ∧ ((r5 = 0 → K σ5 0) ∧ (¬ r5 = 0 → f_X6_addTerm (σ5 38 7) (σ5 38 8) (c - 48) σ5 (fun σ6 r6 => inR r6 ∧ ((r6 = 0 → K σ6 0) ∧ (¬ r6 = 0 → K σ6 1))))))) : f_X6_takesInCondition c σ K := by
  unfold f_X6_takesInCondition
  rw [h]
  refine ⟨⟨by decide, by decide⟩, ?_, ?_, ?_, ?_, ?_, ?_⟩
  all_goals (intro g; first | exact h1 | exact absurd g (by decide))
theorem ic_12 (h : σ 38 1 = 12) (h1 : f_X6_takesTermEnd c σ (fun σ7 r7 => (r7 = 0 ∨ r7 = 1) ∧ K σ7 r7)) : f_X6_takesInCondition c σ K := by
  unfold f_X6_takesInCondition
  rw [h]
  refine ⟨⟨by decide, by decide⟩, ?_, ?_, ?_, ?_, ?_, ?_⟩
  all_goals (intro g; first | exact h1 | exact absurd g (by decide))
end CTAKES
