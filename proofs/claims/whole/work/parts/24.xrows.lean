/-! ===== rows of throwing, and of calls of methods that throw ===== -/
section XROWS
variable {X : Cx} {Y : Cy} {K : List CK} {cc : ByteArray} {nL : Nat} {own : String} {rm : Room} {ret : Option FieldType} {Q : State → Prop} {σ : St} {pc : Nat} {lv lv' : List (Nat × AV)} {st : List AV} {c : Nat}
variable {Qc : Array Value → State → Outcome → State → Prop} {E : String → St → Prop}
theorem x_keep {H : Heap} {locs : List Loc} {cls : String} (hP : va_P Y.1 vwCl (wsOf K Y.2.1 Y.2.2.1 σ) H) (hS : va_S Y.2.2.2 X.2.2.2.2.1.heap H locs) (hE : E cls σ) (t : State) (_ : X.2.2.2.2.1.vm.Alike t.vm) (h1 : H.size ≤ t.heap.size) (h2 : ∀ q : Nat, q < H.size → t.heap[q]? = H[q]?) : XCq Y K E cls X.2.2.2.2.1 t := by
  refine ⟨σ, hE, fun k q hk => ?_, Nat.le_trans hS.1 h1, fun q hq hA => ?_⟩
  · have ha := hP k q hk
    exact ha.kept (h2 _ ha.lt)
  · rw [h2 q (Nat.lt_of_lt_of_le hq hS.1)]
    exact hS.2.1 q hq hA
theorem x_mono (t : State) (h : vx_MQ X.2.2.2.2.2.2.2.1 (fun _ _ _ _ => False) (XCq Y K E) X.2.2.2.2.2.2.1 X.2.2.2.2.1 1 6 Y.2.2.2 t) : QX X Y Qc (XCq Y K E) t := by
  obtain ⟨o, h1, h2, h3⟩ := h
  rcases h3 with ⟨h3, -⟩ | h3
  · exact h3.elim
  · exact ⟨o, h1, h2, Or.inr h3⟩
theorem q_throw (h : Ok X Y K cc nL RX9 rm ret) (ox : Ox X Y) {cls text : String} {ik is ic : Nat} (hcls : Bundle.fit cls = true) (hk : Cond.classLink RX9 ik cls ∈ lw_tbl) (hini : Cond.initialized cls ∈ lw_tbl) (hstr : (is, text) ∈ strs) (hat : Ats ic cls X.2.2.2.2.1) (hof : ((vx_atS RX9 ic cls nmX).all Tf) = true) (hgood : ∀ w ∈ Cond.classLink RX9 ik cls :: Cond.initialized cls :: vx_atS RX9 ic cls nmX, vx_ot w = true)
    (d0 : decode cc pc = .ok (.new ik, 3)) (d3 : decode cc (pc + 3) = .ok (.dup, 1)) (d4 : decode cc (pc + 4) = .ok (.ldc is, 2)) (d6 : decode cc (pc + 6) = .ok (.invokespecial ic, 3)) (d9 : decode cc (pc + 9) = .ok (.athrow, 1))
    (hR : 5 < rm.frames ∧ ((st.map (mv Y.2.2.1)).map fun v => v.category).sum + 82 ≤ rm.locals ∧ 1 ≤ rm.cells ∧ 6 ≤ rm.slots) (hE : E cls σ) : Wq X Y K nL (QX X Y Qc (XCq Y K E)) σ pc lv st := by
  intro H locs ls hP hS hl
  obtain ⟨o1, o2, o3, o4, o5, o6, o7⟩ := ox
  obtain ⟨sa, hsa⟩ := o5 _ hstr
  have hK := h.2.2.2.2.2.2.2.1
  have hat' : ∀ w ∈ vx_atS RX9 ic cls nmX, w.before X.2.2.2.2.2.2.1 X.2.2.2.2.1 = true := fun w hw => va_Nw.use (by have := List.all_eq_true.mp hof w hw; simp only [Tf, Bool.and_eq_true] at this; exact this.1) (hat w hw)
  have w : W X.1 X.2.1 X.2.2.1 X.2.2.2.1 X.2.2.2.2.1 X.2.2.2.2.2.1 X.2.2.2.2.2.2.1 X.2.2.2.2.2.2.2.1 X.2.2.2.2.2.2.2.2.1 X.2.2.2.2.2.2.2.2.2 H locs 0 0 (vx_MQ X.2.2.2.2.2.2.2.1 (fun _ _ _ _ => False) (XCq Y K E) X.2.2.2.2.2.2.1 X.2.2.2.2.1 1 6 Y.2.2.2) (F0 X.2.2.2.2.2.1 pc ls (st.map (mv Y.2.2.1))) := vx_throwS h.1 h.2.1 o1 h.2.2.2.1 hcls (by decide) (hK.word hk rfl _) (hK.word hini rfl _) hsa hat' hgood o6 o7 hS (hl.1.trans h.2.2.1.symm) d0 d3 d4 d6 d9 (fun x hx => (o2 x hx).elim) (by rw [h.2.2.2.2.1]; exact hR.1) (by rw [h.2.2.2.2.1]; exact hR.2.1) (by rw [h.2.2.2.2.1]; exact hR.2.2.1) (by rw [h.2.2.2.2.1]; exact hR.2.2.2) h.2.2.2.2.2.2.1 (x_keep hP hS hE) hS.2.2 (Nat.le_refl _) (Nat.le_refl _)
  intro T hT S
  obtain ⟨t, a, b⟩ := w T hT S
  exact ⟨t, a, x_mono t b⟩
theorem q_throwW (h : Ok X Y K cc nL RX9 rm ret) (ox : Ox X Y) {cls text : String} {ik is ic : Nat} (hcls : Bundle.fit cls = true) (hk : Cond.classLink RX9 ik cls ∈ lw_tbl) (hini : Cond.initialized cls ∈ lw_tbl) (hstr : (is, text) ∈ strs) (hat : Ats ic cls X.2.2.2.2.1) (hof : ((vx_atS RX9 ic cls nmX).all Tf) = true) (hgood : ∀ w ∈ Cond.classLink RX9 ik cls :: Cond.initialized cls :: vx_atS RX9 ic cls nmX, vx_ot w = true)
    (d0 : decode cc pc = .ok (.new ik, 3)) (d3 : decode cc (pc + 3) = .ok (.dup, 1)) (d4 : decode cc (pc + 4) = .ok (.ldc_w is, 3)) (d6 : decode cc (pc + 7) = .ok (.invokespecial ic, 3)) (d9 : decode cc (pc + 10) = .ok (.athrow, 1))
    (hR : 5 < rm.frames ∧ ((st.map (mv Y.2.2.1)).map fun v => v.category).sum + 82 ≤ rm.locals ∧ 1 ≤ rm.cells ∧ 6 ≤ rm.slots) (hE : E cls σ) : Wq X Y K nL (QX X Y Qc (XCq Y K E)) σ pc lv st := by
  intro H locs ls hP hS hl
  obtain ⟨o1, o2, o3, o4, o5, o6, o7⟩ := ox
  obtain ⟨sa, hsa⟩ := o5 _ hstr
  have hK := h.2.2.2.2.2.2.2.1
  have hat' : ∀ w ∈ vx_atS RX9 ic cls nmX, w.before X.2.2.2.2.2.2.1 X.2.2.2.2.1 = true := fun w hw => va_Nw.use (by have := List.all_eq_true.mp hof w hw; simp only [Tf, Bool.and_eq_true] at this; exact this.1) (hat w hw)
  have w : W X.1 X.2.1 X.2.2.1 X.2.2.2.1 X.2.2.2.2.1 X.2.2.2.2.2.1 X.2.2.2.2.2.2.1 X.2.2.2.2.2.2.2.1 X.2.2.2.2.2.2.2.2.1 X.2.2.2.2.2.2.2.2.2 H locs 0 0 (vx_MQ X.2.2.2.2.2.2.2.1 (fun _ _ _ _ => False) (XCq Y K E) X.2.2.2.2.2.2.1 X.2.2.2.2.1 1 6 Y.2.2.2) (F0 X.2.2.2.2.2.1 pc ls (st.map (mv Y.2.2.1))) := vx_throwSW h.1 h.2.1 o1 h.2.2.2.1 hcls (by decide) (hK.word hk rfl _) (hK.word hini rfl _) hsa hat' hgood o6 o7 hS (hl.1.trans h.2.2.1.symm) d0 d3 d4 d6 d9 (fun x hx => (o2 x hx).elim) (by rw [h.2.2.2.2.1]; exact hR.1) (by rw [h.2.2.2.2.1]; exact hR.2.1) (by rw [h.2.2.2.2.1]; exact hR.2.2.1) (by rw [h.2.2.2.2.1]; exact hR.2.2.2) h.2.2.2.2.2.2.1 (x_keep hP hS hE) hS.2.2 (Nat.le_refl _) (Nat.le_refl _)
  intro T hT S
  obtain ⟨t, a, b⟩ := w T hT S
  exact ⟨t, a, x_mono t b⟩
end XROWS
