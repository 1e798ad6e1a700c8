def R_law : String := "BranchingStoryLaw"
def lw_P (b : Addr) (xs : List Int32) (args : Array Value) (s : State) : Prop := args = #[.ref b] ∧ s.IntsAt b xs ∧ xs.length ≤ 1536 ∧ (Jvm.Cond.and given_1 narrow_1).before args s = true
def lw_Q (_ : Array Value) (s : State) (o : Outcome) (t : State) : Prop := o = .returned (some (.int 1)) ∧ Framed s o t [] 1165 30866
def lw_Z (below : List Frame) (a : Array Value) (s : State) : State → Prop := fun t => ∃ o, t.status = .running ∧ Ended t below o ∧ lw_Q a s o t
/-- the law's own end, with 1 on the stack, nothing written that was there before, its room as the claim has it -/
theorem lw_ret {p : Program} {l : Launch} {e : Env} {s : State} {m : MethodId} {below : List Frame} {meth : Method} {c : Code} {b : Nat} (hx : p.tables.exec = Jvm.exec) (hb : c.code = code) (hr : meth.sig.returnType = ret) (hlocks : meth.locks = false) {pc : Nat} {H : Heap} {ls : Array Slot} (hdg : decode code pc = .ok (.ireturn, 1)) : W p l e room_1 s m #[Value.ref b] below meth c H [] 1165 30866 (lw_Z below #[Value.ref b] s) (F0 m pc ls [.int 1]) := by
  intro T hT X
  obtain ⟨fs, hret, hrun, hended, hW, hframe⟩ := X.leave (v := some (.int 1)) (hlocks := hlocks) (fun h => by rw [hr] at h; cases h)
  have hmeth' : T.vm.method? m = some meth := X.method'
  refine ⟨T.setFrames fs, ?_, .returned (some (.int 1)), hrun, hended, rfl, ⟨_, rfl⟩, hW, hframe⟩
  jvm_step X.here [X.here.top, hx, hb, hdg, hmeth', hr, ret, narrow_b1]
  (try refine ⟨rfl, ?_⟩); (try refine ⟨rfl, ?_⟩)
  first | (intro acts; rw [hret _ acts rfl rfl rfl]) | rw [hret _ _ rfl rfl rfl]
  exact Steps.refl _
/-- what holds at the law's entry: the machine, the code, the tables' words (any of lw_tbl by 'hts w (by decide +kernel)'), the script of L ints xs at the cell b, what the Statement gives of the start (any of its parts by flat_of_before) -/
def lw_At (p : Program) (s : State) (m : MethodId) (meth : Method) (c : Code) (b L : Nat) (xs : Nat → Int32) : Prop :=
  p.tables.exec = Jvm.exec ∧ c.code = code ∧ meth.sig.returnType = ret ∧ c.maxLocals = 7 ∧ s.vm.findClass R_law = some m.cls ∧ (∀ w ∈ lw_tbl, w.before #[Value.ref b] s = true) ∧ va_X b L xs s s.heap ∧ b < s.heap.size ∧ meth.locks = false ∧ (Jvm.Cond.and given_1 narrow_1).before #[Value.ref b] s = true
def st00 : St := (sset (sset (sset (sset (sset (sset (sset (sset (sset (sset (fun _ _ => 0) 0 2 2) 0 3 20) 38 0 20) 44 0 2) 44 3 (-1)) 44 4 (-1)) 61 0 2) 61 3 (-1)) 61 4 (-1)) 65 0 2)
theorem arr_known {args : Array Value} {s : State} {ty : FieldType} (hp : ty = .int ∨ ty = .boolean ∨ ty = .long) (h : (Cond.arrayClass ty).before args s = true) : ∃ cA : ClassId, ArrOfT s cA ty ∧ va_RA s cA ty := by
  obtain ⟨c, k, comp, h1, h2, h3⟩ := Cond.arrayClass_spec h
  refine ⟨c, fun n z => ⟨fun k h => (by cases h), k, h2, comp, h3⟩, ?_⟩
  rcases hp with rfl | rfl | rfl <;> exact h1
theorem at_hts {args : Array Value} {s : State} {ic : Nat} {cls : String} (hts : ∀ w ∈ lw_tbl, w.before args s = true) (h1 : ((vx_atS RX9 ic cls nmX).all (fun w => decide (w ∈ tables_1))) = true) (h2 : ((vx_atS RX9 ic cls nmX).all Tf) = true) : Ats ic cls s := by
  intro w hw
  have a1 := List.all_eq_true.mp h1 w hw
  have a2 := List.all_eq_true.mp h2 w hw
  simp only [decide_eq_true_eq] at a1
  simp only [Tf, Bool.and_eq_true] at a2
  exact va_Nw.of a2.1 (hts w (List.mem_append_right _ a1))
theorem D_any {A : Nat → Prop} {K : List CK} {ac : Nat → ClassId} {ad : Nat → Nat} {σ : St} (h : va_D A (wsOf K ac ad σ)) (τ : St) : va_D A (wsOf K ac ad τ) := by
  refine wsOf_D (fun i j hi hj e => ?_) (fun i hi => ?_) τ
  · exact h.1 i j _ _ (wsOf_at (List.getElem?_eq_getElem hi)) (wsOf_at (List.getElem?_eq_getElem hj)) e
  · exact h.2 i _ (wsOf_at (List.getElem?_eq_getElem hi))
theorem str_hts {args : Array Value} {s : State} (hts : ∀ w ∈ lw_tbl, w.before args s = true) (hgv : ∀ q ∈ strs, (Cond.exactly (.string "BranchingStory" q.1) "java/lang/String").before args s = true) : ∀ q ∈ strs, ∃ a, vk_R RX9 q.1 q.2 a s := by
  intro q hq
  obtain ⟨a, _, _, _, h1, -⟩ := Cond.exactly_spec (hgv q hq)
  have h2 : (Cond.stringRef RX9 q.1 q.2).before args s = true := by
    have hm : ∀ q ∈ strs, Cond.stringRef RX9 q.1 q.2 ∈ lw_tbl := by
      intro q hq
      have h3 : ∀ q ∈ strs, Cond.stringRef RX9 q.1 q.2 ∈ tables_1 := by decide +kernel
      exact List.mem_append_right _ (h3 q hq)
    exact hts _ (hm q hq)
  exact ⟨a, vk_R.of h2 h1⟩
theorem wt_11 : (Jvm.Cond.initialized "java/lang/Throwable") ∈ lw_tbl := in_tb 11 (by decide +kernel)
theorem wt_22 : (Jvm.Cond.classLink "BranchingStoryLaw" (8 : Nat) "BranchingStory") ∈ lw_tbl := in_tb 22 (by decide +kernel)
theorem wt_23 : (Jvm.Cond.instantiable "BranchingStory" (9 : Nat)) ∈ lw_tbl := in_tb 23 (by decide +kernel)
theorem wt_24 : (Jvm.Cond.methodLink "BranchingStoryLaw" (105 : Nat) ({ cls := "BranchingStory", name := "<init>", desc := "()V" } : Jvm.MethodName)) ∈ lw_tbl := in_tb 24 (by decide +kernel)
theorem wt_25 : (Jvm.Cond.instanceMethod ({ cls := "BranchingStory", name := "<init>", desc := "()V" } : Jvm.MethodName)) ∈ lw_tbl := in_tb 25 (by decide +kernel)
theorem wt_26 : (Jvm.Cond.code ({ cls := "BranchingStory", name := "<init>", desc := "()V" } : Jvm.MethodName) prog_1_method_1_code (1 : Nat) (Option.none : Option Jvm.ClassFile.FieldType)) ∈ lw_tbl := in_tb 26 (by decide +kernel)
theorem wt_677 : (Jvm.Cond.laysStatic "java/lang/Throwable" "UNASSIGNED_STACK" "[Ljava/lang/StackTraceElement;") ∈ lw_tbl := in_tb 677 (by decide +kernel)
theorem wt_679 : (Jvm.Cond.laysStatic "java/lang/Throwable" "SUPPRESSED_SENTINEL" "Ljava/util/List;") ∈ lw_tbl := in_tb 679 (by decide +kernel)
theorem wt_1300 : (Jvm.Cond.classLink "BranchingStoryLaw" (106 : Nat) "BranchingStoryModel") ∈ lw_tbl := in_tb 1300 (by decide +kernel)
theorem wt_1301 : (Jvm.Cond.instantiable "BranchingStoryModel" (74 : Nat)) ∈ lw_tbl := in_tb 1301 (by decide +kernel)
theorem wt_1302 : (Jvm.Cond.methodLink "BranchingStoryLaw" (108 : Nat) ({ cls := "BranchingStoryModel", name := "<init>", desc := "()V" } : Jvm.MethodName)) ∈ lw_tbl := in_tb 1302 (by decide +kernel)
theorem wt_1303 : (Jvm.Cond.instanceMethod ({ cls := "BranchingStoryModel", name := "<init>", desc := "()V" } : Jvm.MethodName)) ∈ lw_tbl := in_tb 1303 (by decide +kernel)
theorem wt_1304 : (Jvm.Cond.code ({ cls := "BranchingStoryModel", name := "<init>", desc := "()V" } : Jvm.MethodName) prog_12_method_1_code (1 : Nat) (Option.none : Option Jvm.ClassFile.FieldType)) ∈ lw_tbl := in_tb 1304 (by decide +kernel)
theorem bi_L_105 : BIw RL 105 yX9_init cX9_init 1 0 := ⟨Or.inl wt_24, wt_25, wt_1, wt_26, rfl, by decide, by decide, by decide +kernel⟩
theorem bi_L_108 : BIw RL 108 yX10_init cX10_init 1 0 := ⟨Or.inl wt_1302, wt_1303, wt_10, wt_1304, rfl, by decide, by decide, by decide +kernel⟩
