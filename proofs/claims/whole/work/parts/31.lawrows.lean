/-! ===== the law's body: its rows ===== -/
def HSw (own : String) (idx : Nat) (y : MethodName) (cy : ByteArray) (ny : Nat) (hh : List (Nat × Nat × Nat × Nat)) (np : Nat) : Prop := Cond.methodLink own idx y ∈ lw_tbl ∧ Cond.static y ∈ lw_tbl ∧ Cond.initialized y.cls ∈ lw_tbl ∧ Cond.codeWith y cy ny (some .int) hh ∈ lw_tbl ∧ (y.cls ≠ "java/lang/invoke/MethodHandle" ∧ y.cls ≠ "java/lang/invoke/VarHandle" ∧ (parseMethodDescriptor y.desc).map (fun d => d.parameters.length) = some np)
def OL (X : Cx) (Y : Cy) (b0 L : Nat) (xs : Nat → Int32) : Prop := Ok X Y KW cL_law 7 RL room_1 ret ∧ X.2.1.stackTraces = false ∧ Kh Y X.2.2.2.2.1 ∧ va_X b0 L xs X.2.2.2.2.1 X.2.2.2.2.1.heap ∧ b0 < X.2.2.2.2.1.heap.size ∧ ¬ Y.2.2.2 b0 ∧ Y.2.2.1 1000 = b0 ∧ L ≤ 1536
section LAWR
variable {X : Cx} {Y : Cy} {cc : ByteArray} {nL : Nat} {own : String} {rm : Room} {ret9 : Option FieldType} {Q : State → Prop} {kc ks : Nat} {σ : St} {pc : Nat} {lv lv' : List (Nat × AV)} {st : List AV} {a : Int}
theorem l_help (h : Ok X Y KW cc nL own rm ret9) (hx : Kh Y X.2.2.2.2.1) {idx ny np : Nat} {y : MethodName} {cy : ByteArray} {hh : List (Nat × Nat × Nat × Nat)} {rmy : Room} {Q1 : St → Int → Prop} (hs : HSw own idx y cy ny hh np) {av : List AV} (con : Hon X.2.1 y cy ny hh rmy Y σ av Q1) (hr : rmy.cells = 1 ∧ rmy.slots = 6 ∧ rmy.frames + 1 ≤ rm.frames ∧ 8 + (ny + 11) + rmy.locals ≤ rm.locals) (hks : kc + 1 ≤ rm.cells ∧ ks + 6 ≤ rm.slots) (hn : av.length = np) {stk : List AV} (hst : av.reverse ++ st = stk) (hsum : ((st.map (mv Y.2.2.1)).map fun v => v.category).sum ≤ 8) (hd : decode cc pc = .ok (.invokestatic idx, 3)) (k : ∀ σ' n, Q1 σ' n → Lq X Y KW nL Q (kc + 1) (ks + 6) σ' (pc + 3) lv (.inl n :: st)) : Lq X Y KW nL Q kc ks σ pc lv stk := by
  intro H locs ls hP hS hl
  obtain ⟨k1, k2, k4, k5, k6, k7, k8⟩ := hs
  have hK := h.2.2.2.2.2.2.2.1
  have hR : rmy.frames + 1 ≤ X.2.2.2.1.frames ∧ 8 + (ny + 11) + rmy.locals ≤ X.2.2.2.1.locals := by rw [h.2.2.2.2.1]; exact hr.2.2
  have hpre : PreS X.2.2.2.2.1 H (Pch Y σ av) (av.map (mv Y.2.2.1)) := ⟨Pch_blind Y σ _, fun U hU hW => ⟨rfl, by rw [hU]; exact hP, hx.go hW hU hS⟩⟩
  have hlen : (av.map (mv Y.2.2.1)).length = np := by rw [List.length_map]; exact hn
  have hstk : stk.map (mv Y.2.2.1) = (av.map (mv Y.2.2.1)).reverse ++ st.map (mv Y.2.2.1) := by rw [← hst]; simp
  have hws : ∀ w ∈ [Cond.codeWith y cy ny (some .int) hh], ∀ (a' : Array Value) (U : State), X.2.2.2.2.1.WarmedH U.vm → w.before a' U = true := by
    intro w hw a' U hW
    rw [List.mem_singleton.mp hw]
    exact (hK.moved hW).word k5 rfl a'
  have hpar : ∀ sig, parseMethodDescriptor y.desc = some sig → np = sig.parameters.length := by
    intro sig hs
    have h2 := k8
    rw [hs] at h2
    exact (Option.some.inj h2).symm
  have run := vx_runSW (p := X.1) (l := X.2.1) (e := X.2.2.1) (R := X.2.2.2.1) (s := X.2.2.2.2.1) (m := X.2.2.2.2.2.1) (args := X.2.2.2.2.2.2.1) (below := X.2.2.2.2.2.2.2.1) (meth := X.2.2.2.2.2.2.2.2.1) (c := X.2.2.2.2.2.2.2.2.2) (H := H) (locs := locs) (cells := kc) (slots := ks) (Ts := []) (own := own) (cc := cc) (nL := nL) (y := y) (bytes := cy) (maxL := ny) (ret := some .int) (hh := hh) (rm := rmy) (mc := 1) (ms := 6) (n := np) (index := idx) (g := F0 X.2.2.2.2.2.1 pc ls (stk.map (mv Y.2.2.1))) (rest := st.map (mv Y.2.2.1)) ⟨h.1, h.2.1, h.2.2.1, h.2.2.2.1, fun w hw => (List.not_mem_nil hw).elim⟩ con ⟨⟨hr.1, hr.2.1, hR.1, hR.2, hws, List.mem_singleton.mpr rfl⟩, hK.word k5 rfl _, hK.word k4 rfl _, ⟨k6, k7⟩, hpar, hK.word k1 rfl _, hK.word k2 rfl _⟩ hpre rfl hlen hl.1 hstk (lv_room hsum) hd (by rw [h.2.2.2.2.1]; exact hks)
  refine va_calli run hS (fun _ _ h => h) (fun _ h => h) (fun r u t H1 locs1 ht hvm hp hB hz hk hS1 => ?_)
  obtain ⟨n, rfl, hq⟩ := hp
  exact k u n hq H1 locs1 ls (by rw [← ht]; exact hB) hS1 hl
end LAWR
