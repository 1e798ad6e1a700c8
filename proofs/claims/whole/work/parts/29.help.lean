/-! ===== the law's helpers: a call that may throw, caught ===== -/
def Kh (Y : Cy) (U : State) : Prop := Kx Y U ∧ va_Nc ISE IAE U ∧ va_Nc IOE IAE U ∧ va_Nc IOE ISE U
theorem Kh.go {Y : Cy} {s U : State} {H : Heap} {locs : List Loc} (h : Kh Y s) (hW : s.WarmedH U.vm) (hU : U.heap = H) (hS : va_S Y.2.2.2 s.heap H locs) : Kh Y U := ⟨h.1.go hW hU hS, h.2.1.moved hW.alike, h.2.2.1.moved hW.alike, h.2.2.2.moved hW.alike⟩
def Pch (Y : Cy) (σ : St) (av : List AV) : Array Value → State → Prop := va_Pc (av.map (mv Y.2.2.1)) (fun U => va_P Y.1 vwCl (wsOf KW Y.2.1 Y.2.2.1 σ) U.heap ∧ Kh Y U)
theorem Pch_blind (Y : Cy) (σ : St) (av : List AV) : FrameBlind (Pch Y σ av) := fun a U g mk h => ⟨h.1, h.2.1, h.2.2.go (State.WarmedH.refl U) (H := U.heap) (locs := []) rfl va_S.rf⟩
def Hon (l : Launch) (y : MethodName) (cc : ByteArray) (n : Nat) (hh : List (Nat × Nat × Nat × Nat)) (rm : Room) (Y : Cy) (σ : St) (av : List AV) (Q : St → Int → Prop) : Prop := Met l y [.codeWith y cc n (some .int) hh] rm (Pch Y σ av) (Qiq Y KW Q) 1 6 Y.2.2.2
def QH (X : Cx) (Y : Cy) (Qc : Array Value → State → Outcome → State → Prop) : State → Prop := MQ X.2.2.2.2.2.2.2.1 Qc X.2.2.2.2.2.2.1 X.2.2.2.2.1 1 6 Y.2.2.2
def Oh (X : Cx) (Y : Cy) (hh : List (Nat × Nat × Nat × Nat)) : Prop := X.2.1.stackTraces = false ∧ X.2.2.2.2.2.2.2.2.2.exceptionTable.toList = tableOf hh ∧ Kh Y X.2.2.2.2.1
theorem hcon_of {l : Launch} {y : MethodName} {cc : ByteArray} {nL : Nat} {hh : List (Nat × Nat × Nat × Nat)} {f n : Nat} {Y : Cy} {σ : St} {av : List AV} {Q : St → Int → Prop} {lv : List (Nat × AV)} (hy : plainName y.cls = true) (hst : l.stackTraces = false) (hD : ∀ σ, va_D Y.2.2.2 (wsOf KW Y.2.1 Y.2.2.1 σ)) (hn : (lg_sl (av.map (mv Y.2.2.1))).length ≤ nL) (hlv : lv_args 0 (av.map (mv Y.2.2.1)) = lvm Y.2.2.1 lv)
    (body : ∀ X : Cx, X.2.1 = l → Ok X Y KW cc nL y.cls (rmX f n) (some .int) → Oh X Y hh → Lq X Y KW nL (QH X Y (Qiq Y KW Q)) 0 0 σ 0 lv []) : Hon l y cc nL hh (rmX f n) Y σ av Q := by
  unfold Hon Met
  refine MetFree.of_bodyS (code := cc) (maxLocals := nL) (ret := some .int) hy ?_ ?_
  · intro args s m h hn
    obtain ⟨m9, meth, c, hn9, h1, h2, h3, h4, -, h5, h6, -⟩ := Cond.codeWith_spec (atoms_spec (ws := [.codeWith y cc nL (some .int) hh]) h _ List.mem_cons_self)
    cases hn.symm.trans hn9
    exact ⟨meth, c, h1, h2, h3, h4, h5, h6⟩
  · intro p e s m args below meth c s₁ B hml hv _
    have hh0 : s₁.heap = s.heap := by rw [B.state]; rfl
    have ht : c.exceptionTable.toList = tableOf hh := vx_table (x := y) B (atoms_spec (ws := [.codeWith y cc nL (some .int) hh]) B.pre _ List.mem_cons_self)
    obtain ⟨rfl, hP, hK⟩ := hv
    have hown : s.vm.findClass y.cls = some m.cls := findClass_of_methodNamed B.named
    have hl := lv_entry (av.map (mv Y.2.2.1)) (n := nL) hn
    rw [hlv] at hl
    have w := body (p, l, e, rmX f n, s, m, (av.map (mv Y.2.2.1)).toArray, below, meth, c) rfl ⟨B.exec, B.bytes, hml, hown, rfl, B.returns, B.notSynchronized, hK.1.1, hD⟩ ⟨hst, ht, hK⟩ s.heap [] _ hP va_S.rf hl
    obtain ⟨t, a1, o, b1, b2, b3⟩ := w s₁ hh0 (Stand.of_body B)
    rw [lg_entry_eq]
    exact ⟨t, o, a1, b1, b2, b3⟩
def mC (σ u : St) : St := sput σ 0 KC.length u
def mM (σ u : St) : St := sput σ 72 KM.length u
section HELP
variable {X : Cx} {Y : Cy} {cc : ByteArray} {nL : Nat} {own : String} {rm : Room} {ret : Option FieldType} {Q : State → Prop} {σ : St} {pc : Nat} {lv lv' : List (Nat × AV)} {st : List AV} {c : Nat} {K : List CK}
theorem inj_ok (h : Ok X Y K cc nL own rm ret) : Inj K Y.2.2.1 := by
  intro i j hi hj e
  have hD := h.2.2.2.2.2.2.2.2 (fun _ _ => 0)
  exact hD.1 i j _ _ (wsOf_at (List.getElem?_eq_getElem hi)) (wsOf_at (List.getElem?_eq_getElem hj)) e
theorem A_ok {K' : List CK} {off : Nat} (h : Ok X Y K cc nL own rm ret) (hs : Sub K' K off) : ∀ q, (Ysub Y off K'.length).2.2.2 q → Y.2.2.2 q := by
  rintro q ⟨c, hc, rfl⟩
  have hD := h.2.2.2.2.2.2.2.2 (fun _ _ => 0)
  exact hD.2 (off + c) _ (wsOf_at (List.getElem?_eq_getElem (sub_len hs hc)))
/-- a call in a try: it returns, or throws and is caught -/
theorem h_try (h : Ok X Y KW cc nL own rm ret) (hx : Kx Y X.2.2.2.2.1) {idx ny np : Nat} {y : MethodName} {cy : ByteArray} {ry : Option FieldType} {rmy : Room} {Q1 : St → Int → Prop} {E1 : String → St → Prop} (hs : CVw own idx y cy ny ry np) (hpub : Cond.methodLink own idx y ∈ lw_tbl) {ci : Nat} {fds : List (Nat × Nat)} (hc : KW[c]? = some (3, ci, fds)) {T : u_T} {N : Nat} (hcl : vwCl[ci]? = some (y.cls, T, N)) {av : List AV} (con : Xon X.2.1 y cy ny ry rmy Y KW σ (.inr (.inr c) :: av) (Qiq Y KW Q1) E1) (hr : rmy.cells = 1 ∧ rmy.slots = 6 ∧ rmy.frames + 1 ≤ rm.frames ∧ 8 + (ny + 11) + rmy.locals ≤ rm.locals) (hrm : 1 ≤ rm.cells ∧ 6 ≤ rm.slots) (hn : av.length = np) {stk : List AV} (hst : av.reverse ++ .inr (.inr c) :: st = stk) (hsum : ((st.map (mv Y.2.2.1)).map fun v => v.category).sum ≤ 8) (hd : decode cc pc = .ok (.invokevirtual idx, 3))
    (kx : ∀ (e : String) (σ' : St), E1 e σ' → ∀ (H1 : Heap) (locs1 : List Loc) (ls : Array Slot) (q : Addr) (ce : Cell), va_P Y.1 vwCl (wsOf KW Y.2.1 Y.2.2.1 σ') H1 → va_S Y.2.2.2 X.2.2.2.2.1.heap H1 locs1 → lv_has ls nL (lvm Y.2.2.1 lv) → H1[q]? = some ce → ce.vm = .none → X.2.2.2.2.1.vm.findClass e = some ce.cls → vx_W X.1 X.2.1 X.2.2.1 X.2.2.2.1 X.2.2.2.2.1 X.2.2.2.2.2.1 X.2.2.2.2.2.2.1 X.2.2.2.2.2.2.2.1 X.2.2.2.2.2.2.2.2.1 X.2.2.2.2.2.2.2.2.2 H1 locs1 1 6 Q (F0 X.2.2.2.2.2.1 pc ls (st.map (mv Y.2.2.1))) q)
    (k : ∀ σ' n, Q1 σ' n → Lq X Y KW nL Q 0 0 σ' (pc + 3) lv (.inl n :: st)) : Lq X Y KW nL Q 0 0 σ pc lv stk := by
  intro H locs ls hP hS hl T0 hT S
  rcases xrunV h hx hs hpub hc hcl con hr hrm hn hst hsum hd hP hS hl T0 hT S with ⟨v, st₀, t, T', L, h0, X', hL, e1, e2, ⟨⟨r, u, hv, ⟨n, hr2, hp⟩, hb⟩, hF⟩, stp⟩ | ⟨q, st₀, t, T', L, E9, ce, h0, X', hL, e1, e2, ⟨u, hE, hb, hF⟩, hce, hcv, hcl9, stp⟩
  · cases hv
    subst hr2
    obtain ⟨k1, k2, k3⟩ := vx_keep h0 e1 hS (fun _ _ h => h) (fun _ h => h) hL hF
    obtain ⟨t2, a1, b1⟩ := k u n hp T'.heap (locs ++ L) ls (by rw [e1]; exact hb) k3 hl T' rfl X'
    exact ⟨t2, stp t2 a1, b1⟩
  · obtain ⟨k1, k2, k3⟩ := vx_keep h0 e1 hS (fun _ _ h => h) (fun _ h => h) hL hF
    obtain ⟨t2, a1, b1⟩ := kx E9 u hE T'.heap (locs ++ L) ls q ce (by rw [e1]; exact hb) k3 hl (by rw [e1]; exact hce) hcv hcl9 T' rfl X'
    exact ⟨t2, stp.trans a1, b1⟩
/-- caught by the row x of the table: the number v is handed back -/
theorem h_handN (h : Ok X Y KW cc nL own rm (some .int)) {e nm : String} {Qc : St → Int → Prop} {v : Int} (pre : List ExceptionTableEntry) (x : ExceptionTableEntry) (suf : List ExceptionTableEntry) (hsplit : X.2.2.2.2.2.2.2.2.2.exceptionTable.toList = pre ++ x :: suf) (hpass : ∀ z ∈ pre, covers z pc = false ∨ (z.catchType ≠ 0 ∧ ∃ nm : String, (Cond.classLink own z.catchType nm).before X.2.2.2.2.2.2.1 X.2.2.2.2.1 = true ∧ va_Nc e nm X.2.2.2.2.1)) (hcov : covers x pc = true) (h0 : x.catchType ≠ 0) (hlink : Cond.classLink own x.catchType nm ∈ lw_tbl) (hcast : (Cond.castable e nm).before X.2.2.2.2.2.2.1 X.2.2.2.2.1 = true) {kk : Fin 4} (d0 : decode cc x.handlerPc = .ok (.astore_n kk, 1)) (hkk : kk.val < nL) (d1 : decode cc (x.handlerPc + 1) = .ok (.iconst v, 1)) (d2 : decode cc (x.handlerPc + 2) = .ok (.ireturn, 1)) {σ' : St} (hq : Qc σ' v)
    (H1 : Heap) (locs1 : List Loc) (ls : Array Slot) (q : Addr) (ce : Cell) (hP : va_P Y.1 vwCl (wsOf KW Y.2.1 Y.2.2.1 σ') H1) (hS : va_S Y.2.2.2 X.2.2.2.2.1.heap H1 locs1) (hl : lv_has ls nL (lvm Y.2.2.1 lv)) (hce : H1[q]? = some ce) (hv : ce.vm = .none) (hcl : X.2.2.2.2.1.vm.findClass e = some ce.cls) : vx_W X.1 X.2.1 X.2.2.1 X.2.2.2.1 X.2.2.2.2.1 X.2.2.2.2.2.1 X.2.2.2.2.2.2.1 X.2.2.2.2.2.2.2.1 X.2.2.2.2.2.2.2.2.1 X.2.2.2.2.2.2.2.2.2 H1 locs1 1 6 (QH X Y (Qiq Y KW Qc)) (F0 X.2.2.2.2.2.1 pc ls (st.map (mv Y.2.2.1))) q := by
  refine vx_catch h.2.2.2.1 pre x suf hsplit hpass hcov h0 (h.2.2.2.2.2.2.2.1.word hlink rfl _) hcast hce hv hcl ?_
  refine lv_astore_n h.1 h.2.1 d0 rfl hl hkk rfl (fun ls' hl' => ?_)
  refine lv_iconst h.1 h.2.1 d1 rfl ?_
  exact W.iret (v := Int32.ofInt v) h.1 h.2.1 h.2.2.2.2.2.1 (fun t ht hW => ⟨⟨Int32.ofInt v, σ', rfl, ⟨v, rfl, hq⟩, by show va_P _ _ _ t.heap; rw [ht]; exact hP⟩, hS.F ht⟩) hS.2.2 d2 h.2.2.2.2.2.2.1
theorem h_hand (h : Ok X Y KW cc nL own rm (some .int)) {e nm : String} {Qc : St → Int → Prop} {v : Int} (pre : List ExceptionTableEntry) (x : ExceptionTableEntry) (suf : List ExceptionTableEntry) (hsplit : X.2.2.2.2.2.2.2.2.2.exceptionTable.toList = pre ++ x :: suf) (hpass : ∀ z ∈ pre, covers z pc = false ∨ (z.catchType ≠ 0 ∧ ∃ nm : String, (Cond.classLink own z.catchType nm).before X.2.2.2.2.2.2.1 X.2.2.2.2.1 = true ∧ va_Nc e nm X.2.2.2.2.1)) (hcov : covers x pc = true) (h0 : x.catchType ≠ 0) (hlink : Cond.classLink own x.catchType nm ∈ lw_tbl) (hcast : (Cond.castable e nm).before X.2.2.2.2.2.2.1 X.2.2.2.2.1 = true) {kk : Nat} (d0 : decode cc x.handlerPc = .ok (.astore kk, 2)) (hkk : kk < nL) (d1 : decode cc (x.handlerPc + 2) = .ok (.iconst v, 1)) (d2 : decode cc (x.handlerPc + 3) = .ok (.ireturn, 1)) {σ' : St} (hq : Qc σ' v)
    (H1 : Heap) (locs1 : List Loc) (ls : Array Slot) (q : Addr) (ce : Cell) (hP : va_P Y.1 vwCl (wsOf KW Y.2.1 Y.2.2.1 σ') H1) (hS : va_S Y.2.2.2 X.2.2.2.2.1.heap H1 locs1) (hl : lv_has ls nL (lvm Y.2.2.1 lv)) (hce : H1[q]? = some ce) (hv : ce.vm = .none) (hcl : X.2.2.2.2.1.vm.findClass e = some ce.cls) : vx_W X.1 X.2.1 X.2.2.1 X.2.2.2.1 X.2.2.2.2.1 X.2.2.2.2.2.1 X.2.2.2.2.2.2.1 X.2.2.2.2.2.2.2.1 X.2.2.2.2.2.2.2.2.1 X.2.2.2.2.2.2.2.2.2 H1 locs1 1 6 (QH X Y (Qiq Y KW Qc)) (F0 X.2.2.2.2.2.1 pc ls (st.map (mv Y.2.2.1))) q := by
  refine vx_catch h.2.2.2.1 pre x suf hsplit hpass hcov h0 (h.2.2.2.2.2.2.2.1.word hlink rfl _) hcast hce hv hcl ?_
  refine lv_astore h.1 h.2.1 d0 hl hkk rfl (fun ls' hl' => ?_)
  refine lv_iconst h.1 h.2.1 d1 rfl ?_
  exact W.iret (v := Int32.ofInt v) h.1 h.2.1 h.2.2.2.2.2.1 (fun t ht hW => ⟨⟨Int32.ofInt v, σ', rfl, ⟨v, rfl, hq⟩, by show va_P _ _ _ t.heap; rw [ht]; exact hP⟩, hS.F ht⟩) hS.2.2 d2 h.2.2.2.2.2.2.1
theorem h_iret {Qc : St → Int → Prop} {a : Int} (h : Ok X Y KW cc nL own rm (some .int)) (hd : decode cc pc = .ok (.ireturn, 1)) (hq : Qc σ a) : Lq X Y KW nL (QH X Y (Qiq Y KW Qc)) 0 0 σ pc lv [.inl a] := fun H locs ls hP hS hl => W.widen (Nat.zero_le 1) (Nat.zero_le 6) (W.iret (v := Int32.ofInt a) h.1 h.2.1 h.2.2.2.2.2.1 (fun t ht hW => ⟨⟨Int32.ofInt a, σ, rfl, ⟨a, rfl, hq⟩, by show va_P _ _ _ t.heap; rw [ht]; exact hP⟩, hS.F ht⟩) hS.2.2 hd h.2.2.2.2.2.2.1)
end HELP
theorem ca_IAE : Cond.castable IAE IAE ∈ vx_atS RX9 64 IAE nmX := by decide +kernel
theorem ca_ISE : Cond.castable ISE ISE ∈ vx_atS RX9 75 ISE nmX := by decide +kernel
theorem ca_IOE : Cond.castable IOE IOE ∈ vx_atS RX9 226 IOE nmX := by decide +kernel
theorem cast_IAE {Y : Cy} {U : State} (h : Kx Y U) (args : Array Value) : (Cond.castable IAE IAE).before args U = true := va_Nw.use rfl (h.2.1.2.1 _ ca_IAE)
theorem cast_ISE {Y : Cy} {U : State} (h : Kx Y U) (args : Array Value) : (Cond.castable ISE ISE).before args U = true := va_Nw.use rfl (h.2.1.1 _ ca_ISE)
theorem cast_IOE {Y : Cy} {U : State} (h : Kx Y U) (args : Array Value) : (Cond.castable IOE IOE).before args U = true := va_Nw.use rfl (h.2.1.2.2 _ ca_IOE)
