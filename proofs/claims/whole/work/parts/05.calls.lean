/-! ===== contracts, answers, calls ===== -/
def Pcq (Y : Cy) (K : List CK) (σ : St) (av : List AV) : Array Value → State → Prop := va_Pc (av.map (mv Y.2.2.1)) (fun U => va_P Y.1 vwCl (wsOf K Y.2.1 Y.2.2.1 σ) U.heap ∧ Kn Y U)
def Bq (Y : Cy) (K : List CK) (u : St) (t : State) : Prop := va_P Y.1 vwCl (wsOf K Y.2.1 Y.2.2.1 u) t.heap
def Qiq (Y : Cy) (K : List CK) (Q : St → Int → Prop) : Array Value → State → Outcome → State → Prop := va_Qi (S := St) (fun r u => ∃ n, r = Int32.ofInt n ∧ Q u n) (Bq Y K) Y.2.2.2
def Qlq (Y : Cy) (K : List CK) (Q : St → Int → Prop) : Array Value → State → Outcome → State → Prop := va_Ql (S := St) (fun r u => ∃ n, r = Int64.ofInt n ∧ Q u n) (Bq Y K) Y.2.2.2
def Qvq (Y : Cy) (K : List CK) (Q : St → Prop) : Array Value → State → Outcome → State → Prop := va_Qv (S := St) (fun u => Q u) (Bq Y K) Y.2.2.2
def ConI (l : Launch) (y : MethodName) (cc : ByteArray) (n : Nat) (ty : FieldType) (rm : Room) (Y : Cy) (K : List CK) (σ : St) (av : List AV) (Q : St → Int → Prop) : Prop := Met l y [.code y cc n (some ty)] rm (Pcq Y K σ av) (Qiq Y K Q) 0 0 Y.2.2.2
def ConL (l : Launch) (y : MethodName) (cc : ByteArray) (n : Nat) (rm : Room) (Y : Cy) (K : List CK) (σ : St) (av : List AV) (Q : St → Int → Prop) : Prop := Met l y [.code y cc n (some .long)] rm (Pcq Y K σ av) (Qlq Y K Q) 0 0 Y.2.2.2
def ConV (l : Launch) (y : MethodName) (cc : ByteArray) (n : Nat) (rm : Room) (Y : Cy) (K : List CK) (σ : St) (av : List AV) (Q : St → Prop) : Prop := Met l y [.code y cc n none] rm (Pcq Y K σ av) (Qvq Y K Q) 0 0 Y.2.2.2
def rm0q (f n : Nat) : Room := { frames := f, cells := 0, slots := 0, locals := n }
def QF (X : Cx) (Y : Cy) (Qc : Array Value → State → Outcome → State → Prop) : State → Prop := MQ X.2.2.2.2.2.2.2.1 Qc X.2.2.2.2.2.2.1 X.2.2.2.2.1 0 0 Y.2.2.2
theorem Pcq_blind (Y : Cy) (K : List CK) (σ : St) (av : List AV) : FrameBlind (Pcq Y K σ av) := fun _ U _ _ h => ⟨h.1, h.2.1, h.2.2.same rfl⟩
/-- a contract out of a walk from the method's entry -/
theorem con_of {l : Launch} {y : MethodName} {cc : ByteArray} {nL : Nat} {ret : Option FieldType} {f n : Nat} {Y : Cy} {K : List CK} {σ : St} {av : List AV} {Qc : Array Value → State → Outcome → State → Prop} {lv : List (Nat × AV)} (hy : plainName y.cls = true) (hD : ∀ σ, va_D Y.2.2.2 (wsOf K Y.2.1 Y.2.2.1 σ)) (hn : (lg_sl (av.map (mv Y.2.2.1))).length ≤ nL) (hlv : lv_args 0 (av.map (mv Y.2.2.1)) = lvm Y.2.2.1 lv)
    (body : ∀ X : Cx, X.2.1 = l → Ok X Y K cc nL y.cls (rm0q f n) ret → Wq X Y K nL (QF X Y Qc) σ 0 lv []) : Met l y [.code y cc nL ret] (rm0q f n) (Pcq Y K σ av) Qc 0 0 Y.2.2.2 := by
  refine Met.ofW (cc := cc) (maxL := nL) (ret := ret) hy rfl ?_
  intro p e s m args below meth c s₁ B hml hv
  obtain ⟨rfl, hP, hK⟩ := hv
  have hown : s.vm.findClass y.cls = some m.cls := findClass_of_methodNamed B.named
  have hl := lv_entry (av.map (mv Y.2.2.1)) (n := nL) hn
  rw [lg_entry_eq]
  rw [hlv] at hl
  exact body (p, l, e, rm0q f n, s, m, (av.map (mv Y.2.2.1)).toArray, below, meth, c) rfl ⟨B.exec, B.bytes, hml, hown, rfl, B.returns, B.notSynchronized, hK, hD⟩ s.heap [] _ hP va_S.rf hl
section CROWS
variable {X : Cx} {Y : Cy} {K : List CK} {cc : ByteArray} {nL : Nat} {own : String} {rm : Room} {ret : Option FieldType} {Q : State → Prop} {σ : St} {pc : Nat} {lv lv' : List (Nat × AV)} {st : List AV} {a b : Int} {c : Nat}
theorem q_iret {Qc : St → Int → Prop} (h : Ok X Y K cc nL own rm (some .int)) (hd : decode cc pc = .ok (.ireturn, 1)) (hq : Qc σ a) : Wq X Y K nL (QF X Y (Qiq Y K Qc)) σ pc lv [.inl a] := fun H locs ls hP hS hl => W.iret (v := Int32.ofInt a) h.1 h.2.1 h.2.2.2.2.2.1 (fun t ht hW => ⟨⟨Int32.ofInt a, σ, rfl, ⟨a, rfl, hq⟩, by show va_P _ _ _ t.heap; rw [ht]; exact hP⟩, hS.F ht⟩) hS.2.2 hd h.2.2.2.2.2.2.1
theorem q_zret {Qc : St → Int → Prop} (h : Ok X Y K cc nL own rm (some .boolean)) (hd : decode cc pc = .ok (.ireturn, 1)) (ha : a = 0 ∨ a = 1) (hq : Qc σ a) : Wq X Y K nL (QF X Y (Qiq Y K Qc)) σ pc lv [.inl a] := fun H locs ls hP hS hl => W.zret (v := Int32.ofInt a) h.1 h.2.1 h.2.2.2.2.2.1 (by rcases ha with rfl | rfl <;> rfl) (fun t ht hW => ⟨⟨Int32.ofInt a, σ, rfl, ⟨a, rfl, hq⟩, by show va_P _ _ _ t.heap; rw [ht]; exact hP⟩, hS.F ht⟩) hS.2.2 hd h.2.2.2.2.2.2.1
theorem q_lret {Qc : St → Int → Prop} (h : Ok X Y K cc nL own rm (some .long)) (hd : decode cc pc = .ok (.lreturn, 1)) (hq : Qc σ a) : Wq X Y K nL (QF X Y (Qlq Y K Qc)) σ pc lv [.inr (.inl a)] := fun H locs ls hP hS hl => W.lret (v := Int64.ofInt a) h.1 h.2.1 h.2.2.2.2.2.1 (fun t ht hW => ⟨⟨Int64.ofInt a, σ, rfl, ⟨a, rfl, hq⟩, by show va_P _ _ _ t.heap; rw [ht]; exact hP⟩, hS.F ht⟩) hS.2.2 hd h.2.2.2.2.2.2.1
theorem q_vret {Qc : St → Prop} (h : Ok X Y K cc nL own rm none) (hd : decode cc pc = .ok (.return_, 1)) (hq : Qc σ) : Wq X Y K nL (QF X Y (Qvq Y K Qc)) σ pc lv [] := fun H locs ls hP hS hl => W.vret h.1 h.2.1 h.2.2.2.2.2.1 (fun t ht hW => ⟨⟨σ, rfl, hq, by show va_P _ _ _ t.heap; rw [ht]; exact hP⟩, hS.F ht⟩) hS.2.2 hd h.2.2.2.2.2.2.1
/-- the words of a call of an instance's method, of a static one -/
def CVw (own : String) (idx : Nat) (y : MethodName) (cy : ByteArray) (ny : Nat) (ry : Option FieldType) (np : Nat) : Prop := ((Cond.methodLink own idx y ∈ lw_tbl) ∨ ∃ host, Cond.methodLinkNest own idx y host ∈ lw_tbl) ∧ Cond.instanceMethod y ∈ lw_tbl ∧ Cond.selects y.cls y y ∈ lw_tbl ∧ Cond.initialized y.cls ∈ lw_tbl ∧ Cond.code y cy ny ry ∈ lw_tbl ∧ (y.cls ≠ "java/lang/invoke/MethodHandle" ∧ y.cls ≠ "java/lang/invoke/VarHandle" ∧ (parseMethodDescriptor y.desc).map (fun d => d.parameters.length) = some np)
def CSw (own : String) (idx : Nat) (y : MethodName) (cy : ByteArray) (ny : Nat) (ry : Option FieldType) (np : Nat) : Prop := ((Cond.methodLink own idx y ∈ lw_tbl) ∨ ∃ host, Cond.methodLinkNest own idx y host ∈ lw_tbl) ∧ Cond.static y ∈ lw_tbl ∧ Cond.initialized y.cls ∈ lw_tbl ∧ Cond.code y cy ny ry ∈ lw_tbl ∧ (y.cls ≠ "java/lang/invoke/MethodHandle" ∧ y.cls ≠ "java/lang/invoke/VarHandle" ∧ (parseMethodDescriptor y.desc).map (fun d => d.parameters.length) = some np)
theorem runV0 (h : Ok X Y K cc nL own rm ret) {idx ny np : Nat} {y : MethodName} {cy : ByteArray} {ry : Option FieldType} {rmy : Room} {Qc : Array Value → State → Outcome → State → Prop} (hs : CVw own idx y cy ny ry np) {ci : Nat} {fds : List (Nat × Nat)} (hc : K[c]? = some (3, ci, fds)) {T : u_T} {N : Nat} (hcl : vwCl[ci]? = some (y.cls, T, N)) {av : List AV} (con : Met X.2.1 y [.code y cy ny ry] rmy (Pcq Y K σ (.inr (.inr c) :: av)) Qc 0 0 Y.2.2.2) (hr : rmy.cells = 0 ∧ rmy.slots = 0 ∧ rmy.frames + 1 ≤ rm.frames ∧ 8 + (ny + 11) + rmy.locals ≤ rm.locals) (hn : av.length = np) {stk : List AV} (hst : av.reverse ++ .inr (.inr c) :: st = stk) (hsum : ((st.map (mv Y.2.2.1)).map fun v => v.category).sum ≤ 8) (hd : decode cc pc = .ok (.invokevirtual idx, 3))
    {H : Heap} {locs : List Loc} {ls : Array Slot} (hP : va_P Y.1 vwCl (wsOf K Y.2.1 Y.2.2.1 σ) H) (hl : lv_has ls nL (lvm Y.2.2.1 lv)) : va_Run X.1 X.2.1 X.2.2.1 X.2.2.2.1 X.2.2.2.2.1 X.2.2.2.2.2.1 X.2.2.2.2.2.2.1 X.2.2.2.2.2.2.2.1 X.2.2.2.2.2.2.2.2.1 X.2.2.2.2.2.2.2.2.2 H locs 0 0 0 0 (F0 X.2.2.2.2.2.1 pc ls (stk.map (mv Y.2.2.1))) (st.map (mv Y.2.2.1)) (Qc (Value.ref (Y.2.2.1 c) :: av.map (mv Y.2.2.1)).toArray) Y.2.2.2 := by
  obtain ⟨k1, k2, k3, k4, k5, k6, k7, k8⟩ := hs
  have hK := h.2.2.2.2.2.2.2.1
  have hrec := va_recv hK.1 hP hcl (wsOf_at hc)
  have hR : rmy.frames + 1 ≤ X.2.2.2.1.frames ∧ 8 + (ny + 11) + rmy.locals ≤ X.2.2.2.1.locals := by rw [h.2.2.2.2.1]; exact hr.2.2
  have hpre : PreV X.2.2.2.2.1 H y.cls (Y.2.2.1 c) (Pcq Y K σ (.inr (.inr c) :: av)) (av.map (mv Y.2.2.1)) := ⟨Pcq_blind Y K σ _, hrec, fun U hU hW => ⟨rfl, by rw [hU]; exact hP, hK.moved hW⟩⟩
  have hlen : (av.map (mv Y.2.2.1)).length = np := by rw [List.length_map]; exact hn
  have hstk : stk.map (mv Y.2.2.1) = (av.map (mv Y.2.2.1)).reverse ++ .ref (Y.2.2.1 c) :: st.map (mv Y.2.2.1) := by rw [← hst]; simp [mv]
  have hws : ∀ w ∈ [Cond.code y cy ny ry], ∀ (a' : Array Value) (U : State), X.2.2.2.2.1.WarmedH U.vm → w.before a' U = true := by
    intro w hw a' U hW
    rw [List.mem_singleton.mp hw]
    exact (hK.moved hW).word k5 rfl a'
  have hpar : ∀ sig, parseMethodDescriptor y.desc = some sig → np = sig.parameters.length := by
    intro sig hs
    have h2 := k8
    rw [hs] at h2
    exact (Option.some.inj h2).symm
  rcases k1 with k1 | ⟨host, k1⟩
  · exact va_runV ⟨h.1, h.2.1, h.2.2.1, h.2.2.2.1, fun w hw => (List.not_mem_nil hw).elim⟩ con ⟨⟨hr.1, hr.2.1, hR.1, hR.2, hws, List.mem_singleton.mpr rfl, hK.word k5 rfl _, hK.word k4 rfl _, ⟨k6, k7⟩, hpar, hK.word k1 rfl _⟩, hK.word k2 rfl _, hK.word k3 rfl _⟩ hpre rfl hlen hl.1 hstk (lv_room hsum) hd ⟨Nat.zero_le _, Nat.zero_le _⟩
  · exact va_runVN (Ts := []) ⟨h.1, h.2.1, h.2.2.1, h.2.2.2.1, fun w hw => (List.not_mem_nil hw).elim⟩ con ⟨⟨⟨hr.1, hr.2.1, hR.1, hR.2, hws, List.mem_singleton.mpr rfl⟩, hK.word k5 rfl _, hK.word k4 rfl _, ⟨k6, k7⟩, hpar, hK.word k1 rfl _⟩, hK.word k2 rfl _, hK.word k3 rfl _⟩ hpre rfl hlen hl.1 hstk (lv_room hsum) hd ⟨Nat.zero_le _, Nat.zero_le _⟩
theorem runS0 (h : Ok X Y K cc nL own rm ret) {idx ny np : Nat} {y : MethodName} {cy : ByteArray} {ry : Option FieldType} {rmy : Room} {Qc : Array Value → State → Outcome → State → Prop} (hs : CSw own idx y cy ny ry np) {av : List AV} (con : Met X.2.1 y [.code y cy ny ry] rmy (Pcq Y K σ av) Qc 0 0 Y.2.2.2) (hr : rmy.cells = 0 ∧ rmy.slots = 0 ∧ rmy.frames + 1 ≤ rm.frames ∧ 8 + (ny + 11) + rmy.locals ≤ rm.locals) (hn : av.length = np) {stk : List AV} (hst : av.reverse ++ st = stk) (hsum : ((st.map (mv Y.2.2.1)).map fun v => v.category).sum ≤ 8) (hd : decode cc pc = .ok (.invokestatic idx, 3))
    {H : Heap} {locs : List Loc} {ls : Array Slot} (hP : va_P Y.1 vwCl (wsOf K Y.2.1 Y.2.2.1 σ) H) (hl : lv_has ls nL (lvm Y.2.2.1 lv)) : va_Run X.1 X.2.1 X.2.2.1 X.2.2.2.1 X.2.2.2.2.1 X.2.2.2.2.2.1 X.2.2.2.2.2.2.1 X.2.2.2.2.2.2.2.1 X.2.2.2.2.2.2.2.2.1 X.2.2.2.2.2.2.2.2.2 H locs 0 0 0 0 (F0 X.2.2.2.2.2.1 pc ls (stk.map (mv Y.2.2.1))) (st.map (mv Y.2.2.1)) (Qc (av.map (mv Y.2.2.1)).toArray) Y.2.2.2 := by
  obtain ⟨k1, k2, k4, k5, k6, k7, k8⟩ := hs
  have hK := h.2.2.2.2.2.2.2.1
  have hR : rmy.frames + 1 ≤ X.2.2.2.1.frames ∧ 8 + (ny + 11) + rmy.locals ≤ X.2.2.2.1.locals := by rw [h.2.2.2.2.1]; exact hr.2.2
  have hpre : PreS X.2.2.2.2.1 H (Pcq Y K σ av) (av.map (mv Y.2.2.1)) := ⟨Pcq_blind Y K σ _, fun U hU hW => ⟨rfl, by rw [hU]; exact hP, hK.moved hW⟩⟩
  have hlen : (av.map (mv Y.2.2.1)).length = np := by rw [List.length_map]; exact hn
  have hstk : stk.map (mv Y.2.2.1) = (av.map (mv Y.2.2.1)).reverse ++ st.map (mv Y.2.2.1) := by rw [← hst]; simp
  have hws : ∀ w ∈ [Cond.code y cy ny ry], ∀ (a' : Array Value) (U : State), X.2.2.2.2.1.WarmedH U.vm → w.before a' U = true := by
    intro w hw a' U hW
    rw [List.mem_singleton.mp hw]
    exact (hK.moved hW).word k5 rfl a'
  have hpar : ∀ sig, parseMethodDescriptor y.desc = some sig → np = sig.parameters.length := by
    intro sig hs
    have h2 := k8
    rw [hs] at h2
    exact (Option.some.inj h2).symm
  rcases k1 with k1 | ⟨host, k1⟩
  · exact va_runS (Ts := []) ⟨h.1, h.2.1, h.2.2.1, h.2.2.2.1, fun w hw => (List.not_mem_nil hw).elim⟩ con ⟨⟨hr.1, hr.2.1, hR.1, hR.2, hws, List.mem_singleton.mpr rfl, hK.word k5 rfl _, hK.word k4 rfl _, ⟨k6, k7⟩, hpar, hK.word k1 rfl _⟩, hK.word k2 rfl _⟩ hpre rfl hlen hl.1 hstk (lv_room hsum) hd ⟨Nat.zero_le _, Nat.zero_le _⟩
  · exact va_runSN (Ts := []) ⟨h.1, h.2.1, h.2.2.1, h.2.2.2.1, fun w hw => (List.not_mem_nil hw).elim⟩ con ⟨⟨⟨hr.1, hr.2.1, hR.1, hR.2, hws, List.mem_singleton.mpr rfl⟩, hK.word k5 rfl _, hK.word k4 rfl _, ⟨k6, k7⟩, hpar, hK.word k1 rfl _⟩, hK.word k2 rfl _, trivial⟩ hpre rfl hlen hl.1 hstk (lv_room hsum) hd ⟨Nat.zero_le _, Nat.zero_le _⟩
theorem goI {g0 : List Value} {H : Heap} {locs : List Loc} {ls : Array Slot} {av : Array Value} {Qc : St → Int → Prop} (hr : va_Run X.1 X.2.1 X.2.2.1 X.2.2.2.1 X.2.2.2.2.1 X.2.2.2.2.2.1 X.2.2.2.2.2.2.1 X.2.2.2.2.2.2.2.1 X.2.2.2.2.2.2.2.2.1 X.2.2.2.2.2.2.2.2.2 H locs 0 0 0 0 (F0 X.2.2.2.2.2.1 pc ls g0) (st.map (mv Y.2.2.1)) (Qiq Y K Qc av) Y.2.2.2) (hS : va_S Y.2.2.2 X.2.2.2.2.1.heap H locs) (hl : lv_has ls nL (lvm Y.2.2.1 lv)) (k : ∀ σ' n, Qc σ' n → Wq X Y K nL Q σ' (pc + 3) lv (.inl n :: st)) : WX X H locs Q (F0 X.2.2.2.2.2.1 pc ls g0) := by
  refine va_calli hr hS (fun _ _ h => h) (fun _ h => h) (fun r u t H1 locs1 ht hvm hp hB hz hk hS1 => ?_)
  obtain ⟨n, rfl, hq⟩ := hp
  exact k u n hq H1 locs1 ls (by rw [← ht]; exact hB) hS1 hl
theorem goL {g0 : List Value} {H : Heap} {locs : List Loc} {ls : Array Slot} {av : Array Value} {Qc : St → Int → Prop} (hr : va_Run X.1 X.2.1 X.2.2.1 X.2.2.2.1 X.2.2.2.2.1 X.2.2.2.2.2.1 X.2.2.2.2.2.2.1 X.2.2.2.2.2.2.2.1 X.2.2.2.2.2.2.2.2.1 X.2.2.2.2.2.2.2.2.2 H locs 0 0 0 0 (F0 X.2.2.2.2.2.1 pc ls g0) (st.map (mv Y.2.2.1)) (Qlq Y K Qc av) Y.2.2.2) (hS : va_S Y.2.2.2 X.2.2.2.2.1.heap H locs) (hl : lv_has ls nL (lvm Y.2.2.1 lv)) (k : ∀ σ' n, Qc σ' n → Wq X Y K nL Q σ' (pc + 3) lv (.inr (.inl n) :: st)) : WX X H locs Q (F0 X.2.2.2.2.2.1 pc ls g0) := by
  refine va_calll hr hS (fun _ _ h => h) (fun _ h => h) (fun r u t H1 locs1 ht hvm hp hB hz hk hS1 => ?_)
  obtain ⟨n, rfl, hq⟩ := hp
  exact k u n hq H1 locs1 ls (by rw [← ht]; exact hB) hS1 hl
theorem goV {g0 : List Value} {H : Heap} {locs : List Loc} {ls : Array Slot} {av : Array Value} {Qc : St → Prop} (hr : va_Run X.1 X.2.1 X.2.2.1 X.2.2.2.1 X.2.2.2.2.1 X.2.2.2.2.2.1 X.2.2.2.2.2.2.1 X.2.2.2.2.2.2.2.1 X.2.2.2.2.2.2.2.2.1 X.2.2.2.2.2.2.2.2.2 H locs 0 0 0 0 (F0 X.2.2.2.2.2.1 pc ls g0) (st.map (mv Y.2.2.1)) (Qvq Y K Qc av) Y.2.2.2) (hS : va_S Y.2.2.2 X.2.2.2.2.1.heap H locs) (hl : lv_has ls nL (lvm Y.2.2.1 lv)) (k : ∀ σ', Qc σ' → Wq X Y K nL Q σ' (pc + 3) lv st) : WX X H locs Q (F0 X.2.2.2.2.2.1 pc ls g0) := by
  refine va_callv hr hS (fun _ _ h => h) (fun _ h => h) (fun u t H1 locs1 ht hvm hp hB hz hk hS1 => ?_)
  exact k u hp H1 locs1 ls (by rw [← ht]; exact hB) hS1 hl
theorem q_callVI (h : Ok X Y K cc nL own rm ret) {idx ny np : Nat} {y : MethodName} {cy : ByteArray} {ty : FieldType} {rmy : Room} {Qc : St → Int → Prop} (hs : CVw own idx y cy ny (some ty) np) {ci : Nat} {fds : List (Nat × Nat)} (hc : K[c]? = some (3, ci, fds)) {T : u_T} {N : Nat} (hcl : vwCl[ci]? = some (y.cls, T, N)) {av : List AV} (con : ConI X.2.1 y cy ny ty rmy Y K σ (.inr (.inr c) :: av) Qc) (hr : rmy.cells = 0 ∧ rmy.slots = 0 ∧ rmy.frames + 1 ≤ rm.frames ∧ 8 + (ny + 11) + rmy.locals ≤ rm.locals) (hn : av.length = np) {stk : List AV} (hst : av.reverse ++ .inr (.inr c) :: st = stk) (hsum : ((st.map (mv Y.2.2.1)).map fun v => v.category).sum ≤ 8) (hd : decode cc pc = .ok (.invokevirtual idx, 3)) (k : ∀ σ' n, Qc σ' n → Wq X Y K nL Q σ' (pc + 3) lv (.inl n :: st)) : Wq X Y K nL Q σ pc lv stk := fun H locs ls hP hS hl => goI (runV0 h hs hc hcl con hr hn hst hsum hd hP hl) hS hl k
theorem q_callVL (h : Ok X Y K cc nL own rm ret) {idx ny np : Nat} {y : MethodName} {cy : ByteArray} {rmy : Room} {Qc : St → Int → Prop} (hs : CVw own idx y cy ny (some .long) np) {ci : Nat} {fds : List (Nat × Nat)} (hc : K[c]? = some (3, ci, fds)) {T : u_T} {N : Nat} (hcl : vwCl[ci]? = some (y.cls, T, N)) {av : List AV} (con : ConL X.2.1 y cy ny rmy Y K σ (.inr (.inr c) :: av) Qc) (hr : rmy.cells = 0 ∧ rmy.slots = 0 ∧ rmy.frames + 1 ≤ rm.frames ∧ 8 + (ny + 11) + rmy.locals ≤ rm.locals) (hn : av.length = np) {stk : List AV} (hst : av.reverse ++ .inr (.inr c) :: st = stk) (hsum : ((st.map (mv Y.2.2.1)).map fun v => v.category).sum ≤ 8) (hd : decode cc pc = .ok (.invokevirtual idx, 3)) (k : ∀ σ' n, Qc σ' n → Wq X Y K nL Q σ' (pc + 3) lv (.inr (.inl n) :: st)) : Wq X Y K nL Q σ pc lv stk := fun H locs ls hP hS hl => goL (runV0 h hs hc hcl con hr hn hst hsum hd hP hl) hS hl k
theorem q_callVV (h : Ok X Y K cc nL own rm ret) {idx ny np : Nat} {y : MethodName} {cy : ByteArray} {rmy : Room} {Qc : St → Prop} (hs : CVw own idx y cy ny none np) {ci : Nat} {fds : List (Nat × Nat)} (hc : K[c]? = some (3, ci, fds)) {T : u_T} {N : Nat} (hcl : vwCl[ci]? = some (y.cls, T, N)) {av : List AV} (con : ConV X.2.1 y cy ny rmy Y K σ (.inr (.inr c) :: av) Qc) (hr : rmy.cells = 0 ∧ rmy.slots = 0 ∧ rmy.frames + 1 ≤ rm.frames ∧ 8 + (ny + 11) + rmy.locals ≤ rm.locals) (hn : av.length = np) {stk : List AV} (hst : av.reverse ++ .inr (.inr c) :: st = stk) (hsum : ((st.map (mv Y.2.2.1)).map fun v => v.category).sum ≤ 8) (hd : decode cc pc = .ok (.invokevirtual idx, 3)) (k : ∀ σ', Qc σ' → Wq X Y K nL Q σ' (pc + 3) lv st) : Wq X Y K nL Q σ pc lv stk := fun H locs ls hP hS hl => goV (runV0 h hs hc hcl con hr hn hst hsum hd hP hl) hS hl k
theorem q_callSI (h : Ok X Y K cc nL own rm ret) {idx ny np : Nat} {y : MethodName} {cy : ByteArray} {ty : FieldType} {rmy : Room} {Qc : St → Int → Prop} (hs : CSw own idx y cy ny (some ty) np) {av : List AV} (con : ConI X.2.1 y cy ny ty rmy Y K σ av Qc) (hr : rmy.cells = 0 ∧ rmy.slots = 0 ∧ rmy.frames + 1 ≤ rm.frames ∧ 8 + (ny + 11) + rmy.locals ≤ rm.locals) (hn : av.length = np) {stk : List AV} (hst : av.reverse ++ st = stk) (hsum : ((st.map (mv Y.2.2.1)).map fun v => v.category).sum ≤ 8) (hd : decode cc pc = .ok (.invokestatic idx, 3)) (k : ∀ σ' n, Qc σ' n → Wq X Y K nL Q σ' (pc + 3) lv (.inl n :: st)) : Wq X Y K nL Q σ pc lv stk := fun H locs ls hP hS hl => goI (runS0 h hs con hr hn hst hsum hd hP hl) hS hl k
theorem q_callSL (h : Ok X Y K cc nL own rm ret) {idx ny np : Nat} {y : MethodName} {cy : ByteArray} {rmy : Room} {Qc : St → Int → Prop} (hs : CSw own idx y cy ny (some .long) np) {av : List AV} (con : ConL X.2.1 y cy ny rmy Y K σ av Qc) (hr : rmy.cells = 0 ∧ rmy.slots = 0 ∧ rmy.frames + 1 ≤ rm.frames ∧ 8 + (ny + 11) + rmy.locals ≤ rm.locals) (hn : av.length = np) {stk : List AV} (hst : av.reverse ++ st = stk) (hsum : ((st.map (mv Y.2.2.1)).map fun v => v.category).sum ≤ 8) (hd : decode cc pc = .ok (.invokestatic idx, 3)) (k : ∀ σ' n, Qc σ' n → Wq X Y K nL Q σ' (pc + 3) lv (.inr (.inl n) :: st)) : Wq X Y K nL Q σ pc lv stk := fun H locs ls hP hS hl => goL (runS0 h hs con hr hn hst hsum hd hP hl) hS hl k
theorem q_callSV (h : Ok X Y K cc nL own rm ret) {idx ny np : Nat} {y : MethodName} {cy : ByteArray} {rmy : Room} {Qc : St → Prop} (hs : CSw own idx y cy ny none np) {av : List AV} (con : ConV X.2.1 y cy ny rmy Y K σ av Qc) (hr : rmy.cells = 0 ∧ rmy.slots = 0 ∧ rmy.frames + 1 ≤ rm.frames ∧ 8 + (ny + 11) + rmy.locals ≤ rm.locals) (hn : av.length = np) {stk : List AV} (hst : av.reverse ++ st = stk) (hsum : ((st.map (mv Y.2.2.1)).map fun v => v.category).sum ≤ 8) (hd : decode cc pc = .ok (.invokestatic idx, 3)) (k : ∀ σ', Qc σ' → Wq X Y K nL Q σ' (pc + 3) lv st) : Wq X Y K nL Q σ pc lv stk := fun H locs ls hP hS hl => goV (runS0 h hs con hr hn hst hsum hd hP hl) hS hl k
end CROWS
section NROWS
variable {X : Cx} {Y : Cy} {K : List CK} {cc : ByteArray} {nL : Nat} {own : String} {rm : Room} {ret : Option FieldType} {Q : State → Prop} {σ : St} {pc : Nat} {lv lv' : List (Nat × AV)} {st : List AV} {a b : Int} {c : Nat}
theorem wq_s (k : ∀ σ1, σ1 = σ → Wq X Y K nL Q σ1 pc lv st) : Wq X Y K nL Q σ pc lv st := k σ rfl
theorem wq_i (k : ∀ x, x = a → Wq X Y K nL Q σ pc lv (.inl x :: st)) : Wq X Y K nL Q σ pc lv (.inl a :: st) := k a rfl
theorem wq_l (k : ∀ x, x = a → Wq X Y K nL Q σ pc lv (.inr (.inl x) :: st)) : Wq X Y K nL Q σ pc lv (.inr (.inl a) :: st) := k a rfl
theorem wq_r (k : ∀ x, x = c → Wq X Y K nL Q σ pc lv (.inr (.inr x) :: st)) : Wq X Y K nL Q σ pc lv (.inr (.inr c) :: st) := k c rfl
theorem q_tsIn (h : Ok X Y K cc nL own rm ret) {dflt lo hi : Int} {offs : Array Int} {len : Nat} {off : Int} {tgt : Nat} (hd : decode cc pc = .ok (.tableswitch dflt lo hi offs, len)) (ha : inR a) (h1 : lo ≤ a) (h2 : a ≤ hi) (ho : offs[(a - lo).toNat]? = some off) (ht : (pc : Int) + off = (tgt : Int)) (k : Wq X Y K nL Q σ tgt lv st) : Wq X Y K nL Q σ pc lv (.inl a :: st) := fun H locs ls hP hS hl => lv_tableIn h.1 h.2.1 hd (by rw [toI_ofI ha]; omega) (by rw [toI_ofI ha]; omega) (by rw [toI_ofI ha]; exact ho) ht (k H locs ls hP hS hl)
theorem q_tsOut (h : Ok X Y K cc nL own rm ret) {dflt lo hi : Int} {offs : Array Int} {len : Nat} {tgt : Nat} (hd : decode cc pc = .ok (.tableswitch dflt lo hi offs, len)) (ha : inR a) (h1 : a < lo ∨ hi < a) (ht : (pc : Int) + dflt = (tgt : Int)) (k : Wq X Y K nL Q σ tgt lv st) : Wq X Y K nL Q σ pc lv (.inl a :: st) := fun H locs ls hP hS hl => lv_tableOut h.1 h.2.1 hd (by rw [toI_ofI ha]; exact h1) ht (k H locs ls hP hS hl)
theorem q_lsw (h : Ok X Y K cc nL own rm ret) {dflt : Int} {ps : Array (Int × Int)} {len : Nat} {off : Int} {tgt : Nat} (hd : decode cc pc = .ok (.lookupswitch dflt ps, len)) (hp : (ps.toList.zip (ps.toList.drop 1)).all (fun (a, next) => a.1 < next.1) = true) (ha : inR a) (ho : Op.lookupswitch.offset ps.toList dflt a = off) (ht : (pc : Int) + off = (tgt : Int)) (k : Wq X Y K nL Q σ tgt lv st) : Wq X Y K nL Q σ pc lv (.inl a :: st) := fun H locs ls hP hS hl => lv_lookup h.1 h.2.1 hd hp (by rw [toI_ofI ha]; exact ho) ht (k H locs ls hP hS hl)
theorem q_ldc2 (h : Ok X Y K cc nL own rm ret) {idx : Nat} {z : Int64} {v : Int} (hw : Cond.constantLong own idx z ∈ lw_tbl) (hz : z = Int64.ofInt v) (hd : decode cc pc = .ok (.ldc2_w idx, 3)) (k : Wq X Y K nL Q σ (pc + 3) lv (.inr (.inl v) :: st)) : Wq X Y K nL Q σ pc lv st := fun H locs ls hP hS hl => lv_ldc2 h.1 h.2.1 h.2.2.2.1 (h.2.2.2.2.2.2.2.1.word hw rfl _) hd (by rw [hz]; exact k H locs ls hP hS hl)
theorem q_ldcw (h : Ok X Y K cc nL own rm ret) {idx : Nat} {z : Int32} {v : Int} (hw : Cond.constant own idx z ∈ lw_tbl) (hz : z = Int32.ofInt v) (hd : decode cc pc = .ok (.ldc_w idx, 3)) (k : Wq X Y K nL Q σ (pc + 3) lv (.inl v :: st)) : Wq X Y K nL Q σ pc lv st := fun H locs ls hP hS hl => lv_ldcw h.1 h.2.1 h.2.2.2.1 (h.2.2.2.2.2.2.2.1.word hw rfl _) hd (by rw [hz]; exact k H locs ls hP hS hl)
def irem32 (x y : Int) : Int := (Int32.ofInt x - Int32.ofInt x / Int32.ofInt y * Int32.ofInt y).toInt
theorem q_irem (h : Ok X Y K cc nL own rm ret) (hd : decode cc pc = .ok (.irem, 1)) (hb : inR b) (hb0 : ¬ b = 0) (k : Wq X Y K nL Q σ (pc + 1) lv (.inl (irem32 a b) :: st)) : Wq X Y K nL Q σ pc lv (.inl b :: .inl a :: st) := fun H locs ls hP hS hl => lv_irem h.1 h.2.1 hd (fun e => hb0 ((ofI_eq hb inR_0).mp e)) (by have := k H locs ls hP hS hl; simp only [List.map_cons, mv, irem32, ofI_toI] at this; exact this)
def FU : Nat := 100000
def alen (K : List CK) (c : Nat) : Nat := match K[c]? with
  | some k => k.2.1
  | none => 0
def isIA (K : List CK) (c : Nat) : Prop := K[c]? = some (0, alen K c, [])
def isLA (K : List CK) (c : Nat) : Prop := K[c]? = some (2, alen K c, [])
theorem in_places {ws : List Cond} (ps : List Nat) (hp : ws = ps.filterMap (fun i => tables_1[i]?)) (h : ws.all Tm = true) : ∀ w ∈ ws, w ∈ lw_tbl ∧ Tm w = true := by
  intro w hw
  have h1 := List.all_eq_true.mp h w hw
  rw [hp] at hw
  obtain ⟨i, -, hi⟩ := List.mem_filterMap.mp hw
  exact ⟨List.mem_append_right _ (List.mem_of_getElem? hi), h1⟩
theorem in_tb {w : Cond} (i : Nat) (h : tables_1[i]? = some w) : w ∈ lw_tbl := List.mem_append_right _ (List.mem_of_getElem? h)
theorem in_sl {y : MethodName} (i : Nat) {n : Nat} (h : lw_privs[i]? = some (y, n)) : Cond.selects y.cls y y ∈ lw_tbl := List.mem_append_left _ (List.mem_map.mpr ⟨(y, n), List.mem_of_getElem? h, rfl⟩)
end NROWS
