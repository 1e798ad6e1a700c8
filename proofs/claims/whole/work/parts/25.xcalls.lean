/-! ===== calls of methods that throw: on a return nothing is counted, on a throw a cell of six ===== -/
def xRun (X : Cx) (H : Heap) (locs : List Loc) (g : JFrame) (rest : List Value) (Qa : State → Outcome → State → Prop) (XC : String → State → State → Prop) (free : Addr → Prop) : Prop :=
  ∀ T : State, T.heap = H → Stand X.1 X.2.1 X.2.2.1 X.2.2.2.1 X.2.2.2.2.1 X.2.2.2.2.2.1 X.2.2.2.2.2.2.1 X.2.2.2.2.2.2.2.1 X.2.2.2.2.2.2.2.2.1 X.2.2.2.2.2.2.2.2.2 T locs 0 0 →
    (∃ (v : Option Value) (st₀ t T' : State) (L : List Loc), st₀.heap = H ∧ Stand X.1 X.2.1 X.2.2.1 X.2.2.2.1 X.2.2.2.2.1 X.2.2.2.2.2.1 X.2.2.2.2.2.2.1 X.2.2.2.2.2.2.2.1 X.2.2.2.2.2.2.2.2.1 X.2.2.2.2.2.2.2.2.2 T' (locs ++ L) 0 0 ∧ (∀ q ∈ L, free q.base) ∧ T'.heap = t.heap ∧ T'.vm = t.vm ∧ Qa st₀ (.returned v) t ∧
      Goes X.1 X.2.2.1 X.2.2.2.2.2.2.2.1 T g T' { g with pc := g.pc + 3, stack := v.toList ++ rest }) ∨
    (∃ (q : Addr) (st₀ t T' : State) (L : List Loc) (E : String) (ce : Cell), st₀.heap = H ∧ Stand X.1 X.2.1 X.2.2.1 X.2.2.2.1 X.2.2.2.2.1 X.2.2.2.2.2.1 X.2.2.2.2.2.2.1 X.2.2.2.2.2.2.2.1 X.2.2.2.2.2.2.2.2.1 X.2.2.2.2.2.2.2.2.2 T' (locs ++ L) 1 6 ∧ (∀ z ∈ L, free z.base) ∧ T'.heap = t.heap ∧ T'.vm = t.vm ∧ XC E st₀ t ∧ t.heap[q]? = some ce ∧ ce.vm = .none ∧ X.2.2.2.2.1.vm.findClass E = some ce.cls ∧
      Steps X.1.tables X.2.2.1 X.2.2.2.2.2.2.2.1 (T.setTop g) ((T'.setTop { g with stack := rest }).pushFrame (.throwing q)))
section XCALLS
variable {X : Cx} {Y : Cy} {K : List CK} {cc : ByteArray} {nL : Nat} {own : String} {rm : Room} {ret : Option FieldType} {Q : State → Prop} {σ : St} {pc : Nat} {lv lv' : List (Nat × AV)} {st : List AV} {c : Nat}
variable {Qc : Array Value → State → Outcome → State → Prop} {E : String → St → Prop}
theorem xrunV (h : Ok X Y K cc nL own rm ret) (hx : Kx Y X.2.2.2.2.1) {idx ny np : Nat} {y : MethodName} {cy : ByteArray} {ry : Option FieldType} {rmy : Room} {Q1 : Array Value → State → Outcome → State → Prop} (hs : CVw own idx y cy ny ry np) (hpub : Cond.methodLink own idx y ∈ lw_tbl) {ci : Nat} {fds : List (Nat × Nat)} (hc : K[c]? = some (3, ci, fds)) {T : u_T} {N : Nat} (hcl : vwCl[ci]? = some (y.cls, T, N)) {av : List AV} (con : Xon X.2.1 y cy ny ry rmy Y K σ (.inr (.inr c) :: av) Q1 E) (hr : rmy.cells = 1 ∧ rmy.slots = 6 ∧ rmy.frames + 1 ≤ rm.frames ∧ 8 + (ny + 11) + rmy.locals ≤ rm.locals) (hrm : 1 ≤ rm.cells ∧ 6 ≤ rm.slots) (hn : av.length = np) {stk : List AV} (hst : av.reverse ++ .inr (.inr c) :: st = stk) (hsum : ((st.map (mv Y.2.2.1)).map fun v => v.category).sum ≤ 8) (hd : decode cc pc = .ok (.invokevirtual idx, 3))
    {H : Heap} {locs : List Loc} {ls : Array Slot} (hP : va_P Y.1 vwCl (wsOf K Y.2.1 Y.2.2.1 σ) H) (hS : va_S Y.2.2.2 X.2.2.2.2.1.heap H locs) (hl : lv_has ls nL (lvm Y.2.2.1 lv)) : xRun X H locs (F0 X.2.2.2.2.2.1 pc ls (stk.map (mv Y.2.2.1))) (st.map (mv Y.2.2.1)) (Q1 (Value.ref (Y.2.2.1 c) :: av.map (mv Y.2.2.1)).toArray) (XCq Y K E) Y.2.2.2 := by
  obtain ⟨-, k2, k3, k4, k5, k6, k7, k8⟩ := hs
  have hK := h.2.2.2.2.2.2.2.1
  obtain ⟨cellB, hcB, hoB, hclB⟩ := va_recv hK.1 hP hcl (wsOf_at hc)
  have hR : rmy.frames + 1 ≤ X.2.2.2.1.frames ∧ 8 + (ny + 11) + rmy.locals ≤ X.2.2.2.1.locals := by rw [h.2.2.2.2.1]; exact hr.2.2
  have hws : ∀ w ∈ [Cond.code y cy ny ry], ∀ (a' : Array Value) (U : State), X.2.2.2.2.1.WarmedH U.vm → w.before a' U = true := by
    intro w hw a' U hW
    rw [List.mem_singleton.mp hw]
    exact (hK.moved hW).word k5 rfl a'
  have hpar : ∀ sig, parseMethodDescriptor y.desc = some sig → (av.map (mv Y.2.2.1)).length = sig.parameters.length := by
    intro sig hs
    have h2 := k8
    rw [hs] at h2
    rw [List.length_map, hn]
    exact (Option.some.inj h2).symm
  have hstk : stk.map (mv Y.2.2.1) = (av.map (mv Y.2.2.1)).reverse ++ .ref (Y.2.2.1 c) :: st.map (mv Y.2.2.1) := by rw [← hst]; simp [mv]
  have hB := x_back (len := 3) (W9 := 8) (p := X.1) (e := X.2.2.1) (below := X.2.2.2.2.2.2.2.1) (s := X.2.2.2.2.1) (sargs := X.2.2.2.2.2.2.1) (R := X.2.2.2.1) (bytes := cy) (maxL := ny) (ret := ry) con (Pcx_blind Y K σ _) hr.1 hr.2.1 hR.1 hR.2 hws (List.mem_singleton.mpr rfl) (fun a' U hW => (hK.moved hW).word k4 rfl a')
  intro T0 hT S
  rcases vx_callV S h.1 (own := own) (C := y.cls) (index := idx) (y := y) (bytes := cy) (maxL := ny) (ret := ry) h.2.2.2.1 (hK.word hpub rfl _) (hK.word k2 rfl _) (hK.word k3 rfl _) (hK.word k5 rfl _) ⟨k6, k7⟩ hB (b := Y.2.2.1 c) (by rw [hT]; exact hcB) hoB hclB (g := F0 X.2.2.2.2.2.1 pc ls (stk.map (mv Y.2.2.1))) rfl (hl.1.trans h.2.2.1.symm) (argsL := av.map (mv Y.2.2.1)) (rest := st.map (mv Y.2.2.1)) hpar hstk (lv_room hsum) (by rw [h.2.1]; exact hd)
    (fun vm₁ hW₁ => ⟨by rw [h.2.2.2.2.1]; exact hrm.1, by rw [h.2.2.2.2.1]; exact hrm.2, rfl, by show va_P _ _ _ T0.heap; rw [hT]; exact hP, hx.go hW₁ hT hS⟩) with ⟨v, vm₁, ⟨U', l2, c2, s2⟩, hW₁, X', ⟨g', mk, t, L, e1, e2, hq, h1, hL, h2, h3⟩, stp⟩ | ⟨q, vm₁, ⟨U', l2, c2, s2⟩, hW₁, X', ⟨g', mk, t, L, E9, ce, e1, e2, hq, hce, hcv, hcl9, h1, hL, h2, h3⟩, stp⟩
  · dsimp only [Pt.U, Pt.locs, Pt.cells, Pt.slots] at X' e1 e2 h1 h2 h3 stp
    subst h1; subst h2; subst h3
    exact Or.inl ⟨v, (T0.setVm vm₁).calling g' mk (Value.ref (Y.2.2.1 c) :: av.map (mv Y.2.2.1)).toArray, t, U', L, hT, X', hL, e1, e2, hq, stp⟩
  · dsimp only [Pt.U, Pt.locs, Pt.cells, Pt.slots] at X' e1 e2 h1 h2 h3 stp hcl9
    subst h1; subst h2; subst h3
    exact Or.inr ⟨q, (T0.setVm vm₁).calling g' mk (Value.ref (Y.2.2.1 c) :: av.map (mv Y.2.2.1)).toArray, t, U', L, E9, ce, hT, X', hL, e1, e2, hq, hce, hcv, vx_cls hW₁ hcl9, stp⟩
theorem xrunS (h : Ok X Y K cc nL own rm ret) (hx : Kx Y X.2.2.2.2.1) {idx ny np : Nat} {y : MethodName} {cy : ByteArray} {ry : Option FieldType} {rmy : Room} {Q1 : Array Value → State → Outcome → State → Prop} (hs : CSw own idx y cy ny ry np) (hpub : Cond.methodLink own idx y ∈ lw_tbl) {av : List AV} (con : Xon X.2.1 y cy ny ry rmy Y K σ av Q1 E) (hr : rmy.cells = 1 ∧ rmy.slots = 6 ∧ rmy.frames + 1 ≤ rm.frames ∧ 8 + (ny + 11) + rmy.locals ≤ rm.locals) (hrm : 1 ≤ rm.cells ∧ 6 ≤ rm.slots) (hn : av.length = np) {stk : List AV} (hst : av.reverse ++ st = stk) (hsum : ((st.map (mv Y.2.2.1)).map fun v => v.category).sum ≤ 8) (hd : decode cc pc = .ok (.invokestatic idx, 3))
    {H : Heap} {locs : List Loc} {ls : Array Slot} (hP : va_P Y.1 vwCl (wsOf K Y.2.1 Y.2.2.1 σ) H) (hS : va_S Y.2.2.2 X.2.2.2.2.1.heap H locs) (hl : lv_has ls nL (lvm Y.2.2.1 lv)) : xRun X H locs (F0 X.2.2.2.2.2.1 pc ls (stk.map (mv Y.2.2.1))) (st.map (mv Y.2.2.1)) (Q1 (av.map (mv Y.2.2.1)).toArray) (XCq Y K E) Y.2.2.2 := by
  obtain ⟨-, k2, k4, k5, k6, k7, k8⟩ := hs
  have hK := h.2.2.2.2.2.2.2.1
  have hR : rmy.frames + 1 ≤ X.2.2.2.1.frames ∧ 8 + (ny + 11) + rmy.locals ≤ X.2.2.2.1.locals := by rw [h.2.2.2.2.1]; exact hr.2.2
  have hws : ∀ w ∈ [Cond.code y cy ny ry], ∀ (a' : Array Value) (U : State), X.2.2.2.2.1.WarmedH U.vm → w.before a' U = true := by
    intro w hw a' U hW
    rw [List.mem_singleton.mp hw]
    exact (hK.moved hW).word k5 rfl a'
  have hpar : ∀ sig, parseMethodDescriptor y.desc = some sig → (av.map (mv Y.2.2.1)).length = sig.parameters.length := by
    intro sig hs
    have h2 := k8
    rw [hs] at h2
    rw [List.length_map, hn]
    exact (Option.some.inj h2).symm
  have hstk : stk.map (mv Y.2.2.1) = (av.map (mv Y.2.2.1)).reverse ++ st.map (mv Y.2.2.1) := by rw [← hst]; simp
  have hB := x_back (len := 3) (W9 := 8) (p := X.1) (e := X.2.2.1) (below := X.2.2.2.2.2.2.2.1) (s := X.2.2.2.2.1) (sargs := X.2.2.2.2.2.2.1) (R := X.2.2.2.1) (bytes := cy) (maxL := ny) (ret := ry) con (Pcx_blind Y K σ _) hr.1 hr.2.1 hR.1 hR.2 hws (List.mem_singleton.mpr rfl) (fun a' U hW => (hK.moved hW).word k4 rfl a')
  intro T0 hT S
  rcases vx_callS S h.1 (own := own) (index := idx) (y := y) (bytes := cy) (maxL := ny) (ret := ry) h.2.2.2.1 (hK.word hpub rfl _) (hK.word k2 rfl _) (hK.word k4 rfl _) (hK.word k5 rfl _) ⟨k6, k7⟩ hB (g := F0 X.2.2.2.2.2.1 pc ls (stk.map (mv Y.2.2.1))) rfl (hl.1.trans h.2.2.1.symm) (argsL := av.map (mv Y.2.2.1)) (rest := st.map (mv Y.2.2.1)) hpar hstk (lv_room hsum) (by rw [h.2.1]; exact hd)
    (fun vm₁ hW₁ => ⟨by rw [h.2.2.2.2.1]; exact hrm.1, by rw [h.2.2.2.2.1]; exact hrm.2, rfl, by show va_P _ _ _ T0.heap; rw [hT]; exact hP, hx.go hW₁ hT hS⟩) with ⟨v, vm₁, ⟨U', l2, c2, s2⟩, hW₁, X', ⟨g', mk, t, L, e1, e2, hq, h1, hL, h2, h3⟩, stp⟩ | ⟨q, vm₁, ⟨U', l2, c2, s2⟩, hW₁, X', ⟨g', mk, t, L, E9, ce, e1, e2, hq, hce, hcv, hcl9, h1, hL, h2, h3⟩, stp⟩
  · dsimp only [Pt.U, Pt.locs, Pt.cells, Pt.slots] at X' e1 e2 h1 h2 h3 stp
    subst h1; subst h2; subst h3
    exact Or.inl ⟨v, (T0.setVm vm₁).calling g' mk (av.map (mv Y.2.2.1)).toArray, t, U', L, hT, X', hL, e1, e2, hq, stp⟩
  · dsimp only [Pt.U, Pt.locs, Pt.cells, Pt.slots] at X' e1 e2 h1 h2 h3 stp hcl9
    subst h1; subst h2; subst h3
    exact Or.inr ⟨q, (T0.setVm vm₁).calling g' mk (av.map (mv Y.2.2.1)).toArray, t, U', L, E9, ce, hT, X', hL, e1, e2, hq, hce, hcv, vx_cls hW₁ hcl9, stp⟩
/-- the exception goes on to the caller -/
theorem x_pass {g0 : List Value} {H : Heap} {locs : List Loc} {ls : Array Slot} {av : Array Value} {Q1 : St → Prop} (h : Ok X Y K cc nL own rm ret) (ox : Ox X Y) (hr : xRun X H locs (F0 X.2.2.2.2.2.1 pc ls g0) (st.map (mv Y.2.2.1)) (Qvq Y K Q1 av) (XCq Y K E) Y.2.2.2) (hS : va_S Y.2.2.2 X.2.2.2.2.1.heap H locs) (hl : lv_has ls nL (lvm Y.2.2.1 lv)) (k : ∀ σ', Q1 σ' → Wq X Y K nL (QX X Y Qc (XCq Y K E)) σ' (pc + 3) lv st) : WX X H locs (QX X Y Qc (XCq Y K E)) (F0 X.2.2.2.2.2.1 pc ls g0) := by
  intro T hT S
  rcases hr T hT S with ⟨v, st₀, t, T', L, h0, X', hL, e1, e2, ⟨⟨u, hv, hp, hb⟩, hF⟩, stp⟩ | ⟨q, st₀, t, T', L, E9, ce, h0, X', hL, e1, e2, ⟨u, hE, hb, hF⟩, hce, hcv, hcl9, stp⟩
  · cases hv
    obtain ⟨k1, k2, k3⟩ := vx_keep h0 e1 hS (fun _ _ h => h) (fun _ h => h) hL hF
    obtain ⟨t2, a1, b1⟩ := k u hp T'.heap (locs ++ L) ls (by rw [e1]; exact hb) k3 hl T' rfl X'
    exact ⟨t2, stp t2 a1, b1⟩
  · obtain ⟨k1, k2, k3⟩ := vx_keep h0 e1 hS (fun _ _ h => h) (fun _ h => h) hL hF
    have out := vx_out (p := X.1) (l := X.2.1) (e := X.2.2.1) (R := X.2.2.2.1) (s := X.2.2.2.2.1) (m := X.2.2.2.2.2.1) (args := X.2.2.2.2.2.2.1) (below := X.2.2.2.2.2.2.2.1) (meth := X.2.2.2.2.2.2.2.2.1) (c := X.2.2.2.2.2.2.2.2.2) (H := T'.heap) (locs := locs ++ L) (cells := 1) (slots := 6) (free := Y.2.2.2) (ls := ls) (rest := st.map (mv Y.2.2.1)) (Qc := fun _ _ _ _ => False) (XC := XCq Y K E) (pc := pc) (E := E9) (ce := ce) (q := q) (mc := 1) (ms := 6) (fun x hx => (ox.2.1 x hx).elim) h.2.2.2.2.2.2.1 (by rw [e1]; exact hce) hcv hcl9 (fun t' ht' hv' => ⟨u, hE, by show va_P _ _ _ t'.heap; rw [ht', e1]; exact hb, by
      refine ⟨by rw [ht']; exact k3.1, fun z hz hA => ?_⟩
      rw [ht']; exact k3.2.1 z hz hA⟩) k3.2.2 (Nat.le_refl _) (Nat.le_refl _)
    obtain ⟨t2, a1, b1⟩ := out T' rfl X'
    exact ⟨t2, stp.trans a1, x_mono t2 b1⟩
theorem q_xV (h : Ok X Y K cc nL own rm ret) (ox : Ox X Y) {idx ny np : Nat} {y : MethodName} {cy : ByteArray} {rmy : Room} {Q1 : St → Prop} (hs : CVw own idx y cy ny none np) (hpub : Cond.methodLink own idx y ∈ lw_tbl) {ci : Nat} {fds : List (Nat × Nat)} (hc : K[c]? = some (3, ci, fds)) {T : u_T} {N : Nat} (hcl : vwCl[ci]? = some (y.cls, T, N)) {av : List AV} (con : Xon X.2.1 y cy ny none rmy Y K σ (.inr (.inr c) :: av) (Qvq Y K Q1) E) (hr : rmy.cells = 1 ∧ rmy.slots = 6 ∧ rmy.frames + 1 ≤ rm.frames ∧ 8 + (ny + 11) + rmy.locals ≤ rm.locals) (hrm : 1 ≤ rm.cells ∧ 6 ≤ rm.slots) (hn : av.length = np) {stk : List AV} (hst : av.reverse ++ .inr (.inr c) :: st = stk) (hsum : ((st.map (mv Y.2.2.1)).map fun v => v.category).sum ≤ 8) (hd : decode cc pc = .ok (.invokevirtual idx, 3)) (k : ∀ σ', Q1 σ' → Wq X Y K nL (QX X Y Qc (XCq Y K E)) σ' (pc + 3) lv st) : Wq X Y K nL (QX X Y Qc (XCq Y K E)) σ pc lv stk := fun H locs ls hP hS hl => x_pass h ox (xrunV h ox.2.2 hs hpub hc hcl con hr hrm hn hst hsum hd hP hS hl) hS hl k
theorem q_xS (h : Ok X Y K cc nL own rm ret) (ox : Ox X Y) {idx ny np : Nat} {y : MethodName} {cy : ByteArray} {rmy : Room} {Q1 : St → Prop} (hs : CSw own idx y cy ny none np) (hpub : Cond.methodLink own idx y ∈ lw_tbl) {av : List AV} (con : Xon X.2.1 y cy ny none rmy Y K σ av (Qvq Y K Q1) E) (hr : rmy.cells = 1 ∧ rmy.slots = 6 ∧ rmy.frames + 1 ≤ rm.frames ∧ 8 + (ny + 11) + rmy.locals ≤ rm.locals) (hrm : 1 ≤ rm.cells ∧ 6 ≤ rm.slots) (hn : av.length = np) {stk : List AV} (hst : av.reverse ++ st = stk) (hsum : ((st.map (mv Y.2.2.1)).map fun v => v.category).sum ≤ 8) (hd : decode cc pc = .ok (.invokestatic idx, 3)) (k : ∀ σ', Q1 σ' → Wq X Y K nL (QX X Y Qc (XCq Y K E)) σ' (pc + 3) lv st) : Wq X Y K nL (QX X Y Qc (XCq Y K E)) σ pc lv stk := fun H locs ls hP hS hl => x_pass h ox (xrunS h ox.2.2 hs hpub con hr hrm hn hst hsum hd hP hS hl) hS hl k
end XCALLS
