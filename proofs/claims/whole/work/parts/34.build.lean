/-! ===== constructors: worlds as lists that grow ===== -/
def Kc (D : va_G) (ac : Nat → ClassId) (U : State) : Prop := Kn (D, ac, fun c => c, fun _ => True) U ∧ (Cond.arrayClass .int).before #[] U = true ∧ (Cond.arrayClass .boolean).before #[] U = true ∧ (Cond.arrayClass .long).before #[] U = true
theorem Kc.moved {D : va_G} {ac : Nat → ClassId} {s U : State} (h : Kc D ac s) (hW : s.WarmedH U.vm) : Kc D ac U := ⟨h.1.moved hW, word_at hW (Or.inr ⟨_, rfl⟩) h.2.1, word_at hW (Or.inr ⟨_, rfl⟩) h.2.2.1, word_at hW (Or.inr ⟨_, rfl⟩) h.2.2.2⟩
theorem Kc.arr {D : va_G} {ac : Nat → ClassId} {s : State} (h : Kc D ac s) (args : Array Value) : (Cond.arrayClass .int).before args s = true ∧ (Cond.arrayClass .boolean).before args s = true ∧ (Cond.arrayClass .long).before args s = true := ⟨word_at (State.WarmedH.refl s) (Or.inr ⟨_, rfl⟩) h.2.1, word_at (State.WarmedH.refl s) (Or.inr ⟨_, rfl⟩) h.2.2.1, word_at (State.WarmedH.refl s) (Or.inr ⟨_, rfl⟩) h.2.2.2⟩
def PcB (D : va_G) (ac : Nat → ClassId) (h1 : Nat) (e1 : va_E) (av : List Value) (sz : Nat) : Array Value → State → Prop := va_Pc (.ref h1 :: av) (fun U => U.heap.size = sz ∧ va_P D vwCl [(h1, e1)] U.heap ∧ va_D (fun _ => True) [(h1, e1)] ∧ Kc D ac U)
def QcB (D : va_G) (h1 : Nat) (e1 : va_E) (P1 : va_W → Prop) (sz : Nat) : Array Value → State → Outcome → State → Prop := va_Qv (S := va_W) P1 (fun w1 t => va_P D vwCl w1 t.heap ∧ va_D (va_A [(h1, e1)] sz) w1) (va_A [(h1, e1)] sz)
def BCon (l : Launch) (y : MethodName) (cy : ByteArray) (ny : Nat) (rmy : Room) (D : va_G) (ac : Nat → ClassId) (h1 : Nat) (e1 : va_E) (av : List Value) (P1 : va_W → Prop) (mc ms : Nat) : Prop := ∀ sz, Met l y [.code y cy ny none] rmy (PcB D ac h1 e1 av sz) (QcB D h1 e1 P1 sz) mc ms (va_A [(h1, e1)] sz)
theorem PcB_blind (D : va_G) (ac : Nat → ClassId) (h1 : Nat) (e1 : va_E) (av : List Value) (sz : Nat) : FrameBlind (PcB D ac h1 e1 av sz) := fun _ U _ _ h => ⟨h.1, h.2.1, h.2.2.1, h.2.2.2.1, h.2.2.2.2.moved (State.WarmedH.refl U)⟩
def BIw (own : String) (idx : Nat) (y : MethodName) (cy : ByteArray) (ny : Nat) (np : Nat) : Prop := ((Cond.methodLink own idx y ∈ lw_tbl) ∨ ∃ host, Cond.methodLinkNest own idx y host ∈ lw_tbl) ∧ Cond.instanceMethod y ∈ lw_tbl ∧ Cond.initialized y.cls ∈ lw_tbl ∧ Cond.code y cy ny none ∈ lw_tbl ∧ y.name = "<init>" ∧ (y.cls ≠ "java/lang/invoke/MethodHandle" ∧ y.cls ≠ "java/lang/invoke/VarHandle" ∧ (parseMethodDescriptor y.desc).map (fun d => d.parameters.length) = some np)
section BROWS
variable {p : Program} {l : Launch} {e : Env} {R : Room} {s : State} {m : MethodId} {args : Array Value} {below : List Frame} {meth : Method} {c : Code} {H : Heap} {locs : List Loc} {cells slots : Nat} {Q : State → Prop}
variable {cc : ByteArray} {pc : Nat} {ls : Array Slot} {rest : List Value} {D : va_G} {A : Nat → Prop} {ws : va_W} {H0 : Heap} {ac : Nat → ClassId} {nL : Nat} {own : String}
theorem b_newaI (hexec : p.tables.exec = Jvm.exec) (hb : c.code = cc) (hK : Kc D ac s) (hP : va_P D vwCl ws H) (hD : va_D A ws) (hS : va_S A H0 H locs) (hA : ∀ q, H0.size ≤ q → A q) {n : Int32} (N : Nat) (hn : ¬ n < 0) (hN : n.toNatClampNeg = N) (hbytes : N * 4 ≤ 536870912) (hcells : cells + 1 ≤ R.cells) (hslots : slots + N ≤ R.slots) (hdg : decode cc pc = .ok (.newarray .int, 2))
    (kk : ∀ (q : Nat) (H1 : Heap), va_P D vwCl (ws ++ [(q, .inl (ac 0, N, .inl (fun _ => 0)))]) H1 → va_D A (ws ++ [(q, .inl (ac 0, N, .inl (fun _ => 0)))]) → va_S A H0 H1 locs → W p l e R s m args below meth c H1 locs (cells + 1) (slots + N) Q (F0 m (pc + 2) ls (.ref q :: rest))) : W p l e R s m args below meth c H locs cells slots Q (F0 m pc ls (.int n :: rest)) := by
  refine va_newa (atype := .int) (ty := .int) (a0 := (N, .inl (fun _ => 0))) hexec hb (hK.arr args).1 rfl hK.1.1 hP hD hS hA (fun cA => rfl) hn hN hbytes hcells hslots hdg (fun q cA H1 hK1 hP1 hD1 hS1 => ?_)
  have e1 := (hK1.2 3 (cA, .int) rfl).2
  have e2 := (hK.1.1.2 0 (ac 0, .int) rfl).2
  have e3 : cA = ac 0 := Option.some.inj (e1.symm.trans e2)
  subst e3
  exact kk q H1 hP1 hD1 hS1
theorem b_newaZ (hexec : p.tables.exec = Jvm.exec) (hb : c.code = cc) (hK : Kc D ac s) (hP : va_P D vwCl ws H) (hD : va_D A ws) (hS : va_S A H0 H locs) (hA : ∀ q, H0.size ≤ q → A q) {n : Int32} (N : Nat) (hn : ¬ n < 0) (hN : n.toNatClampNeg = N) (hbytes : N * 1 ≤ 536870912) (hcells : cells + 1 ≤ R.cells) (hslots : slots + N ≤ R.slots) (hdg : decode cc pc = .ok (.newarray .boolean, 2))
    (kk : ∀ (q : Nat) (H1 : Heap), va_P D vwCl (ws ++ [(q, .inl (ac 1, N, .inl (fun _ => 0)))]) H1 → va_D A (ws ++ [(q, .inl (ac 1, N, .inl (fun _ => 0)))]) → va_S A H0 H1 locs → W p l e R s m args below meth c H1 locs (cells + 1) (slots + N) Q (F0 m (pc + 2) ls (.ref q :: rest))) : W p l e R s m args below meth c H locs cells slots Q (F0 m pc ls (.int n :: rest)) := by
  refine va_newa (atype := .boolean) (ty := .boolean) (a0 := (N, .inl (fun _ => 0))) hexec hb (hK.arr args).2.1 rfl hK.1.1 hP hD hS hA (fun cA => rfl) hn hN hbytes hcells hslots hdg (fun q cA H1 hK1 hP1 hD1 hS1 => ?_)
  have e1 := (hK1.2 3 (cA, .boolean) rfl).2
  have e2 := (hK.1.1.2 1 (ac 1, .boolean) rfl).2
  have e3 : cA = ac 1 := Option.some.inj (e1.symm.trans e2)
  subst e3
  exact kk q H1 hP1 hD1 hS1
theorem b_newaL (hexec : p.tables.exec = Jvm.exec) (hb : c.code = cc) (hK : Kc D ac s) (hP : va_P D vwCl ws H) (hD : va_D A ws) (hS : va_S A H0 H locs) (hA : ∀ q, H0.size ≤ q → A q) {n : Int32} (N : Nat) (hn : ¬ n < 0) (hN : n.toNatClampNeg = N) (hbytes : N * 8 ≤ 536870912) (hcells : cells + 1 ≤ R.cells) (hslots : slots + N ≤ R.slots) (hdg : decode cc pc = .ok (.newarray .long, 2))
    (kk : ∀ (q : Nat) (H1 : Heap), va_P D vwCl (ws ++ [(q, .inl (ac 2, N, .inr (.inl (fun _ => 0))))]) H1 → va_D A (ws ++ [(q, .inl (ac 2, N, .inr (.inl (fun _ => 0))))]) → va_S A H0 H1 locs → W p l e R s m args below meth c H1 locs (cells + 1) (slots + N) Q (F0 m (pc + 2) ls (.ref q :: rest))) : W p l e R s m args below meth c H locs cells slots Q (F0 m pc ls (.int n :: rest)) := by
  refine va_newa (atype := .long) (ty := .long) (a0 := (N, .inr (.inl (fun _ => 0)))) hexec hb (hK.arr args).2.2 rfl hK.1.1 hP hD hS hA (fun cA => rfl) hn hN hbytes hcells hslots hdg (fun q cA H1 hK1 hP1 hD1 hS1 => ?_)
  have e1 := (hK1.2 3 (cA, .long) rfl).2
  have e2 := (hK.1.1.2 2 (ac 2, .long) rfl).2
  have e3 : cA = ac 2 := Option.some.inj (e1.symm.trans e2)
  subst e3
  exact kk q H1 hP1 hD1 hS1
theorem b_call (hexec : p.tables.exec = Jvm.exec) (hb : c.code = cc) (hml : c.maxLocals = nL) (hown : s.vm.findClass own = some m.cls) (hK : Kc D ac s) {h1 : Nat} {e1 : va_E} (hP : va_P D vwCl (ws ++ [(h1, e1)]) H) (hD : va_D A (ws ++ [(h1, e1)])) (hS : va_S A H0 H locs) (hA : ∀ q, H0.size ≤ q → A q) {y : MethodName} {cy : ByteArray} {ny np idx mc ms : Nat} {rmy : Room} {av : List Value} {P1 : va_W → Prop} (hs : BIw own idx y cy ny np) (con : BCon l y cy ny rmy D ac h1 e1 av P1 mc ms) (hr : rmy.cells = mc ∧ rmy.slots = ms ∧ rmy.frames + 1 ≤ R.frames ∧ 8 + (ny + 11) + rmy.locals ≤ R.locals) (hn : av.length = np) (hsize : ls.size = nL) {stk : List Value} (hst : av.reverse ++ .ref h1 :: rest = stk) (hsum : (rest.map fun v => v.category).sum ≤ 8) (hdg : decode cc pc = .ok (.invokespecial idx, 3)) (hf : cells + mc ≤ R.cells ∧ slots + ms ≤ R.slots)
    (kk : ∀ (w1 : va_W) (H1 : Heap) (locs1 : List Loc), P1 w1 → va_P D vwCl (ws ++ w1) H1 → va_D A (ws ++ w1) → va_S A H0 H1 locs1 → W p l e R s m args below meth c H1 locs1 (cells + mc) (slots + ms) Q (F0 m (pc + 3) ls rest)) : W p l e R s m args below meth c H locs cells slots Q (F0 m pc ls stk) := by
  obtain ⟨k1, k2, k4, k5, k6, k7, k8, k9⟩ := hs
  have hKn := hK.1
  have hP1 : va_P D vwCl [(h1, e1)] H := by
    intro k q hq
    cases k with
    | zero => exact hP ws.length q (by rw [List.getElem?_append_right (Nat.le_refl _), Nat.sub_self]; exact hq)
    | succ k => simp at hq
  have hD1 : va_D (fun _ => True) [(h1, e1)] := by
    refine ⟨fun i j p q hi hj _ => ?_, fun _ _ _ => trivial⟩
    have a1 := (List.getElem?_eq_some_iff.mp hi).1
    have a2 := (List.getElem?_eq_some_iff.mp hj).1
    simp at a1 a2
    omega
  have hws : ∀ w ∈ [Cond.code y cy ny none], ∀ (a' : Array Value) (U : State), s.WarmedH U.vm → w.before a' U = true := by
    intro w hw a' U hW
    rw [List.mem_singleton.mp hw]
    exact (hKn.moved hW).word k5 rfl a'
  have hpar : ∀ sig, parseMethodDescriptor y.desc = some sig → np = sig.parameters.length := by
    intro sig hs
    have h2 := k9
    rw [hs] at h2
    exact (Option.some.inj h2).symm
  have hpre : PreS s H (PcB D ac h1 e1 av H.size) (.ref h1 :: av) := ⟨PcB_blind D ac h1 e1 av H.size, fun U hU hW => ⟨rfl, by rw [hU], by rw [hU]; exact hP1, hD1, hK.moved hW⟩⟩
  have run : va_Run p l e R s m args below meth c H locs cells slots mc ms (F0 m pc ls stk) rest (QcB D h1 e1 P1 H.size (Value.ref h1 :: av).toArray) (va_A [(h1, e1)] H.size) := by
    rcases k1 with k1 | ⟨host, k1⟩
    · exact va_runI (Ts := []) ⟨hexec, hb, hml, hown, fun w hw => (List.not_mem_nil hw).elim⟩ (con H.size) ⟨⟨hr.1, hr.2.1, hr.2.2.1, hr.2.2.2, hws, List.mem_singleton.mpr rfl, hKn.word k5 rfl _, hKn.word k4 rfl _, ⟨k7, k8⟩, hpar, hKn.word k1 rfl _⟩, k6, hKn.word k2 rfl _⟩ hpre rfl hn hsize hst.symm (lv_room hsum) hdg hf
    · exact va_runIN (Ts := []) ⟨hexec, hb, hml, hown, fun w hw => (List.not_mem_nil hw).elim⟩ (con H.size) ⟨⟨⟨hr.1, hr.2.1, hr.2.2.1, hr.2.2.2, hws, List.mem_singleton.mpr rfl⟩, hKn.word k5 rfl _, hKn.word k4 rfl _, ⟨k7, k8⟩, hpar, hKn.word k1 rfl _⟩, k6, hKn.word k2 rfl _⟩ hpre rfl hn hsize hst.symm (lv_room hsum) hdg hf
  have hh1A : A h1 := hD.2 ws.length (h1, e1) (by rw [List.getElem?_append_right (Nat.le_refl _), Nat.sub_self]; rfl)
  have hfree : ∀ q, va_A [(h1, e1)] H.size q → A q := by
    rintro q (⟨k, e9, hk⟩ | hq)
    · cases k with
      | zero => simp at hk; rw [← hk.1]; exact hh1A
      | succ k => simp at hk
    · exact hA q (Nat.le_trans hS.1 hq)
  refine va_callv run hS (fun q _ h => hfree q h) hfree (fun w1 t H1 locs1 ht hvm hp hB hz hk hS1 => ?_)
  obtain ⟨hB1, hB2⟩ := hB
  rw [ht] at hB1
  have hold : ∀ (k : Nat) (x : Nat × va_E), ws[k]? = some x → x.1 < H.size ∧ x.1 ≠ h1 := by
    intro k x hx
    have hlt : k < ws.length := (List.getElem?_eq_some_iff.mp hx).1
    have hx2 : (ws ++ [(h1, e1)])[k]? = some x := by rw [List.getElem?_append_left hlt]; exact hx
    refine ⟨(hP k x hx2).lt, fun e => ?_⟩
    have := hD.1 k ws.length x (h1, e1) hx2 (by rw [List.getElem?_append_right (Nat.le_refl _), Nat.sub_self]; rfl) e
    omega
  have hnew : ∀ (k : Nat) (x : Nat × va_E), w1[k]? = some x → x.1 = h1 ∨ H.size ≤ x.1 := by
    intro k x hx
    rcases hB2.2 k x hx with ⟨k9, e9, hk9⟩ | h9
    · cases k9 with
      | zero => simp at hk9; exact Or.inl hk9.1.symm
      | succ k9 => simp at hk9
    · exact Or.inr h9
  refine kk w1 H1 locs1 hp ?_ ?_ hS1
  · intro k x hx
    rcases Nat.lt_or_ge k ws.length with h | h
    · rw [List.getElem?_append_left h] at hx
      have hx2 : (ws ++ [(h1, e1)])[k]? = some x := by rw [List.getElem?_append_left h]; exact hx
      obtain ⟨g1, g2⟩ := hold k x hx
      refine (hP k x hx2).kept (hk _ g1 ?_)
      rintro (⟨k9, e9, hk9⟩ | h9)
      · cases k9 with
        | zero => simp at hk9; exact g2 hk9.1.symm
        | succ k9 => simp at hk9
      · omega
    · rw [List.getElem?_append_right h] at hx
      exact hB1 _ x hx
  · refine ⟨fun i j x z hi hj he => ?_, fun k x hx => ?_⟩
    · rcases Nat.lt_or_ge i ws.length with h | h <;> rcases Nat.lt_or_ge j ws.length with h' | h'
      · rw [List.getElem?_append_left h] at hi
        rw [List.getElem?_append_left h'] at hj
        exact hD.1 i j x z (by rw [List.getElem?_append_left h]; exact hi) (by rw [List.getElem?_append_left h']; exact hj) he
      · rw [List.getElem?_append_left h] at hi
        rw [List.getElem?_append_right h'] at hj
        obtain ⟨g1, g2⟩ := hold i x hi
        rcases hnew _ z hj with g3 | g3
        · exact absurd (he.trans g3) g2
        · omega
      · rw [List.getElem?_append_right h] at hi
        rw [List.getElem?_append_left h'] at hj
        obtain ⟨g1, g2⟩ := hold j z hj
        rcases hnew _ x hi with g3 | g3
        · exact absurd (he.symm.trans g3) g2
        · omega
      · rw [List.getElem?_append_right h] at hi
        rw [List.getElem?_append_right h'] at hj
        have := hB2.1 _ _ x z hi hj he
        omega
    · rcases Nat.lt_or_ge k ws.length with h | h
      · rw [List.getElem?_append_left h] at hx
        exact hD.2 k x (by rw [List.getElem?_append_left h]; exact hx)
      · rw [List.getElem?_append_right h] at hx
        exact hfree _ (hB2.2 _ x hx)
end BROWS
