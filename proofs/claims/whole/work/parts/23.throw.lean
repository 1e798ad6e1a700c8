theorem Tf_moved {w : Cond} (h : Tf w = true) {s U : State} (hW : s.WarmedH U.vm) (hZ : va_Nw w s) : va_Nw w U := by
  simp only [Tf, Bool.and_eq_true] at h
  have h1 : w.before #[] (s.setVm U.vm) = true := Cond.before_shiftedFace (State.Shifted.of_warmed hW) _ h.2 hZ
  exact va_tabs h.1 (rfl : (s.setVm U.vm).vm = U.vm) h1
def strs : List (Nat × String) := [(62, "code is out of range"), (73, "the text is full"), (80, "the text has a fault"), (98, "what is out of range"), (303, "there is no such node"), (305, "there is no such choice"), (291, "there is no story"), (129, "the story does not wait"), (307, "there is no such position"), (144, "nothing can be taken back"), (311, "flag is out of range"), (313, "meter is out of range"), (195, "back is out of range"), (200, "limit is out of range"), (296, "this story has not been explored"), (315, "outcome is out of range"), (224, "the way has no such index"), (309, "there is no such line"), (301, "this story has not been analyzed"), (280, "there is no such test")]
def Ats (ic : Nat) (cls : String) (U : State) : Prop := ∀ w ∈ vx_atS RX9 ic cls nmX, va_Nw w U
theorem Ats.moved {ic : Nat} {cls : String} {s U : State} (hf : ((vx_atS RX9 ic cls nmX).all Tf) = true) (h : Ats ic cls s) (hW : s.WarmedH U.vm) : Ats ic cls U := fun w hw => Tf_moved (List.all_eq_true.mp hf w hw) hW (h w hw)
/-- what a start must give so that its methods can throw -/
def Kx (Y : Cy) (U : State) : Prop := Kn Y U ∧ (Ats 75 ISE U ∧ Ats 64 IAE U ∧ Ats 226 IOE U) ∧ (∀ q ∈ strs, ∃ a, vk_R RX9 q.1 q.2 a U) ∧ vx_Zq Bundle.tN "UNASSIGNED_STACK" Bundle.steD Y.2.2.2 U U.heap ∧ vx_Zq Bundle.tN "SUPPRESSED_SENTINEL" Bundle.listD Y.2.2.2 U U.heap
theorem Kx.go {Y : Cy} {s U : State} {H : Heap} {locs : List Loc} (h : Kx Y s) (hW : s.WarmedH U.vm) (hU : U.heap = H) (hS : va_S Y.2.2.2 s.heap H locs) : Kx Y U := by
  obtain ⟨h1, ⟨h2, h3, h4⟩, h5, h6, h7⟩ := h
  refine ⟨h1.moved hW, ⟨h2.moved at_f75 hW, h3.moved at_f64 hW, h4.moved at_f226 hW⟩, fun q hq => ?_, ?_, ?_⟩
  · obtain ⟨a, ha⟩ := h5 q hq
    exact ⟨a, ha.warm hW⟩
  · rw [hU]; exact vx_Zq.moved hW.alike (h6.kept hS.2.1)
  · rw [hU]; exact vx_Zq.moved hW.alike (h7.kept hS.2.1)
theorem Kx.calling {Y : Cy} {U : State} (h : Kx Y U) (g : JFrame) (mk : MethodId) (a : Array Value) : Kx Y (U.calling g mk a) := h.go (State.WarmedH.refl U) (H := U.heap) (locs := []) rfl va_S.rf
def xQ (Qc : Array Value → State → Outcome → State → Prop) (XC : String → State → State → Prop) (free : Addr → Prop) : Array Value → State → Outcome → State → Prop := fun a st o t => (Qc a st o t ∧ ∃ L, FrameEnd st o t L 0 0 ∧ ∀ q ∈ L, free q.base) ∨ ∃ q, o = .threw q ∧ vx_T XC st q t 1 6 free
def xMQ (below : List Frame) (Qc : Array Value → State → Outcome → State → Prop) (XC : String → State → State → Prop) (a : Array Value) (s : State) (free : Addr → Prop) : State → Prop := fun t => ∃ o, t.status = .running ∧ Ended t below o ∧ xQ Qc XC free a s o t
section XB
variable {l : Launch} {R : Room} {p : Program} {e : Env} {below : List Frame} {s : State} {sargs : Array Value} {y : MethodName} {len W9 : Nat}
theorem x_back {ws : List Cond} {rm : Room} {Pc : Array Value → State → Prop} {Qc : Array Value → State → Outcome → State → Prop} {XC : String → State → State → Prop} {free : Addr → Prop} {bytes : ByteArray} {maxL : Nat} {ret : Option FieldType}
    (hM : MetFree l y (headSpec ws rm) Pc (fun _ _ _ _ _ => True) (xQ Qc XC free)) (hblind : FrameBlind Pc) (hrc : rm.cells = 1) (hrs : rm.slots = 6)
    (hframes : rm.frames + 1 ≤ R.frames) (hlocals : W9 + (maxL + 11) + rm.locals ≤ R.locals)
    (hws : ∀ w ∈ ws, ∀ a' U, s.WarmedH U.vm → w.before a' U = true) (hcode : Cond.code y bytes maxL ret ∈ ws) (hinit : ∀ a' U, s.WarmedH U.vm → (Cond.initialized y.cls).before a' U = true) :
    vx_Back l R p e below s sargs y len W9 (PreOf R 1 6 Pc) (PostOf Qc 0 0 free) (vx_Post XC 1 6 free) := by
  intro m meth c A g ig mk a X hg hsize hdg hW hn hp
  have h1 : (headSpec ws rm).pre.before a A.U = true := atoms_intro fun w hw => hws w hw _ _ X.warmed
  have h2 : (Cond.code y bytes maxL ret).before a A.U = true := hws _ hcode _ _ X.warmed
  have h3 : (Cond.initialized y.cls).before a A.U = true := hinit _ _ X.warmed
  have h4 : A.cells + (headSpec ws rm).room.cells ≤ R.cells := by rw [show (headSpec ws rm).room.cells = 1 from hrc]; exact hp.1
  have h5 : A.slots + (headSpec ws rm).room.slots ≤ R.slots := by rw [show (headSpec ws rm).room.slots = 6 from hrs]; exact hp.2.1
  have hPc : Pc a (A.U.calling g mk a) := hblind _ _ _ _ hp.2.2
  obtain ⟨U, Ls, c0, s0⟩ := A
  dsimp only [Pt.U, Pt.locs, Pt.cells, Pt.slots] at h1 h2 h3 h4 h5 X hn hPc ⊢
  obtain ⟨methY, cY, hmY, hcY, -, hlY, -, -, -, -⟩ := Cond.code_spec hn h2
  obtain ⟨kY, hkY, -⟩ := className_of_methodNamed hn
  have hinitY : kY.init = .initialized := Cond.initialized_spec (findClass_of_methodNamed hn) hkY h3
  have h : At U g.method c below := by rw [hg]; exact X.here
  have hlocals9 : W9 + (maxL + 11) + (headSpec ws rm).room.locals ≤ R.locals := hlocals
  have happ : (headSpec ws rm).appliesLoose y e.platform (U.calling g mk a) = true :=
    Spec.appliesLoose_calling (g := g) h hdg hn hkY hinitY
      (X.room_calling (g := g) (R' := (headSpec ws rm).room) hsize hmY hcY hframes (by rw [hlY]; omega) h4 h5) h1
  obtain ⟨mid, hmid⟩ := h.above
  have hfr : (U.setTop g).frames = (.java g :: mid) ++ below := by rw [State.frames_setTop' g h.top, hmid]; rfl
  obtain ⟨o, s₂, hsteps, -, hend, hq⟩ := Steps.callFree hM p X.admits X.cas X.clock (acts := []) hfr happ hPc trivial
  have hq' : xQ Qc XC free a (U.calling g mk a) o s₂ := hq
  rw [State.frames_setTop' g h.top] at hend
  obtain ⟨g₀, hg0⟩ := Option.isSome_iff_exists.mp h.top
  obtain ⟨r, hr⟩ := State.topJava?_eq_some.mp hg0
  have hr' : (({ U with heap := s₂.heap, slotsUsed := s₂.slotsUsed } : State).setVm s₂.vm).frames = .java g₀ :: r := hr
  rcases hq' with ⟨hqc, L, hfe, hL⟩ | ⟨q, rfl, E, ce, L, hx, hce, hcv, hcl, hW₂, hsm, hL⟩
  · obtain ⟨⟨v, rfl⟩, hW₂, e2, q2, q3, q4, q5, q6⟩ := id hfe
    have e3 : s₂ = ({ (U.calling g mk a).setFrames s₂.frames with heap := s₂.heap, slotsUsed := s₂.slotsUsed } : State).setVm s₂.vm := by
      have : s₂ = ({ s₂ with vm := (U.calling g mk a).vm } : State).setVm s₂.vm := rfl
      rw [e2] at this
      exact this
    obtain ⟨c₂, i₂, len₂, hc₂, hd₂, hf₂⟩ := hend
    have hW' : U.WarmedH s₂.vm := hW₂
    have hcc : c₂ = c := by
      have h1 : s₂.code? g.method = U.code? g.method := by
        rw [State.code?_eq, State.code?_eq, hW'.alike.method?]
      exact Option.some.inj (hc₂.symm.trans (h1.trans h.code))
    subst hcc
    have hlen : len₂ = len := by rw [hdg] at hd₂; cases hd₂; rfl
    subst hlen
    have hs₂ : s₂ = (({ U with heap := s₂.heap, slotsUsed := s₂.slotsUsed } : State).setVm s₂.vm).setTop { g with pc := g.pc + len₂, stack := v.toList ++ g.stack } := by
      refine e3.trans ?_
      rw [hf₂, State.calling_eq h.top, State.setFrames_setFrames, State.setTop_of_frames _ hr', hr]
      rfl
    have hsame : U.sameButNew ({ U with heap := s₂.heap, slotsUsed := s₂.slotsUsed } : State) L 0 0 := by
      refine ⟨?_, q2, q3, q4, q5, q6⟩
      obtain ⟨t, ht, -⟩ := State.frames_cons hr
      show ({ U with heap := s₂.heap, slotsUsed := s₂.slotsUsed } : State) = { U.setFrames U.frames with heap := s₂.heap, slotsUsed := s₂.slotsUsed }
      rw [State.setFrames_self ht]
    subst hg
    refine Or.inl ⟨v, ⟨(({ U with heap := s₂.heap, slotsUsed := s₂.slotsUsed } : State).setVm s₂.vm), Ls ++ L, c0 + 0, s0 + 0⟩,
      ⟨X.admits, X.cas, X.clock, X.frames, X.room, X.hears, X.method, X.code, (X.here.setHeapUsed s₂.heap s₂.slotsUsed).setVm hW'.alike, X.tail, State.WarmedH.trans X.warmed hW', X.limits, X.bytes, X.same.trans (hsame.setVm s.vm)⟩,
      ⟨g, mk, s₂, L, rfl, rfl, hqc, rfl, hL, rfl, rfl⟩, ?_⟩
    show Steps p.tables e below _ ((({ U with heap := s₂.heap, slotsUsed := s₂.slotsUsed } : State).setVm s₂.vm).setTop { g with pc := g.pc + len₂, stack := v.toList ++ g.stack })
    rw [← hs₂]
    exact hsteps
  · obtain ⟨e2, q2, q3, q4, q5, q6⟩ := id hsm
    have e3 : s₂ = ({ (U.calling g mk a).setFrames s₂.frames with heap := s₂.heap, slotsUsed := s₂.slotsUsed } : State).setVm s₂.vm := by
      have : s₂ = ({ s₂ with vm := (U.calling g mk a).vm } : State).setVm s₂.vm := rfl
      rw [e2] at this
      exact this
    have hf₂ : s₂.frames = .throwing q :: .java g :: U.frames.tail := hend
    have hW' : U.WarmedH s₂.vm := hW₂
    have hs₂ : s₂ = ((({ U with heap := s₂.heap, slotsUsed := s₂.slotsUsed } : State).setVm s₂.vm).setTop g).pushFrame (.throwing q) := by
      refine e3.trans ?_
      rw [hf₂, State.calling_eq h.top, State.setFrames_setFrames, State.pushFrame, State.frames_setTop _ hr', State.setTop_of_frames _ hr', State.setFrames_setFrames, hr]
      rfl
    have hsame : U.sameButNew ({ U with heap := s₂.heap, slotsUsed := s₂.slotsUsed } : State) L 1 6 := by
      refine ⟨?_, q2, q3, q4, q5, q6⟩
      obtain ⟨t, ht, -⟩ := State.frames_cons hr
      show ({ U with heap := s₂.heap, slotsUsed := s₂.slotsUsed } : State) = { U.setFrames U.frames with heap := s₂.heap, slotsUsed := s₂.slotsUsed }
      rw [State.setFrames_self ht]
    subst hg
    refine Or.inr ⟨q, ⟨(({ U with heap := s₂.heap, slotsUsed := s₂.slotsUsed } : State).setVm s₂.vm), Ls ++ L, c0 + 1, s0 + 6⟩,
      ⟨X.admits, X.cas, X.clock, X.frames, X.room, X.hears, X.method, X.code, (X.here.setHeapUsed s₂.heap s₂.slotsUsed).setVm hW'.alike, X.tail, State.WarmedH.trans X.warmed hW', X.limits, X.bytes, X.same.trans (hsame.setVm s.vm)⟩,
      ⟨g, mk, s₂, L, E, ce, rfl, rfl, hx, hce, hcv, hcl, rfl, hL, rfl, rfl⟩, ?_⟩
    show Steps p.tables e below _ (((({ U with heap := s₂.heap, slotsUsed := s₂.slotsUsed } : State).setVm s₂.vm).setTop g).pushFrame (.throwing q))
    rw [← hs₂]
    exact hsteps
end XB
def XCq (Y : Cy) (K : List CK) (E : String → St → Prop) : String → State → State → Prop := fun e st t => ∃ u : St, E e u ∧ Bq Y K u t ∧ va_F Y.2.2.2 st t
def Pcx (Y : Cy) (K : List CK) (σ : St) (av : List AV) : Array Value → State → Prop := va_Pc (av.map (mv Y.2.2.1)) (fun U => va_P Y.1 vwCl (wsOf K Y.2.1 Y.2.2.1 σ) U.heap ∧ Kx Y U)
theorem Pcx_blind (Y : Cy) (K : List CK) (σ : St) (av : List AV) : FrameBlind (Pcx Y K σ av) := fun a U g mk h => ⟨h.1, h.2.1, h.2.2.calling g mk a⟩
def rmX (f n : Nat) : Room := { frames := f, cells := 1, slots := 6, locals := n }
def Xon (l : Launch) (y : MethodName) (cc : ByteArray) (n : Nat) (ret : Option FieldType) (rm : Room) (Y : Cy) (K : List CK) (σ : St) (av : List AV) (Qc : Array Value → State → Outcome → State → Prop) (E : String → St → Prop) : Prop := MetFree l y (headSpec [.code y cc n ret] rm) (Pcx Y K σ av) (fun _ _ _ _ _ => True) (xQ Qc (XCq Y K E) Y.2.2.2)
def QX (X : Cx) (Y : Cy) (Qc : Array Value → State → Outcome → State → Prop) (XC : String → State → State → Prop) : State → Prop := xMQ X.2.2.2.2.2.2.2.1 Qc XC X.2.2.2.2.2.2.1 X.2.2.2.2.1 Y.2.2.2
theorem wq_mono {X : Cx} {Y : Cy} {K : List CK} {nL : Nat} {Q Q' : State → Prop} {σ : St} {pc : Nat} {lv : List (Nat × AV)} {st : List AV} (hm : ∀ t, Q t → Q' t) (k : Wq X Y K nL Q σ pc lv st) : Wq X Y K nL Q' σ pc lv st := fun H locs ls hP hS hl T hT S => by
  obtain ⟨t, a, b⟩ := k H locs ls hP hS hl T hT S
  exact ⟨t, a, hm t b⟩
theorem wq_ret {X : Cx} {Y : Cy} {K : List CK} {nL : Nat} {Qc : Array Value → State → Outcome → State → Prop} {XC : String → State → State → Prop} {σ : St} {pc : Nat} {lv : List (Nat × AV)} {st : List AV} (k : Wq X Y K nL (QF X Y Qc) σ pc lv st) : Wq X Y K nL (QX X Y Qc XC) σ pc lv st := wq_mono (fun t h => by
  obtain ⟨o, h1, h2, h3, h4⟩ := h
  exact ⟨o, h1, h2, Or.inl ⟨h3, h4⟩⟩) k
/-- what the body of a method that throws stands on -/
def Ox (X : Cx) (Y : Cy) : Prop := X.2.1.stackTraces = false ∧ (∀ x ∈ X.2.2.2.2.2.2.2.2.2.exceptionTable.toList, False) ∧ Kx Y X.2.2.2.2.1
theorem xcon_of {l : Launch} {y : MethodName} {cc : ByteArray} {nL : Nat} {ret : Option FieldType} {f n : Nat} {Y : Cy} {K : List CK} {σ : St} {av : List AV} {Qc : Array Value → State → Outcome → State → Prop} {E : String → St → Prop} {lv : List (Nat × AV)} (hy : plainName y.cls = true) (hst : l.stackTraces = false) (hD : ∀ σ, va_D Y.2.2.2 (wsOf K Y.2.1 Y.2.2.1 σ)) (hn : (lg_sl (av.map (mv Y.2.2.1))).length ≤ nL) (hlv : lv_args 0 (av.map (mv Y.2.2.1)) = lvm Y.2.2.1 lv)
    (body : ∀ X : Cx, X.2.1 = l → Ok X Y K cc nL y.cls (rmX f n) ret → Ox X Y → Wq X Y K nL (QX X Y Qc (XCq Y K E)) σ 0 lv []) : Xon l y cc nL ret (rmX f n) Y K σ av Qc E := by
  refine MetFree.of_bodyS (code := cc) (maxLocals := nL) (ret := ret) hy ?_ ?_
  · intro args s m h hn
    obtain ⟨meth, c, h1, h2, h3, h4, h5, h6, -, -⟩ := Cond.code_spec hn (atoms_spec (ws := [.code y cc nL ret]) h _ List.mem_cons_self)
    exact ⟨meth, c, h1, h2, h3, h4, h5, h6⟩
  · intro p e s m args below meth c s₁ B hml hv _
    have hh0 : s₁.heap = s.heap := by rw [B.state]; rfl
    have ht : ∀ x ∈ c.exceptionTable.toList, False := by
      obtain ⟨meth9, c9, h1, h2, -, -, -, -, h7, -⟩ := Cond.code_spec B.named (atoms_spec (ws := [.code y cc nL ret]) B.pre _ List.mem_cons_self)
      cases Option.some.inj (h1.symm.trans B.method)
      cases Option.some.inj (h2.symm.trans (Stand.of_body B).code)
      intro x hx
      rw [Array.isEmpty_iff.mp h7] at hx
      cases hx
    obtain ⟨rfl, hP, hK⟩ := hv
    have hown : s.vm.findClass y.cls = some m.cls := findClass_of_methodNamed B.named
    have hl := lv_entry (av.map (mv Y.2.2.1)) (n := nL) hn
    rw [hlv] at hl
    have w := body (p, l, e, rmX f n, s, m, (av.map (mv Y.2.2.1)).toArray, below, meth, c) rfl ⟨B.exec, B.bytes, hml, hown, rfl, B.returns, B.notSynchronized, hK.1, hD⟩ ⟨hst, ht, hK⟩ s.heap [] _ hP va_S.rf hl
    obtain ⟨t, a1, o, b1, b2, b3⟩ := w s₁ hh0 (Stand.of_body B)
    rw [lg_entry_eq]
    exact ⟨t, o, a1, b1, b2, b3⟩
