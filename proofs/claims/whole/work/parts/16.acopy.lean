/-! ===== System.arraycopy of ints ===== -/
def scpy (σ : St) (c0 sp c1 dp n : Nat) : St := va_up σ c1 (va_cpy (σ c0) (σ c1) sp dp n)
theorem wa_928 : Cond.static arraycopyName ∈ lw_tbl := in_tb 929 (by decide +kernel)
theorem wa_929 : Cond.native arraycopyName ∈ lw_tbl := in_tb 930 (by decide +kernel)
theorem wa_20 : Cond.initialized "java/lang/System" ∈ lw_tbl := in_tb 20 (by decide +kernel)
section ACOPY
variable {X : Cx} {Y : Cy} {K : List CK} {cc : ByteArray} {nL : Nat} {own : String} {rm : Room} {ret : Option FieldType} {Q : State → Prop} {σ : St} {pc : Nat} {lv lv' : List (Nat × AV)} {st : List AV}
theorem q_acopy (h : Ok X Y K cc nL own rm ret) (hK : KOk K) {idx : Nat} (hw : Cond.methodLink own idx arraycopyName ∈ lw_tbl) {c0 c1 N0 N1 : Nat} {z0 z1 : List (Nat × Nat)} (hc0 : K[c0]? = some (0, N0, z0)) (hc1 : K[c1]? = some (0, N1, z1)) {sp dp n : Int} (h1 : 0 ≤ sp) (h2 : 0 ≤ dp) (h3 : 0 ≤ n) (h4 : sp + n ≤ N0) (h5 : dp + n ≤ N1) (hf : 1 ≤ rm.frames) (hlo : ((st.map (mv Y.2.2.1)).map fun v => v.category).sum + (nativeFrameWords "java/lang/System" "arraycopy" 5 + 11) ≤ rm.locals) (hd : decode cc pc = .ok (.invokestatic idx, 3)) (k : Wq X Y K nL Q (scpy σ c0 sp.toNat c1 dp.toNat n.toNat) (pc + 3) lv st) : Wq X Y K nL Q σ pc lv (.inl n :: .inl dp :: .inr (.inr c1) :: .inl sp :: .inr (.inr c0) :: st) := by
  intro H locs ls hP hS hl
  have hKn := h.2.2.2.2.2.2.2.1
  have b0 := hK c0 _ hc0
  have b1 := hK c1 _ hc1
  have r1 : inR sp := ⟨by omega, by dsimp only at b0; omega⟩
  have r2 : inR dp := ⟨by omega, by dsimp only at b1; omega⟩
  have r3 : inR n := ⟨by omega, by dsimp only at b0; omega⟩
  have e1 : (Int32.ofInt sp).toNatClampNeg = sp.toNat := by show (Int32.ofInt sp).toInt.toNat = _; rw [toI_ofI r1]
  have e2 : (Int32.ofInt dp).toNatClampNeg = dp.toNat := by show (Int32.ofInt dp).toInt.toNat = _; rw [toI_ofI r2]
  have e3 : (Int32.ofInt n).toNatClampNeg = n.toNat := by show (Int32.ofInt n).toInt.toNat = _; rw [toI_ofI r3]
  have p1 : ¬ Int32.ofInt sp < 0 := fun q => by have := (ofI_lt r1 inR_0).mp q; omega
  have p2 : ¬ Int32.ofInt dp < 0 := fun q => by have := (ofI_lt r2 inR_0).mp q; omega
  have p3 : ¬ Int32.ofInt n < 0 := fun q => by have := (ofI_lt r3 inR_0).mp q; omega
  have h4' : sp.toNat + n.toNat ≤ N0 := by omega
  have h5' : dp.toNat + n.toNat ≤ N1 := by omega
  refine va_copyi h.1 h.2.1 (h.2.2.1.trans hl.1.symm) h.2.2.2.1 (hKn.word hw rfl _) (hKn.word wa_929 rfl _) (hKn.word wa_928 rfl _) (hKn.word wa_20 rfl _) hKn.1 hP (h.2.2.2.2.2.2.2.2 σ) hS c0 c1 0 0 (wsOf_at hc0) (wsOf_at hc1) rfl rfl rfl p1 p2 p3 (by rw [e1, e3]; exact h4') (by rw [e2, e3]; exact h5') (fun i hi => rfl) (by rw [h.2.2.2.2.1]; exact hf) (by rw [h.2.2.2.2.1]; exact hlo) hd fun H1 locs1 q1 _ q3 => ?_
  rw [e1, e2, e3] at q1
  have ef : va_cpy (fun j => Int32.ofInt (σ c0 j)) (fun j => Int32.ofInt (σ c1 j)) sp.toNat dp.toNat n.toNat = fun j => Int32.ofInt (va_cpy (σ c0) (σ c1) sp.toNat dp.toNat n.toNat j) := by
    funext j
    unfold va_cpy
    split <;> rfl
  rw [ef] at q1
  exact k H1 locs1 ls (by rw [← show _ = wsOf K Y.2.1 Y.2.2.1 (scpy σ c0 sp.toNat c1 dp.toNat n.toNat) from wsOf_set hc1 (va_cpy (σ c0) (σ c1) sp.toNat dp.toNat n.toNat)]; exact q1) q3 hl
end ACOPY
/-- as Met.ofW, for a method of a class some of whose methods are run by an entry: this one isn't -/
theorem met_ofWF {l : Launch} {y : MethodName} {ws ws' : List Cond} {rm : Room} {Pc : Array Value → State → Prop} {Qc : Array Value → State → Outcome → State → Prop} {mc ms : Nat} {free : Addr → Prop} {cc : ByteArray} {maxL : Nat} {ret : Option FieldType}
    (hy : plainFor y = true) (hw : ws = Cond.code y cc maxL ret :: ws')
    (body : ∀ p e s m args below meth c s₁, BodyLoose p l y (headSpec ws rm) cc maxL ret e s m args below meth c s₁ → c.maxLocals = maxL → Pc args s →
      W p l e (headSpec ws rm).room s m args below meth c s.heap [] 0 0 (MQ below Qc args s mc ms free) (entryFrame m args maxL)) : Met l y ws rm Pc Qc mc ms free := by
  refine MetFree.of_bodySF (code := cc) (maxLocals := maxL) (ret := ret) hy ?_ ?_
  · intro args s m h hn
    obtain ⟨meth, c, h1, h2, h3, h4, h5, h6, -, -⟩ := Cond.code_spec hn (atoms_spec (ws := ws) h _ (by rw [hw]; exact List.mem_cons_self))
    exact ⟨meth, c, h1, h2, h3, h4, h5, h6⟩
  · intro p e s m args below meth c s₁ B hml hP _
    have hh0 : s₁.heap = s.heap := by rw [B.state]; rfl
    obtain ⟨t, a1, o, b1, b2, b3⟩ := body p e s m args below meth c s₁ B hml hP s₁ hh0 (Stand.of_body B)
    exact ⟨t, o, a1, b1, b2, ⟨b3.1, b3.2⟩⟩
theorem con_ofF {l : Launch} {y : MethodName} {cc : ByteArray} {nL : Nat} {ret : Option FieldType} {f n : Nat} {Y : Cy} {K : List CK} {σ : St} {av : List AV} {Qc : Array Value → State → Outcome → State → Prop} {lv : List (Nat × AV)} (hy : plainFor y = true) (hD : ∀ σ, va_D Y.2.2.2 (wsOf K Y.2.1 Y.2.2.1 σ)) (hn : (lg_sl (av.map (mv Y.2.2.1))).length ≤ nL) (hlv : lv_args 0 (av.map (mv Y.2.2.1)) = lvm Y.2.2.1 lv)
    (body : ∀ X : Cx, X.2.1 = l → Ok X Y K cc nL y.cls (rm0q f n) ret → Wq X Y K nL (QF X Y Qc) σ 0 lv []) : Met l y [.code y cc nL ret] (rm0q f n) (Pcq Y K σ av) Qc 0 0 Y.2.2.2 := by
  refine met_ofWF (cc := cc) (maxL := nL) (ret := ret) hy rfl ?_
  intro p e s m args below meth c s₁ B hml hv
  obtain ⟨rfl, hP, hK⟩ := hv
  have hown : s.vm.findClass y.cls = some m.cls := findClass_of_methodNamed B.named
  have hl := lv_entry (av.map (mv Y.2.2.1)) (n := nL) hn
  rw [lg_entry_eq]
  rw [hlv] at hl
  exact body (p, l, e, rm0q f n, s, m, (av.map (mv Y.2.2.1)).toArray, below, meth, c) rfl ⟨B.exec, B.bytes, hml, hown, rfl, B.returns, B.notSynchronized, hK, hD⟩ s.heap [] _ hP va_S.rf hl
