/-! ===== the base: numbers as Int, cells as a function, one judgement Wq over the kit's W ===== -/
def inR (n : Int) : Prop := -2147483648 ≤ n ∧ n < 2147483648
theorem ofI_toI (x : Int32) : Int32.ofInt x.toInt = x := Int32.ofInt_toInt x
theorem ofL_toL (x : Int64) : Int64.ofInt x.toInt = x := Int64.ofInt_toInt x
theorem toI_ofI {n : Int} (h : inR n) : (Int32.ofInt n).toInt = n := Int32.toInt_ofInt_of_le h.1 h.2
theorem toI_inR (x : Int32) : inR x.toInt := ⟨Int32.le_toInt x, Int32.toInt_lt x⟩
theorem ofI_eq {a b : Int} (ha : inR a) (hb : inR b) : Int32.ofInt a = Int32.ofInt b ↔ a = b := by
  constructor
  · intro h
    have := congrArg Int32.toInt h
    rwa [toI_ofI ha, toI_ofI hb] at this
  · intro h; rw [h]
theorem ofI_lt {a b : Int} (ha : inR a) (hb : inR b) : Int32.ofInt a < Int32.ofInt b ↔ a < b := by
  rw [Int32.lt_iff_toInt_lt, toI_ofI ha, toI_ofI hb]
theorem ofI_le {a b : Int} (ha : inR a) (hb : inR b) : Int32.ofInt a ≤ Int32.ofInt b ↔ a ≤ b := by
  rw [Int32.le_iff_toInt_le, toI_ofI ha, toI_ofI hb]
theorem inR_0 : inR 0 := ⟨by decide, by decide⟩
theorem ofI_0 : Int32.ofInt 0 = 0 := rfl
theorem ofI_idx {i : Int} {N : Nat} (h0 : 0 ≤ i) (h1 : i < N) (hN : N < 2147483648) : vp_in (Int32.ofInt i) N ∧ (Int32.ofInt i).toNatClampNeg = i.toNat := by
  have hr : inR i := ⟨by omega, by omega⟩
  have e : (Int32.ofInt i).toNatClampNeg = i.toNat := by
    show (Int32.ofInt i).toInt.toNat = _
    rw [toI_ofI hr]
  refine ⟨?_, e⟩
  rw [vp_in_iff, toI_ofI hr]
  exact ⟨h0, h1⟩
/-- abstract values: an int, a long, a cell by its number -/
abbrev AV : Type := Int ⊕ (Int ⊕ Nat)
def mv (ad : Nat → Nat) : AV → Value
  | .inl n => .int (Int32.ofInt n)
  | .inr (.inl n) => .long (Int64.ofInt n)
  | .inr (.inr c) => .ref (ad c)
/-- a state of the cells: cell, place, number -/
abbrev St : Type := Nat → Nat → Int
def sset (σ : St) (c j : Nat) (v : Int) : St := va_up σ c (va_up (σ c) j v)
/-- a kind of cell: (0, N, _) ints, (1, N, _) booleans, (2, N, _) longs, (3, class, fields): a field is (0, _) a number, (1, k) the cell k for good, (2, _) a cell whose number stands in the state -/
abbrev CK : Type := Nat × Nat × List (Nat × Nat)
def fval (ad : Nat → Nat) (f : Nat → Int) (j : Nat) (d : Nat × Nat) : Value :=
  if d.1 = 0 then .int (Int32.ofInt (f j)) else if d.1 = 1 then .ref (ad d.2) else .ref (ad (f j).toNat)
def cellOf (ac : Nat → ClassId) (ad : Nat → Nat) (f : Nat → Int) (k : CK) : va_E :=
  if k.1 = 0 then .inl (ac 0, k.2.1, .inl (fun j => Int32.ofInt (f j)))
  else if k.1 = 1 then .inl (ac 1, k.2.1, .inl (fun j => Int32.ofInt (f j)))
  else if k.1 = 2 then .inl (ac 2, k.2.1, .inr (.inl (fun j => Int64.ofInt (f j))))
  else .inr (k.2.1, k.2.2.mapIdx (fun j d => fval ad f j d))
def wsOf (K : List CK) (ac : Nat → ClassId) (ad : Nat → Nat) (σ : St) : va_W := K.mapIdx (fun c k => (ad c, cellOf ac ad (σ c) k))
theorem wsOf_at {K : List CK} {ac : Nat → ClassId} {ad : Nat → Nat} {σ : St} {c : Nat} {k : CK} (h : K[c]? = some k) : (wsOf K ac ad σ)[c]? = some (ad c, cellOf ac ad (σ c) k) := by
  simp [wsOf, List.getElem?_mapIdx, h]
theorem vu_eq {α : Type} (f : Nat → α) (k : Nat) (v : α) : va_up f k v k = v := by simp [va_up]
theorem vu_ne {α : Type} (f : Nat → α) {k j : Nat} (v : α) (h : j ≠ k) : va_up f k v j = f j := by simp [va_up, h]
theorem wsOf_set {K : List CK} {ac : Nat → ClassId} {ad : Nat → Nat} {σ : St} {c : Nat} {k : CK} (h : K[c]? = some k) (g : Nat → Int) : (wsOf K ac ad σ).set c (ad c, cellOf ac ad g k) = wsOf K ac ad (va_up σ c g) := by
  apply List.ext_getElem?
  intro i
  by_cases hi : i = c
  · subst hi
    have hl : i < K.length := (List.getElem?_eq_some_iff.mp h).1
    rw [wsOf_at h, List.getElem?_set_self (by simp [wsOf]; exact hl), vu_eq]
  · rw [List.getElem?_set_ne (fun q => hi q.symm)]
    simp [wsOf, List.getElem?_mapIdx, vu_ne _ _ hi]
theorem wsOf_fst (K : List CK) (ac : Nat → ClassId) (ad : Nat → Nat) (σ : St) (i : Nat) (q : Nat × va_E) (h : (wsOf K ac ad σ)[i]? = some q) : i < K.length ∧ q.1 = ad i := by
  simp only [wsOf, List.getElem?_mapIdx, Option.map_eq_some_iff] at h
  obtain ⟨k, hk, e⟩ := h
  exact ⟨(List.getElem?_eq_some_iff.mp hk).1, by rw [← e]⟩
theorem wsOf_D {K : List CK} {ac : Nat → ClassId} {ad : Nat → Nat} {A : Nat → Prop} (hi : ∀ i j, i < K.length → j < K.length → ad i = ad j → i = j) (hA : ∀ i, i < K.length → A (ad i)) (σ : St) : va_D A (wsOf K ac ad σ) := by
  refine ⟨fun i j p q hp hq e => ?_, fun k q hk => ?_⟩
  · obtain ⟨a1, a2⟩ := wsOf_fst K ac ad σ i p hp
    obtain ⟨b1, b2⟩ := wsOf_fst K ac ad σ j q hq
    exact hi i j a1 b1 (by rw [← a2, ← b2]; exact e)
  · obtain ⟨a1, a2⟩ := wsOf_fst K ac ad σ k q hk
    rw [a2]; exact hA k a1
/-- the words that pass from a start to every later state -/
def isNest : Cond → Bool
  | .fieldLinkNest _ _ _ _ _ _ => true
  | .methodLinkNest _ _ _ _ => true
  | _ => false
def Tm (w : Cond) : Bool := (w.onTables && w.keeps) || isNest w
theorem Tm_tab {w : Cond} (h : Tm w = true) : w.onTables = true := by
  simp only [Tm, Bool.or_eq_true, Bool.and_eq_true] at h
  rcases h with h | h
  · exact h.1
  · cases w <;> first | rfl | (simp [isNest] at h)
theorem Tm_moved {w : Cond} (h : Tm w = true) {s U : State} (hW : s.WarmedH U.vm) (hZ : va_Nw w s) : va_Nw w U := by
  have ht := Tm_tab h
  simp only [Tm, Bool.or_eq_true] at h
  rcases h with h | h
  · exact word_at hW (Or.inl h) hZ
  · cases w <;> first | exact va_Nw.warmF hW hZ | exact va_Nw.warmM hW hZ | (simp [isNest] at h)
abbrev Cx : Type := Program × Launch × Env × Room × State × MethodId × Array Value × List Frame × Method × Code
/-- class numbers and slots, the classes of the arrays, the cells' addresses, what may be written -/
abbrev Cy : Type := va_G × (Nat → ClassId) × (Nat → Nat) × (Nat → Prop)
abbrev tysOf (ac : Nat → ClassId) : List (ClassId × FieldType) := [(ac 0, .int), (ac 1, .boolean), (ac 2, .long)]
def Kn (Y : Cy) (U : State) : Prop := va_K Y.1 vwCl (tysOf Y.2.1) U ∧ ∀ w ∈ lw_tbl, Tm w = true → va_Nw w U
theorem Kn.moved {Y : Cy} {s U : State} (h : Kn Y s) (hW : s.WarmedH U.vm) : Kn Y U := ⟨va_K.moved hW.alike h.1, fun w hw ht => Tm_moved ht hW (h.2 w hw ht)⟩
theorem Kn.same {Y : Cy} {u U : State} (h : Kn Y u) (e : u.vm = U.vm) : Kn Y U := ⟨va_K.moved (by rw [e]; exact Vm.Alike.refl U.vm) h.1, fun w hw ht => va_Nw.same (Tm_tab ht) e (h.2 w hw ht)⟩
theorem Kn.word {Y : Cy} {s : State} (h : Kn Y s) {w : Cond} (hw : w ∈ lw_tbl) (ht : Tm w = true) (args : Array Value) : w.before args s = true := va_Nw.use (Tm_tab ht) (h.2 w hw ht)
def WX (X : Cx) (H : Heap) (locs : List Loc) (Q : State → Prop) (g : JFrame) : Prop := W X.1 X.2.1 X.2.2.1 X.2.2.2.1 X.2.2.2.2.1 X.2.2.2.2.2.1 X.2.2.2.2.2.2.1 X.2.2.2.2.2.2.2.1 X.2.2.2.2.2.2.2.2.1 X.2.2.2.2.2.2.2.2.2 H locs 0 0 Q g
def lvm (ad : Nat → Nat) (lv : List (Nat × AV)) : List (Nat × Value) := lv.map (fun q => (q.1, mv ad q.2))
def Wq (X : Cx) (Y : Cy) (K : List CK) (nL : Nat) (Q : State → Prop) (σ : St) (pc : Nat) (lv : List (Nat × AV)) (st : List AV) : Prop :=
  ∀ (H : Heap) (locs : List Loc) (ls : Array Slot), va_P Y.1 vwCl (wsOf K Y.2.1 Y.2.2.1 σ) H → va_S Y.2.2.2 X.2.2.2.2.1.heap H locs → lv_has ls nL (lvm Y.2.2.1 lv) → WX X H locs Q (F0 X.2.2.2.2.2.1 pc ls (st.map (mv Y.2.2.1)))
def Ok (X : Cx) (Y : Cy) (K : List CK) (cc : ByteArray) (nL : Nat) (own : String) (rm : Room) (ret : Option FieldType) : Prop :=
  X.1.tables.exec = Jvm.exec ∧ X.2.2.2.2.2.2.2.2.2.code = cc ∧ X.2.2.2.2.2.2.2.2.2.maxLocals = nL ∧ X.2.2.2.2.1.vm.findClass own = some X.2.2.2.2.2.1.cls ∧ X.2.2.2.1 = rm ∧ X.2.2.2.2.2.2.2.2.1.sig.returnType = ret ∧ X.2.2.2.2.2.2.2.2.1.locks = false ∧ Kn Y X.2.2.2.2.1 ∧ ∀ σ, va_D Y.2.2.2 (wsOf K Y.2.1 Y.2.2.1 σ)
def iand32 (x y : Int) : Int := (Int32.ofInt x &&& Int32.ofInt y).toInt
def ior32 (x y : Int) : Int := (Int32.ofInt x ||| Int32.ofInt y).toInt
def ixor32 (x y : Int) : Int := (Int32.ofInt x ^^^ Int32.ofInt y).toInt
def ishl32 (x y : Int) : Int := (Int32.ofInt x <<< (Int32.ofInt y &&& 31)).toInt
def ishr32 (x y : Int) : Int := (Int32.ofInt x >>> (Int32.ofInt y &&& 31)).toInt
def iushr32 (x y : Int) : Int := ((Int32.ofInt x).toUInt32 >>> ((Int32.ofInt y).toUInt32 &&& Int32.toUInt32 31)).toInt32.toInt
def land64 (x y : Int) : Int := (Int64.ofInt x &&& Int64.ofInt y).toInt
def lor64 (x y : Int) : Int := (Int64.ofInt x ||| Int64.ofInt y).toInt
def lxor64 (x y : Int) : Int := (Int64.ofInt x ^^^ Int64.ofInt y).toInt
def lshl64 (x y : Int) : Int := (Int64.ofInt x <<< ((Int32.ofInt y).toInt64 &&& 63)).toInt
def lshr64 (x y : Int) : Int := (Int64.ofInt x >>> ((Int32.ofInt y).toInt64 &&& 63)).toInt
def i2l64 (x : Int) : Int := (Int32.ofInt x).toInt64.toInt
def l2i32 (x : Int) : Int := (Int64.ofInt x).toInt32.toInt
def lcmp64 (x y : Int) : Int := (lg_cmp (Int64.ofInt x) (Int64.ofInt y)).toInt
section ROWS
variable {X : Cx} {Y : Cy} {K : List CK} {cc : ByteArray} {nL : Nat} {own : String} {rm : Room} {ret : Option FieldType} {Q : State → Prop} {σ : St} {pc : Nat} {lv lv' : List (Nat × AV)} {st : List AV} {a b : Int}
theorem q_iconst (h : Ok X Y K cc nL own rm ret) {n : Int} (hd : decode cc pc = .ok (.iconst n, 1)) (k : Wq X Y K nL Q σ (pc + 1) lv (.inl n :: st)) : Wq X Y K nL Q σ pc lv st := fun H locs ls hP hS hl => lv_iconst h.1 h.2.1 hd rfl (k H locs ls hP hS hl)
theorem q_bipush (h : Ok X Y K cc nL own rm ret) {n : Int} (hd : decode cc pc = .ok (.bipush n, 2)) (hn : (Int8.ofInt n).toInt32 = Int32.ofInt n) (k : Wq X Y K nL Q σ (pc + 2) lv (.inl n :: st)) : Wq X Y K nL Q σ pc lv st := fun H locs ls hP hS hl => lv_bipush h.1 h.2.1 hd hn (k H locs ls hP hS hl)
theorem q_sipush (h : Ok X Y K cc nL own rm ret) {n : Int} (hd : decode cc pc = .ok (.sipush n, 3)) (hn : (Int16.ofInt n).toInt32 = Int32.ofInt n) (k : Wq X Y K nL Q σ (pc + 3) lv (.inl n :: st)) : Wq X Y K nL Q σ pc lv st := fun H locs ls hP hS hl => lv_sipush h.1 h.2.1 hd hn (k H locs ls hP hS hl)
theorem q_lconst (h : Ok X Y K cc nL own rm ret) {n : Fin 2} (hd : decode cc pc = .ok (.lconst n, 1)) (z : Int) (hz : Int64.ofNat (n : Nat) = Int64.ofInt z) (k : Wq X Y K nL Q σ (pc + 1) lv (.inr (.inl z) :: st)) : Wq X Y K nL Q σ pc lv st := fun H locs ls hP hS hl => lv_lconst h.1 h.2.1 hd hz (k H locs ls hP hS hl)
theorem lvm_at {ad : Nat → Nat} {lv : List (Nat × AV)} (j : Nat) {i : Nat} {v : AV} (h : lv[j]? = some (i, v)) : (lvm ad lv)[j]? = some (i, mv ad v) := by simp [lvm, h]
theorem q_iload_n (h : Ok X Y K cc nL own rm ret) {n : Fin 4} (hd : decode cc pc = .ok (.iload_n n, 1)) (j : Nat) (hj : lv[j]? = some (n.val, .inl a)) (k : Wq X Y K nL Q σ (pc + 1) lv (.inl a :: st)) : Wq X Y K nL Q σ pc lv st := fun H locs ls hP hS hl => lv_iload_n h.1 h.2.1 hd rfl (lv_at hl j (lvm_at j hj)) (k H locs ls hP hS hl)
theorem q_iload (h : Ok X Y K cc nL own rm ret) {i : Nat} (hd : decode cc pc = .ok (.iload i, 2)) (j : Nat) (hj : lv[j]? = some (i, .inl a)) (k : Wq X Y K nL Q σ (pc + 2) lv (.inl a :: st)) : Wq X Y K nL Q σ pc lv st := fun H locs ls hP hS hl => lv_iload h.1 h.2.1 hd (lv_at hl j (lvm_at j hj)) (k H locs ls hP hS hl)
theorem q_lload_n (h : Ok X Y K cc nL own rm ret) {n : Fin 4} (hd : decode cc pc = .ok (.lload_n n, 1)) (j : Nat) (hj : lv[j]? = some (n.val, .inr (.inl a))) (k : Wq X Y K nL Q σ (pc + 1) lv (.inr (.inl a) :: st)) : Wq X Y K nL Q σ pc lv st := fun H locs ls hP hS hl => lv_lload_n h.1 h.2.1 hd rfl (lv_at hl j (lvm_at j hj)) (k H locs ls hP hS hl)
theorem q_lload (h : Ok X Y K cc nL own rm ret) {i : Nat} (hd : decode cc pc = .ok (.lload i, 2)) (j : Nat) (hj : lv[j]? = some (i, .inr (.inl a))) (k : Wq X Y K nL Q σ (pc + 2) lv (.inr (.inl a) :: st)) : Wq X Y K nL Q σ pc lv st := fun H locs ls hP hS hl => lv_lload h.1 h.2.1 hd (lv_at hl j (lvm_at j hj)) (k H locs ls hP hS hl)
theorem q_aload_n (h : Ok X Y K cc nL own rm ret) {n : Fin 4} {c : Nat} (hd : decode cc pc = .ok (.aload_n n, 1)) (j : Nat) (hj : lv[j]? = some (n.val, .inr (.inr c))) (k : Wq X Y K nL Q σ (pc + 1) lv (.inr (.inr c) :: st)) : Wq X Y K nL Q σ pc lv st := fun H locs ls hP hS hl => lv_aload_n h.1 h.2.1 hd rfl (lv_at hl j (lvm_at j hj)) (k H locs ls hP hS hl)
theorem q_aload (h : Ok X Y K cc nL own rm ret) {i c : Nat} (hd : decode cc pc = .ok (.aload i, 2)) (j : Nat) (hj : lv[j]? = some (i, .inr (.inr c))) (k : Wq X Y K nL Q σ (pc + 2) lv (.inr (.inr c) :: st)) : Wq X Y K nL Q σ pc lv st := fun H locs ls hP hS hl => lv_aload h.1 h.2.1 hd (lv_at hl j (lvm_at j hj)) (k H locs ls hP hS hl)
/-- fewer locals, in another order -/
theorem q_sub (ks : List Nat) (hk : ks.filterMap (fun j => lv[j]?) = lv') (k : Wq X Y K nL Q σ pc lv' st) : Wq X Y K nL Q σ pc lv st := fun H locs ls hP hS hl => k H locs ls hP hS (lv_sub hl ks (by
  subst hk
  simp only [lv_pick, lvm, List.map_filterMap]
  congr 1
  funext j
  simp))
def isL : AV → Bool
  | .inr (.inl _) => true
  | _ => false
def kp1 (i : Nat) (q : Nat × AV) : Bool := !(q.1 == i) && !(q.1 + 1 == i && isL q.2)
def kp2 (i : Nat) (q : Nat × AV) : Bool := !(q.1 == i) && (!(q.1 == i + 1) && !(q.1 + 1 == i && isL q.2))
theorem cat_mv (ad : Nat → Nat) (v : AV) : ((mv ad v).category == 2) = isL v := by
  rcases v with n | n | n <;> rfl
theorem lvm_kp1 (ad : Nat → Nat) (i : Nat) (lv : List (Nat × AV)) : (lvm ad lv).filter (fun q => !(q.1 == i) && !(q.1 + 1 == i && q.2.category == 2)) = lvm ad (lv.filter (kp1 i)) := by
  unfold lvm
  rw [List.filter_map]
  congr 1
  apply List.filter_congr
  intro q _
  simp only [Function.comp, kp1, cat_mv]
theorem lvm_kp2 (ad : Nat → Nat) (i : Nat) (lv : List (Nat × AV)) : (lvm ad lv).filter (fun q => !(q.1 == i) && (!(q.1 == i + 1) && !(q.1 + 1 == i && q.2.category == 2))) = lvm ad (lv.filter (kp2 i)) := by
  unfold lvm
  rw [List.filter_map]
  congr 1
  apply List.filter_congr
  intro q _
  simp only [Function.comp, kp2, cat_mv]
theorem q_istore_n (h : Ok X Y K cc nL own rm ret) {n : Fin 4} (hd : decode cc pc = .ok (.istore_n n, 1)) (hn : n.val < nL) (hl' : (n.val, .inl a) :: lv.filter (kp1 n.val) = lv') (k : Wq X Y K nL Q σ (pc + 1) lv' st) : Wq X Y K nL Q σ pc lv (.inl a :: st) := fun H locs ls hP hS hl => lv_istore_n (lv' := lvm Y.2.2.1 lv') h.1 h.2.1 hd rfl hl hn (by rw [lvm_kp1, ← hl']; rfl) (fun ls' hl' => k H locs ls' hP hS hl')
theorem q_istore (h : Ok X Y K cc nL own rm ret) {i : Nat} (hd : decode cc pc = .ok (.istore i, 2)) (hn : i < nL) (hl' : (i, .inl a) :: lv.filter (kp1 i) = lv') (k : Wq X Y K nL Q σ (pc + 2) lv' st) : Wq X Y K nL Q σ pc lv (.inl a :: st) := fun H locs ls hP hS hl => lv_istore (lv' := lvm Y.2.2.1 lv') h.1 h.2.1 hd hl hn (by rw [lvm_kp1, ← hl']; rfl) (fun ls' hl' => k H locs ls' hP hS hl')
theorem q_astore_n (h : Ok X Y K cc nL own rm ret) {n : Fin 4} {c : Nat} (hd : decode cc pc = .ok (.astore_n n, 1)) (hn : n.val < nL) (hl' : (n.val, .inr (.inr c)) :: lv.filter (kp1 n.val) = lv') (k : Wq X Y K nL Q σ (pc + 1) lv' st) : Wq X Y K nL Q σ pc lv (.inr (.inr c) :: st) := fun H locs ls hP hS hl => lv_astore_n (lv' := lvm Y.2.2.1 lv') h.1 h.2.1 hd rfl hl hn (by rw [lvm_kp1, ← hl']; rfl) (fun ls' hl' => k H locs ls' hP hS hl')
theorem q_astore (h : Ok X Y K cc nL own rm ret) {i c : Nat} (hd : decode cc pc = .ok (.astore i, 2)) (hn : i < nL) (hl' : (i, .inr (.inr c)) :: lv.filter (kp1 i) = lv') (k : Wq X Y K nL Q σ (pc + 2) lv' st) : Wq X Y K nL Q σ pc lv (.inr (.inr c) :: st) := fun H locs ls hP hS hl => lv_astore (lv' := lvm Y.2.2.1 lv') h.1 h.2.1 hd hl hn (by rw [lvm_kp1, ← hl']; rfl) (fun ls' hl' => k H locs ls' hP hS hl')
theorem q_lstore_n (h : Ok X Y K cc nL own rm ret) {n : Fin 4} (hd : decode cc pc = .ok (.lstore_n n, 1)) (hn : n.val + 1 < nL) (hl' : (n.val, .inr (.inl a)) :: lv.filter (kp2 n.val) = lv') (k : Wq X Y K nL Q σ (pc + 1) lv' st) : Wq X Y K nL Q σ pc lv (.inr (.inl a) :: st) := fun H locs ls hP hS hl => lv_lstore_n (lv' := lvm Y.2.2.1 lv') h.1 h.2.1 hd rfl hl hn (by rw [lvm_kp2, ← hl']; rfl) (fun ls' hl' => k H locs ls' hP hS hl')
theorem q_lstore (h : Ok X Y K cc nL own rm ret) {i : Nat} (hd : decode cc pc = .ok (.lstore i, 2)) (hn : i + 1 < nL) (hl' : (i, .inr (.inl a)) :: lv.filter (kp2 i) = lv') (k : Wq X Y K nL Q σ (pc + 2) lv' st) : Wq X Y K nL Q σ pc lv (.inr (.inl a) :: st) := fun H locs ls hP hS hl => lv_lstore (lv' := lvm Y.2.2.1 lv') h.1 h.2.1 hd hl hn (by rw [lvm_kp2, ← hl']; rfl) (fun ls' hl' => k H locs ls' hP hS hl')
theorem q_iinc (h : Ok X Y K cc nL own rm ret) {i : Nat} {n : Int} (hd : decode cc pc = .ok (.iinc i n, 3)) (j : Nat) (hj : lv[j]? = some (i, .inl a)) (hn : i < nL) (hl' : (i, .inl (a + n)) :: lv.filter (kp1 i) = lv') (k : Wq X Y K nL Q σ (pc + 3) lv' st) : Wq X Y K nL Q σ pc lv st := fun H locs ls hP hS hl => lv_iinc (v := Int32.ofInt (a + n)) (lv' := lvm Y.2.2.1 lv') h.1 h.2.1 hd hl (lvm_at j hj) (Int32.ofInt_add a n).symm hn (by rw [lvm_kp1, ← hl']; rfl) (fun ls' hl' => k H locs ls' hP hS hl')
theorem q_iadd (h : Ok X Y K cc nL own rm ret) (hd : decode cc pc = .ok (.iadd, 1)) (k : Wq X Y K nL Q σ (pc + 1) lv (.inl (a + b) :: st)) : Wq X Y K nL Q σ pc lv (.inl b :: .inl a :: st) := fun H locs ls hP hS hl => lv_iadd h.1 h.2.1 hd (by rw [← Int32.ofInt_add]; exact k H locs ls hP hS hl)
theorem q_isub (h : Ok X Y K cc nL own rm ret) (hd : decode cc pc = .ok (.isub, 1)) (k : Wq X Y K nL Q σ (pc + 1) lv (.inl (a - b) :: st)) : Wq X Y K nL Q σ pc lv (.inl b :: .inl a :: st) := fun H locs ls hP hS hl => lv_isub h.1 h.2.1 hd (by rw [← Int32.ofInt_sub]; exact k H locs ls hP hS hl)
theorem q_imul (h : Ok X Y K cc nL own rm ret) (hd : decode cc pc = .ok (.imul, 1)) (k : Wq X Y K nL Q σ (pc + 1) lv (.inl (a * b) :: st)) : Wq X Y K nL Q σ pc lv (.inl b :: .inl a :: st) := fun H locs ls hP hS hl => lv_imul h.1 h.2.1 hd (by rw [← Int32.ofInt_mul]; exact k H locs ls hP hS hl)
theorem q_iand (h : Ok X Y K cc nL own rm ret) (hd : decode cc pc = .ok (.iand, 1)) (k : Wq X Y K nL Q σ (pc + 1) lv (.inl (iand32 a b) :: st)) : Wq X Y K nL Q σ pc lv (.inl b :: .inl a :: st) := fun H locs ls hP hS hl => lv_iand h.1 h.2.1 hd (by have := k H locs ls hP hS hl; simp only [List.map_cons, mv, iand32, ofI_toI] at this; exact this)
theorem q_ior (h : Ok X Y K cc nL own rm ret) (hd : decode cc pc = .ok (.ior, 1)) (k : Wq X Y K nL Q σ (pc + 1) lv (.inl (ior32 a b) :: st)) : Wq X Y K nL Q σ pc lv (.inl b :: .inl a :: st) := fun H locs ls hP hS hl => lv_ior h.1 h.2.1 hd (by have := k H locs ls hP hS hl; simp only [List.map_cons, mv, ior32, ofI_toI] at this; exact this)
theorem q_ixor (h : Ok X Y K cc nL own rm ret) (hd : decode cc pc = .ok (.ixor, 1)) (k : Wq X Y K nL Q σ (pc + 1) lv (.inl (ixor32 a b) :: st)) : Wq X Y K nL Q σ pc lv (.inl b :: .inl a :: st) := fun H locs ls hP hS hl => lv_ixor h.1 h.2.1 hd (by have := k H locs ls hP hS hl; simp only [List.map_cons, mv, ixor32, ofI_toI] at this; exact this)
theorem q_ishl (h : Ok X Y K cc nL own rm ret) (hd : decode cc pc = .ok (.ishl, 1)) (k : Wq X Y K nL Q σ (pc + 1) lv (.inl (ishl32 a b) :: st)) : Wq X Y K nL Q σ pc lv (.inl b :: .inl a :: st) := fun H locs ls hP hS hl => lv_ishl h.1 h.2.1 hd (by have := k H locs ls hP hS hl; simp only [List.map_cons, mv, ishl32, ofI_toI] at this; exact this)
theorem q_ishr (h : Ok X Y K cc nL own rm ret) (hd : decode cc pc = .ok (.ishr, 1)) (k : Wq X Y K nL Q σ (pc + 1) lv (.inl (ishr32 a b) :: st)) : Wq X Y K nL Q σ pc lv (.inl b :: .inl a :: st) := fun H locs ls hP hS hl => lv_ishr h.1 h.2.1 hd (by have := k H locs ls hP hS hl; simp only [List.map_cons, mv, ishr32, ofI_toI] at this; exact this)
theorem q_iushr (h : Ok X Y K cc nL own rm ret) (hd : decode cc pc = .ok (.iushr, 1)) (k : Wq X Y K nL Q σ (pc + 1) lv (.inl (iushr32 a b) :: st)) : Wq X Y K nL Q σ pc lv (.inl b :: .inl a :: st) := fun H locs ls hP hS hl => lv_iushr (v := Int32.ofInt (iushr32 a b)) h.1 h.2.1 hd (by simp only [iushr32, ofI_toI]) (k H locs ls hP hS hl)
theorem q_land (h : Ok X Y K cc nL own rm ret) (hd : decode cc pc = .ok (.land, 1)) (k : Wq X Y K nL Q σ (pc + 1) lv (.inr (.inl (land64 a b)) :: st)) : Wq X Y K nL Q σ pc lv (.inr (.inl b) :: .inr (.inl a) :: st) := fun H locs ls hP hS hl => lv_land h.1 h.2.1 hd (by have := k H locs ls hP hS hl; simp only [List.map_cons, mv, land64, ofL_toL] at this; exact this)
theorem q_lor (h : Ok X Y K cc nL own rm ret) (hd : decode cc pc = .ok (.lor, 1)) (k : Wq X Y K nL Q σ (pc + 1) lv (.inr (.inl (lor64 a b)) :: st)) : Wq X Y K nL Q σ pc lv (.inr (.inl b) :: .inr (.inl a) :: st) := fun H locs ls hP hS hl => lv_lor h.1 h.2.1 hd (by have := k H locs ls hP hS hl; simp only [List.map_cons, mv, lor64, ofL_toL] at this; exact this)
theorem q_lxor (h : Ok X Y K cc nL own rm ret) (hd : decode cc pc = .ok (.lxor, 1)) (k : Wq X Y K nL Q σ (pc + 1) lv (.inr (.inl (lxor64 a b)) :: st)) : Wq X Y K nL Q σ pc lv (.inr (.inl b) :: .inr (.inl a) :: st) := fun H locs ls hP hS hl => lv_lxor h.1 h.2.1 hd (by have := k H locs ls hP hS hl; simp only [List.map_cons, mv, lxor64, ofL_toL] at this; exact this)
theorem q_lshl (h : Ok X Y K cc nL own rm ret) (hd : decode cc pc = .ok (.lshl, 1)) (k : Wq X Y K nL Q σ (pc + 1) lv (.inr (.inl (lshl64 a b)) :: st)) : Wq X Y K nL Q σ pc lv (.inl b :: .inr (.inl a) :: st) := fun H locs ls hP hS hl => lv_lshl (v := Int64.ofInt (lshl64 a b)) h.1 h.2.1 hd (by simp only [lshl64, ofL_toL]) (k H locs ls hP hS hl)
theorem q_lshr (h : Ok X Y K cc nL own rm ret) (hd : decode cc pc = .ok (.lshr, 1)) (k : Wq X Y K nL Q σ (pc + 1) lv (.inr (.inl (lshr64 a b)) :: st)) : Wq X Y K nL Q σ pc lv (.inl b :: .inr (.inl a) :: st) := fun H locs ls hP hS hl => lv_lshr (v := Int64.ofInt (lshr64 a b)) h.1 h.2.1 hd (by simp only [lshr64, ofL_toL]) (k H locs ls hP hS hl)
theorem q_i2l (h : Ok X Y K cc nL own rm ret) (hd : decode cc pc = .ok (.i2l, 1)) (k : Wq X Y K nL Q σ (pc + 1) lv (.inr (.inl (i2l64 a)) :: st)) : Wq X Y K nL Q σ pc lv (.inl a :: st) := fun H locs ls hP hS hl => lv_i2l (v := Int64.ofInt (i2l64 a)) h.1 h.2.1 hd (by simp only [i2l64, ofL_toL]) (k H locs ls hP hS hl)
theorem q_l2i (h : Ok X Y K cc nL own rm ret) (hd : decode cc pc = .ok (.l2i, 1)) (k : Wq X Y K nL Q σ (pc + 1) lv (.inl (l2i32 a) :: st)) : Wq X Y K nL Q σ pc lv (.inr (.inl a) :: st) := fun H locs ls hP hS hl => lv_l2i (v := Int32.ofInt (l2i32 a)) h.1 h.2.1 hd (by simp only [l2i32, ofI_toI]) (k H locs ls hP hS hl)
theorem q_lcmp (h : Ok X Y K cc nL own rm ret) (hd : decode cc pc = .ok (.lcmp, 1)) (k : Wq X Y K nL Q σ (pc + 1) lv (.inl (lcmp64 a b) :: st)) : Wq X Y K nL Q σ pc lv (.inr (.inl b) :: .inr (.inl a) :: st) := fun H locs ls hP hS hl => W.lcmp h.1 h.2.1 hd (by have := k H locs ls hP hS hl; simp only [List.map_cons, mv, lcmp64, ofI_toI] at this; exact this)
theorem cat1 (ad : Nat → Nat) {v : AV} (h : isL v = false) : (mv ad v).category = 1 := by
  rcases v with n | n | n
  · rfl
  · cases h
  · rfl
theorem q_dup (h : Ok X Y K cc nL own rm ret) {v : AV} (hd : decode cc pc = .ok (.dup, 1)) (hv : isL v = false) (k : Wq X Y K nL Q σ (pc + 1) lv (v :: v :: st)) : Wq X Y K nL Q σ pc lv (v :: st) := fun H locs ls hP hS hl => lv_dup h.1 h.2.1 hd (cat1 _ hv) (k H locs ls hP hS hl)
theorem q_pop (h : Ok X Y K cc nL own rm ret) {v : AV} (hd : decode cc pc = .ok (.pop, 1)) (hv : isL v = false) (k : Wq X Y K nL Q σ (pc + 1) lv st) : Wq X Y K nL Q σ pc lv (v :: st) := fun H locs ls hP hS hl => lv_pop h.1 h.2.1 hd (cat1 _ hv) (k H locs ls hP hS hl)
theorem q_dup_x1 (h : Ok X Y K cc nL own rm ret) {v w : AV} (hd : decode cc pc = .ok (.dup_x1, 1)) (hv : isL v = false) (hw : isL w = false) (k : Wq X Y K nL Q σ (pc + 1) lv (v :: w :: v :: st)) : Wq X Y K nL Q σ pc lv (v :: w :: st) := fun H locs ls hP hS hl => lv_dup_x1 h.1 h.2.1 hd (cat1 _ hv) (cat1 _ hw) (k H locs ls hP hS hl)
theorem q_dup2 (h : Ok X Y K cc nL own rm ret) {v w : AV} (hd : decode cc pc = .ok (.dup2, 1)) (hv : isL v = false) (hw : isL w = false) (k : Wq X Y K nL Q σ (pc + 1) lv (v :: w :: v :: w :: st)) : Wq X Y K nL Q σ pc lv (v :: w :: st) := fun H locs ls hP hS hl => lv_dup2_11 h.1 h.2.1 hd (cat1 _ hv) (cat1 _ hw) (k H locs ls hP hS hl)
theorem q_goto (h : Ok X Y K cc nL own rm ret) {off : Int} {tgt : Nat} (hd : decode cc pc = .ok (.goto off, 3)) (ht : (pc : Int) + off = (tgt : Int)) (k : Wq X Y K nL Q σ tgt lv st) : Wq X Y K nL Q σ pc lv st := fun H locs ls hP hS hl => lv_goto h.1 h.2.1 hd ht (k H locs ls hP hS hl)
theorem q_if_eq (h : Ok X Y K cc nL own rm ret) {off : Int} {tgt : Nat} (hd : decode cc pc = .ok (.ifCond .eq off, 3)) (ht : (pc : Int) + off = (tgt : Int)) (ha : inR a) (kt : a = 0 → Wq X Y K nL Q σ tgt lv st) (kf : ¬ a = 0 → Wq X Y K nL Q σ (pc + 3) lv st) : Wq X Y K nL Q σ pc lv (.inl a :: st) := fun H locs ls hP hS hl => lv_if_eq h.1 h.2.1 hd ht (fun q => kt ((ofI_eq ha inR_0).mp q) H locs ls hP hS hl) (fun q => kf (fun z => q ((ofI_eq ha inR_0).mpr z)) H locs ls hP hS hl)
theorem q_if_ne (h : Ok X Y K cc nL own rm ret) {off : Int} {tgt : Nat} (hd : decode cc pc = .ok (.ifCond .ne off, 3)) (ht : (pc : Int) + off = (tgt : Int)) (ha : inR a) (kt : ¬ a = 0 → Wq X Y K nL Q σ tgt lv st) (kf : a = 0 → Wq X Y K nL Q σ (pc + 3) lv st) : Wq X Y K nL Q σ pc lv (.inl a :: st) := fun H locs ls hP hS hl => lv_if_ne h.1 h.2.1 hd ht (fun q => kt (fun z => q ((ofI_eq ha inR_0).mpr z)) H locs ls hP hS hl) (fun q => kf ((ofI_eq ha inR_0).mp q) H locs ls hP hS hl)
theorem q_if_lt (h : Ok X Y K cc nL own rm ret) {off : Int} {tgt : Nat} (hd : decode cc pc = .ok (.ifCond .lt off, 3)) (ht : (pc : Int) + off = (tgt : Int)) (ha : inR a) (kt : a < 0 → Wq X Y K nL Q σ tgt lv st) (kf : ¬ a < 0 → Wq X Y K nL Q σ (pc + 3) lv st) : Wq X Y K nL Q σ pc lv (.inl a :: st) := fun H locs ls hP hS hl => lv_if_lt h.1 h.2.1 hd ht (fun q => kt ((ofI_lt ha inR_0).mp q) H locs ls hP hS hl) (fun q => kf (fun z => q ((ofI_lt ha inR_0).mpr z)) H locs ls hP hS hl)
theorem q_if_ge (h : Ok X Y K cc nL own rm ret) {off : Int} {tgt : Nat} (hd : decode cc pc = .ok (.ifCond .ge off, 3)) (ht : (pc : Int) + off = (tgt : Int)) (ha : inR a) (kt : 0 ≤ a → Wq X Y K nL Q σ tgt lv st) (kf : ¬ 0 ≤ a → Wq X Y K nL Q σ (pc + 3) lv st) : Wq X Y K nL Q σ pc lv (.inl a :: st) := fun H locs ls hP hS hl => lv_if_ge h.1 h.2.1 hd ht (fun q => kt ((ofI_le inR_0 ha).mp q) H locs ls hP hS hl) (fun q => kf (fun z => q ((ofI_le inR_0 ha).mpr z)) H locs ls hP hS hl)
theorem q_if_gt (h : Ok X Y K cc nL own rm ret) {off : Int} {tgt : Nat} (hd : decode cc pc = .ok (.ifCond .gt off, 3)) (ht : (pc : Int) + off = (tgt : Int)) (ha : inR a) (kt : 0 < a → Wq X Y K nL Q σ tgt lv st) (kf : ¬ 0 < a → Wq X Y K nL Q σ (pc + 3) lv st) : Wq X Y K nL Q σ pc lv (.inl a :: st) := fun H locs ls hP hS hl => lv_if_gt h.1 h.2.1 hd ht (fun q => kt ((ofI_lt inR_0 ha).mp q) H locs ls hP hS hl) (fun q => kf (fun z => q ((ofI_lt inR_0 ha).mpr z)) H locs ls hP hS hl)
theorem q_if_le (h : Ok X Y K cc nL own rm ret) {off : Int} {tgt : Nat} (hd : decode cc pc = .ok (.ifCond .le off, 3)) (ht : (pc : Int) + off = (tgt : Int)) (ha : inR a) (kt : a ≤ 0 → Wq X Y K nL Q σ tgt lv st) (kf : ¬ a ≤ 0 → Wq X Y K nL Q σ (pc + 3) lv st) : Wq X Y K nL Q σ pc lv (.inl a :: st) := fun H locs ls hP hS hl => lv_if_le h.1 h.2.1 hd ht (fun q => kt ((ofI_le ha inR_0).mp q) H locs ls hP hS hl) (fun q => kf (fun z => q ((ofI_le ha inR_0).mpr z)) H locs ls hP hS hl)
theorem q_icmp_eq (h : Ok X Y K cc nL own rm ret) {off : Int} {tgt : Nat} (hd : decode cc pc = .ok (.if_icmp .eq off, 3)) (ht : (pc : Int) + off = (tgt : Int)) (ha : inR a) (hb : inR b) (kt : a = b → Wq X Y K nL Q σ tgt lv st) (kf : ¬ a = b → Wq X Y K nL Q σ (pc + 3) lv st) : Wq X Y K nL Q σ pc lv (.inl b :: .inl a :: st) := fun H locs ls hP hS hl => lv_icmp_eq h.1 h.2.1 hd ht (fun q => kt ((ofI_eq ha hb).mp q) H locs ls hP hS hl) (fun q => kf (fun z => q ((ofI_eq ha hb).mpr z)) H locs ls hP hS hl)
theorem q_icmp_ne (h : Ok X Y K cc nL own rm ret) {off : Int} {tgt : Nat} (hd : decode cc pc = .ok (.if_icmp .ne off, 3)) (ht : (pc : Int) + off = (tgt : Int)) (ha : inR a) (hb : inR b) (kt : ¬ a = b → Wq X Y K nL Q σ tgt lv st) (kf : a = b → Wq X Y K nL Q σ (pc + 3) lv st) : Wq X Y K nL Q σ pc lv (.inl b :: .inl a :: st) := fun H locs ls hP hS hl => lv_icmp_ne h.1 h.2.1 hd ht (fun q => kt (fun z => q ((ofI_eq ha hb).mpr z)) H locs ls hP hS hl) (fun q => kf ((ofI_eq ha hb).mp q) H locs ls hP hS hl)
theorem q_icmp_lt (h : Ok X Y K cc nL own rm ret) {off : Int} {tgt : Nat} (hd : decode cc pc = .ok (.if_icmp .lt off, 3)) (ht : (pc : Int) + off = (tgt : Int)) (ha : inR a) (hb : inR b) (kt : a < b → Wq X Y K nL Q σ tgt lv st) (kf : ¬ a < b → Wq X Y K nL Q σ (pc + 3) lv st) : Wq X Y K nL Q σ pc lv (.inl b :: .inl a :: st) := fun H locs ls hP hS hl => lv_icmp_lt h.1 h.2.1 hd ht (fun q => kt ((ofI_lt ha hb).mp q) H locs ls hP hS hl) (fun q => kf (fun z => q ((ofI_lt ha hb).mpr z)) H locs ls hP hS hl)
theorem q_icmp_ge (h : Ok X Y K cc nL own rm ret) {off : Int} {tgt : Nat} (hd : decode cc pc = .ok (.if_icmp .ge off, 3)) (ht : (pc : Int) + off = (tgt : Int)) (ha : inR a) (hb : inR b) (kt : b ≤ a → Wq X Y K nL Q σ tgt lv st) (kf : ¬ b ≤ a → Wq X Y K nL Q σ (pc + 3) lv st) : Wq X Y K nL Q σ pc lv (.inl b :: .inl a :: st) := fun H locs ls hP hS hl => lv_icmp_ge h.1 h.2.1 hd ht (fun q => kt ((ofI_le hb ha).mp q) H locs ls hP hS hl) (fun q => kf (fun z => q ((ofI_le hb ha).mpr z)) H locs ls hP hS hl)
theorem q_icmp_gt (h : Ok X Y K cc nL own rm ret) {off : Int} {tgt : Nat} (hd : decode cc pc = .ok (.if_icmp .gt off, 3)) (ht : (pc : Int) + off = (tgt : Int)) (ha : inR a) (hb : inR b) (kt : b < a → Wq X Y K nL Q σ tgt lv st) (kf : ¬ b < a → Wq X Y K nL Q σ (pc + 3) lv st) : Wq X Y K nL Q σ pc lv (.inl b :: .inl a :: st) := fun H locs ls hP hS hl => lv_icmp_gt h.1 h.2.1 hd ht (fun q => kt ((ofI_lt hb ha).mp q) H locs ls hP hS hl) (fun q => kf (fun z => q ((ofI_lt hb ha).mpr z)) H locs ls hP hS hl)
theorem q_icmp_le (h : Ok X Y K cc nL own rm ret) {off : Int} {tgt : Nat} (hd : decode cc pc = .ok (.if_icmp .le off, 3)) (ht : (pc : Int) + off = (tgt : Int)) (ha : inR a) (hb : inR b) (kt : a ≤ b → Wq X Y K nL Q σ tgt lv st) (kf : ¬ a ≤ b → Wq X Y K nL Q σ (pc + 3) lv st) : Wq X Y K nL Q σ pc lv (.inl b :: .inl a :: st) := fun H locs ls hP hS hl => lv_icmp_le h.1 h.2.1 hd ht (fun q => kt ((ofI_le ha hb).mp q) H locs ls hP hS hl) (fun q => kf (fun z => q ((ofI_le ha hb).mpr z)) H locs ls hP hS hl)
end ROWS
