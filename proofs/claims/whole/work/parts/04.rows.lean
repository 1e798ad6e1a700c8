/-! ===== rows of the heap, of answers and of calls ===== -/
def KOk (K : List CK) : Prop := ∀ (c : Nat) (k : CK), K[c]? = some k → k.2.1 < 2147483648
/-- a getfield's words: the class's own number in vwCl, the field's place -/
def FL (own : String) (idx ci j : Nat) : Prop := ∃ (C : String) (T : u_T) (N : Nat), vwCl[ci]? = some (C, T, N) ∧ j < N ∧ (∀ w ∈ u_ws C T N, w ∈ lw_tbl ∧ Tm w = true) ∧ ((Cond.fieldLink own idx (T j).1 (T j).2.1 (T j).2.2.1 ∈ lw_tbl) ∨ ∃ host, Cond.fieldLinkNest own idx (T j).1 (T j).2.1 (T j).2.2.1 host ∈ lw_tbl)
def FP (own : String) (idx ci j : Nat) (ty : FieldType) : Prop := ∃ (C : String) (T : u_T) (N : Nat) (ty0 : Nat → FieldType), vwCl[ci]? = some (C, T, N) ∧ j < N ∧ (∀ w ∈ u_ws C T N, w ∈ lw_tbl ∧ Tm w = true) ∧ (∀ k, k < N → parseFieldDescriptor (T k).2.2.1 = some (ty0 k)) ∧ (∀ a, a < N → ∀ b, b < N → a ≠ b → (T a).2.1 ≠ (T b).2.1) ∧ (T j).2.2.2 = false ∧ parseFieldDescriptor (T j).2.2.1 = some ty ∧ ((Cond.fieldLink own idx (T j).1 (T j).2.1 (T j).2.2.1 ∈ lw_tbl) ∨ ∃ host, Cond.fieldLinkNest own idx (T j).1 (T j).2.1 (T j).2.2.1 host ∈ lw_tbl)
section HROWS
variable {X : Cx} {Y : Cy} {K : List CK} {cc : ByteArray} {nL : Nat} {own : String} {rm : Room} {ret : Option FieldType} {Q : State → Prop} {σ : St} {pc : Nat} {lv lv' : List (Nat × AV)} {st : List AV} {a b : Int} {c : Nat}
theorem q_get0 (h : Ok X Y K cc nL own rm ret) {idx ci j : Nat} (hl : FL own idx ci j) {fds : List (Nat × Nat)} (hc : K[c]? = some (3, ci, fds)) {d : Nat × Nat} (hf : fds[j]? = some d) (hd : decode cc pc = .ok (.getfield idx, 3)) {v : AV} (hv : fval Y.2.2.1 (σ c) j d = mv Y.2.2.1 v) (k : Wq X Y K nL Q σ (pc + 3) lv (v :: st)) : Wq X Y K nL Q σ pc lv (.inr (.inr c) :: st) := by
  intro H locs ls hP hS hl2
  obtain ⟨C, T, N, h1, h2, h3, h4⟩ := hl
  have hK := h.2.2.2.2.2.2.2.1
  have hts : ∀ w ∈ u_ws C T N, w.before X.2.2.2.2.2.2.1 X.2.2.2.2.1 = true := fun w hw => hK.word (h3 w hw).1 (h3 w hw).2 _
  have kk := k H locs ls hP hS hl2
  have he : (wsOf K Y.2.1 Y.2.2.1 σ)[c]? = some (Y.2.2.1 c, .inr (ci, fds.mapIdx (fun j d => fval Y.2.2.1 (σ c) j d))) := wsOf_at hc
  have hv2 : (fds.mapIdx (fun j d => fval Y.2.2.1 (σ c) j d))[j]? = some (mv Y.2.2.1 v) := by rw [List.getElem?_mapIdx, hf, ← hv]; rfl
  rcases h4 with h4 | ⟨host, h4⟩
  · exact va_get h.1 h.2.1 hts (fun _ h => h) h.2.2.2.1 hK.1 hP c he h1 j h2 (hK.word h4 rfl _) (fun _ h => h) hv2 hd kk
  · exact va_getN h.1 h.2.1 hts (fun _ h => h) h.2.2.2.1 hK.1 hP c he h1 j h2 (hK.word h4 rfl _) (fun _ h => h) hv2 hd kk
theorem q_getI (h : Ok X Y K cc nL own rm ret) {idx ci j z : Nat} (hl : FL own idx ci j) {fds : List (Nat × Nat)} (hc : K[c]? = some (3, ci, fds)) (hf : fds[j]? = some (0, z)) (hd : decode cc pc = .ok (.getfield idx, 3)) (k : Wq X Y K nL Q σ (pc + 3) lv (.inl (σ c j) :: st)) : Wq X Y K nL Q σ pc lv (.inr (.inr c) :: st) := q_get0 h hl hc hf hd rfl k
theorem q_getC (h : Ok X Y K cc nL own rm ret) {idx ci j z : Nat} (hl : FL own idx ci j) {fds : List (Nat × Nat)} (hc : K[c]? = some (3, ci, fds)) (hf : fds[j]? = some (1, z)) (hd : decode cc pc = .ok (.getfield idx, 3)) (k : Wq X Y K nL Q σ (pc + 3) lv (.inr (.inr z) :: st)) : Wq X Y K nL Q σ pc lv (.inr (.inr c) :: st) := q_get0 h hl hc hf hd rfl k
theorem q_getR (h : Ok X Y K cc nL own rm ret) {idx ci j z : Nat} (hl : FL own idx ci j) {fds : List (Nat × Nat)} (hc : K[c]? = some (3, ci, fds)) (hf : fds[j]? = some (2, z)) (hd : decode cc pc = .ok (.getfield idx, 3)) (k : Wq X Y K nL Q σ (pc + 3) lv (.inr (.inr (σ c j).toNat) :: st)) : Wq X Y K nL Q σ pc lv (.inr (.inr c) :: st) := q_get0 h hl hc hf hd rfl k
theorem mapIdx_up {ad : Nat → Nat} {f : Nat → Int} {fds : List (Nat × Nat)} {j : Nat} {d : Nat × Nat} (hf : fds[j]? = some d) (a : Int) : (fds.mapIdx (fun j d => fval ad f j d)).set j (fval ad (va_up f j a) j d) = fds.mapIdx (fun i d => fval ad (va_up f j a) i d) := by
  apply List.ext_getElem?
  intro i
  by_cases hi : i = j
  · subst hi
    have hl : i < fds.length := (List.getElem?_eq_some_iff.mp hf).1
    rw [List.getElem?_set_self (by simpa using hl), List.getElem?_mapIdx, hf]
    rfl
  · rw [List.getElem?_set_ne (fun q => hi q.symm), List.getElem?_mapIdx, List.getElem?_mapIdx]
    cases fds[i]? with
    | none => rfl
    | some e => simp [fval, vu_ne _ _ hi]
theorem q_put0 (h : Ok X Y K cc nL own rm ret) {idx ci j : Nat} {ty : FieldType} (hl : FP own idx ci j ty) {fds : List (Nat × Nat)} (hc : K[c]? = some (3, ci, fds)) {d : Nat × Nat} (hf : fds[j]? = some d) (hd : decode cc pc = .ok (.putfield idx, 3)) {v : AV} (hv : fval Y.2.2.1 (va_up (σ c) j a) j d = mv Y.2.2.1 v) (hn : narrow ty (mv Y.2.2.1 v) = mv Y.2.2.1 v) (hfit : fits ty (mv Y.2.2.1 v) = true) (k : Wq X Y K nL Q (sset σ c j a) (pc + 3) lv st) : Wq X Y K nL Q σ pc lv (v :: .inr (.inr c) :: st) := by
  intro H locs ls hP hS hl2
  obtain ⟨C, T, N, ty0, h1, h2, h3, h5, h6, h7, h8, h4⟩ := hl
  have hK := h.2.2.2.2.2.2.2.1
  have hD := h.2.2.2.2.2.2.2.2 σ
  have hts : ∀ w ∈ u_ws C T N, w.before X.2.2.2.2.2.2.1 X.2.2.2.2.1 = true := fun w hw => hK.word (h3 w hw).1 (h3 w hw).2 _
  have he : (wsOf K Y.2.1 Y.2.2.1 σ)[c]? = some (Y.2.2.1 c, .inr (ci, fds.mapIdx (fun j d => fval Y.2.2.1 (σ c) j d))) := wsOf_at hc
  have hlen : j < (fds.mapIdx (fun j d => fval Y.2.2.1 (σ c) j d)).length := by simpa using (List.getElem?_eq_some_iff.mp hf).1
  have hset : (wsOf K Y.2.1 Y.2.2.1 σ).set c (Y.2.2.1 c, .inr (ci, (fds.mapIdx (fun j d => fval Y.2.2.1 (σ c) j d)).set j (mv Y.2.2.1 v))) = wsOf K Y.2.1 Y.2.2.1 (sset σ c j a) := by
    rw [← hv, mapIdx_up hf a]
    exact wsOf_set hc _
  have kk : ∀ (H1 : Heap) (locs1 : List Loc), va_P Y.1 vwCl ((wsOf K Y.2.1 Y.2.2.1 σ).set c (Y.2.2.1 c, .inr (ci, (fds.mapIdx (fun j d => fval Y.2.2.1 (σ c) j d)).set j (mv Y.2.2.1 v)))) H1 → va_D Y.2.2.2 ((wsOf K Y.2.1 Y.2.2.1 σ).set c (Y.2.2.1 c, .inr (ci, (fds.mapIdx (fun j d => fval Y.2.2.1 (σ c) j d)).set j (mv Y.2.2.1 v)))) → va_S Y.2.2.2 X.2.2.2.2.1.heap H1 locs1 → WX X H1 locs1 Q (F0 X.2.2.2.2.2.1 (pc + 3) ls (st.map (mv Y.2.2.1))) := by
    intro H1 locs1 q1 _ q3
    rw [hset] at q1
    exact k H1 locs1 ls q1 q3 hl2
  rcases h4 with h4 | ⟨host, h4⟩
  · exact va_put h.1 h.2.1 hts (fun _ h => h) ty0 h5 h6 h.2.2.2.1 hK.1 hP hD hS c he h1 j h2 (hK.word h4 rfl _) (fun _ h => h) h7 h8 hn hfit hlen hd kk
  · exact va_putN h.1 h.2.1 hts (fun _ h => h) ty0 h5 h6 h.2.2.2.1 hK.1 hP hD hS c he h1 j h2 (hK.word h4 rfl _) (fun _ h => h) h7 h8 hn hfit hlen hd kk
theorem q_putI (h : Ok X Y K cc nL own rm ret) {idx ci j z : Nat} (hl : FP own idx ci j .int) {fds : List (Nat × Nat)} (hc : K[c]? = some (3, ci, fds)) (hf : fds[j]? = some (0, z)) (hd : decode cc pc = .ok (.putfield idx, 3)) (k : Wq X Y K nL Q (sset σ c j a) (pc + 3) lv st) : Wq X Y K nL Q σ pc lv (.inl a :: .inr (.inr c) :: st) := q_put0 h hl hc hf hd (by simp [fval, vu_eq, mv]) rfl rfl k
theorem q_putZ (h : Ok X Y K cc nL own rm ret) {idx ci j z : Nat} (hl : FP own idx ci j .boolean) {fds : List (Nat × Nat)} (hc : K[c]? = some (3, ci, fds)) (hf : fds[j]? = some (0, z)) (hd : decode cc pc = .ok (.putfield idx, 3)) (ha : a = 0 ∨ a = 1) (k : Wq X Y K nL Q (sset σ c j a) (pc + 3) lv st) : Wq X Y K nL Q σ pc lv (.inl a :: .inr (.inr c) :: st) := q_put0 h hl hc hf hd (by simp [fval, vu_eq, mv]) (by rcases ha with rfl | rfl <;> rfl) (by rcases ha with rfl | rfl <;> rfl) k
theorem q_putR (h : Ok X Y K cc nL own rm ret) {idx ci j z c2 : Nat} {C2 : String} (hl : FP own idx ci j (.object C2)) {fds : List (Nat × Nat)} (hc : K[c]? = some (3, ci, fds)) (hf : fds[j]? = some (2, z)) (hd : decode cc pc = .ok (.putfield idx, 3)) (k : Wq X Y K nL Q (sset σ c j (c2 : Int)) (pc + 3) lv st) : Wq X Y K nL Q σ pc lv (.inr (.inr c2) :: .inr (.inr c) :: st) := q_put0 h hl hc hf hd (by simp [fval, vu_eq, mv]) rfl rfl k
theorem q_iald (h : Ok X Y K cc nL own rm ret) {N : Nat} {z : List (Nat × Nat)} (hK : KOk K) (hc : K[c]? = some (0, N, z)) (h0 : 0 ≤ a) (h1 : a < N) (hd : decode cc pc = .ok (.iaload, 1)) (k : Wq X Y K nL Q σ (pc + 1) lv (.inl (σ c a.toNat) :: st)) : Wq X Y K nL Q σ pc lv (.inl a :: .inr (.inr c) :: st) := by
  intro H locs ls hP hS hl
  obtain ⟨i1, i2⟩ := ofI_idx h0 h1 (hK c _ hc)
  have kk := k H locs ls hP hS hl
  exact va_iald h.1 h.2.1 h.2.2.2.2.2.2.2.1.1 hP c 0 (wsOf_at hc) rfl i1 hd (by rw [i2]; exact kk)
theorem q_zald (h : Ok X Y K cc nL own rm ret) {N : Nat} {z : List (Nat × Nat)} (hK : KOk K) (hc : K[c]? = some (1, N, z)) (h0 : 0 ≤ a) (h1 : a < N) (hd : decode cc pc = .ok (.baload, 1)) (k : Wq X Y K nL Q σ (pc + 1) lv (.inl (σ c a.toNat) :: st)) : Wq X Y K nL Q σ pc lv (.inl a :: .inr (.inr c) :: st) := by
  intro H locs ls hP hS hl
  obtain ⟨i1, i2⟩ := ofI_idx h0 h1 (hK c _ hc)
  have kk := k H locs ls hP hS hl
  exact va_zald h.1 h.2.1 h.2.2.2.2.2.2.2.1.1 hP c 1 (wsOf_at hc) rfl i1 hd (by rw [i2]; exact kk)
theorem q_lald (h : Ok X Y K cc nL own rm ret) {N : Nat} {z : List (Nat × Nat)} (hK : KOk K) (hc : K[c]? = some (2, N, z)) (h0 : 0 ≤ a) (h1 : a < N) (hd : decode cc pc = .ok (.laload, 1)) (k : Wq X Y K nL Q σ (pc + 1) lv (.inr (.inl (σ c a.toNat)) :: st)) : Wq X Y K nL Q σ pc lv (.inl a :: .inr (.inr c) :: st) := by
  intro H locs ls hP hS hl
  obtain ⟨i1, i2⟩ := ofI_idx h0 h1 (hK c _ hc)
  have kk := k H locs ls hP hS hl
  exact va_lald h.1 h.2.1 h.2.2.2.2.2.2.2.1.1 hP c 2 (wsOf_at hc) rfl i1 hd (by rw [i2]; exact kk)
theorem upd_up (f : Nat → Int) (i : Nat) (v : Int) : upd (fun j => Int32.ofInt (f j)) i (Int32.ofInt v) = fun j => Int32.ofInt (va_up f i v j) := by
  funext j
  by_cases hj : j = i
  · subst hj; simp [upd, va_up]
  · simp [upd, va_up, hj]
theorem updL_up (f : Nat → Int) (i : Nat) (v : Int) : vp_updL (fun j => Int64.ofInt (f j)) i (Int64.ofInt v) = fun j => Int64.ofInt (va_up f i v j) := by
  funext j
  by_cases hj : j = i
  · subst hj; simp [vp_updL, va_up]
  · simp [vp_updL, va_up, hj]
theorem q_iast (h : Ok X Y K cc nL own rm ret) {N : Nat} {z : List (Nat × Nat)} (hK : KOk K) (hc : K[c]? = some (0, N, z)) (h0 : 0 ≤ a) (h1 : a < N) (hd : decode cc pc = .ok (.iastore, 1)) (k : Wq X Y K nL Q (sset σ c a.toNat b) (pc + 1) lv st) : Wq X Y K nL Q σ pc lv (.inl b :: .inl a :: .inr (.inr c) :: st) := by
  intro H locs ls hP hS hl
  obtain ⟨i1, i2⟩ := ofI_idx h0 h1 (hK c _ hc)
  refine va_iast h.1 h.2.1 h.2.2.2.2.2.2.2.1.1 hP (h.2.2.2.2.2.2.2.2 σ) hS c 0 (wsOf_at hc) rfl i1 hd fun H1 locs1 q1 _ q3 => ?_
  rw [i2, upd_up] at q1
  exact k H1 locs1 ls (by rw [← show _ = wsOf K Y.2.1 Y.2.2.1 (sset σ c a.toNat b) from wsOf_set hc (va_up (σ c) a.toNat b)]; exact q1) q3 hl
theorem q_zast (h : Ok X Y K cc nL own rm ret) {N : Nat} {z : List (Nat × Nat)} (hK : KOk K) (hc : K[c]? = some (1, N, z)) (h0 : 0 ≤ a) (h1 : a < N) (hb : b = 0 ∨ b = 1) (hd : decode cc pc = .ok (.bastore, 1)) (k : Wq X Y K nL Q (sset σ c a.toNat b) (pc + 1) lv st) : Wq X Y K nL Q σ pc lv (.inl b :: .inl a :: .inr (.inr c) :: st) := by
  intro H locs ls hP hS hl
  obtain ⟨i1, i2⟩ := ofI_idx h0 h1 (hK c _ hc)
  refine va_zast h.1 h.2.1 h.2.2.2.2.2.2.2.1.1 hP (h.2.2.2.2.2.2.2.2 σ) hS c 1 (wsOf_at hc) rfl i1 hd fun H1 locs1 q1 _ q3 => ?_
  have hb2 : vp_nar .boolean (Int32.ofInt b) = Int32.ofInt b := by rcases hb with rfl | rfl <;> rfl
  rw [hb2, i2, upd_up] at q1
  exact k H1 locs1 ls (by rw [← show _ = wsOf K Y.2.1 Y.2.2.1 (sset σ c a.toNat b) from wsOf_set hc (va_up (σ c) a.toNat b)]; exact q1) q3 hl
theorem q_last (h : Ok X Y K cc nL own rm ret) {N : Nat} {z : List (Nat × Nat)} (hK : KOk K) (hc : K[c]? = some (2, N, z)) (h0 : 0 ≤ a) (h1 : a < N) (hd : decode cc pc = .ok (.lastore, 1)) (k : Wq X Y K nL Q (sset σ c a.toNat b) (pc + 1) lv st) : Wq X Y K nL Q σ pc lv (.inr (.inl b) :: .inl a :: .inr (.inr c) :: st) := by
  intro H locs ls hP hS hl
  obtain ⟨i1, i2⟩ := ofI_idx h0 h1 (hK c _ hc)
  refine va_last h.1 h.2.1 h.2.2.2.2.2.2.2.1.1 hP (h.2.2.2.2.2.2.2.2 σ) hS c 2 (wsOf_at hc) rfl i1 hd fun H1 locs1 q1 _ q3 => ?_
  rw [i2, updL_up] at q1
  exact k H1 locs1 ls (by rw [← show _ = wsOf K Y.2.1 Y.2.2.1 (sset σ c a.toNat b) from wsOf_set hc (va_up (σ c) a.toNat b)]; exact q1) q3 hl
theorem q_alenI (h : Ok X Y K cc nL own rm ret) {N : Nat} {z : List (Nat × Nat)} (hc : K[c]? = some (0, N, z)) (hd : decode cc pc = .ok (.arraylength, 1)) (k : Wq X Y K nL Q σ (pc + 1) lv (.inl (N : Int) :: st)) : Wq X Y K nL Q σ pc lv (.inr (.inr c) :: st) := fun H locs ls hP hS hl => va_alen (v := Int32.ofInt (N : Int)) h.1 h.2.1 h.2.2.2.2.2.2.2.1.1 hP c 0 (wsOf_at hc) rfl rfl hd (k H locs ls hP hS hl)
theorem q_alenL (h : Ok X Y K cc nL own rm ret) {N : Nat} {z : List (Nat × Nat)} (hc : K[c]? = some (2, N, z)) (hd : decode cc pc = .ok (.arraylength, 1)) (k : Wq X Y K nL Q σ (pc + 1) lv (.inl (N : Int) :: st)) : Wq X Y K nL Q σ pc lv (.inr (.inr c) :: st) := fun H locs ls hP hS hl => va_alen (v := Int32.ofInt (N : Int)) h.1 h.2.1 h.2.2.2.2.2.2.2.1.1 hP c 2 (wsOf_at hc) rfl rfl hd (k H locs ls hP hS hl)
end HROWS
