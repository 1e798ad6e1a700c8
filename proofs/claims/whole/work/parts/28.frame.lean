/-! ===== a contract of a part of the cells, said of all of them ===== -/
theorem met_mono {l : Launch} {y : MethodName} {S : Spec} {P P' : Array Value → State → Prop} {K : Program → Env → List Frame → State → Array Value → Prop} {Q Q' : Array Value → State → Outcome → State → Prop} (h : MetFree l y S P K Q) (hP : ∀ a s, P' a s → P a s) (hQ : ∀ a s o t, P' a s → Q a s o t → Q' a s o t) : MetFree l y S P' K Q' := by
  intro p e ha hc hk s m args below hf happ hP' hK
  obtain ⟨n, o, h1, h2, h3, h4⟩ := h p e ha hc hk s m args below hf happ (hP _ _ hP') hK
  exact ⟨n, o, h1, h2, h3, hQ _ _ _ _ hP' h4⟩
/-- the cells of a part: 72 of the class, 45 of the reference; beyond them nothing -/
def lim (off : Nat) : Nat := if off = 0 then 72 else 45
def ssub (σ : St) (off : Nat) : St := fun c => if c < lim off then σ (off + c) else fun _ => 0
def sput (σ : St) (off len : Nat) (u : St) : St := fun c => if off ≤ c ∧ c < off + len then u (c - off) else σ c
def shv (off : Nat) : AV → AV
  | .inr (.inr c) => .inr (.inr (off + c))
  | v => v
theorem mv_shv (ad : Nat → Nat) (off : Nat) (v : AV) : mv (fun c => ad (off + c)) v = mv ad (shv off v) := by
  rcases v with n | n | n <;> rfl
def Sub (K' K : List CK) (off : Nat) : Prop := K'.length ≤ lim off ∧ ∀ (c : Nat) (k' : CK), K'[c]? = some k' → ∃ k, K[off + c]? = some k ∧ ∀ (ac : Nat → ClassId) (ad : Nat → Nat) (f : Nat → Int), cellOf ac (fun c => ad (off + c)) f k' = cellOf ac ad f k
def Inj (K : List CK) (ad : Nat → Nat) : Prop := ∀ i j, i < K.length → j < K.length → ad i = ad j → i = j
def Ysub (Y : Cy) (off len : Nat) : Cy := (Y.1, Y.2.1, fun c => Y.2.2.1 (off + c), fun q => ∃ c, c < len ∧ q = Y.2.2.1 (off + c))
section FR
variable {K' K : List CK} {off : Nat} {Y : Cy} {σ : St}
theorem sub_len (h : Sub K' K off) {c : Nat} (hc : c < K'.length) : off + c < K.length := by
  obtain ⟨k, hk, -⟩ := h.2 c _ (List.getElem?_eq_getElem hc)
  exact (List.getElem?_eq_some_iff.mp hk).1
theorem P_sub (h : Sub K' K off) {H : Heap} {D : va_G} {ac : Nat → ClassId} {ad : Nat → Nat} (hP : va_P D vwCl (wsOf K ac ad σ) H) : va_P D vwCl (wsOf K' ac (fun c => ad (off + c)) (ssub σ off)) H := by
  intro c q hq
  simp only [wsOf, List.getElem?_mapIdx, Option.map_eq_some_iff] at hq
  obtain ⟨k', hk', rfl⟩ := hq
  have hlt : c < K'.length := (List.getElem?_eq_some_iff.mp hk').1
  obtain ⟨hl, hh⟩ := h
  obtain ⟨k, hk, e⟩ := hh c k' hk'
  have h2 := hP (off + c) _ (wsOf_at hk)
  have es : ssub σ off c = σ (off + c) := by unfold ssub; rw [if_pos (by omega)]
  rw [es, e]
  exact h2
theorem P_put (h : Sub K' K off) {H H0 : Heap} {D : va_G} {ac : Nat → ClassId} {ad : Nat → Nat} (hi : Inj K ad) {u : St} (hP : va_P D vwCl (wsOf K ac ad σ) H0) (hk : ∀ q : Nat, q < H0.size → ¬ (∃ c, c < K'.length ∧ q = ad (off + c)) → H[q]? = H0[q]?) (hu : va_P D vwCl (wsOf K' ac (fun c => ad (off + c)) u) H) : va_P D vwCl (wsOf K ac ad (sput σ off K'.length u)) H := by
  intro i q hq
  simp only [wsOf, List.getElem?_mapIdx, Option.map_eq_some_iff] at hq
  obtain ⟨k, hk1, rfl⟩ := hq
  have hil : i < K.length := (List.getElem?_eq_some_iff.mp hk1).1
  by_cases hin : off ≤ i ∧ i < off + K'.length
  · have hc : i - off < K'.length := by omega
    obtain ⟨k2, hk2, e⟩ := h.2 (i - off) _ (List.getElem?_eq_getElem hc)
    have ei : off + (i - off) = i := by omega
    rw [ei] at hk2
    have ek : k2 = k := Option.some.inj (hk2.symm.trans hk1)
    subst ek
    have h2 := hu (i - off) _ (wsOf_at (List.getElem?_eq_getElem hc))
    rw [e, ei] at h2
    have es : sput σ off K'.length u i = u (i - off) := by simp [sput, hin]
    rw [es]
    exact h2
  · have h2 := hP i _ (wsOf_at hk1)
    have es : sput σ off K'.length u i = σ i := by simp [sput, hin]
    rw [es]
    refine h2.kept (hk _ h2.lt ?_)
    rintro ⟨c, hc, hq⟩
    have := hi i (off + c) hil (sub_len h hc) hq
    omega
theorem Ysub_D (h : Sub K' K off) (hi : Inj K Y.2.2.1) (τ : St) : va_D (Ysub Y off K'.length).2.2.2 (wsOf K' (Ysub Y off K'.length).2.1 (Ysub Y off K'.length).2.2.1 τ) := by
  refine wsOf_D (fun i j hi' hj' e => ?_) (fun i hi' => ⟨i, hi', rfl⟩) τ
  have := hi (off + i) (off + j) (sub_len h hi') (sub_len h hj') e
  omega
theorem av_shv {av : List AV} : av.map (mv (Ysub Y off K'.length).2.2.1) = (av.map (shv off)).map (mv Y.2.2.1) := by
  rw [List.map_map]
  apply List.map_congr_left
  intro v _
  exact mv_shv Y.2.2.1 off v
theorem Kn_sub {U : State} (h : Kn Y U) : Kn (Ysub Y off K'.length) U := h
theorem Pcq_sub (hs : Sub K' K off) {av : List AV} {a : Array Value} {s : State} (h : Pcq Y K σ (av.map (shv off)) a s) : Pcq (Ysub Y off K'.length) K' (ssub σ off) av a s := by
  obtain ⟨h1, h2, h3⟩ := h
  exact ⟨by rw [h1, av_shv], P_sub hs h2, h3⟩
theorem fr_I (hs : Sub K' K off) (hi : Inj K Y.2.2.1) (hA : ∀ q, (Ysub Y off K'.length).2.2.2 q → Y.2.2.2 q) {l : Launch} {y : MethodName} {cc : ByteArray} {n : Nat} {ty : FieldType} {rm : Room} {av : List AV} {Q : St → Int → Prop} (con : ConI l y cc n ty rm (Ysub Y off K'.length) K' (ssub σ off) av Q) : ConI l y cc n ty rm Y K σ (av.map (shv off)) (fun σ' r => ∃ u, Q u r ∧ σ' = sput σ off K'.length u) := by
  unfold ConI Met at con ⊢
  refine met_mono con (fun a s h => Pcq_sub hs h) (fun a s o t hP' hQ => ?_)
  obtain ⟨⟨⟨r, u, ho, ⟨n, hr, hq⟩, hB⟩, hF⟩, L, hfe, hL⟩ := hQ
  refine ⟨⟨⟨r, sput σ off K'.length u, ho, ⟨n, hr, u, hq, rfl⟩, ?_⟩, hF.1, fun q h1 h2 => hF.2 q h1 (fun z => h2 (hA q z))⟩, L, hfe, fun q hq => hA _ (hL q hq)⟩
  exact P_put hs hi hP'.2.1 (fun q h1 h2 => hF.2 q h1 h2) hB
theorem fr_V (hs : Sub K' K off) (hi : Inj K Y.2.2.1) (hA : ∀ q, (Ysub Y off K'.length).2.2.2 q → Y.2.2.2 q) {l : Launch} {y : MethodName} {cc : ByteArray} {n : Nat} {rm : Room} {av : List AV} {Q : St → Prop} (con : ConV l y cc n rm (Ysub Y off K'.length) K' (ssub σ off) av Q) : ConV l y cc n rm Y K σ (av.map (shv off)) (fun σ' => ∃ u, Q u ∧ σ' = sput σ off K'.length u) := by
  unfold ConV Met at con ⊢
  refine met_mono con (fun a s h => Pcq_sub hs h) (fun a s o t hP' hQ => ?_)
  obtain ⟨⟨⟨u, ho, hq, hB⟩, hF⟩, L, hfe, hL⟩ := hQ
  refine ⟨⟨⟨sput σ off K'.length u, ho, ⟨u, hq, rfl⟩, ?_⟩, hF.1, fun q h1 h2 => hF.2 q h1 (fun z => h2 (hA q z))⟩, L, hfe, fun q hq => hA _ (hL q hq)⟩
  exact P_put hs hi hP'.2.1 (fun q h1 h2 => hF.2 q h1 h2) hB
theorem Kx_sub (hA : ∀ q, (Ysub Y off K'.length).2.2.2 q → Y.2.2.2 q) {U : State} (h : Kx Y U) : Kx (Ysub Y off K'.length) U := ⟨h.1, h.2.1, h.2.2.1, h.2.2.2.1.narrow hA, h.2.2.2.2.narrow hA⟩
theorem fr_X (hs : Sub K' K off) (hi : Inj K Y.2.2.1) (hA : ∀ q, (Ysub Y off K'.length).2.2.2 q → Y.2.2.2 q) {l : Launch} {y : MethodName} {cc : ByteArray} {n : Nat} {ret : Option FieldType} {rm : Room} {av : List AV} {Q : St → Int → Prop} {E : String → St → Prop} (con : Xon l y cc n ret rm (Ysub Y off K'.length) K' (ssub σ off) av (Qiq (Ysub Y off K'.length) K' Q) E) : Xon l y cc n ret rm Y K σ (av.map (shv off)) (Qiq Y K (fun σ' r => ∃ u, Q u r ∧ σ' = sput σ off K'.length u)) (fun e σ' => ∃ u, E e u ∧ σ' = sput σ off K'.length u) := by
  unfold Xon at con ⊢
  refine met_mono con (fun a s h => ?_) (fun a s o t hP' hQ => ?_)
  · obtain ⟨h1, h2, h3⟩ := h
    exact ⟨by rw [h1, av_shv], P_sub hs h2, Kx_sub hA h3⟩
  · rcases hQ with ⟨⟨⟨r, u, ho, ⟨n, hr, hq⟩, hB⟩, hF⟩, L, hfe, hL⟩ | ⟨q, ho, E9, ce, L, ⟨u, hE, hB, hF⟩, h2, h3, h4, h5, h6, hL⟩
    · refine Or.inl ⟨⟨⟨r, sput σ off K'.length u, ho, ⟨n, hr, u, hq, rfl⟩, ?_⟩, hF.1, fun q h1 h2 => hF.2 q h1 (fun z => h2 (hA q z))⟩, L, hfe, fun q hq => hA _ (hL q hq)⟩
      exact P_put hs hi hP'.2.1 (fun q h1 h2 => hF.2 q h1 h2) hB
    · refine Or.inr ⟨q, ho, E9, ce, L, ⟨sput σ off K'.length u, ⟨u, hE, rfl⟩, ?_, hF.1, fun q h1 h2 => hF.2 q h1 (fun z => h2 (hA q z))⟩, h2, h3, h4, h5, h6, fun q hq => hA _ (hL q hq)⟩
      exact P_put hs hi hP'.2.1 (fun q h1 h2 => hF.2 q h1 h2) hB
end FR
/-- all cells: the class's (0 to 71), the reference's (72 to 116), the law's own row (117) -/
def shk (off : Nat) (k : CK) : CK := (k.1, k.2.1, k.2.2.map (fun d => if d.1 = 1 then (1, off + d.2) else d))
def KW : List CK := KC ++ (KM.map (shk 72) ++ [(2, 1, [])])
theorem cell_shk {ac : Nat → ClassId} {ad : Nat → Nat} {f : Nat → Int} {off : Nat} {k : CK} (h : ∀ d ∈ k.2.2, d.1 < 2) : cellOf ac (fun c => ad (off + c)) f k = cellOf ac ad f (shk off k) := by
  obtain ⟨t, n, fds⟩ := k
  unfold cellOf shk
  dsimp only
  split
  · rfl
  · split
    · rfl
    · split
      · rfl
      · congr 2
        rw [List.mapIdx_eq_zipIdx_map, List.mapIdx_eq_zipIdx_map, List.zipIdx_map, List.map_map]
        apply List.map_congr_left
        intro q hq
        obtain ⟨d, j⟩ := q
        have hd : d.1 < 2 := h d (by
          have := List.mem_zipIdx hq
          obtain ⟨_, _, e⟩ := this
          rw [e]
          exact List.getElem_mem _)
        obtain ⟨d1, d2⟩ := d
        dsimp only at hd
        simp only [Function.comp, fval, Prod.map]
        by_cases h0 : d1 = 0
        · simp [h0]
        · have h1 : d1 = 1 := by omega
          simp [h1]
theorem sub_M : Sub KM KW 72 := by
  refine ⟨by decide, fun c k' h => ?_⟩
  refine ⟨shk 72 k', ?_, fun ac ad f => cell_shk ?_⟩
  · have hc : c < KM.length := (List.getElem?_eq_some_iff.mp h).1
    have hl : KC.length = 72 := by decide
    unfold KW
    rw [List.getElem?_append_right (by omega), List.getElem?_append_left (by rw [List.length_map]; omega), List.getElem?_map]
    rw [show 72 + c - KC.length = c by omega, h]
    rfl
  · have : ∀ k ∈ KM, ∀ d ∈ k.2.2, d.1 < 2 := by decide
    exact this k' (List.mem_of_getElem? h)
theorem sub_C : Sub KC KW 0 := by
  refine ⟨by decide, fun c k' h => ?_⟩
  refine ⟨k', ?_, fun ac ad f => ?_⟩
  · have hc : c < KC.length := (List.getElem?_eq_some_iff.mp h).1
    unfold KW
    rw [Nat.zero_add, List.getElem?_append_left hc, h]
  · congr 1
    funext c
    rw [Nat.zero_add]
theorem kW_ok : KOk KW := by
  intro c k h
  have h2 : ∀ k ∈ KW, k.2.1 < 2147483648 := by decide
  exact h2 k (List.mem_of_getElem? h)
theorem kW_0 : KW[0]? = some (3, 8, fdC_0) := rfl
theorem kW_72 : KW[72]? = some (shk 72 (3, 9, fdM_0)) := rfl
theorem kW_117 : KW[117]? = some (2, 1, []) := rfl
