/-! ===== pure layer: the two readers at the head of their loops ===== -/
/-- how many open blocks are first blocks of tests -/
def oc (m : St) : Nat → Nat
  | 0 => 0
  | d + 1 => oc m d + if m 15 (m 25 d).toNat = 2 ∧ m 8 (m 16 (m 25 d).toNat).toNat = m 25 d then 1 else 0
/-- while a test's first block is open, it has no second -/
def YR (m : St) (dp : Nat) : Prop := ∀ d, d < dp → m 15 (m 25 d).toNat = 2 → m 8 (m 16 (m 25 d).toNat).toNat = m 25 d → m 9 (m 16 (m 25 d).toNat).toNat = -1
def LH (T : Nat → Int) (n : Nat) (z : St) (D : Nat) (c : St) (a : Nat) (m : St) (am : Nat) (φ : Nat → Nat) (e : Nat → Int) (N S B nd ck ts tm dp : Nat) : Prop :=
  PS T n z m ∧ m 0 36 = (am : Int) ∧ m 0 37 = 1 ∧ am ≤ n ∧ sk T n am = sk T n a ∧ YY c m D N S B nd ck ts tm dp ∧ c 38 2 = (dp : Int) ∧ 0 < dp ∧ SY c m D φ e N S B nd ck ts tm dp ∧ ((∀ s, s < N → m 3 s = 3 ∨ m 3 s = 4 → m 8 s ≠ -1) ∧ YR m dp) ∧ B + oc m dp ≤ nd + ck + 2 * ts ∧ S + 2 ≤ a ∧ 2 * tm + 2 ≤ a
def LHx (T : Nat → Int) (n : Nat) (z : St) (D : Nat) (c : St) (a : Nat) (m : St) (am : Nat) : Prop := ∃ φ e N S B nd ck ts tm dp, LH T n z D c a m am φ e N S B nd ck ts tm dp
def RCH (b : Int) (z m : St) (am : Nat) : Prop := ∀ Qm : St → Int → Prop, (∀ fu, 500 ≤ fu + am → f_X10_readsAll_L99 Qm fu m 1) → f_X10_readsAll b z Qm
def INV (T : Nat → Int) (n D : Nat) (c : St) (a : Nat) : Prop := ∀ b z, SRC T n b z → ∃ m am, LHx T n z D c a m am ∧ RCH b z m am
/-- what the class's reading leaves alone -/
def FC (D : Nat) (c0 c : St) : Prop := ∀ q, (q < D ∨ D + 17 < q) → (q < 38 ∨ 43 < q) → c q = c0 q
def AW (T : Nat → Int) (n : Nat) (c : St) (a : Nat) : Prop := c 38 1 = 3 ∨ (c 38 1 = 2 ∧ ch T n (sk T n a) ≠ 35) ∨ (c 38 1 = 4 ∧ ch T n (sk T n a) ≠ 123)
/-- the outcome of a reading -/
def PR (R : St → St → Prop) (T : Nat → Int) (n : Nat) (c : St) (r : Int) : Prop := (-1 ≤ r ∧ r ≤ 400) ∧ ∀ (b : Int) (z : St) (Qm : St → Int → Prop), SRC T n b z → (r = -1 → ∀ m, PS T n z m → R c m → Qm m 1) → (r ≠ -1 → ∀ m, PS T n z m → m 0 36 = r → Qm m 0) → f_X10_readsAll b z Qm
/-- states of the class that differ in the reader's own numbers -/
def CX (c c' : St) : Prop := (∀ q, q ≠ 38 → c' q = c q) ∧ c' 38 0 = c 38 0 ∧ c' 38 2 = c 38 2
section HEAD
variable {T : Nat → Int} {n D a am : Nat} {z c c' m m' : St} {φ : Nat → Nat} {e : Nat → Int} {N S B nd ck ts tm dp b : Nat} {R : St → St → Prop} {Q : St → Int → Prop}
theorem CX_ce (h : CE c c') : CX c c' := ⟨h.1, h.2 0 (by omega), h.2 2 (by omega)⟩
theorem CX_rfl : CX c c := ⟨fun _ _ => rfl, rfl, rfl⟩
theorem CX_tr {c1 c2 c3 : St} (h1 : CX c1 c2) (h2 : CX c2 c3) : CX c1 c3 := ⟨fun q hq => (h2.1 q hq).trans (h1.1 q hq), h2.2.1.trans h1.2.1, h2.2.2.trans h1.2.2⟩
theorem CX_set {j : Nat} {v : Int} (h0 : j ≠ 0) (h2 : j ≠ 2) : CX c (sset c 38 j v) := ⟨fun q hq => sset_row _ _ _ hq, sset_place _ _ _ (Ne.symm h0), sset_place _ _ _ (Ne.symm h2)⟩
theorem CQ_cx (hD : D = 2 ∨ D = 20) (h : CX c c') : CQ c c' D := ⟨fun q hq => h.1 q (by omega), by rw [h.1 D (by omega)]⟩
theorem LH_cx (hD : D = 2 ∨ D = 20) (h : CX c c') (hL : LH T n z D c a m am φ e N S B nd ck ts tm dp) : LH T n z D c' a m am φ e N S B nd ck ts tm dp := by
  obtain ⟨h1, h2, h3, h4, h5, h6, h7, h8, h9, h10, h11, h12, h13⟩ := hL
  refine ⟨h1, h2, h3, h4, h5, ?_, by rw [h.2.2]; exact h7, h8, SY_rq RQ_rfl (CQ_cx hD h) h9, h10, h11, h12, h13⟩
  unfold YY at *
  rw [h.1 D (by omega), h.1 (D + 9) (by omega), h.2.1]
  exact h6
theorem FC_cx {c0 : St} (h : CX c c') (hF : FC D c0 c) : FC D c0 c' := fun q h1 h2 => (h.1 q (by omega)).trans (hF q h1 h2)
theorem CT_cx (h : CX c c') (hT : CT T n c) : CT T n c' := CT_row hT (h.1 1 (by decide))
theorem INV_cx (hD : D = 2 ∨ D = 20) (h : CX c c') (hI : INV T n D c a) : INV T n D c' a := by
  intro b z hs
  obtain ⟨m, am, ⟨φ, e, N, S, B, nd, ck, ts, tm, dp, hL⟩, hR⟩ := hI b z hs
  exact ⟨m, am, ⟨φ, e, N, S, B, nd, ck, ts, tm, dp, LH_cx hD h hL⟩, hR⟩
theorem oc_cong : ∀ k, (∀ d, d < k → ((m' 15 (m' 25 d).toNat = 2 ∧ m' 8 (m' 16 (m' 25 d).toNat).toNat = m' 25 d) ↔ (m 15 (m 25 d).toNat = 2 ∧ m 8 (m 16 (m 25 d).toNat).toNat = m 25 d))) → oc m' k = oc m k := by
  intro k
  induction k with
  | zero => intro _; rfl
  | succ k ih =>
    intro h
    show oc m' k + (if m' 15 (m' 25 k).toNat = 2 ∧ m' 8 (m' 16 (m' 25 k).toNat).toNat = m' 25 k then 1 else 0) = oc m k + (if m 15 (m 25 k).toNat = 2 ∧ m 8 (m 16 (m 25 k).toNat).toNat = m 25 k then 1 else 0)
    rw [ih (fun d hd => h d (by omega))]
    by_cases g : m 15 (m 25 k).toNat = 2 ∧ m 8 (m 16 (m 25 k).toNat).toNat = m 25 k
    · rw [if_pos g, if_pos ((h k (by omega)).2 g)]
    · rw [if_neg g, if_neg (fun u => g ((h k (by omega)).1 u))]
theorem oc_rq (h : RQ m m') {k : Nat} : oc m' k = oc m k := by
  refine oc_cong k (fun d _ => ?_)
  rw [h 15 (by decide) (by decide), h 25 (by decide) (by decide), h 8 (by decide) (by decide), h 16 (by decide) (by decide)]
theorem oc_mono {k j : Nat} (h : k ≤ j) : oc m k ≤ oc m j := by
  induction h with
  | refl => exact Nat.le_refl _
  | step _ ih => exact Nat.le_trans ih (Nat.le_add_right _ _)
theorem YR_rq (h : RQ m m') (hY : YR m dp) : YR m' dp := by
  unfold YR
  rw [h 15 (by decide) (by decide), h 25 (by decide) (by decide), h 8 (by decide) (by decide), h 9 (by decide) (by decide), h 16 (by decide) (by decide)]
  exact hY
/-- to a place further on, over blanks -/
theorem LH_at (hs : sk T n a = a) (ha : a ≤ n) (hL : LH T n z D c a m am φ e N S B nd ck ts tm dp) : LH T n z D c a (sset m 0 36 (a : Int)) a φ e N S B nd ck ts tm dp := by
  obtain ⟨h1, h2, h3, h4, h5, h6, h7, h8, h9, h10, h11, h12, h13⟩ := hL
  refine ⟨PS_at h1 _, sset_self _ _ _ _, by rw [at_37]; exact h3, ha, rfl, ?_, h7, h8, SY_rq RQ_0 CQ_rfl h9, ?_, by rw [oc_rq RQ_0]; exact h11, h12, h13⟩
  · unfold YY at *
    rw [at_x (by decide), at_x (by decide), at_x (by decide), at_x (by decide), at_x (by decide), at_x (by decide), at_x (by decide)]
    exact h6
  · refine ⟨?_, YR_rq RQ_0 h10.2⟩
    rw [sset_row (c' := 3) _ _ _ (by decide), sset_row (c' := 8) _ _ _ (by decide)]; exact h10.1
theorem YP_le (h : YP φ N S) : N ≤ S := by
  have key : ∀ s, s < N → s ≤ φ s := by
    intro s
    induction s with
    | zero => intro _; exact Nat.zero_le _
    | succ s ih => intro hs; have := ih (by omega); have := h.2 s (s + 1) (by omega) hs; omega
  cases N with
  | zero => exact Nat.zero_le _
  | succ N => have := key N (by omega); have := h.1 N (by omega); omega
theorem LH_n (hL : LH T n z D c a m am φ e N S B nd ck ts tm dp) : n ≤ 400 ∧ N ≤ S ∧ 0 < nd ∧ B ≤ 60 ∧ dp ≤ 6 ∧ nd ≤ 12 ∧ ck ≤ 16 ∧ ts ≤ 16 := by
  obtain ⟨h1, h2, h3, h4, h5, h6, h7, h8, h9, h10, h11, h12, h13⟩ := hL
  obtain ⟨-, -, -, -, -, -, -, -, -, -, -, -, -, u1, u2, u3⟩ := h6
  obtain ⟨hP, -, -, -, -, -, -, hS, -⟩ := h9
  exact ⟨h1.1.1, YP_le hP, (hS.2.2.2.1 h8).2.1, by omega, hS.1, u3, u1, u2⟩
theorem LH_cur (hL : LH T n z D c a m am φ e N S B nd ck ts tm dp) : ∃ b : Nat, m 25 (dp - 1) = (b : Int) ∧ b < B ∧ m 25 ((m 0 39) - 1).toNat = (b : Int) := by
  obtain ⟨h1, h2, h3, h4, h5, h6, h7, h8, h9, h10, h11, h12, h13⟩ := hL
  obtain ⟨-, -, -, -, -, -, g39, -⟩ := h6
  obtain ⟨-, -, -, -, -, -, -, hS, -⟩ := h9
  obtain ⟨q1, q2, -⟩ := hS.2.1 (dp - 1) (by omega)
  refine ⟨(m 25 (dp - 1)).toNat, by omega, by omega, ?_⟩
  rw [g39, show ((dp : Int) - 1).toNat = dp - 1 by omega]
  omega
theorem LH_MB (ha : a ≤ n) (hL : LH T n z D c a m am φ e N S B nd ck ts tm dp) : MB m := by
  obtain ⟨n1, n2, n3, n4, n5, -⟩ := LH_n hL
  obtain ⟨b, b1, b2, b3⟩ := LH_cur hL
  obtain ⟨h1, h2, h3, h4, h5, h6, h7, h8, h9, h10, h11, h12, h13⟩ := hL
  obtain ⟨g15, -, -, -, -, -, g39, -⟩ := h6
  obtain ⟨-, -, -, hC, -⟩ := h9
  unfold MB
  rw [b3, g15, g39, Int.toNat_natCast]
  have := SY_bf hC b2
  refine ⟨by omega, by omega, by omega, by omega, by omega, by omega, by omega, by omega⟩
theorem LH_CB (hD : D = 2 ∨ D = 20) (ha : a ≤ n) (hL : LH T n z D c a m am φ e N S B nd ck ts tm dp) : CB c D ∧ (2 ≤ dp → 0 ≤ c 40 (dp - 1)) := by
  obtain ⟨n1, n2, n3, n4, n5, n6, -⟩ := LH_n hL
  obtain ⟨b, b1, b2, b3⟩ := LH_cur hL
  obtain ⟨h1, h2, h3, h4, h5, h6, h7, h8, h9, h10, h11, h12, h13⟩ := hL
  obtain ⟨-, -, -, -, -, -, g39, gS, gt, gn, -, -, g0, -⟩ := h6
  obtain ⟨hP, -, -, hC, hYD, -, hYF, hS, -, -, -, hYL, hYK, -⟩ := h9
  have hO := SY_own h8 b1 b2 hYD hYF hS hYL hYK
  have hor := OWN_r hP hO
  have lr := SY_lr hP (SY_bf hC b2) (SY_lat h8 b1 hYL)
  unfold CB
  rw [h7, gS, gn, g0, Int.toNat_natCast, show ((dp : Int) - 1).toNat = dp - 1 by omega]
  refine ⟨⟨rfl, by omega, by omega, by omega, by omega, by omega, by omega, fun g => ?_, by omega, by omega, fun g => inR_01 (by have i41 := hYL.2.1 (dp - 2) (by omega); rw [show dp - 2 + 2 = dp by omega] at i41; exact i41)⟩, fun g => (hor g).1⟩
  have h2 : 2 ≤ dp := by omega
  refine ⟨(hor h2).1, (hor h2).2, ?_⟩
  rcases hO with ⟨o1, -⟩ | ⟨o1, o, o2, o3, o4, o5⟩
  · omega
  · rw [o3, Int.toNat_natCast]
    rcases o4 with ⟨-, -, -, -, v5⟩ | ⟨-, -, -, -, -, v6⟩
    · rw [v5]; exact ⟨by decide, by decide⟩
    · rw [v6]; exact ⟨by decide, by decide⟩
/-- the class faults, and so does the reference -/
theorem PR_fault {r : Nat} (hr : r ≤ 400) (hI : INV T n D c a) (h : ∀ z m am, LHx T n z D c a m am → ∀ (Qm : St → Int → Prop) fu, 500 ≤ fu + am → (∀ m', PS T n z m' → m' 0 36 = (r : Int) → Qm m' 0) → f_X10_readsAll_L99 Qm fu m 1) : PR R T n c' (r : Int) := by
  refine ⟨⟨by omega, by omega⟩, ?_⟩
  intro b z Qm hs _ h2
  obtain ⟨m, am, hL, hR⟩ := hI b z hs
  exact hR Qm (fun fu hf => h z m am hL Qm fu hf (h2 (by omega)))
/-- both go on -/
theorem INV_step {a' : Nat} (hI : INV T n D c a) (h : ∀ z m am, LHx T n z D c a m am → ∃ m' am', LHx T n z D c' a' m' am' ∧ ∀ (Qm : St → Int → Prop) fu, 500 ≤ fu + am → (∀ fu', 500 ≤ fu' + am' → f_X10_readsAll_L99 Qm fu' m' 1) → f_X10_readsAll_L99 Qm fu m 1) : INV T n D c' a' := by
  intro b z hs
  obtain ⟨m, am, hL, hR⟩ := hI b z hs
  obtain ⟨m', am', hL', h'⟩ := h z m am hL
  exact ⟨m', am', hL', fun Qm hq => hR Qm (fun fu hf => h' Qm fu hf hq)⟩
/-- the reference's loop at a statement -/
theorem m_stmt {Qm : St → Int → Prop} {fu : Nat} (hs : sk T n a = a) (ha : a < n) (hL : LH T n z D c a m am φ e N S B nd ck ts tm dp) (hT1 : T a ≠ 125) (hT2 : T a ≠ 61 ∨ dp ≠ 1) (h : f_X10_readsStatement (T a) (sset m 0 36 (a : Int)) (KA Qm (fu + 1))) : f_X10_readsAll_L99 Qm (fu + 2) m 1 := by
  obtain ⟨h1, h2, h3, h4, h5, h6, h7, h8, h9, h10, h11, h12, h13⟩ := hL
  obtain ⟨-, -, -, -, -, -, g39, -⟩ := h6
  have hdp := h9.2.2.2.2.2.2.2.1.1
  rw [hs] at h5
  refine m_head h1 h4 h2 h3 (by rw [g39]; exact ⟨by omega, by omega⟩) (fun g => by omega) (fun g => by omega) (fun _ g1 g2 => ?_) (fun _ g => ?_) (fun _ _ _ => by rw [h5]; exact h)
  · rw [h5] at g1; rw [g39] at g2; omega
  · rw [h5] at g; exact absurd g hT1
theorem m_close {Qm : St → Int → Prop} {fu : Nat} (hs : sk T n a = a) (ha : a < n) (hL : LH T n z D c a m am φ e N S B nd ck ts tm dp) (hT1 : T a = 125) (h : f_X10_closes (sset m 0 36 (a : Int)) (KA Qm (fu + 1))) : f_X10_readsAll_L99 Qm (fu + 2) m 1 := by
  obtain ⟨h1, h2, h3, h4, h5, h6, h7, h8, h9, h10, h11, h12, h13⟩ := hL
  obtain ⟨-, -, -, -, -, -, g39, -⟩ := h6
  have hdp := h9.2.2.2.2.2.2.2.1.1
  rw [hs] at h5
  refine m_head h1 h4 h2 h3 (by rw [g39]; exact ⟨by omega, by omega⟩) (fun g => by omega) (fun g => by omega) (fun _ g1 g2 => ?_) (fun _ g => by rw [h5]; exact h) (fun _ g _ => ?_)
  · rw [h5] at g1; omega
  · rw [h5] at g; exact absurd hT1 g
theorem m_node {Qm : St → Int → Prop} {fu : Nat} (hs : sk T n a = a) (ha : a < n) (hL : LH T n z D c a m am φ e N S B nd ck ts tm dp) (hT1 : T a = 61) (hd : dp = 1) (h : f_X10_readsNode (sset m 0 36 (a : Int)) (KA Qm (fu + 1))) : f_X10_readsAll_L99 Qm (fu + 2) m 1 := by
  obtain ⟨h1, h2, h3, h4, h5, h6, h7, h8, h9, h10, h11, h12, h13⟩ := hL
  obtain ⟨-, -, -, -, -, -, g39, -⟩ := h6
  have hdp := h9.2.2.2.2.2.2.2.1.1
  rw [hs] at h5
  refine m_head h1 h4 h2 h3 (by rw [g39]; exact ⟨by omega, by omega⟩) (fun g => by omega) (fun g => by omega) (fun _ g1 g2 => by rw [h5]; exact h) (fun _ g => ?_) (fun _ _ g => ?_)
  · rw [h5] at g; omega
  · rw [h5] at g; rw [g39] at g; omega
/-- over blanks to the next byte, or to the end -/
theorem c_next {p : Nat} (hT : CT T n c) (hp : p ≤ n) (h3 : c 38 3 = (p : Int)) (hend : sk T n p = n → ∀ c3, CE c c3 → c3 38 3 = (n : Int) → f_X6_read_J100 Q c3 (n : Int))
    (htok : sk T n p < n → ∀ c3, CE c c3 → c3 38 3 = ((sk T n p : Nat) : Int) → c3 38 4 = 1 → c3 38 5 = ((dg T n (sk T n p) : Nat) : Int) → c3 38 6 = nm T n (sk T n p) → ∀ K : St → Int → Prop, (∀ τ r, KT Q n (sk T n p) τ r → K τ r) → f_X6_takes (T (sk T n p)) c3 K) : CLB Q n c p := by
  have hle := sk_le (T := T) hp
  refine c_skip _ p c rfl hp h3 hT (fun c1 hc1 h31 => ?_)
  by_cases g : sk T n p < n
  · exact c_tok (CT_ce hT hc1) g h31 (sk_nb hp g) (fun c2 hc2 a1 a2 a3 a4 K hK => htok g c2 (CE_tr hc1 hc2) a1 a2 a3 a4 K hK)
  · have e1 : sk T n p = n := by omega
    rw [e1] at h31 ⊢
    exact c_end hT.1 h31 (hend e1 c1 hc1 h31)
theorem j100_no {v : Int} (h2 : inR (c 38 2)) (h1 : inR (c 38 1)) (hk : c 38 1 ≠ 2 ∧ c 38 1 ≠ 3 ∧ c 38 1 ≠ 4) (hQ : Q c v) : f_X6_read_J100 Q c v := by
  unfold f_X6_read_J100 f_X6_canEnd
  have no : inR 0 ∧ ((¬ (0 : Int) = 0 → isS ((c 38 0).toNat) ∧ f_X6_add 11 ((c ((c 38 0).toNat) 10) - 1) 0 c (fun σ2 r2 => f_X6_linkAll σ2 (fun σ3 r3 => Q σ3 r3))) ∧ ((0 : Int) = 0 → Q c v)) := ⟨⟨by decide, by decide⟩, fun g => absurd rfl g, fun _ => hQ⟩
  exact ⟨h2, fun _ => no, fun _ => ⟨h1, fun g => absurd g hk.1, fun _ => ⟨h1, fun g => absurd g hk.2.1, fun _ => ⟨h1, fun _ => no, fun g => absurd g hk.2.2⟩⟩⟩⟩
theorem FC_add {c0 : St} {w x y : Int} (hD : D = 2 ∨ D = 20) (hF : FC D c0 c) : FC D c0 (cAdd c D w x y) := by
  intro q h1 h2
  rw [cAdd_row hD (by omega) (by omega) (by omega) (by omega)]
  exact hF q h1 h2
theorem CT_add {w x y : Int} (hD : D = 2 ∨ D = 20) (hT : CT T n c) : CT T n (cAdd c D w x y) := CT_row hT (cAdd_row hD (by omega) (by omega) (by omega) (by omega))
end HEAD
