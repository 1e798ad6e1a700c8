/-! ===== pure layer: tests, choices, ways, endings are executed by both ===== -/
section STEPS2
variable {D P s N S B nd ck ts tm H : Nat} {c m : St} {φ : Nat → Nat} {e : Nat → Int}
theorem PW_same {m1 : St} (hw : PW c m P D nd ck H) (hr : ∀ q, q ≠ 0 → m1 q = m q) (h44 : m1 0 44 = m 0 44) : PW c m1 P D nd ck H := by
  unfold PW PWx at *
  rw [hr 26 (by decide), hr 29 (by decide), hr 30 (by decide), h44]; exact hw
theorem S_same {m1 : St} {x1 : Int} (hw : PW c m P D nd ck H) (hX : BX m) (hr : ∀ q, q ≠ 0 → m1 q = m q) (h0 : ∀ i, i ≠ 48 → i ≠ 49 → m1 0 i = m 0 i) (hat : AT c m D φ e N B (m1 0 48) (m1 0 49) x1) (hg : GS m (m 0 49).toNat → GS m (m1 0 49).toNat)
    (hc : ∀ Q : St → Int → Prop, Q c x1 → f_X5_execute P ((φ s : Nat) : Int) (c (D + 1) (φ s)) c Q) (hm : ∀ Q : St → Int → Prop, Q m1 1 → f_X10_executes m Q) : STP c m P D φ e N B nd ck H s := by
  have h44 := h0 44 (by decide) (by decide)
  refine ⟨c, m1, x1, 1, FRP_refl, ⟨fun q a b d f g => hr q a, h0, fun _ => ⟨hr 29 (by decide), hr 30 (by decide)⟩, hr 31 (by decide)⟩, PW_same hw hr h44, BX_same hX h44 (hr 29 (by decide)) (hr 30 (by decide)) (hr 31 (by decide)), ?_, hc, hm, Or.inl ⟨rfl, hat, hg⟩⟩
  rw [hr 26 (by decide)]; omega
theorem j159_no {σ : St} {Q : St → Int → Prop} (h : Q σ 1) : f_X10_executes_J159 Q σ (-1) := by
  unfold f_X10_executes_J159
  exact ⟨⟨by decide, by decide⟩, fun _ => h, fun g => absurd rfl g⟩
theorem j159_go {σ : St} {Q : St → Int → Prop} {b : Int} (h1 : 0 ≤ b) (h2 : b < 64) (h : Q (sset (sset σ 0 49 b) 0 48 (σ 17 b.toNat)) 1) : f_X10_executes_J159 Q σ b := by
  unfold f_X10_executes_J159
  refine ⟨⟨by omega, by omega⟩, fun g => by omega, fun _ σ1 e1 => ⟨h1, h2, fun σ2 e2 => ?_⟩⟩
  have a : σ1 17 b.toNat = σ 17 b.toNat := by rw [e1, sset_cell _ _ _ _ (by decide)]
  rw [a, e1] at e2
  rw [e2]; exact h
/-- a test -/
theorem S_test (hP : isP P) (hD : D = 2 ∨ D = 20) (h : SRx D c m φ e N S B nd ck ts tm) (hw : PW c m P D nd ck H) (hX : BX m) (hs : s < N) (h48 : m 0 48 = (s : Int)) (h49 : m 0 49 = m 7 s) (hk : m 3 s = 3) : STP c m P D φ e N B nd ck H s := by
  have h' := h
  obtain ⟨⟨-, -, -, -, -, -, -, -, -, -, -, -, -, -, -, nS, nB, -⟩, ⟨hYP, hYA, -⟩, -, -, -, -, -, ⟨hYK, -⟩, -⟩ := h'
  have hφ := hYP.1 s hs
  have hge := phi_ge hYP s hs
  have w0 := hw.1.1
  have kk : c (D + 1) (φ s) = 6 := by
    rcases hYK s hs with ⟨u1, -⟩ | ⟨u1, -⟩ | ⟨u1, -⟩ | ⟨u1, u2, -⟩ | ⟨u1, -⟩ | ⟨u1, -⟩ | ⟨u1, -⟩ | ⟨u1, -⟩
    · omega
    · omega
    · omega
    · exact u2
    all_goals omega
  obtain ⟨b, hcb, hmb⟩ := cond_both hP hD h hs hw.1 hw.2.1
  have rr : ∀ q, q ≠ 0 → sset m 0 48 (m 6 s) q = m q := fun q hq => sset_row _ _ _ hq
  have hsg : (m 7 s).toNat = (m 0 49).toNat := by rw [h49]
  cases b with
  | true =>
    obtain ⟨at1, at2, at3⟩ := AT_first h hs hk
    have hb1 := at1.1
    have hb2 := at1.2.1
    refine S_same (m1 := sset (sset (sset m 0 48 (m 6 s)) 0 49 (m 8 s)) 0 48 (m 17 (m 8 s).toNat)) (x1 := c (D + 5) (φ s)) hw hX (fun q hq => by rw [sset_row _ _ _ hq, sset_row _ _ _ hq, rr q hq]) (fun i a b => by rw [sset_place _ _ _ a, sset_place _ _ _ b, sset_place _ _ _ a]) ?_ (fun g => ?_) (fun Q hQ => ?_) (fun Q hQ => ?_)
    · rw [sset_self, sset_place _ _ _ (by decide), sset_self]; exact at1
    · rw [sset_place _ _ _ (by decide), sset_self]
      exact GS_test at2 at3 (by rw [hsg]; exact g)
    · refine t_ex6 hP hD w0 (by omega) kk (hcb _ ?_)
      rw [w0, Int.toNat_natCast]
      exact ⟨⟨by decide, by decide⟩, fun g => absurd g (by decide), fun _ => ⟨hD, by omega, by omega, hQ⟩⟩
    · refine r_ex3 h48 (by omega) hk (hmb _ _ rr ?_)
      refine ⟨⟨by decide, by decide⟩, fun g => absurd g (by decide), fun _ => ⟨by omega, by omega, ?_⟩⟩
      rw [rr 8 (by decide)]
      refine j159_go hb1 (by omega) ?_
      rw [rr 17 (by decide)]; exact hQ
  | false =>
    by_cases g9 : m 9 s = -1
    · have hat := AT_next h hs
      rw [← AT_nosecond h hs hk g9] at hat
      refine S_same (m1 := sset m 0 48 (m 6 s)) (x1 := c (D + 6) (φ s)) hw hX rr (fun i a b => by rw [sset_place _ _ _ a]) ?_ (fun g => ?_) (fun Q hQ => ?_) (fun Q hQ => ?_)
      · rw [sset_self, sset_place _ _ _ (by decide), h49]; exact hat
      · rw [sset_place _ _ _ (by decide)]; exact g
      · refine t_ex6 hP hD w0 (by omega) kk (hcb _ ?_)
        rw [w0, Int.toNat_natCast]
        exact ⟨⟨by decide, by decide⟩, fun _ => ⟨hD, by omega, by omega, hQ⟩, fun g => absurd rfl g⟩
      · refine r_ex3 h48 (by omega) hk (hmb _ _ rr ?_)
        refine ⟨⟨by decide, by decide⟩, fun _ => ⟨by omega, by omega, ?_⟩, fun g => absurd rfl g⟩
        rw [rr 9 (by decide), g9]
        exact j159_no hQ
    · obtain ⟨at1, at2, at3⟩ := AT_second h hs hk g9
      have hb1 := at1.1
      have hb2 := at1.2.1
      refine S_same (m1 := sset (sset (sset m 0 48 (m 6 s)) 0 49 (m 9 s)) 0 48 (m 17 (m 9 s).toNat)) (x1 := c (D + 6) (φ s)) hw hX (fun q hq => by rw [sset_row _ _ _ hq, sset_row _ _ _ hq, rr q hq]) (fun i a b => by rw [sset_place _ _ _ a, sset_place _ _ _ b, sset_place _ _ _ a]) ?_ (fun g => ?_) (fun Q hQ => ?_) (fun Q hQ => ?_)
      · rw [sset_self, sset_place _ _ _ (by decide), sset_self]; exact at1
      · rw [sset_place _ _ _ (by decide), sset_self]
        exact GS_test at2 at3 (by rw [hsg]; exact g)
      · refine t_ex6 hP hD w0 (by omega) kk (hcb _ ?_)
        rw [w0, Int.toNat_natCast]
        exact ⟨⟨by decide, by decide⟩, fun _ => ⟨hD, by omega, by omega, hQ⟩, fun g => absurd rfl g⟩
      · refine r_ex3 h48 (by omega) hk (hmb _ _ rr ?_)
        refine ⟨⟨by decide, by decide⟩, fun _ => ⟨by omega, by omega, ?_⟩, fun g => absurd rfl g⟩
        rw [rr 9 (by decide)]
        refine j159_go hb1 (by omega) ?_
        rw [rr 17 (by decide)]; exact hQ
/-- a choice is offered, or not -/
theorem S_choice (hP : isP P) (hD : D = 2 ∨ D = 20) (h : SRx D c m φ e N S B nd ck ts tm) (hH : HM c D ck H) (hw : PW c m P D nd ck H) (hX : BX m) (hs : s < N) (h48 : m 0 48 = (s : Int)) (h49 : m 0 49 = m 7 s) (hk : m 3 s = 4) : STP c m P D φ e N B nd ck H s := by
  have h' := h
  obtain ⟨⟨-, -, -, -, -, -, -, -, -, -, -, -, nd12, ck16, -, nS, nB, -⟩, ⟨hYP, hYA, -, -, hYD, hYE, -⟩, -, -, -, -, -, ⟨hYK, -⟩, -, -, hYH, hYQ, -⟩ := h'
  have hφ := hYP.1 s hs
  have hge := phi_ge hYP s hs
  have a7 := hYA s hs
  have d7 := hYD.1 (m 7 s).toNat (by omega)
  obtain ⟨e1, e2, e3, -⟩ := (hYE s hs).2 hk
  have hw' := hw
  obtain ⟨⟨w0, w1, w3, w4, w5, w6, w8, -⟩, ⟨-, -, -, -, -, -, -, -, -, -, -, -, v13, v14, -⟩, ⟨T, t1, t2, t3⟩, -⟩ := hw'
  have kk : c (D + 1) (φ s) = 7 ∧ c (D + 2) (φ s) = m 4 s := by
    rcases hYK s hs with ⟨u1, -⟩ | ⟨u1, -⟩ | ⟨u1, -⟩ | ⟨u1, -⟩ | ⟨u1, u2, u3, -⟩ | ⟨u1, -⟩ | ⟨u1, -⟩ | ⟨u1, -⟩
    · omega
    · omega
    · omega
    · omega
    · exact ⟨u2, u3⟩
    all_goals omega
  obtain ⟨k1, k2⟩ := kk
  obtain ⟨k, hk4⟩ : ∃ k : Nat, m 4 s = (k : Int) := ⟨(m 4 s).toNat, by omega⟩
  have hkc : k < ck := by omega
  obtain ⟨hH1, hh, hh1, hh2, hh3⟩ := hH
  obtain ⟨hh', y1, y2, y3⟩ := hYH
  have ehh : hh' = hh := by rw [hh1] at y1; omega
  subst ehh
  have qk := (hYQ k hkc).2
  rw [show m 24 k = (s : Int) by rw [← e3, hk4, Int.toNat_natCast], Int.toNat_natCast] at qk
  have hb := hh3 k hkc
  rw [qk] at hb
  have y := y3 (m 19 (m 7 s).toNat).toNat (by omega)
  have hTH : T &&& H < 2 ^ 16 := Nat.and_lt_two_pow T hH1
  have hTH2 : (T &&& H) < 2147483648 := by
    have : (2 : Nat) ^ 16 = 65536 := rfl
    omega
  have bT := bit_nat (x := T) (k := k) (by omega) (by omega)
  have bTH := bit_nat (x := T &&& H) (k := k) hTH2 (by omega)
  have tb : (T &&& H).testBit k = (T.testBit k && H.testBit k) := Nat.testBit_and ..
  have hpow : 2 ^ k < 2 ^ ck := Nat.pow_lt_pow_right (by decide) hkc
  have hpow2 : 2 ^ ck ≤ 2 ^ 16 := Nat.pow_le_pow_right (by decide) ck16
  have hpow3 : (2 : Nat) ^ 16 = 65536 := rfl
  obtain ⟨O, hO⟩ : ∃ O : Nat, m 26 9 = (O : Int) := ⟨(m 26 9).toNat, by omega⟩
  have hOr : O ||| 2 ^ k < 2 ^ ck := Nat.or_lt_two_pow (by omega) hpow
  have hior : ior32 (m 26 9) (ishl32 1 (m 4 s)) = ((O ||| 2 ^ k : Nat) : Int) := by rw [hO, hk4, ishl_1 (by omega), ior_nat (by omega) (by omega)]
  obtain ⟨b, hcb, hmb⟩ := cond_both hP hD h hs hw.1 hw.2.1
  have rr : ∀ q, q ≠ 0 → sset m 0 48 (m 6 s) q = m q := fun q hq => sset_row _ _ _ hq
  have r26 := rr 26 (by decide)
  have hD4 : D + 4 ≠ P := by unfold isP at hP; omega
  have hat := AT_next h hs
  have hbit : iand32 (ishr32 (m 26 8) (m 4 s)) 1 = if T.testBit k then 1 else 0 := by rw [t1, hk4]; exact bT
  have hbitc : iand32 (ishr32 (c P 7) (c (D + 2) (φ s))) 1 = if (T &&& H).testBit k then 1 else 0 := by rw [t3, k2, hk4]; exact bTH
  have h01 : ∀ (q : Bool), (if q = true then (1 : Int) else 0) = 0 ∨ (if q = true then (1 : Int) else 0) = 1 := by intro q; cases q; exact Or.inl rfl; exact Or.inr rfl
  have pre : ∀ (bar : Int) (Q : St → Int → Prop), (bar = if (T &&& H).testBit k then 1 else 0) → f_X10_executes_J225 Q (sset m 0 48 (m 6 s)) (s : Int) bar → f_X10_executes m Q := by
    intro bar Q hbar hq
    refine r_ex4 (bar := bar) h48 (by omega) hk ⟨by omega, by omega⟩ e3 ⟨a7.1, by omega⟩ ⟨d7.1, by omega⟩ (by rw [y]; exact h01 _) (by rw [hbit]; exact h01 _) ?_ hq
    rw [hbar, hbit, y, tb, hb]
    cases T.testBit k <;> cases hh'.testBit (m 19 (m 7 s).toNat).toNat <;> rfl
  by_cases g : (T &&& H).testBit k = true
  · -- it has been taken
    rw [if_pos g] at hbitc pre
    refine S_same (m1 := sset m 0 48 (m 6 s)) (x1 := c (D + 4) (φ s)) hw hX rr (fun i a b => by rw [sset_place _ _ _ a]) ?_ (fun g => ?_) (fun Q hQ => ?_) (fun Q hQ => ?_)
    · rw [sset_self, sset_place _ _ _ (by decide), h49]; exact hat
    · rw [sset_place _ _ _ (by decide)]; exact g
    · exact t_ex7 hP hD w0 (by omega) k1 (Or.inr hbitc) (fun _ => hQ) (fun u => by omega)
    · refine pre 1 Q rfl ?_
      have hfin : f_X10_executes_J257 Q (sset m 0 48 (m 6 s)) 9 (sset m 0 48 (m 6 s) 26 9) := by
        unfold f_X10_executes_J257
        refine ⟨by decide, by decide, fun σ1 e1 => ?_⟩
        rw [r26, hO, ior_0 ⟨by omega, by omega⟩] at e1
        have e1' : σ1 = sset (sset m 0 48 (m 6 s)) 26 9 (O : Int) := e1
        rw [sset_id _ _ _ (by rw [r26, hO])] at e1'
        rw [e1']; exact hQ
      unfold f_X10_executes_J225
      refine hmb _ _ rr ⟨inR_01 bi_01, fun _ => hfin, fun _ => ⟨⟨by decide, by decide⟩, fun _ => hfin, fun u => absurd u (by decide)⟩⟩
  · rw [if_neg g] at hbitc pre
    cases b with
    | true =>
      refine S_one (ci := 8) (mi := 9) (cv := ((O ||| 2 ^ k : Nat) : Int)) (mv := ((O ||| 2 ^ k : Nat) : Int)) hP h hw hX hs h49 (by omega) (by omega) (fun g => by omega) (fun g => by omega) (fun _ => ⟨rfl, by omega, by omega⟩) (fun Q hQ => ?_) (fun Q hQ => ?_)
      · refine t_ex7 hP hD w0 (by omega) k1 (Or.inl hbitc) (fun u => absurd hbitc u) (fun _ => hcb _ ?_)
        refine ⟨⟨by decide, by decide⟩, fun u => absurd u (by decide), fun _ σ9 e9 => ?_⟩
        rw [w8, k2, hior] at e9
        rw [e9, sset_place _ _ _ (by decide), w0, Int.toNat_natCast, sset_row _ _ _ hD4]
        exact ⟨hD, by omega, by omega, hQ⟩
      · refine pre 0 Q rfl ?_
        unfold f_X10_executes_J225
        refine hmb _ _ rr ⟨⟨by decide, by decide⟩, fun u => absurd u (by decide), fun _ => ⟨⟨by decide, by decide⟩, fun u => absurd rfl u, fun _ => ⟨by omega, by omega, fun σ2 e2 => ?_⟩⟩⟩
        rw [r26, rr 4 (by decide), Int.toNat_natCast, hior] at e2
        rw [e2]; exact hQ
    | false =>
      refine S_same (m1 := sset m 0 48 (m 6 s)) (x1 := c (D + 4) (φ s)) hw hX rr (fun i a b => by rw [sset_place _ _ _ a]) ?_ (fun g => ?_) (fun Q hQ => ?_) (fun Q hQ => ?_)
      · rw [sset_self, sset_place _ _ _ (by decide), h49]; exact hat
      · rw [sset_place _ _ _ (by decide)]; exact g
      · refine t_ex7 hP hD w0 (by omega) k1 (Or.inl hbitc) (fun u => absurd hbitc u) (fun _ => hcb _ ?_)
        rw [w0, Int.toNat_natCast]
        exact ⟨⟨by decide, by decide⟩, fun _ => ⟨hD, by omega, by omega, hQ⟩, fun u => absurd rfl u⟩
      · refine pre 0 Q rfl ?_
        unfold f_X10_executes_J225
        refine hmb _ _ rr ⟨⟨by decide, by decide⟩, fun _ => ?_, fun u => absurd rfl u⟩
        unfold f_X10_executes_J257
        refine ⟨by decide, by decide, fun σ1 e1 => ?_⟩
        rw [r26, hO, ior_0 ⟨by omega, by omega⟩] at e1
        have e1' : σ1 = sset (sset m 0 48 (m 6 s)) 26 9 (O : Int) := e1
        rw [sset_id _ _ _ (by rw [r26, hO])] at e1'
        rw [e1']; exact hQ
/-- a play whose node is still to be entered -/
def PWe (c m : St) (P D nd ck H : Nat) : Prop := (c P 0 = (D : Int) ∧ c P 1 = m 26 0 ∧ c P 4 = m 26 3 ∧ c P 5 = m 26 4 ∧ c P 6 = m 26 5 + 16 * m 26 6 + 256 * m 26 7 ∧ c (P + 1) 0 = m 26 10 ∧ (m 26 0 = 2 → c P 2 = m 26 1 ∧ 0 ≤ m 26 1 ∧ m 26 1 ≤ 9)) ∧ (-1 ≤ m 26 3 ∧ m 26 3 < nd ∧ 0 ≤ m 26 4 ∧ m 26 4 < 64 ∧ 0 ≤ m 26 5 ∧ m 26 5 ≤ 9 ∧ 0 ≤ m 26 6 ∧ m 26 6 ≤ 9 ∧ 0 ≤ m 26 7 ∧ m 26 7 ≤ 9 ∧ 0 ≤ m 26 10) ∧ PWt c P (m 26) H ∧ PWl c P (m 26) ∧ PWx c m P nd
theorem PW_e (hw : PW c m P D nd ck H) : PWe c m P D nd ck H := by
  obtain ⟨⟨w0, w1, w3, w4, w5, w6, w8, w9, w10⟩, ⟨a1, a2, a3, a4, a5, a6, a7, a8, a9, a10, a11, a12, a13, a14, a15⟩, ht, hl, hx⟩ := hw
  exact ⟨⟨w0, w1, w4, w5, w6, w9, w10⟩, ⟨a3, a4, a5, a6, a7, a8, a9, a10, a11, a12, a15⟩, ht, hl, hx⟩
/-- both enter a node -/
theorem J_enter {v : Nat} {ma : St} (hP : isP P) (hD : D = 2 ∨ D = 20) (h : SRx D c m φ e N S B nd ck ts tm) (hw : PWe c m P D nd ck H) (hX : BX m) (hv : v < nd) (hma : ∀ q, q ≠ 0 → q ≠ 26 → ma q = m q) (hma0 : ∀ i, i ≠ 48 → i ≠ 49 → ma 0 i = m 0 i) (hma26 : ma 26 = va_up (m 26) 9 0) : ∃ c1 m1 : St, FRP P c c1 ∧ FM m m1 ∧ PW c1 m1 P D nd ck H ∧ BX m1 ∧ m1 26 10 = m 26 10 ∧ m1 26 0 = m 26 0 ∧ m1 0 48 = m 17 (m 22 v).toNat ∧ m1 0 49 = m 22 v ∧ (∀ Q : St → Int → Prop, Q c1 (c (D + 14) v) → f_X5_enter P (v : Int) c Q) ∧ ∀ Q : St → Prop, Q m1 → f_X10_enters (v : Int) ma Q := by
  obtain ⟨⟨-, -, -, -, -, -, -, -, -, -, -, -, nd12, ck16, -, nS, nB, -⟩, ⟨-, -, -, -, -, -, hYF, -⟩, -, -, -, -, -, -, -, -, hYH, -⟩ := h
  obtain ⟨f1, f2, f3, f4⟩ := hYF.2 v hv
  obtain ⟨hh, y1, y2, y3⟩ := hYH
  obtain ⟨⟨w0, w1, w4, w5, w6, w9, w10⟩, ⟨a3, a4, a5, a6, a7, a8, a9, a10, a11, a12, a15⟩, ht, hl, E, x1, x2, x3⟩ := hw
  obtain ⟨x44, x29, x30, x31⟩ := hX
  have hpow : 2 ^ nd ≤ 2 ^ 12 := Nat.pow_le_pow_right (by decide) nd12
  have hpow2 : (2 : Nat) ^ 12 = 4096 := rfl
  have hpos : 0 < 2 ^ ck := Nat.pow_pos (by decide)
  obtain ⟨c1, ⟨c2, c3⟩, goc⟩ := t_enter (c := c) (h := hh) (E := E) hP hD (show v < 12 by omega) w0 y1 (by omega) x2 x1
  have b44 := hma0 44 (by decide) (by decide)
  have b21 := hma 21 (by decide) (by decide)
  have b22 := hma 22 (by decide) (by decide)
  have b30 := hma 30 (by decide) (by decide)
  have b17 := hma 17 (by decide) (by decide)
  have y := y3 v hv
  have h21 : ma 21 v = 0 ∨ ma 21 v = 1 := by rw [b21, y]; split; exact Or.inr rfl; exact Or.inl rfl
  obtain ⟨m1, ⟨d1, d2, d3, d4⟩, gom⟩ := r_enters (v := v) (m := ma) (by omega) h21 (by rw [b22]; omega) (by rw [b30]; exact x30 v (by omega)) (by rw [b44]; exact x44)
  rw [hma26, b21] at d1
  rw [b22, b17] at d2
  rw [b44, b30] at d3
  have r0 : ∀ i, i ≠ 48 → i ≠ 49 → m1 0 i = m 0 i := fun i a b => by rw [d2, vu_ne _ _ a, vu_ne _ _ b, hma0 i a b]
  have rr : ∀ q, q ≠ 0 → q ≠ 26 → q ≠ 30 → m1 q = m q := fun q a b d => by rw [d4 q a b d, hma q a b]
  have pi : ∀ i, i ≠ 2 → i ≠ 3 → i ≠ 9 → m1 26 i = m 26 i := fun i a b d => by rw [d1, vu_ne _ _ b, vu_ne _ _ a, vu_ne _ _ d]
  have p2 : m1 26 2 = (v : Int) := by rw [d1, vu_ne _ _ (by decide), vu_eq]
  have p9 : m1 26 9 = 0 := by rw [d1, vu_ne _ _ (by decide), vu_ne _ _ (by decide), vu_eq]
  have p3 : m1 26 3 = if hh.testBit v then (v : Int) else m 26 3 := by
    rw [d1, vu_eq, vu_ne _ _ (by decide), y]
    cases hh.testBit v
    · rfl
    · rfl
  have ci : ∀ i, i ≠ 3 → i ≠ 4 → i ≠ 8 → i ≠ 9 → c1 P i = c P i := fun i a b d f => by rw [c2, vu_ne _ _ b, vu_ne _ _ f, vu_ne _ _ a, vu_ne _ _ d]
  have e3 : c1 P 3 = (v : Int) := by rw [c2, vu_ne _ _ (by decide), vu_ne _ _ (by decide), vu_eq]
  have e8 : c1 P 8 = 0 := by rw [c2, vu_ne _ _ (by decide), vu_ne _ _ (by decide), vu_ne _ _ (by decide), vu_eq]
  have e9 : c1 P 9 = ((E ||| 2 ^ v : Nat) : Int) := by rw [c2, vu_ne _ _ (by decide), vu_eq]
  have e4 : c1 P 4 = if hh.testBit v then (v : Int) else m 26 3 := by rw [c2, vu_eq, w4]
  refine ⟨c1, m1, fun q a b d f => c3 q a, ⟨fun q a b d f g => rr q a b f, r0, fun g => ⟨rr 29 (by decide) (by decide) (by decide), by rw [d3, if_pos g]⟩, rr 31 (by decide) (by decide) (by decide)⟩, ⟨⟨?_, ?_, ?_, ?_, ?_, ?_, ?_, ?_, ?_⟩, ⟨?_, ?_, ?_, ?_, ?_, ?_, ?_, ?_, ?_, ?_, ?_, ?_, ?_, ?_, ?_⟩, ?_, ?_, ?_⟩, ⟨?_, ?_, ?_, ?_⟩, pi 10 (by decide) (by decide) (by decide), pi 0 (by decide) (by decide) (by decide), by rw [d2, vu_eq], by rw [d2, vu_ne _ _ (by decide), vu_eq], goc, gom⟩
  · rw [ci 0 (by decide) (by decide) (by decide) (by decide), w0]
  · rw [ci 1 (by decide) (by decide) (by decide) (by decide), w1, pi 0 (by decide) (by decide) (by decide)]
  · rw [e3, p2]
  · rw [e4, p3]
  · rw [ci 5 (by decide) (by decide) (by decide) (by decide), w5, pi 4 (by decide) (by decide) (by decide)]
  · rw [ci 6 (by decide) (by decide) (by decide) (by decide), w6, pi 5 (by decide) (by decide) (by decide), pi 6 (by decide) (by decide) (by decide), pi 7 (by decide) (by decide) (by decide)]
  · rw [e8, p9]
  · rw [c3 (P + 1) (by omega), w9, pi 10 (by decide) (by decide) (by decide)]
  · rw [ci 2 (by decide) (by decide) (by decide) (by decide), pi 0 (by decide) (by decide) (by decide), pi 1 (by decide) (by decide) (by decide)]; exact w10
  · rw [p2]; omega
  · rw [p2]; omega
  · rw [p3]; split <;> omega
  · rw [p3]; split <;> omega
  · rw [pi 4 (by decide) (by decide) (by decide)]; exact a5
  · rw [pi 4 (by decide) (by decide) (by decide)]; exact a6
  · rw [pi 5 (by decide) (by decide) (by decide)]; exact a7
  · rw [pi 5 (by decide) (by decide) (by decide)]; exact a8
  · rw [pi 6 (by decide) (by decide) (by decide)]; exact a9
  · rw [pi 6 (by decide) (by decide) (by decide)]; exact a10
  · rw [pi 7 (by decide) (by decide) (by decide)]; exact a11
  · rw [pi 7 (by decide) (by decide) (by decide)]; exact a12
  · rw [p9]; omega
  · rw [p9]; omega
  · rw [pi 10 (by decide) (by decide) (by decide)]; exact a15
  · exact PWt_same ht (ci 7 (by decide) (by decide) (by decide) (by decide)) (pi 8 (by decide) (by decide) (by decide))
  · exact PWl_same hl (c3 _ (by omega)) (fun i hi => pi i (by omega) (by omega) (by omega))
  · have hlt : E ||| 2 ^ v < 2 ^ 12 := Nat.or_lt_two_pow (by omega) (Nat.pow_lt_pow_right (by decide) (by omega))
    refine ⟨E ||| 2 ^ v, by omega, e9, fun g => ?_⟩
    rw [r0 44 (by decide) (by decide)] at g
    obtain ⟨g1, g2⟩ := x3 g
    refine ⟨fun u hu => ?_, fun u hu => ?_⟩
    · rw [d3, if_neg g, Nat.testBit_or, Nat.testBit_two_pow]
      by_cases q : u = v
      · subst q
        rw [vu_eq, decide_eq_true rfl, Bool.or_true, if_pos rfl]
      · rw [vu_ne _ _ q, decide_eq_false (fun z => q z.symm), Bool.or_false]
        exact g1 u hu
    · rw [c3 (P + 3) (by omega), rr 29 (by decide) (by decide) (by decide)]
      exact g2 u hu
  · rw [r0 44 (by decide) (by decide)]; exact x44
  · rw [rr 29 (by decide) (by decide) (by decide)]; exact x29
  · intro u hu
    rw [d3]
    split
    · exact x30 u hu
    · by_cases q : u = v
      · subst q; rw [vu_eq]; exact Or.inr rfl
      · rw [vu_ne _ _ q]; exact x30 u hu
  · rw [rr 31 (by decide) (by decide) (by decide)]; exact x31
/-- a way to a node -/
theorem S_enter {v : Nat} (hP : isP P) (hD : D = 2 ∨ D = 20) (h : SRx D c m φ e N S B nd ck ts tm) (hw : PW c m P D nd ck H) (hX : BX m) (hv : v < nd) (hc : ∀ Q : St → Int → Prop, f_X5_enter P (v : Int) c Q → f_X5_execute P ((φ s : Nat) : Int) (c (D + 1) (φ s)) c Q) (hm : ∀ Q : St → Int → Prop, f_X10_goes (v : Int) (sset m 0 48 (m 6 s)) (fun σ => Q σ 1) → f_X10_executes m Q) : STP c m P D φ e N B nd ck H s := by
  obtain ⟨at1, at2⟩ := AT_node h hv
  obtain ⟨c1, m1, j1, j2, j3, j4, j5, j6, j7, j8, j9, j10⟩ := J_enter (ma := sset (sset m 0 48 (m 6 s)) 26 9 0) hP hD h (PW_e hw) hX hv (fun q a b => by rw [sset_row _ _ _ b, sset_row _ _ _ a]) (fun i a b => by rw [sset_cell _ _ _ _ (by decide), sset_place _ _ _ a]) (by rw [sset_at, sset_row _ _ _ (by decide)])
  refine ⟨c1, m1, c (D + 14) v, 1, j1, j2, j3, j4, by omega, fun Q hQ => hc Q (j9 Q hQ), fun Q hQ => hm Q ?_, Or.inl ⟨rfl, ?_, fun _ => ?_⟩⟩
  · unfold f_X10_goes
    intro σ1 e1
    rw [e1]
    exact j10 _ hQ
  · rw [j7, j8]; exact at1
  · rw [j8]; exact GS_node at2
theorem S_go (hP : isP P) (hD : D = 2 ∨ D = 20) (h : SRx D c m φ e N S B nd ck ts tm) (hw : PW c m P D nd ck H) (hX : BX m) (hs : s < N) (h48 : m 0 48 = (s : Int)) (hk : m 3 s = 5) : STP c m P D φ e N B nd ck H s := by
  have h' := h
  obtain ⟨⟨-, -, -, -, -, -, -, -, -, -, -, -, -, -, -, nS, nB, -⟩, ⟨hYP, -⟩, -, -, -, -, -, ⟨hYK, hgo⟩, -⟩ := h'
  have hφ := hYP.1 s hs
  have hge := phi_ge hYP s hs
  have g := hgo s hs hk
  obtain ⟨v, hv⟩ : ∃ v : Nat, m 4 s = (v : Int) := ⟨(m 4 s).toNat, by omega⟩
  have kk : c (D + 1) (φ s) = 8 ∧ c (D + 2) (φ s) = m 4 s := by
    rcases hYK s hs with ⟨u1, -⟩ | ⟨u1, -⟩ | ⟨u1, -⟩ | ⟨u1, -⟩ | ⟨u1, -⟩ | ⟨u1, u2, u3, -⟩ | ⟨u1, -⟩ | ⟨u1, -⟩
    · omega
    · omega
    · omega
    · omega
    · omega
    · exact ⟨u2, u3⟩
    all_goals omega
  refine S_enter (v := v) hP hD h hw hX (by omega) (fun Q hQ => ?_) (fun Q hQ => ?_)
  · refine t_ex8 hP hD hw.1.1 (by omega) kk.1 ?_
    rw [kk.2, hv]; exact hQ
  · refine r_ex5 h48 (by omega) hk ?_
    rw [hv]; exact hQ
/-- the flow ends -/
theorem PW_end {c1 m1 : St} {st O : Int} (hw : PW c m P D nd ck H) (hc : ∀ i, i ≠ 1 → i ≠ 2 → i ≠ 8 → c1 P i = c P i) (hcr : ∀ q, q ≠ P → c1 q = c q) (hp : ∀ i, i ≠ 0 → i ≠ 1 → i ≠ 9 → m1 26 i = m 26 i) (hr : ∀ q, q ≠ 0 → q ≠ 26 → m1 q = m q) (h44 : m1 0 44 = m 0 44) (c1s : c1 P 1 = st) (m1s : m1 26 0 = st) (c8 : c1 P 8 = O) (m9 : m1 26 9 = O) (hO : 0 ≤ O ∧ O < ((2 ^ ck : Nat) : Int)) (h2 : st = 2 → c1 P 2 = m1 26 1 ∧ 0 ≤ m1 26 1 ∧ m1 26 1 ≤ 9) : PW c1 m1 P D nd ck H := by
  obtain ⟨⟨w0, w1, w3, w4, w5, w6, w8, w9, w10⟩, ⟨a1, a2, a3, a4, a5, a6, a7, a8, a9, a10, a11, a12, a13, a14, a15⟩, ht, hl, hx⟩ := hw
  refine ⟨⟨?_, ?_, ?_, ?_, ?_, ?_, ?_, ?_, ?_⟩, ⟨?_, ?_, ?_, ?_, ?_, ?_, ?_, ?_, ?_, ?_, ?_, ?_, ?_, ?_, ?_⟩, ?_, ?_, ?_⟩
  · rw [hc 0 (by decide) (by decide) (by decide), w0]
  · rw [c1s, m1s]
  · rw [hc 3 (by decide) (by decide) (by decide), w3, hp 2 (by decide) (by decide) (by decide)]
  · rw [hc 4 (by decide) (by decide) (by decide), w4, hp 3 (by decide) (by decide) (by decide)]
  · rw [hc 5 (by decide) (by decide) (by decide), w5, hp 4 (by decide) (by decide) (by decide)]
  · rw [hc 6 (by decide) (by decide) (by decide), w6, hp 5 (by decide) (by decide) (by decide), hp 6 (by decide) (by decide) (by decide), hp 7 (by decide) (by decide) (by decide)]
  · rw [c8, m9]
  · rw [hcr (P + 1) (by omega), w9, hp 10 (by decide) (by decide) (by decide)]
  · rw [m1s]; exact h2
  · rw [hp 2 (by decide) (by decide) (by decide)]; exact a1
  · rw [hp 2 (by decide) (by decide) (by decide)]; exact a2
  · rw [hp 3 (by decide) (by decide) (by decide)]; exact a3
  · rw [hp 3 (by decide) (by decide) (by decide)]; exact a4
  · rw [hp 4 (by decide) (by decide) (by decide)]; exact a5
  · rw [hp 4 (by decide) (by decide) (by decide)]; exact a6
  · rw [hp 5 (by decide) (by decide) (by decide)]; exact a7
  · rw [hp 5 (by decide) (by decide) (by decide)]; exact a8
  · rw [hp 6 (by decide) (by decide) (by decide)]; exact a9
  · rw [hp 6 (by decide) (by decide) (by decide)]; exact a10
  · rw [hp 7 (by decide) (by decide) (by decide)]; exact a11
  · rw [hp 7 (by decide) (by decide) (by decide)]; exact a12
  · rw [m9]; exact hO.1
  · rw [m9]; exact hO.2
  · rw [hp 10 (by decide) (by decide) (by decide)]; exact a15
  · exact PWt_same ht (hc 7 (by decide) (by decide) (by decide)) (hp 8 (by decide) (by decide) (by decide))
  · exact PWl_same hl (hcr _ (by omega)) (fun i hi => hp i (by omega) (by omega) (by omega))
  · exact PWx_same hx (hc 9 (by decide) (by decide) (by decide)) (hcr _ (by omega)) h44 (hr 29 (by decide) (by decide)) (hr 30 (by decide) (by decide))
theorem S_hub (hP : isP P) (hD : D = 2 ∨ D = 20) (h : SRx D c m φ e N S B nd ck ts tm) (hw : PW c m P D nd ck H) (hX : BX m) (hs : s < N) (h48 : m 0 48 = (s : Int)) (hk : m 3 s = 6) : STP c m P D φ e N B nd ck H s := by
  have h' := h
  obtain ⟨⟨-, -, -, -, -, -, -, -, -, -, -, -, nd12, -, -, nS, nB, -⟩, ⟨hYP, -⟩, -, -, -, -, -, ⟨hYK, hgo⟩, -⟩ := h'
  have hφ := hYP.1 s hs
  have hge := phi_ge hYP s hs
  have kk : c (D + 1) (φ s) = 9 := by
    rcases hYK s hs with ⟨u1, -⟩ | ⟨u1, -⟩ | ⟨u1, -⟩ | ⟨u1, -⟩ | ⟨u1, -⟩ | ⟨u1, -⟩ | ⟨u1, u2, -⟩ | ⟨u1, -⟩
    · omega
    · omega
    · omega
    · omega
    · omega
    · omega
    · exact u2
    · omega
  have w4 := hw.1.2.2.2.1
  have a3 := hw.2.1.2.2.1
  have a4 := hw.2.1.2.2.2.1
  by_cases g : m 26 3 = -1
  · obtain ⟨c1, hc1⟩ : ∃ c1 : St, c1 = sset (sset c P 1 3) P 8 0 := ⟨_, rfl⟩
    obtain ⟨m1, hm1⟩ : ∃ m1 : St, m1 = sset (sset (sset m 0 48 (m 6 s)) 26 0 3) 26 9 0 := ⟨_, rfl⟩
    have hcr : ∀ q, q ≠ P → c1 q = c q := fun q hq => by rw [hc1, sset_row _ _ _ hq, sset_row _ _ _ hq]
    have hr : ∀ q, q ≠ 0 → q ≠ 26 → m1 q = m q := fun q a b => by rw [hm1, sset_row _ _ _ b, sset_row _ _ _ b, sset_row _ _ _ a]
    have h0 : ∀ i, i ≠ 48 → i ≠ 49 → m1 0 i = m 0 i := fun i a b => by rw [hm1, sset_cell _ _ _ _ (by decide), sset_cell _ _ _ _ (by decide), sset_place _ _ _ a]
    have hp : ∀ i, i ≠ 0 → i ≠ 9 → m1 26 i = m 26 i := fun i a b => by rw [hm1, sset_place _ _ _ b, sset_place _ _ _ a, sset_cell _ _ _ _ (by decide)]
    have s0 : m1 26 0 = 3 := by rw [hm1, sset_place _ _ _ (by decide), sset_self]
    have s9 : m1 26 9 = 0 := by rw [hm1, sset_self]
    have h44 := h0 44 (by decide) (by decide)
    refine ⟨c1, m1, -1, 0, fun q a b d f => hcr q a, ⟨fun q a b d f g => hr q a b, h0, fun _ => ⟨hr 29 (by decide) (by decide), hr 30 (by decide) (by decide)⟩, hr 31 (by decide) (by decide)⟩, PW_end hw (fun i a b d => by rw [hc1, sset_place _ _ _ d, sset_place _ _ _ a]) hcr (fun i a b d => hp i a d) hr h44 (st := 3) (O := 0) (by rw [hc1, sset_place _ _ _ (by decide), sset_self]) s0 (by rw [hc1, sset_self]) s9 ⟨by omega, by have : 0 < 2 ^ ck := Nat.pow_pos (by decide); omega⟩ (fun g => absurd g (by decide)), BX_same hX h44 (hr 29 (by decide) (by decide)) (hr 30 (by decide) (by decide)) (hr 31 (by decide) (by decide)), by rw [hp 10 (by decide) (by decide)]; omega, fun Q hQ => ?_, fun Q hQ => ?_, Or.inr ⟨rfl, rfl, by omega, by omega, s9⟩⟩
    · refine t_ex9 hP hD hw.1.1 (by omega) kk ⟨by omega, by omega⟩ (fun u => absurd (by rw [w4, g]) u) (fun _ => ?_)
      unfold f_X5_endFlow
      refine ⟨hP, fun σ1 e1 σ2 e2 => ?_⟩
      rw [e2, e1, ← hc1]; exact hQ
    · refine r_ex6 h48 (by omega) hk ⟨by omega, by omega⟩ (fun u => absurd g u) (fun _ => ?_)
      unfold f_X10_ends
      intro σ1 e1 σ2 e2
      rw [e2, e1, ← hm1]; exact hQ
  · obtain ⟨v, hv⟩ : ∃ v : Nat, m 26 3 = (v : Int) := ⟨(m 26 3).toNat, by omega⟩
    refine S_enter (v := v) hP hD h hw hX (by omega) (fun Q hQ => ?_) (fun Q hQ => ?_)
    · refine t_ex9 hP hD hw.1.1 (by omega) kk ⟨by omega, by omega⟩ (fun _ => ?_) (fun u => absurd (by rw [← w4]; exact u) g)
      rw [w4, hv]; exact hQ
    · refine r_ex6 h48 (by omega) hk ⟨by omega, by omega⟩ (fun _ => ?_) (fun u => absurd u g)
      rw [hv]; exact hQ
theorem S_ending (hP : isP P) (hD : D = 2 ∨ D = 20) (h : SRx D c m φ e N S B nd ck ts tm) (hw : PW c m P D nd ck H) (hX : BX m) (hs : s < N) (h48 : m 0 48 = (s : Int)) (hk : m 3 s = 7) : STP c m P D φ e N B nd ck H s := by
  have h' := h
  obtain ⟨⟨-, -, -, -, -, -, -, -, -, -, -, -, nd12, -, -, nS, nB, -⟩, ⟨hYP, -⟩, -, -, -, -, -, ⟨hYK, hgo⟩, -⟩ := h'
  have hφ := hYP.1 s hs
  have hge := phi_ge hYP s hs
  have kk : c (D + 1) (φ s) = 10 ∧ c (D + 2) (φ s) = m 4 s ∧ 0 ≤ m 4 s ∧ m 4 s ≤ 9 := by
    rcases hYK s hs with ⟨u1, -⟩ | ⟨u1, -⟩ | ⟨u1, -⟩ | ⟨u1, -⟩ | ⟨u1, -⟩ | ⟨u1, -⟩ | ⟨u1, -⟩ | ⟨u1, u2, u3, u4, u5⟩
    · omega
    · omega
    · omega
    · omega
    · omega
    · omega
    · omega
    · exact ⟨u2, u3, u4, u5⟩
  obtain ⟨k1, k2, k3, k4⟩ := kk
  obtain ⟨c1, hc1⟩ : ∃ c1 : St, c1 = sset (sset (sset c P 2 (m 4 s)) P 1 2) P 8 0 := ⟨_, rfl⟩
  obtain ⟨m1, hm1⟩ : ∃ m1 : St, m1 = sset (sset (sset (sset m 0 48 (m 6 s)) 26 0 2) 26 9 0) 26 1 (m 4 s) := ⟨_, rfl⟩
  have hcr : ∀ q, q ≠ P → c1 q = c q := fun q hq => by rw [hc1, sset_row _ _ _ hq, sset_row _ _ _ hq, sset_row _ _ _ hq]
  have hr : ∀ q, q ≠ 0 → q ≠ 26 → m1 q = m q := fun q a b => by rw [hm1, sset_row _ _ _ b, sset_row _ _ _ b, sset_row _ _ _ b, sset_row _ _ _ a]
  have h0 : ∀ i, i ≠ 48 → i ≠ 49 → m1 0 i = m 0 i := fun i a b => by rw [hm1, sset_cell _ _ _ _ (by decide), sset_cell _ _ _ _ (by decide), sset_cell _ _ _ _ (by decide), sset_place _ _ _ a]
  have hp : ∀ i, i ≠ 0 → i ≠ 1 → i ≠ 9 → m1 26 i = m 26 i := fun i a b d => by rw [hm1, sset_place _ _ _ b, sset_place _ _ _ d, sset_place _ _ _ a, sset_cell _ _ _ _ (by decide)]
  have s0 : m1 26 0 = 2 := by rw [hm1, sset_place _ _ _ (by decide), sset_place _ _ _ (by decide), sset_self]
  have s9 : m1 26 9 = 0 := by rw [hm1, sset_place _ _ _ (by decide), sset_self]
  have s1 : m1 26 1 = m 4 s := by rw [hm1, sset_self]
  have h44 := h0 44 (by decide) (by decide)
  refine ⟨c1, m1, -1, 0, fun q a b d f => hcr q a, ⟨fun q a b d f g => hr q a b, h0, fun _ => ⟨hr 29 (by decide) (by decide), hr 30 (by decide) (by decide)⟩, hr 31 (by decide) (by decide)⟩, PW_end hw (fun i a b d => by rw [hc1, sset_place _ _ _ d, sset_place _ _ _ a, sset_place _ _ _ b]) hcr hp hr h44 (st := 2) (O := 0) (by rw [hc1, sset_place _ _ _ (by decide), sset_self]) s0 (by rw [hc1, sset_self]) s9 ⟨by omega, by have : 0 < 2 ^ ck := Nat.pow_pos (by decide); omega⟩ (fun _ => ⟨by rw [hc1, sset_place _ _ _ (by decide), sset_place _ _ _ (by decide), sset_self, s1], by omega, by omega⟩), BX_same hX h44 (hr 29 (by decide) (by decide)) (hr 30 (by decide) (by decide)) (hr 31 (by decide) (by decide)), by rw [hp 10 (by decide) (by decide) (by decide)]; omega, fun Q hQ => ?_, fun Q hQ => ?_, Or.inr ⟨rfl, rfl, by omega, by omega, s9⟩⟩
  · refine t_ex10 hP hD hw.1.1 (by omega) (by omega) ?_
    rw [k2, ← hc1]; exact hQ
  · refine r_ex7 h48 (by omega) hk ?_
    rw [← hm1]; exact hQ
/-- any statement -/
theorem S_any (hP : isP P) (hD : D = 2 ∨ D = 20) (h : SRx D c m φ e N S B nd ck ts tm) (hH : HM c D ck H) (hw : PW c m P D nd ck H) (hX : BX m) (hs : s < N) (h48 : m 0 48 = (s : Int)) (h49 : m 0 49 = m 7 s) (hK : m 26 10 < 900000000) : STP c m P D φ e N B nd ck H s := by
  have h' := h
  obtain ⟨-, -, -, -, -, -, -, ⟨hYK, hgo⟩, -⟩ := h'
  rcases hYK s hs with ⟨u1, -⟩ | ⟨u1, -⟩ | ⟨u1, -⟩ | ⟨u1, -⟩ | ⟨u1, -⟩ | ⟨u1, -⟩ | ⟨u1, -⟩ | ⟨u1, -⟩
  · exact S_line hP hD h hw hX hs h48 h49 u1 hK
  · exact S_flag hP hD h hw hX hs h48 h49 u1
  · exact S_meter hP hD h hw hX hs h48 h49 u1
  · exact S_test hP hD h hw hX hs h48 h49 u1
  · exact S_choice hP hD h hH hw hX hs h48 h49 u1
  · exact S_go hP hD h hw hX hs h48 u1
  · exact S_hub hP hD h hw hX hs h48 u1
  · exact S_ending hP hD h hw hX hs h48 u1
end STEPS2
