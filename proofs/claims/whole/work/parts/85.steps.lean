/-! ===== pure layer: a statement is executed by both ===== -/
theorem alln_congr {f g : Nat → Bool} : ∀ (n a : Nat), (∀ t, a ≤ t → t < a + n → f t = g t) → alln f a n = alln g a n := by
  intro n
  induction n with
  | zero => intro a _; rfl
  | succ n ih =>
    intro a h
    show (f a && alln f (a + 1) n) = (g a && alln g (a + 1) n)
    rw [h a (by omega) (by omega), ih (a + 1) (fun t h1 h2 => h t (by omega) (by omega))]
theorem flag_r : ∀ (F : Fin 64) (f : Fin 6), (0 ≤ ior32 (F.val : Int) (ishl32 1 (f.val : Int)) ∧ ior32 (F.val : Int) (ishl32 1 (f.val : Int)) < 64) ∧ (0 ≤ iand32 (F.val : Int) (ixor32 (ishl32 1 (f.val : Int)) (-1)) ∧ iand32 (F.val : Int) (ixor32 (ishl32 1 (f.val : Int)) (-1)) < 64) := by decide +kernel
theorem PWt_same {c c1 : St} {P H : Nat} {p p1 : Nat → Int} (h : PWt c P p H) (h7 : c1 P 7 = c P 7) (h8 : p1 8 = p 8) : PWt c1 P p1 H := by unfold PWt at *; rw [h7, h8]; exact h
theorem PWl_same {c c1 : St} {P : Nat} {p p1 : Nat → Int} (h : PWl c P p) (h2 : c1 (P + 2) = c (P + 2)) (hp : ∀ i, 10 ≤ i → p1 i = p i) : PWl c1 P p1 := by
  intro j h1 h3
  rw [hp 10 (by omega)] at h3
  rw [h2, hp 10 (by omega), hp (11 + j) (by omega)]
  exact h j h1 h3
theorem PWx_same {c c1 m m1 : St} {P nd : Nat} (h : PWx c m P nd) (h9 : c1 P 9 = c P 9) (h3 : c1 (P + 3) = c (P + 3)) (h44 : m1 0 44 = m 0 44) (h29 : m1 29 = m 29) (h30 : m1 30 = m 30) : PWx c1 m1 P nd := by unfold PWx at *; rw [h9, h3, h44, h29, h30]; exact h
theorem BX_same {m m1 : St} (h : BX m) (h44 : m1 0 44 = m 0 44) (h29 : m1 29 = m 29) (h30 : m1 30 = m 30) (h31 : m1 31 = m 31) : BX m1 := by unfold BX at *; rw [h44, h29, h30, h31]; exact h
theorem shp_lo {p : Nat → Int} {v : Int} {k i : Nat} (h : i < 10) : shp p v k i = p i := by unfold shp; rw [if_neg (by omega), if_neg (by omega), if_neg (by omega)]
/-- what a step of both must give -/
def STP (c m : St) (P D : Nat) (φ : Nat → Nat) (e : Nat → Int) (N B nd ck H s : Nat) : Prop := ∃ (c1 m1 : St) (x1 on : Int), FRP P c c1 ∧ FM m m1 ∧ PW c1 m1 P D nd ck H ∧ BX m1 ∧ m1 26 10 ≤ m 26 10 + 1 ∧ (∀ Q : St → Int → Prop, Q c1 x1 → f_X5_execute P ((φ s : Nat) : Int) (c (D + 1) (φ s)) c Q) ∧ (∀ Q : St → Int → Prop, Q m1 on → f_X10_executes m Q) ∧ ((on = 1 ∧ AT c m D φ e N B (m1 0 48) (m1 0 49) x1 ∧ (GS m (m 0 49).toNat → GS m (m1 0 49).toNat)) ∨ (on = 0 ∧ x1 = -1 ∧ 2 ≤ m1 26 0 ∧ m1 26 0 ≤ 3 ∧ m1 26 9 = 0))
section STEPS
variable {D P s N S B nd ck ts tm H : Nat} {c m : St} {φ : Nat → Nat} {e : Nat → Int}
theorem cond_both (hP : isP P) (hD : D = 2 ∨ D = 20) (h : SRx D c m φ e N S B nd ck ts tm) (hs : s < N) (hw : PWa c P D (m 26)) (hv : PWv (m 26) nd ck) : ∃ b : Bool, (∀ Q : St → Int → Prop, Q c (bi b) → f_X5_conditionHolds P ((φ s : Nat) : Int) c Q) ∧ ∀ (m1 : St) (Q : St → Int → Prop), (∀ q, q ≠ 0 → m1 q = m q) → Q m1 (bi b) → f_X10_holds (s : Int) m1 Q := by
  obtain ⟨⟨-, -, -, -, -, -, -, ntm, -, -, -, -, -, -, -, nS, -, ntm2⟩, ⟨hYP, -⟩, -, -, -, -, -, -, hYT, -⟩ := h
  obtain ⟨w0, w1, w3, w4, w5, w6, w8, w9, w10⟩ := hw
  obtain ⟨v1, v2, v3, v4, v5, v6, v7, v8, v9, v10, v11, v12, -⟩ := hv
  have hφ := hYP.1 s hs
  have hge := phi_ge hYP s hs
  obtain ⟨t1, t2, t3, t4, t5⟩ := hYT.2 s hs
  obtain ⟨F, hF⟩ : ∃ F : Nat, m 26 4 = (F : Int) := ⟨(m 26 4).toNat, by omega⟩
  obtain ⟨a, ha⟩ : ∃ a : Nat, m 26 5 = (a : Int) := ⟨(m 26 5).toNat, by omega⟩
  obtain ⟨b, hb⟩ : ∃ b : Nat, m 26 6 = (b : Int) := ⟨(m 26 6).toNat, by omega⟩
  obtain ⟨d, hd⟩ : ∃ d : Nat, m 26 7 = (d : Int) := ⟨(m 26 7).toNat, by omega⟩
  obtain ⟨tf, htf⟩ : ∃ tf : Nat, m 10 s = (tf : Int) := ⟨(m 10 s).toNat, by omega⟩
  obtain ⟨tt, htt⟩ : ∃ tt : Nat, m 11 s = (tt : Int) := ⟨(m 11 s).toNat, by omega⟩
  refine ⟨alln (fun t => thv (m 12 t) (m 13 t) (m 14 t) F (fun i => m 26 (5 + i))) tf (tt - tf), fun Q hQ => ?_, fun m1 Q hm1 hQ => ?_⟩
  · unfold f_X5_conditionHolds
    rw [w0, Int.toNat_natCast, Int.toNat_natCast, t1, t2, htf, htt, w5, hF, w6, ha, hb, hd]
    refine ⟨hP, hD, by omega, by omega, by omega, by omega, ?_⟩
    have em : ((a : Int) + 16 * (b : Int) + 256 * (d : Int)) = ((mt a b d : Nat) : Int) := by unfold mt; omega
    rw [em]
    refine t_allHold (ms := fun i => m 26 (5 + i)) hD (by omega) (show tt ≤ tm by omega) ntm2 ntm (fun t ht => ?_) (by omega) (by omega) (by omega) (by omega) ha hb hd ?_
    · obtain ⟨q1, q2, q3, q4⟩ := hYT.1 t (by omega)
      rw [q1, q2, q3]; exact q4
    · refine ⟨bi_01, ?_⟩
      rw [alln_congr (g := fun t => thv (m 12 t) (m 13 t) (m 14 t) F (fun i => m 26 (5 + i))) (tt - tf) tf (fun t h1 h2 => by
        obtain ⟨q1, q2, q3, q4⟩ := hYT.1 t (by omega)
        show thv (c (D + 10) t) (c (D + 11) t) (c (D + 12) t) F _ = thv (m 12 t) (m 13 t) (m 14 t) F _
        rw [q1, q2, q3])]
      exact hQ
  · have e10 := hm1 10 (by decide)
    have e11 := hm1 11 (by decide)
    have e12 := hm1 12 (by decide)
    have e13 := hm1 13 (by decide)
    have e14 := hm1 14 (by decide)
    have e26 := hm1 26 (by decide)
    refine r_holds (ms := fun i => m 26 (5 + i)) (F := F) (by omega) (by rw [e10]; exact htf) (by rw [e11]; exact htt) (by omega) (by omega) (fun t ht => ?_) (by rw [e26]; exact hF) (by omega) (fun i hi => ?_) ?_
    · rw [e12, e13, e14]; exact (hYT.1 t (by omega)).2.2.2
    · rw [e26]
      refine ⟨rfl, ?_⟩
      have : i = 0 ∨ i = 1 ∨ i = 2 := by omega
      rcases this with rfl | rfl | rfl
      · exact ⟨v7, v8⟩
      · exact ⟨v9, v10⟩
      · exact ⟨v11, v12⟩
    · rw [e12, e13, e14]; exact hQ
/-- a line -/
theorem S_line (hP : isP P) (hD : D = 2 ∨ D = 20) (h : SRx D c m φ e N S B nd ck ts tm) (hw : PW c m P D nd ck H) (hX : BX m) (hs : s < N) (h48 : m 0 48 = (s : Int)) (h49 : m 0 49 = m 7 s) (hk : m 3 s = 0) (hK : m 26 10 < 900000000) : STP c m P D φ e N B nd ck H s := by
  have hat := AT_next h hs
  obtain ⟨⟨-, -, -, -, -, -, -, -, -, -, -, -, -, -, -, nS, -, -⟩, ⟨hYP, -⟩, -, -, -, -, -, ⟨hYK, -⟩, -⟩ := h
  have hφ := hYP.1 s hs
  have hge := phi_ge hYP s hs
  have hk' := hYK s hs
  have kk : c (D + 1) (φ s) = 0 ∧ c (D + 2) (φ s) = m 4 s ∧ 0 ≤ m 4 s ∧ m 4 s ≤ 99 := by
    rcases hk' with ⟨u1, u2, u3, u4, u5⟩ | ⟨u1, -⟩ | ⟨u1, -⟩ | ⟨u1, -⟩ | ⟨u1, -⟩ | ⟨u1, -⟩ | ⟨u1, -⟩ | ⟨u1, -⟩
    · exact ⟨u2, u3, u4, u5⟩
    all_goals omega
  obtain ⟨k1, k2, k3, k4⟩ := kk
  obtain ⟨⟨w0, w1, w3, w4, w5, w6, w8, w9, w10⟩, hv, ht, hl, hx⟩ := hw
  obtain ⟨v, hv'⟩ : ∃ v : Nat, m 4 s = (v : Int) := ⟨(m 4 s).toNat, by omega⟩
  have h10 : 0 ≤ m 26 10 := hv.2.2.2.2.2.2.2.2.2.2.2.2.2.2
  obtain ⟨K, hK'⟩ : ∃ K : Nat, m 26 10 = (K : Int) := ⟨(m 26 10).toNat, by omega⟩
  obtain ⟨x44, x29, x30, x31⟩ := hX
  have g44 : sset m 0 48 (m 6 s) 0 44 = m 0 44 := sset_place _ _ _ (by decide)
  have g29 : sset m 0 48 (m 6 s) 29 = m 29 := sset_row _ _ _ (by decide)
  have g26 : sset m 0 48 (m 6 s) 26 = m 26 := sset_row _ _ _ (by decide)
  obtain ⟨m1, ⟨q1, q2, q3⟩, go⟩ := r_says (v := v) (m := sset m 0 48 (m 6 s)) (by omega) (by rw [g29]; exact x29 v (by omega)) (by rw [g44]; exact x44)
  rw [g26] at q1
  rw [g44, g29] at q2
  have q0 : m1 0 = va_up (m 0) 48 (m 6 s) := by rw [q3 0 (by decide) (by decide), sset_at]
  have q44 : m1 0 44 = m 0 44 := by rw [q0, vu_ne _ _ (by decide)]
  have qr : ∀ q, q ≠ 0 → q ≠ 26 → q ≠ 29 → m1 q = m q := fun q a b d => by rw [q3 q b d, sset_row _ _ _ a]
  have cP : ∀ q, q ≠ P + 1 → q ≠ P + 2 → q ≠ P + 3 → cSay c P v K q = c q := fun q a b d => by unfold cSay; rw [sset_row _ _ _ d, sset_row _ _ _ a, sset_row _ _ _ b]
  have cPP := cP P (by omega) (by omega) (by omega)
  have c1r : cSay c P v K (P + 1) = va_up (c (P + 1)) 0 ((K : Int) + 1) := by unfold cSay; rw [sset_row _ _ _ (by omega), sset_at, sset_row _ _ _ (by omega)]
  have c2r : cSay c P v K (P + 2) = va_up (c (P + 2)) (K % 20) (v : Int) := by unfold cSay; rw [sset_row _ _ _ (by omega), sset_row _ _ _ (by omega), sset_at]
  have c3r : cSay c P v K (P + 3) = va_up (c (P + 3)) v 1 := by unfold cSay; rw [sset_at, sset_row _ _ _ (by omega), sset_row _ _ _ (by omega)]
  have p10 : m1 26 10 = (K : Int) + 1 := by rw [q1]; unfold shp; rw [if_pos rfl, hK']
  have plo : ∀ i, i < 10 → m1 26 i = m 26 i := fun i hi => by rw [q1]; exact shp_lo hi
  refine ⟨cSay c P v K, m1, c (D + 4) (φ s), 1, fun q a b d f => cP q b d f, ⟨fun q a b d f g => qr q a b d, fun i a b => by rw [q0, vu_ne _ _ a], fun g => ⟨by rw [q2, if_pos g], qr 30 (by decide) (by decide) (by decide)⟩, qr 31 (by decide) (by decide) (by decide)⟩, ⟨⟨?_, ?_, ?_, ?_, ?_, ?_, ?_, ?_, ?_⟩, ?_, ?_, ?_, ?_⟩, ⟨?_, ?_, ?_, ?_⟩, by omega, fun Q hQ => ?_, fun Q hQ => ?_, Or.inl ⟨rfl, ?_, fun g => ?_⟩⟩
  · rw [cPP, w0]
  · rw [cPP, w1, plo 0 (by omega)]
  · rw [cPP, w3, plo 2 (by omega)]
  · rw [cPP, w4, plo 3 (by omega)]
  · rw [cPP, w5, plo 4 (by omega)]
  · rw [cPP, w6, plo 5 (by omega), plo 6 (by omega), plo 7 (by omega)]
  · rw [cPP, w8, plo 9 (by omega)]
  · rw [c1r, vu_eq, p10]
  · rw [cPP, plo 0 (by omega), plo 1 (by omega)]; exact w10
  · unfold PWv at hv ⊢
    rw [plo 2 (by omega), plo 3 (by omega), plo 4 (by omega), plo 5 (by omega), plo 6 (by omega), plo 7 (by omega), plo 9 (by omega), p10]
    obtain ⟨a1, a2, a3, a4, a5, a6, a7, a8, a9, a10, a11, a12, a13, a14, a15⟩ := hv
    exact ⟨a1, a2, a3, a4, a5, a6, a7, a8, a9, a10, a11, a12, a13, a14, by omega⟩
  · exact PWt_same ht (by rw [cPP]) (plo 8 (by omega))
  · intro j h1 h2
    rw [p10] at h2
    rw [p10, c2r, q1]
    unfold shp
    rw [if_neg (by omega)]
    by_cases g : j = 0
    · subst g
      rw [if_pos rfl, show ((K : Int) + 1 - 1 - ((0 : Nat) : Int)).toNat = K by omega, vu_eq]
    · rw [if_neg (by omega), if_pos ⟨by omega, by omega⟩]
      have := hl (j - 1) (by omega) (by omega)
      rw [hK', show ((K : Int) - 1 - ((j - 1 : Nat) : Int)).toNat = K - j by omega, show 11 + (j - 1) = 11 + j - 1 by omega] at this
      rw [show ((K : Int) + 1 - 1 - (j : Int)).toNat = K - j by omega, vu_ne _ _ (by omega)]
      exact this
  · obtain ⟨E, e1, e2, e3⟩ := hx
    refine ⟨E, e1, by rw [cPP]; exact e2, fun g => ?_⟩
    rw [q44] at g
    obtain ⟨f1, f2⟩ := e3 g
    refine ⟨fun u hu => ?_, fun u hu => ?_⟩
    · rw [qr 30 (by decide) (by decide) (by decide)]; exact f1 u hu
    · rw [c3r, q2, if_neg g]
      by_cases g2 : u = v
      · subst g2; rw [vu_eq, vu_eq]
      · rw [vu_ne _ _ g2, vu_ne _ _ g2]; exact f2 u hu
  · rw [q44]; exact x44
  · intro u hu
    rw [q2]
    split
    · exact x29 u hu
    · by_cases g2 : u = v
      · subst g2; rw [vu_eq]; exact Or.inr rfl
      · rw [vu_ne _ _ g2]; exact x29 u hu
  · rw [qr 30 (by decide) (by decide) (by decide)]; exact x30
  · rw [qr 31 (by decide) (by decide) (by decide)]; exact x31
  · refine t_ex0 hP hD w0 (by omega) k1 ?_
    rw [k2, hv']
    refine t_sayApp hP (by omega) (by rw [w9, hK']) (by omega) ?_
    rw [cPP, w0, Int.toNat_natCast, cP (D + 4) (by unfold isP at hP; omega) (by unfold isP at hP; omega) (by unfold isP at hP; omega)]
    exact ⟨hD, by omega, by omega, hQ⟩
  · refine r_ex0 h48 (by omega) hk ?_
    rw [hv']
    exact go _ hQ
  · rw [q0, vu_eq, vu_ne _ _ (by decide), h49]; exact hat
  · rw [q0, vu_ne _ _ (by decide)]; exact g
/-- changes of one number of the play alone: flags, meters, offers -/
theorem S_one (hP : isP P) {ci : Nat} {cv : Int} {mi : Nat} {mv : Int} (h : SRx D c m φ e N S B nd ck ts tm) (hw : PW c m P D nd ck H) (hX : BX m) (hs : s < N) (h49 : m 0 49 = m 7 s) (hci : ci = 5 ∨ ci = 6 ∨ ci = 8) (hmi : (ci = 5 ∧ mi = 4) ∨ (ci = 6 ∧ (mi = 5 ∨ mi = 6 ∨ mi = 7)) ∨ (ci = 8 ∧ mi = 9)) (h5 : ci = 5 → cv = mv ∧ 0 ≤ mv ∧ mv < 64) (h6 : ci = 6 → cv = va_up (m 26) mi mv 5 + 16 * va_up (m 26) mi mv 6 + 256 * va_up (m 26) mi mv 7 ∧ 0 ≤ mv ∧ mv ≤ 9) (h8 : ci = 8 → cv = mv ∧ 0 ≤ mv ∧ mv < ((2 ^ ck : Nat) : Int))
    (hc : ∀ Q : St → Int → Prop, Q (sset c P ci cv) (c (D + 4) (φ s)) → f_X5_execute P ((φ s : Nat) : Int) (c (D + 1) (φ s)) c Q) (hm : ∀ Q : St → Int → Prop, Q (sset (sset m 0 48 (m 6 s)) 26 mi mv) 1 → f_X10_executes m Q) : STP c m P D φ e N B nd ck H s := by
  have hat := AT_next h hs
  obtain ⟨⟨w0, w1, w3, w4, w5, w6, w8, w9, w10⟩, hv, ht, hl, hx⟩ := hw
  obtain ⟨c1, hc1⟩ : ∃ c1 : St, c1 = sset c P ci cv := ⟨_, rfl⟩
  obtain ⟨m1, hm1⟩ : ∃ m1 : St, m1 = sset (sset m 0 48 (m 6 s)) 26 mi mv := ⟨_, rfl⟩
  rw [← hc1] at hc
  rw [← hm1] at hm
  have cP : c1 P = va_up (c P) ci cv := by rw [hc1, sset_at]
  have cr : ∀ q, q ≠ P → c1 q = c q := fun q hq => by rw [hc1, sset_row _ _ _ hq]
  have q0 : m1 0 = va_up (m 0) 48 (m 6 s) := by rw [hm1, sset_row _ _ _ (by decide), sset_at]
  have q26 : m1 26 = va_up (m 26) mi mv := by rw [hm1, sset_at, sset_row _ _ _ (by decide)]
  have qr : ∀ q, q ≠ 0 → q ≠ 26 → m1 q = m q := fun q a b => by rw [hm1, sset_row _ _ _ b, sset_row _ _ _ a]
  have q44 : m1 0 44 = m 0 44 := by rw [q0, vu_ne _ _ (by decide)]
  have pi : ∀ i, i ≠ mi → m1 26 i = m 26 i := fun i hi => by rw [q26, vu_ne _ _ hi]
  have ca : ∀ i, i ≠ ci → c1 P i = c P i := fun i hi => by rw [cP, vu_ne _ _ hi]
  have hv' := hv
  obtain ⟨a1, a2, a3, a4, a5, a6, a7, a8, a9, a10, a11, a12, a13, a14, a15⟩ := hv'
  refine ⟨c1, m1, c (D + 4) (φ s), 1, fun q a b d f => cr q a, ⟨fun q a b d f g => qr q a b, fun i a b => by rw [q0, vu_ne _ _ a], fun g => ⟨qr 29 (by decide) (by decide), qr 30 (by decide) (by decide)⟩, qr 31 (by decide) (by decide)⟩, ⟨⟨?_, ?_, ?_, ?_, ?_, ?_, ?_, ?_, ?_⟩, ?_, ?_, ?_, ?_⟩, BX_same hX q44 (qr 29 (by decide) (by decide)) (qr 30 (by decide) (by decide)) (qr 31 (by decide) (by decide)), by rw [pi 10 (by omega)]; omega, hc, hm, Or.inl ⟨rfl, ?_, fun g => ?_⟩⟩
  · rw [ca 0 (by omega), w0]
  · rw [ca 1 (by omega), w1, pi 0 (by omega)]
  · rw [ca 3 (by omega), w3, pi 2 (by omega)]
  · rw [ca 4 (by omega), w4, pi 3 (by omega)]
  · by_cases g : ci = 5
    · have : mi = 4 := by omega
      rw [cP, q26, g, this, vu_eq, vu_eq]; exact (h5 g).1
    · rw [ca 5 (by omega), w5, pi 4 (by omega)]
  · by_cases g : ci = 6
    · rw [cP, q26, g, vu_eq]; exact (h6 g).1
    · rw [ca 6 (by omega), w6, pi 5 (by omega), pi 6 (by omega), pi 7 (by omega)]
  · by_cases g : ci = 8
    · have : mi = 9 := by omega
      rw [cP, q26, g, this, vu_eq, vu_eq]; exact (h8 g).1
    · rw [ca 8 (by omega), w8, pi 9 (by omega)]
  · rw [cr (P + 1) (by omega), w9, pi 10 (by omega)]
  · rw [ca 2 (by omega), pi 0 (by omega), pi 1 (by omega)]; exact w10
  · have b4 : 0 ≤ m1 26 4 ∧ m1 26 4 < 64 := by
      by_cases g : mi = 4
      · rw [q26, g, vu_eq]; exact (h5 (by omega)).2
      · rw [pi 4 (by omega)]; exact ⟨a5, a6⟩
    have b5 : 0 ≤ m1 26 5 ∧ m1 26 5 ≤ 9 := by
      by_cases g : mi = 5
      · rw [q26, g, vu_eq]; exact (h6 (by omega)).2
      · rw [pi 5 (by omega)]; exact ⟨a7, a8⟩
    have b6 : 0 ≤ m1 26 6 ∧ m1 26 6 ≤ 9 := by
      by_cases g : mi = 6
      · rw [q26, g, vu_eq]; exact (h6 (by omega)).2
      · rw [pi 6 (by omega)]; exact ⟨a9, a10⟩
    have b7 : 0 ≤ m1 26 7 ∧ m1 26 7 ≤ 9 := by
      by_cases g : mi = 7
      · rw [q26, g, vu_eq]; exact (h6 (by omega)).2
      · rw [pi 7 (by omega)]; exact ⟨a11, a12⟩
    have b9 : 0 ≤ m1 26 9 ∧ m1 26 9 < ((2 ^ ck : Nat) : Int) := by
      by_cases g : mi = 9
      · rw [q26, g, vu_eq]; exact (h8 (by omega)).2
      · rw [pi 9 (by omega)]; exact ⟨a13, a14⟩
    unfold PWv
    rw [pi 2 (by omega), pi 3 (by omega), pi 10 (by omega)]
    exact ⟨a1, a2, a3, a4, b4.1, b4.2, b5.1, b5.2, b6.1, b6.2, b7.1, b7.2, b9.1, b9.2, a15⟩
  · exact PWt_same ht (ca 7 (by omega)) (pi 8 (by omega))
  · exact PWl_same hl (cr _ (by omega)) (fun i hi => pi i (by omega))
  · exact PWx_same hx (ca 9 (by omega)) (cr _ (by omega)) q44 (qr 29 (by decide) (by decide)) (qr 30 (by decide) (by decide))
  · rw [q0, vu_eq, vu_ne _ _ (by decide), h49]; exact hat
  · rw [q0, vu_ne _ _ (by decide)]; exact g
theorem S_flag (hP : isP P) (hD : D = 2 ∨ D = 20) (h : SRx D c m φ e N S B nd ck ts tm) (hw : PW c m P D nd ck H) (hX : BX m) (hs : s < N) (h48 : m 0 48 = (s : Int)) (h49 : m 0 49 = m 7 s) (hk : m 3 s = 1) : STP c m P D φ e N B nd ck H s := by
  have h' := h
  have hw' := hw
  obtain ⟨⟨-, -, -, -, -, -, -, -, -, -, -, -, -, -, -, nS, -, -⟩, ⟨hYP, -⟩, -, -, -, -, -, ⟨hYK, -⟩, -⟩ := h'
  have hφ := hYP.1 s hs
  have hge := phi_ge hYP s hs
  obtain ⟨⟨w0, w1, w3, w4, w5, -⟩, ⟨-, -, -, -, v5, v6, -⟩, -⟩ := hw'
  have kk : 0 ≤ m 4 s ∧ m 4 s ≤ 5 ∧ c (D + 2) (φ s) = m 4 s ∧ ((m 5 s = 1 ∧ c (D + 1) (φ s) = 1) ∨ (m 5 s = 0 ∧ c (D + 1) (φ s) = 2)) := by
    rcases hYK s hs with ⟨u1, -⟩ | ⟨u1, u2, u3, u4, u5⟩ | ⟨u1, -⟩ | ⟨u1, -⟩ | ⟨u1, -⟩ | ⟨u1, -⟩ | ⟨u1, -⟩ | ⟨u1, -⟩
    · omega
    · exact ⟨u2, u3, u4, u5⟩
    all_goals omega
  obtain ⟨k1, k2, k3, k4⟩ := kk
  have fr := flag_r ⟨(m 26 4).toNat, by omega⟩ ⟨(m 4 s).toNat, by omega⟩
  have e1 : (((m 26 4).toNat : Nat) : Int) = m 26 4 := by omega
  have e2 : (((m 4 s).toNat : Nat) : Int) = m 4 s := by omega
  rw [e1, e2] at fr
  rcases k4 with ⟨u1, u2⟩ | ⟨u1, u2⟩
  · refine S_one (ci := 5) (mi := 4) (cv := ior32 (m 26 4) (ishl32 1 (m 4 s))) (mv := ior32 (m 26 4) (ishl32 1 (m 4 s))) hP h hw hX hs h49 (by omega) (by omega) (fun _ => ⟨rfl, fr.1⟩) (fun g => by omega) (fun g => by omega) (fun Q hQ => ?_) (fun Q hQ => ?_)
    · refine t_ex1 hP hD w0 (by omega) u2 ?_
      rw [w5, k3]; exact hQ
    · exact r_ex1 h48 (by omega) hk ⟨by omega, by omega⟩ (fun _ => hQ) (fun g => absurd u1 g)
  · refine S_one (ci := 5) (mi := 4) (cv := iand32 (m 26 4) (ixor32 (ishl32 1 (m 4 s)) (-1))) (mv := iand32 (m 26 4) (ixor32 (ishl32 1 (m 4 s)) (-1))) hP h hw hX hs h49 (by omega) (by omega) (fun _ => ⟨rfl, fr.2⟩) (fun g => by omega) (fun g => by omega) (fun Q hQ => ?_) (fun Q hQ => ?_)
    · refine t_ex2 hP hD w0 (by omega) u2 ?_
      rw [w5, k3]; exact hQ
    · exact r_ex1 h48 (by omega) hk ⟨by omega, by omega⟩ (fun g => by omega) (fun _ => hQ)
theorem S_meter (hP : isP P) (hD : D = 2 ∨ D = 20) (h : SRx D c m φ e N S B nd ck ts tm) (hw : PW c m P D nd ck H) (hX : BX m) (hs : s < N) (h48 : m 0 48 = (s : Int)) (h49 : m 0 49 = m 7 s) (hk : m 3 s = 2) : STP c m P D φ e N B nd ck H s := by
  have h' := h
  have hw' := hw
  obtain ⟨⟨-, -, -, -, -, -, -, -, -, -, -, -, -, -, -, nS, -, -⟩, ⟨hYP, -⟩, -, -, -, -, -, ⟨hYK, -⟩, -⟩ := h'
  have hφ := hYP.1 s hs
  have hge := phi_ge hYP s hs
  obtain ⟨⟨w0, w1, w3, w4, w5, w6, -⟩, ⟨-, -, -, -, v5, v6, v7, v8, v9, v10, v11, v12, -⟩, -⟩ := hw'
  have kk : 0 ≤ m 4 s ∧ m 4 s ≤ 2 ∧ c (D + 2) (φ s) = m 4 s ∧ 0 ≤ m 5 s ∧ m 5 s ≤ 9 ∧ c (D + 3) (φ s) = m 5 s ∧ ((m 8 s = 61 ∧ c (D + 1) (φ s) = 3) ∨ (m 8 s = 43 ∧ c (D + 1) (φ s) = 4) ∨ (m 8 s = 45 ∧ c (D + 1) (φ s) = 5)) := by
    rcases hYK s hs with ⟨u1, -⟩ | ⟨u1, -⟩ | ⟨u1, u2, u3, u4, u5, u6, u7, u8⟩ | ⟨u1, -⟩ | ⟨u1, -⟩ | ⟨u1, -⟩ | ⟨u1, -⟩ | ⟨u1, -⟩
    · omega
    · omega
    · exact ⟨u2, u3, u4, u5, u6, u7, u8⟩
    all_goals omega
  obtain ⟨k1, k2, k3, k4, k5, k6, k7⟩ := kk
  obtain ⟨x, hx⟩ : ∃ x : Nat, m 4 s = (x : Int) := ⟨(m 4 s).toNat, by omega⟩
  obtain ⟨w, hw3⟩ : ∃ w : Int, c (D + 1) (φ s) = w := ⟨_, rfl⟩
  rw [hw3] at k7
  have exn : (5 + m 4 s).toNat = 5 + x := by omega
  have pr : 0 ≤ m 26 (5 + x) ∧ m 26 (5 + x) ≤ 9 := by
    have : x = 0 ∨ x = 1 ∨ x = 2 := by omega
    rcases this with rfl | rfl | rfl
    · exact ⟨v7, v8⟩
    · exact ⟨v9, v10⟩
    · exact ⟨v11, v12⟩
  obtain ⟨v, hv, go⟩ := t_changeMeter (P := P) (x := x) (w := w) (y := m 5 s) (c := c) (p := m 26) hP (by omega) (by omega) ⟨k4, k5⟩ w6 ⟨v7, v8⟩ ⟨v9, v10⟩ ⟨v11, v12⟩
  have nr : 0 ≤ nvm w (m 26 (5 + x)) (m 5 s) ∧ nvm w (m 26 (5 + x)) (m 5 s) ≤ 9 := clm_r _
  have hD4 : D + 4 ≠ P := by unfold isP at hP; omega
  have fin : ∀ Q : St → Int → Prop, Q (sset c P 6 v) (c (D + 4) (φ s)) → f_X5_changeMeter P w (c (D + 2) (φ s)) (c (D + 3) (φ s)) c (fun σ => isS ((σ P 0).toNat) ∧ 0 ≤ ((φ s : Nat) : Int) ∧ ((φ s : Nat) : Int) < 400 ∧ Q σ (σ ((σ P 0).toNat + 4) (φ s))) := by
    intro Q hQ
    rw [k3, k6, hx]
    refine go _ ?_
    rw [sset_place _ _ _ (by decide), w0, Int.toNat_natCast, sset_row _ _ _ hD4]
    exact ⟨hD, by omega, by omega, hQ⟩
  refine S_one (ci := 6) (mi := 5 + x) (cv := v) (mv := nvm w (m 26 (5 + x)) (m 5 s)) hP h hw hX hs h49 (by omega) (by omega) (fun g => by omega) (fun _ => ⟨hv, nr⟩) (fun g => by omega) (fun Q hQ => ?_) (fun Q hQ => ?_)
  · rw [hw3]
    rcases k7 with ⟨-, u⟩ | ⟨-, u⟩ | ⟨-, u⟩
    · exact t_ex3 hP hD w0 (by omega) u (fin Q hQ)
    · exact t_ex4 hP hD w0 (by omega) u (fin Q hQ)
    · exact t_ex5 hP hD w0 (by omega) u (fin Q hQ)
  · refine r_ex2 h48 (by omega) hk ?_
    have rr : ∀ q, q ≠ 0 → sset m 0 48 (m 6 s) q = m q := fun q hq => sset_row _ _ _ hq
    refine r_changesMeter (w := w) (by omega) (by rw [rr 4 (by decide)]; exact ⟨k1, k2⟩) (by rw [rr 5 (by decide)]; exact ⟨k4, k5⟩) (by rw [rr 8 (by decide)]; exact k7) (by rw [rr 4 (by decide), rr 26 (by decide), exn]; exact pr) ?_
    rw [rr 4 (by decide), rr 26 (by decide), rr 5 (by decide), exn]
    exact hQ
end STEPS
