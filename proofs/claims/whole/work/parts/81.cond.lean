/-! ===== pure layer: conditions hold alike ===== -/
/-- whether a term holds -/
def thv (k o v : Int) (F : Nat) (ms : Nat → Int) : Bool := if k = 0 then F.testBit o.toNat else if k = 1 then !F.testBit o.toNat else if k = 2 then decide (ms o.toNat < v) else if k = 3 then decide (v < ms o.toNat) else decide (ms o.toNat = v)
def bi (b : Bool) : Int := if b then 1 else 0
def alln (f : Nat → Bool) : Nat → Nat → Bool
  | _, 0 => true
  | a, n + 1 => f a && alln f (a + 1) n
theorem thv_0 {k o v : Int} {F : Nat} {ms : Nat → Int} (h : k = 0) : thv k o v F ms = F.testBit o.toNat := by unfold thv; rw [if_pos h]
theorem thv_1 {k o v : Int} {F : Nat} {ms : Nat → Int} (h : k = 1) : thv k o v F ms = !F.testBit o.toNat := by unfold thv; rw [if_neg (by omega), if_pos h]
theorem thv_2 {k o v : Int} {F : Nat} {ms : Nat → Int} (h : k = 2) : thv k o v F ms = decide (ms o.toNat < v) := by unfold thv; rw [if_neg (by omega), if_neg (by omega), if_pos h]
theorem thv_3 {k o v : Int} {F : Nat} {ms : Nat → Int} (h : k = 3) : thv k o v F ms = decide (v < ms o.toNat) := by unfold thv; rw [if_neg (by omega), if_neg (by omega), if_neg (by omega), if_pos h]
theorem thv_4 {k o v : Int} {F : Nat} {ms : Nat → Int} (h : 3 < k) : thv k o v F ms = decide (ms o.toNat = v) := by unfold thv; rw [if_neg (by omega), if_neg (by omega), if_neg (by omega), if_neg (by omega)]
theorem bi_01 {b : Bool} : bi b = 0 ∨ bi b = 1 := by cases b; exact Or.inl rfl; exact Or.inr rfl
section COND
variable {c m : St} {D : Nat} {Q : St → Int → Prop} {F : Nat} {ms : Nat → Int}
theorem r_termHolds {t : Nat} (ht : t < 401) (hR : TR (m 12 t) (m 13 t) (m 14 t)) (hF : m 26 4 = (F : Int)) (hF2 : F < 64) (hm : ∀ i, i < 3 → m 26 (5 + i) = ms i ∧ 0 ≤ ms i ∧ ms i ≤ 9) (hQ : Q m (bi (thv (m 12 t) (m 13 t) (m 14 t) F ms))) : f_X10_termHolds (t : Int) m Q := by
  unfold f_X10_termHolds
  rw [Int.toNat_natCast, hF]
  rcases hR with ⟨k1, k2, o1, o2⟩ | ⟨k1, k2, o1, o2, v1, v2⟩
  · have hb := bit_nat (x := F) (k := (m 13 t).toNat) (by omega) (by omega)
    rw [show (((m 13 t).toNat : Nat) : Int) = m 13 t by omega] at hb
    rw [hb]
    refine ⟨by omega, by omega, ⟨by omega, by omega⟩, fun g => by omega, fun _ => ⟨by omega, by omega, by omega, by omega, by split <;> exact ⟨by decide, by decide⟩, ⟨by omega, by omega⟩, ?_⟩⟩
    by_cases q : F.testBit (m 13 t).toNat = true
    · rw [if_pos q]
      by_cases g : m 12 t = 0
      · rw [thv_0 g, q] at hQ
        exact ⟨fun u => by omega, fun _ => hQ⟩
      · have g1 : m 12 t = 1 := by omega
        rw [thv_1 g1, q] at hQ
        exact ⟨fun _ => hQ, fun u => by omega⟩
    · rw [if_neg q]
      have q' : F.testBit (m 13 t).toNat = false := by
        cases h : F.testBit (m 13 t).toNat
        · rfl
        · exact absurd h q
      by_cases g : m 12 t = 0
      · rw [thv_0 g, q'] at hQ
        exact ⟨fun _ => hQ, fun u => by omega⟩
      · have g1 : m 12 t = 1 := by omega
        rw [thv_1 g1, q'] at hQ
        exact ⟨fun u => by omega, fun _ => hQ⟩
  · have hi := hm (m 13 t).toNat (by omega)
    rw [show 5 + (m 13 t).toNat = (5 + m 13 t).toNat by omega] at hi
    refine ⟨by omega, by omega, ⟨by omega, by omega⟩, fun _ => ⟨by omega, by omega, by omega, by omega, ?_⟩, fun g => by omega⟩
    rintro x1 rfl
    rw [hi.1]
    refine ⟨by omega, by omega, ⟨by omega, by omega⟩, fun g2 => ⟨by omega, by omega, ⟨by omega, by omega⟩, fun g3 => ⟨by omega, by omega, ⟨by omega, by omega⟩, ⟨by omega, by omega⟩, fun u => ?_, fun u => ?_⟩, fun g3 => ⟨by omega, by omega, ⟨by omega, by omega⟩, ⟨by omega, by omega⟩, fun u => ?_, fun u => ?_⟩⟩, fun g2 => ⟨by omega, by omega, ⟨by omega, by omega⟩, ⟨by omega, by omega⟩, fun u => ?_, fun u => ?_⟩⟩
    · rw [thv_4 (by omega), decide_eq_false u] at hQ; exact hQ
    · rw [thv_4 (by omega), decide_eq_true u] at hQ; exact hQ
    · rw [thv_3 g3, decide_eq_false (by omega)] at hQ; exact hQ
    · rw [thv_3 g3, decide_eq_true (by omega)] at hQ; exact hQ
    · rw [thv_2 g2, decide_eq_false (by omega)] at hQ; exact hQ
    · rw [thv_2 g2, decide_eq_true (by omega)] at hQ; exact hQ
/-- the reference: a condition holds -/
theorem r_holds {s : Nat} (hs : s < 401) {tf tt : Nat} (h10 : m 10 s = (tf : Int)) (h11 : m 11 s = (tt : Int)) (hle : tf ≤ tt) (htt : tt ≤ 400) (hR : ∀ t, t < tt → TR (m 12 t) (m 13 t) (m 14 t)) (hF : m 26 4 = (F : Int)) (hF2 : F < 64) (hm : ∀ i, i < 3 → m 26 (5 + i) = ms i ∧ 0 ≤ ms i ∧ ms i ≤ 9) (hQ : Q m (bi (alln (fun t => thv (m 12 t) (m 13 t) (m 14 t) F ms) tf (tt - tf)))) : f_X10_holds (s : Int) m Q := by
  have dead : ∀ (k t fu : Nat), tt - t = k → t ≤ tt → k < fu → Q m 0 → f_X10_holds_L9 Q fu m (s : Int) 0 (t : Int) := by
    intro k
    induction k with
    | zero =>
      intro t fu hk ht hf h
      cases fu with
      | zero => omega
      | succ fu =>
        unfold f_X10_holds_L9
        rw [Int.toNat_natCast, h11]
        exact ⟨by omega, by omega, ⟨by omega, by omega⟩, ⟨by omega, by omega⟩, fun _ => ⟨Or.inl rfl, h⟩, fun g => by omega⟩
    | succ k ih =>
      intro t fu hk ht hf h
      cases fu with
      | zero => omega
      | succ fu =>
        unfold f_X10_holds_L9 f_X10_holds_J35
        rw [Int.toNat_natCast, h11]
        exact ⟨by omega, by omega, ⟨by omega, by omega⟩, ⟨by omega, by omega⟩, fun g => by omega, fun _ => ⟨⟨by decide, by decide⟩, fun _ => ih (t + 1) fu (by omega) (by omega) (by omega) h, fun g => absurd rfl g⟩⟩
  have live : ∀ (k t fu : Nat), tt - t = k → t ≤ tt → k < fu → Q m (bi (alln (fun t => thv (m 12 t) (m 13 t) (m 14 t) F ms) t (tt - t))) → f_X10_holds_L9 Q fu m (s : Int) 1 (t : Int) := by
    intro k
    induction k with
    | zero =>
      intro t fu hk ht hf h
      cases fu with
      | zero => omega
      | succ fu =>
        unfold f_X10_holds_L9
        rw [Int.toNat_natCast, h11]
        rw [hk] at h
        exact ⟨by omega, by omega, ⟨by omega, by omega⟩, ⟨by omega, by omega⟩, fun _ => ⟨Or.inr rfl, h⟩, fun g => by omega⟩
    | succ k ih =>
      intro t fu hk ht hf h
      cases fu with
      | zero => omega
      | succ fu =>
        unfold f_X10_holds_L9 f_X10_holds_J35
        rw [Int.toNat_natCast, h11]
        refine ⟨by omega, by omega, ⟨by omega, by omega⟩, ⟨by omega, by omega⟩, fun g => by omega, fun _ => ⟨⟨by decide, by decide⟩, fun g => absurd g (by decide), fun _ => ?_⟩⟩
        refine r_termHolds (by omega) (hR t (by omega)) hF hF2 hm ?_
        have e : alln (fun t => thv (m 12 t) (m 13 t) (m 14 t) F ms) t (tt - t) = (thv (m 12 t) (m 13 t) (m 14 t) F ms && alln (fun t => thv (m 12 t) (m 13 t) (m 14 t) F ms) (t + 1) (tt - (t + 1))) := by
          rw [hk, show tt - (t + 1) = k by omega]; rfl
        rw [e] at h
        refine ⟨inR_01 bi_01, fun g => ?_, fun g => ?_⟩
        · refine dead _ (t + 1) fu rfl (by omega) (by omega) ?_
          cases hb : thv (m 12 t) (m 13 t) (m 14 t) F ms
          · rw [hb] at h; exact h
          · rw [hb] at g; exact absurd g (by decide)
        · refine ih (t + 1) fu (by omega) (by omega) (by omega) ?_
          cases hb : thv (m 12 t) (m 13 t) (m 14 t) F ms
          · rw [hb] at g; exact absurd rfl g
          · rw [hb, Bool.true_and] at h; exact h
  unfold f_X10_holds
  rw [Int.toNat_natCast]
  refine ⟨by omega, by omega, ?_⟩
  rintro x1 rfl
  rw [h10]
  exact live _ tf FU rfl hle (by show tt - tf < 100000; omega) hQ
/-- the class: a term holds -/
theorem t_oneHolds {t a b d : Nat} (hD : D = 2 ∨ D = 20) (ht : t < 200) (hR : TR (c (D + 10) t) (c (D + 11) t) (c (D + 12) t)) (hF2 : F < 64) (ha : a ≤ 9) (hb : b ≤ 9) (hd : d ≤ 9) (h0 : ms 0 = (a : Int)) (h1 : ms 1 = (b : Int)) (h2 : ms 2 = (d : Int)) (hQ : Q c (bi (thv (c (D + 10) t) (c (D + 11) t) (c (D + 12) t) F ms))) : f_X8_oneHolds (D + 9) (t : Int) (F : Int) ((mt a b d : Nat) : Int) c Q := by
  have hT : isT (D + 9) := by rcases hD with rfl | rfl; exact Or.inl rfl; exact Or.inr rfl
  unfold f_X8_oneHolds f_X8_oneHolds_J19
  rw [Int.toNat_natCast]
  show isT (D + 9) ∧ _
  have e10 : D + 9 + 1 = D + 10 := rfl
  have e11 : D + 9 + 2 = D + 11 := rfl
  have e12 : D + 9 + 3 = D + 12 := rfl
  rw [e10, e11, e12]
  have hbit : iand32 (ishr32 (F : Int) (c (D + 11) t)) 1 = if F.testBit (c (D + 11) t).toNat then 1 else 0 := by
    have := bit_nat (x := F) (k := (c (D + 11) t).toNat) (by omega) (by rcases hR with ⟨-, -, o1, o2⟩ | ⟨-, -, o1, o2, -⟩ <;> omega)
    rw [show (((c (D + 11) t).toNat : Nat) : Int) = c (D + 11) t by rcases hR with ⟨-, -, o1, o2⟩ | ⟨-, -, o1, o2, -⟩ <;> omega] at this
    exact this
  rw [hbit]
  -- the rest, whatever the bit is
  have key : ∀ s0 : Int, s0 = (if F.testBit (c (D + 11) t).toNat then 1 else 0) → isT (D + 9) ∧ 0 ≤ (t : Int) ∧ (t : Int) < 200 ∧ ∀ x1 : Int, x1 = (iand32 (ishr32 ((mt a b d : Nat) : Int) (4 * (c (D + 11) t))) 15) → 0 ≤ (t : Int) ∧ (t : Int) < 200 ∧ inR (c (D + 10) t) ∧ (((c (D + 10) t) = 0 → (s0 = 0 ∨ s0 = 1) ∧ Q c s0) ∧ ((c (D + 10) t) = 1 → inR s0 ∧ ((¬ s0 = 0 → Q c 0) ∧ (s0 = 0 → Q c 1))) ∧ ((c (D + 10) t) = 2 → 0 ≤ (t : Int) ∧ (t : Int) < 200 ∧ inR x1 ∧ inR (c (D + 12) t) ∧ (((c (D + 12) t) ≤ x1 → Q c 0) ∧ (¬ (c (D + 12) t) ≤ x1 → Q c 1))) ∧ ((c (D + 10) t) = 3 → 0 ≤ (t : Int) ∧ (t : Int) < 200 ∧ inR x1 ∧ inR (c (D + 12) t) ∧ ((x1 ≤ (c (D + 12) t) → Q c 0) ∧ (¬ x1 ≤ (c (D + 12) t) → Q c 1))) ∧ (((c (D + 10) t) < 0 ∨ 3 < (c (D + 10) t)) → 0 ≤ (t : Int) ∧ (t : Int) < 200 ∧ inR x1 ∧ inR (c (D + 12) t) ∧ ((¬ x1 = (c (D + 12) t) → Q c 0) ∧ (x1 = (c (D + 12) t) → Q c 1)))) := by
    intro s0 hs0
    refine ⟨hT, by omega, by omega, fun x1 hx1 => ?_⟩
    rcases hR with ⟨k1, k2, o1, o2⟩ | ⟨k1, k2, o1, o2, v1, v2⟩
    · refine ⟨by omega, by omega, ⟨by omega, by omega⟩, fun g => ?_, fun g => ?_, fun g => by omega, fun g => by omega, fun g => by omega⟩
      · rw [thv_0 g] at hQ
        by_cases q : F.testBit (c (D + 11) t).toNat = true
        · rw [if_pos q] at hs0
          rw [q] at hQ
          rw [hs0]; exact ⟨Or.inr rfl, hQ⟩
        · rw [if_neg q] at hs0
          have q' : F.testBit (c (D + 11) t).toNat = false := by
            cases h : F.testBit (c (D + 11) t).toNat
            · rfl
            · exact absurd h q
          rw [q'] at hQ
          rw [hs0]; exact ⟨Or.inl rfl, hQ⟩
      · rw [thv_1 g] at hQ
        by_cases q : F.testBit (c (D + 11) t).toNat = true
        · rw [if_pos q] at hs0
          rw [q] at hQ
          rw [hs0]
          exact ⟨⟨by decide, by decide⟩, fun _ => hQ, fun u => absurd u (by decide)⟩
        · rw [if_neg q] at hs0
          have q' : F.testBit (c (D + 11) t).toNat = false := by
            cases h : F.testBit (c (D + 11) t).toNat
            · rfl
            · exact absurd h q
          rw [q'] at hQ
          rw [hs0]
          exact ⟨⟨by decide, by decide⟩, fun u => absurd rfl u, fun _ => hQ⟩
    · have hx : x1 = ms (c (D + 11) t).toNat ∧ 0 ≤ x1 ∧ x1 ≤ 9 := by
        have mr := mt_read ⟨a, by omega⟩ ⟨b, by omega⟩ ⟨d, by omega⟩
        have ho : c (D + 11) t = 0 ∨ c (D + 11) t = 1 ∨ c (D + 11) t = 2 := by omega
        rcases ho with g | g | g
        · rw [g] at hx1 ⊢
          have : x1 = (a : Int) := by rw [hx1]; exact mr.1
          exact ⟨by rw [this]; exact h0.symm, by omega, by omega⟩
        · rw [g] at hx1 ⊢
          have : x1 = (b : Int) := by rw [hx1]; exact mr.2.1
          exact ⟨by rw [this]; exact h1.symm, by omega, by omega⟩
        · rw [g] at hx1 ⊢
          have : x1 = (d : Int) := by rw [hx1]; exact mr.2.2
          exact ⟨by rw [this]; exact h2.symm, by omega, by omega⟩
      refine ⟨by omega, by omega, ⟨by omega, by omega⟩, fun g => by omega, fun g => by omega, fun g => ⟨by omega, by omega, ⟨by omega, by omega⟩, ⟨by omega, by omega⟩, fun u => ?_, fun u => ?_⟩, fun g => ⟨by omega, by omega, ⟨by omega, by omega⟩, ⟨by omega, by omega⟩, fun u => ?_, fun u => ?_⟩, fun g => ⟨by omega, by omega, ⟨by omega, by omega⟩, ⟨by omega, by omega⟩, fun u => ?_, fun u => ?_⟩⟩
      · rw [thv_2 g, ← hx.1, decide_eq_false (by omega)] at hQ; exact hQ
      · rw [thv_2 g, ← hx.1, decide_eq_true (by omega)] at hQ; exact hQ
      · rw [thv_3 g, ← hx.1, decide_eq_false (by omega)] at hQ; exact hQ
      · rw [thv_3 g, ← hx.1, decide_eq_true (by omega)] at hQ; exact hQ
      · rw [thv_4 (by omega), ← hx.1, decide_eq_false u] at hQ; exact hQ
      · rw [thv_4 (by omega), ← hx.1, decide_eq_true u] at hQ; exact hQ
  refine ⟨hT, by omega, by omega, by split <;> exact ⟨by decide, by decide⟩, fun g => ?_, fun g => ?_⟩
  · refine key 0 ?_
    by_cases q : F.testBit (c (D + 11) t).toNat = true
    · rw [if_pos q] at g; exact absurd rfl g
    · rw [if_neg q]
  · refine key 1 ?_
    by_cases q : F.testBit (c (D + 11) t).toNat = true
    · rw [if_pos q]
    · rw [if_neg q] at g; omega
/-- the class: a condition holds -/
theorem t_allHold {tf tt tm a b d : Nat} (hD : D = 2 ∨ D = 20) (hle : tf ≤ tt) (htt : tt ≤ tm) (htm : tm ≤ 199) (hsz : c (D + 9) 0 = (tm : Int)) (hR : ∀ t, t < tt → TR (c (D + 10) t) (c (D + 11) t) (c (D + 12) t)) (hF2 : F < 64) (ha : a ≤ 9) (hb : b ≤ 9) (hd : d ≤ 9) (h0 : ms 0 = (a : Int)) (h1 : ms 1 = (b : Int)) (h2 : ms 2 = (d : Int)) (hQ : Q c (bi (alln (fun t => thv (c (D + 10) t) (c (D + 11) t) (c (D + 12) t) F ms) tf (tt - tf)))) : f_X8_allHold (D + 9) (tf : Int) (tt : Int) (F : Int) ((mt a b d : Nat) : Int) c Q := by
  have hT : isT (D + 9) := by rcases hD with rfl | rfl; exact Or.inl rfl; exact Or.inr rfl
  have live : ∀ (k t fu : Nat), tt - t = k → t ≤ tt → k < fu → Q c (bi (alln (fun t => thv (c (D + 10) t) (c (D + 11) t) (c (D + 12) t) F ms) t (tt - t))) → f_X8_allHold_L17 Q fu c (D + 9) (F : Int) ((mt a b d : Nat) : Int) (tt : Int) (t : Int) := by
    intro k
    induction k with
    | zero =>
      intro t fu hk ht hf h
      cases fu with
      | zero => omega
      | succ fu =>
        unfold f_X8_allHold_L17
        rw [hk] at h
        exact ⟨⟨by omega, by omega⟩, fun g => by omega, fun _ => ⟨⟨by omega, by omega⟩, ⟨by omega, by omega⟩, fun _ => h, fun g => by omega⟩⟩
    | succ k ih =>
      intro t fu hk ht hf h
      cases fu with
      | zero => omega
      | succ fu =>
        unfold f_X8_allHold_L17
        refine ⟨⟨by omega, by omega⟩, fun g => by omega, fun _ => ⟨⟨by omega, by omega⟩, ⟨by omega, by omega⟩, fun g => by omega, fun _ => ⟨hT, ?_⟩⟩⟩
        refine t_oneHolds hD (by omega) (hR t (by omega)) hF2 ha hb hd h0 h1 h2 ?_
        have e : alln (fun t => thv (c (D + 10) t) (c (D + 11) t) (c (D + 12) t) F ms) t (tt - t) = (thv (c (D + 10) t) (c (D + 11) t) (c (D + 12) t) F ms && alln (fun t => thv (c (D + 10) t) (c (D + 11) t) (c (D + 12) t) F ms) (t + 1) (tt - (t + 1))) := by
          rw [hk, show tt - (t + 1) = k by omega]; rfl
        rw [e] at h
        refine ⟨inR_01 bi_01, fun g => ?_, fun g => ?_⟩
        · refine ih (t + 1) fu (by omega) (by omega) (by omega) ?_
          cases hb : thv (c (D + 10) t) (c (D + 11) t) (c (D + 12) t) F ms
          · rw [hb] at g; exact absurd rfl g
          · rw [hb, Bool.true_and] at h; exact h
        · cases hb : thv (c (D + 10) t) (c (D + 11) t) (c (D + 12) t) F ms
          · rw [hb] at h; exact h
          · rw [hb] at g; exact absurd g (by decide)
  unfold f_X8_allHold f_JM_min f_JM_max
  rw [hsz]
  have start : f_X8_allHold_L17 Q FU c (D + 9) (F : Int) ((mt a b d : Nat) : Int) (tt : Int) (tf : Int) := live _ tf FU rfl hle (by show tt - tf < 100000; omega) hQ
  refine ⟨hT, ⟨by omega, by omega⟩, ⟨by omega, by omega⟩, fun g => by omega, fun _ => ⟨⟨by omega, by omega⟩, ⟨by decide, by decide⟩, fun g => by omega, fun _ => start⟩⟩
end COND
