/-! ===== pure layer: conditions in the class's analysis; when a solution is closed at a statement ===== -/
def tk (c : St) (D t : Nat) : Nat := (c (D + 10) t).toNat
def tq (c : St) (D t : Nat) : Nat := (c (D + 11) t).toNat
def tv (c : St) (D t : Nat) : Nat := (c (D + 12) t).toNat
def tn (c : St) (D x : Nat) : Nat := (c (D + 8) x).toNat - (c (D + 7) x).toNat
def ctp (c : St) (D x : Nat) (g : Nat → Nat) : Nat → Nat := tpF (tk c D) (tq c D) (tv c D) (tn c D x) (c (D + 7) x).toNat g
def cfp (c : St) (D x : Nat) (g : Nat → Nat) : Nat → Nat := fpF (tk c D) (tq c D) (tv c D) (tn c D x) (c (D + 7) x).toNat g
def cch (c : St) (D H x : Nat) (g : Nat → Nat) : Nat → Nat := aCh (tk c D) (tq c D) (tv c D) (tn c D x) (c (D + 7) x).toNat (c (D + 2) x).toNat (H.testBit (c (D + 2) x).toNat) g
/-- the terms of a statement are in order -/
def TQ (c : St) (D x : Nat) : Prop := 0 ≤ c (D + 7) x ∧ c (D + 7) x ≤ c (D + 8) x ∧ c (D + 8) x ≤ c (D + 9) 0 ∧ c (D + 9) 0 ≤ 199 ∧ ∀ t : Nat, (t : Int) < c (D + 9) 0 → TR (c (D + 10) t) (c (D + 11) t) (c (D + 12) t)
section TERMS
variable {c : St} {D x : Nat} {g : Nat → Nat} {Q : St → Int → Prop}
theorem TR_nat {k o v : Int} (h : TR k o v) : (0 ≤ k ∧ 0 ≤ o) ∧ TRN k.toNat o.toNat v.toNat := by
  rcases h with ⟨a1, a2, a3, a4⟩ | ⟨a1, a2, a3, a4, a5, a6⟩
  · exact ⟨⟨a1, a3⟩, Or.inl ⟨by omega, by omega⟩⟩
  · exact ⟨⟨by omega, a3⟩, Or.inr ⟨by omega, by omega, by omega, by omega⟩⟩
theorem TQ_trn (h : TQ c D x) : ∀ s, (c (D + 7) x).toNat ≤ s → s < (c (D + 7) x).toNat + tn c D x → TRN (tk c D s) (tq c D s) (tv c D s) := by
  intro s h1 h2
  obtain ⟨a1, a2, a3, a4, a5⟩ := h
  unfold tn at h2
  exact (TR_nat (a5 s (by omega))).2
theorem ctp_KV (h : TQ c D x) (hg : KV g) : KV (ctp c D x g) := tpF_KV _ _ _ (TQ_trn h) hg
theorem cfp_KV (h : TQ c D x) (hg : KV g) : KV (cfp c D x g) := fpF_KV (fun e => TQ_trn h _ (Nat.le_refl _) (by omega)) hg
theorem ctp_hi {i : Nat} (h : TQ c D x) (hi : 9 ≤ i) : ctp c D x g i = g i := tpF_hi hi _ _ _ (TQ_trn h)
theorem cfp_hi {i : Nat} (h : TQ c D x) (hi : 9 ≤ i) : cfp c D x g i = g i := fpF_hi (fun e => TQ_trn h _ (Nat.le_refl _) (by omega)) hi
theorem ctp_SV (h : TQ c D x) (hg : SV g) (hg0 : g 0 ≠ 0) : SV (ctp c D x g) := ⟨ctp_KV h hg.1, fun _ => by rw [ctp_hi h (by decide), ctp_hi h (by decide)]; exact hg.2 (by rcases KV_01 hg.1 with z | z; exact absurd z hg0; exact z)⟩
theorem cfp_SV (h : TQ c D x) (hg : SV g) (hg0 : g 0 ≠ 0) : SV (cfp c D x g) := ⟨cfp_KV h hg.1, fun _ => by rw [cfp_hi h (by decide), cfp_hi h (by decide)]; exact hg.2 (by rcases KV_01 hg.1 with z | z; exact absurd z hg0; exact z)⟩
theorem tpF_none {K O V : Nat → Nat} {n t : Nat} {g : Nat → Nat} (u : g 0 = 0) : tpF K O V n t g = g := by
  cases n with
  | zero => rfl
  | succ n => unfold tpF; rw [if_pos u]
/-- the true part, in the class -/
theorem t_tp (hD : D = 2 ∨ D = 20) (h65 : c 65 0 = (D : Int)) (hx : x < 400) (h : TQ c D x) (hg : KV g) (hQ : Q c ((pkg (ctp c D x g) : Nat) : Int)) : f_X0_truePart (x : Int) ((pkg g : Nat) : Int) c Q := by
  have hT' : isT (D + 9) := by rcases hD with rfl | rfl; exact Or.inl rfl; exact Or.inr rfl
  have h' := h
  obtain ⟨a1, a2, a3, a4, a5⟩ := h'
  have key : ∀ (n t fu : Nat) (g : Nat → Nat), (t : Int) + n = c (D + 8) x → n < fu → KV g → Q c ((pkg (tpF (tk c D) (tq c D) (tv c D) n t g) : Nat) : Int) → f_X8_truePart_L20 Q fu c (D + 9) (c (D + 8) x) ((pkg g : Nat) : Int) (t : Int) := by
    intro n
    induction n with
    | zero =>
      intro t fu g ht hf hg hq
      cases fu with
      | zero => omega
      | succ fu =>
        unfold f_X8_truePart_L20
        exact ⟨⟨by omega, by omega⟩, fun u => by omega, fun _ => ⟨⟨by omega, by omega⟩, ⟨by omega, by omega⟩, fun _ => hq, fun u => by omega⟩⟩
    | succ n ih =>
      intro t fu g ht hf hg hq
      cases fu with
      | zero => omega
      | succ fu =>
        unfold f_X8_truePart_L20
        unfold tpF at hq
        refine ⟨⟨by omega, by omega⟩, fun u => by omega, fun _ => ⟨⟨by omega, by omega⟩, ⟨by omega, by omega⟩, fun u => by omega, fun _ => ⟨lcmp_r _ _, fun u => ?_, fun u => ⟨hT', ?_⟩⟩⟩⟩
        · rw [lcmp_pkg0 hg] at u
          rw [if_pos u] at hq
          exact ih (t + 1) fu g (by omega) (by omega) hg (by rw [tpF_none u]; exact hq)
        · rw [lcmp_pkg0 hg] at u
          rw [if_neg u] at hq
          have tr := a5 t (by omega)
          obtain ⟨⟨t1, t2⟩, t3⟩ := TR_nat tr
          have e1 : c (D + 10) t = ((tk c D t : Nat) : Int) := by unfold tk; omega
          have e2 : c (D + 11) t = ((tq c D t : Nat) : Int) := by unfold tq; omega
          have e3 : 2 ≤ tk c D t → c (D + 12) t = ((tv c D t : Nat) : Int) := by
            intro z
            unfold tk at z
            unfold tv
            rcases tr with ⟨b1, b2, b3, b4⟩ | ⟨b1, b2, b3, b4, b5, b6⟩
            · omega
            · omega
          rw [e1, e2] at tr
          exact t_narrowed hD hg u (by omega) e1 e2 e3 tr (ih (t + 1) fu _ (by omega) (by omega) (opN_KV (TRN_of t3).1 (TRN_of t3).2 hg) hq)
  unfold f_X0_truePart f_X8_truePart f_JM_min f_JM_max
  rw [h65, Int.toNat_natCast, Int.toNat_natCast]
  have start : f_X8_truePart_L20 Q FU c (D + 9) (c (D + 8) x) ((pkg g : Nat) : Int) (c (D + 7) x) := by
    have := key (tn c D x) (c (D + 7) x).toNat FU g (by unfold tn; omega) (by unfold tn; show _ < 100000; omega) hg hQ
    rw [show (((c (D + 7) x).toNat : Nat) : Int) = c (D + 7) x by omega] at this
    exact this
  refine ⟨hD, by omega, by omega, by omega, by omega, hT', ⟨by omega, by omega⟩, ⟨by omega, by omega⟩, fun u => by omega, fun u => ⟨⟨by omega, by omega⟩, ⟨by decide, by decide⟩, fun w => by omega, fun _ => start⟩⟩
/-- the false part, in the class -/
theorem t_fp (hD : D = 2 ∨ D = 20) (h65 : c 65 0 = (D : Int)) (hx : x < 400) (h : TQ c D x) (hg : KV g) (hQ : Q c ((pkg (cfp c D x g) : Nat) : Int)) : f_X0_falsePart (x : Int) ((pkg g : Nat) : Int) c Q := by
  have hT' : isT (D + 9) := by rcases hD with rfl | rfl; exact Or.inl rfl; exact Or.inr rfl
  obtain ⟨a1, a2, a3, a4, a5⟩ := h
  unfold f_X0_falsePart f_X8_falsePart
  rw [h65, Int.toNat_natCast, Int.toNat_natCast]
  unfold cfp fpF tn at hQ
  refine ⟨hD, by omega, by omega, by omega, by omega, ⟨by omega, by omega⟩, fun u => ?_, fun u => ⟨⟨by omega, by omega⟩, fun w => by omega, fun _ => ⟨hT', ⟨by omega, by omega⟩, ⟨by omega, by omega⟩, fun w => by omega, fun _ => ⟨⟨by omega, by omega⟩, fun w => by omega, fun _ => ?_⟩⟩⟩⟩
  · rw [if_neg (by omega)] at hQ
    unfold f_X8_falsePart_J30 f_X8_falsePart_J31
    exact ⟨⟨by decide, by decide⟩, fun _ => hQ, fun w => absurd rfl w⟩
  unfold f_X8_falsePart_J31
  refine ⟨⟨by decide, by decide⟩, fun w => absurd w (by decide), fun _ => ⟨lcmp_r _ _, fun w => ?_, fun w => ⟨hT', ?_⟩⟩⟩
  · rw [lcmp_pkg0 hg] at w
    rw [if_neg (fun z => z.2 w)] at hQ; exact hQ
  · rw [lcmp_pkg0 hg] at w
    rw [if_pos ⟨by omega, w⟩] at hQ
    obtain ⟨t, ht⟩ : ∃ t : Nat, c (D + 7) x = (t : Int) := ⟨(c (D + 7) x).toNat, by omega⟩
    rw [ht, Int.toNat_natCast] at hQ
    rw [ht]
    have tr := a5 t (by omega)
    obtain ⟨⟨t1, t2⟩, t3⟩ := TR_nat tr
    have e1 : c (D + 10) t = ((tk c D t : Nat) : Int) := by unfold tk; omega
    have e2 : c (D + 11) t = ((tq c D t : Nat) : Int) := by unfold tq; omega
    have e3 : 2 ≤ tk c D t → c (D + 12) t = ((tv c D t : Nat) : Int) := by
      intro z
      unfold tk at z
      unfold tv
      rcases tr with ⟨b1, b2, b3, b4⟩ | ⟨b1, b2, b3, b4, b5, b6⟩
      · omega
      · omega
    rw [e1, e2] at tr
    exact t_narrowedO hD hg w (by omega) e1 e2 e3 tr hQ
end TERMS
/-- closed at a statement -/
def CLS (c : St) (D H : Nat) (A E : Nat → Nat → Nat) (x : Nat) : Prop := A x 0 ≠ 0 →
  (c (D + 1) x = 0 → SLE (A x) (A (c (D + 4) x).toNat)) ∧ (c (D + 1) x = 1 → SLE (aFl (A x) (c (D + 2) x).toNat 1) (A (c (D + 4) x).toNat)) ∧ (c (D + 1) x = 2 → SLE (aFl (A x) (c (D + 2) x).toNat 0) (A (c (D + 4) x).toNat)) ∧ (3 ≤ c (D + 1) x → c (D + 1) x ≤ 5 → SLE (aMt (A x) (c (D + 2) x).toNat (c (D + 1) x).toNat (c (D + 3) x).toNat) (A (c (D + 4) x).toNat)) ∧ (c (D + 1) x = 6 → SLE (ctp c D x (A x)) (A (c (D + 5) x).toNat) ∧ SLE (cfp c D x (A x)) (A (c (D + 6) x).toNat)) ∧ (c (D + 1) x = 7 → SLE (cch c D H x (A x)) (A (c (D + 4) x).toNat)) ∧ (c (D + 1) x = 8 → KLE (A x) (E (c (D + 2) x).toNat)) ∧ (c (D + 1) x = 9 → ∀ h, h < 12 → (A x 8).testBit h = true → KLE (A x) (E h)) ∧ (c (D + 1) x = 11 ∨ c (D + 1) x = 12 → ∀ k, k < 16 → (A x 9).testBit k = true → KLE (A x) (E (12 + k))) ∧ (c (D + 1) x = 12 → A x 10 = 0 → KLE (A x) (E (c (D + 16) (c (D + 2) x).toNat).toNat))
