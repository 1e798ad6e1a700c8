/-! ===== pure layer: the class's reader, its small steps ===== -/
theorem ia40 : isIA KC 40 ∧ alen KC 40 = 7 := ⟨by unfold isIA; decide, by decide⟩
theorem ia39 : isIA KC 39 ∧ alen KC 39 = 12 := ⟨by unfold isIA; decide, by decide⟩
theorem ia42 : isIA KC 42 ∧ alen KC 42 = 400 := ⟨by unfold isIA; decide, by decide⟩
theorem ia43 : isIA KC 43 ∧ alen KC 43 = 400 := ⟨by unfold isIA; decide, by decide⟩
theorem ia1 : isIA KC 1 ∧ alen KC 1 = 400 := ⟨by unfold isIA; decide, by decide⟩
theorem iaD4 {D : Nat} (hD : D = 2 ∨ D = 20) : isIA KC (D + 4) ∧ alen KC (D + 4) = 400 := by rcases hD with rfl | rfl <;> exact ⟨by unfold isIA; decide, by decide⟩
theorem iaD5 {D : Nat} (hD : D = 2 ∨ D = 20) : isIA KC (D + 5) ∧ alen KC (D + 5) = 400 := by rcases hD with rfl | rfl <;> exact ⟨by unfold isIA; decide, by decide⟩
theorem iaD6 {D : Nat} (hD : D = 2 ∨ D = 20) : isIA KC (D + 6) ∧ alen KC (D + 6) = 400 := by rcases hD with rfl | rfl <;> exact ⟨by unfold isIA; decide, by decide⟩
theorem iaD8 {D : Nat} (hD : D = 2 ∨ D = 20) : isIA KC (D + 8) ∧ alen KC (D + 8) = 400 := by rcases hD with rfl | rfl <;> exact ⟨by unfold isIA; decide, by decide⟩
theorem iaD14 {D : Nat} (hD : D = 2 ∨ D = 20) : isIA KC (D + 14) ∧ alen KC (D + 14) = 12 := by rcases hD with rfl | rfl <;> exact ⟨by unfold isIA; decide, by decide⟩
theorem iaD15 {D : Nat} (hD : D = 2 ∨ D = 20) : isIA KC (D + 15) ∧ alen KC (D + 15) = 16 := by rcases hD with rfl | rfl <;> exact ⟨by unfold isIA; decide, by decide⟩
theorem iaD17 {D : Nat} (hD : D = 2 ∨ D = 20) : isIA KC (D + 17) ∧ alen KC (D + 17) = 16 := by rcases hD with rfl | rfl <;> exact ⟨by unfold isIA; decide, by decide⟩
theorem t_entry {c l : Nat} {i : Int} {σ : St} {Q : St → Int → Prop} (h : isIA KC c ∧ alen KC c = l) (hl : l ≤ 1000) (hi : inR i) (h1 : 0 ≤ i → i < (l : Int) → Q σ (σ c i.toNat)) (h2 : (i < 0 ∨ (l : Int) ≤ i) → Q σ (-1)) : f_X9_entryOf c i σ Q := by
  unfold f_X9_entryOf
  rw [h.2]
  exact ⟨hi, fun q => h2 (Or.inl q), fun q => ⟨h.1, hi, ⟨by omega, by omega⟩, fun q2 => h2 (Or.inr q2), fun q2 => ⟨by omega, by omega, h1 (by omega) (by omega)⟩⟩⟩
theorem t_put {c l : Nat} {i v : Int} {σ : St} {Q : St → Prop} (h : isIA KC c ∧ alen KC c = l) (hl : l ≤ 1000) (h0 : 0 ≤ i) (h1 : i < (l : Int)) (hQ : Q (sset σ c i.toNat v)) : f_X9_putEntry c i v σ Q := by
  unfold f_X9_putEntry
  rw [h.2]
  exact ⟨⟨by omega, by omega⟩, fun q => by omega, fun q => ⟨h.1, ⟨by omega, by omega⟩, ⟨by omega, by omega⟩, fun q2 => by omega, fun q2 => ⟨by omega, by omega, fun σ1 e => by rw [e]; exact hQ⟩⟩⟩
theorem t_await {w : Int} {σ : St} {Q : St → Int → Prop} (h : Q (sset σ 38 1 w) 1) : f_X6_await w σ Q := by
  unfold f_X6_await
  intro σ1 e; rw [e]; exact h
theorem t_has {c : Nat} {i : Int} {σ : St} {Q : St → Int → Prop} (hD : c = 2 ∨ c = 20) (hi : inR i) (hs : inR (σ c 0)) (h1 : 0 ≤ i → i < σ c 0 → i < 400 → Q σ 1) (h0 : (i < 0 ∨ σ c 0 ≤ i ∨ 400 ≤ i) → Q σ 0) : f_X7_has c i σ Q := by
  unfold f_X7_has
  exact ⟨hi, fun q => h0 (Or.inl q), fun q => ⟨hD, hi, hs, fun q2 => h0 (Or.inr (Or.inl q2)), fun q2 => ⟨hi, fun q3 => h0 (Or.inr (Or.inr q3)), fun q3 => h1 (by omega) (by omega) (by omega)⟩⟩⟩
theorem t_sort {c : Nat} {i w : Int} {σ : St} {Q : St → Int → Prop} (hD : c = 2 ∨ c = 20) (hi : inR i) (hs : inR (σ c 0)) (hw : inR w) (hr : 0 ≤ i → i < σ c 0 → inR (σ (c + 1) i.toNat)) (h1 : 0 ≤ i → i < σ c 0 → i < 400 → σ (c + 1) i.toNat = w → Q σ 1) (h0 : (i < 0 ∨ σ c 0 ≤ i ∨ 400 ≤ i ∨ σ (c + 1) i.toNat ≠ w) → Q σ 0) : f_X7_isOfSort c i w σ Q := by
  unfold f_X7_isOfSort
  refine ⟨hD, t_has hD hi hs (fun a b d => ⟨⟨by decide, by decide⟩, fun q => absurd q (by decide), fun _ => ⟨a, d, hr a b, hw, fun q => h0 (Or.inr (Or.inr (Or.inr q))), fun q => h1 a b d q⟩⟩) (fun q => ⟨⟨by decide, by decide⟩, fun _ => h0 (by omega), fun c => absurd rfl c⟩)⟩
/-- the state behind append -/
def cAp (σ : St) (D : Nat) (w x y : Int) : St := sset (sset (sset (sset (sset (sset (sset (sset (sset σ (D + 1) (σ D 0).toNat w) (D + 2) (σ D 0).toNat x) (D + 3) (σ D 0).toNat y) (D + 4) (σ D 0).toNat (-1)) (D + 5) (σ D 0).toNat (-1)) (D + 6) (σ D 0).toNat (-1)) (D + 7) (σ D 0).toNat (σ (D + 9) 0)) (D + 8) (σ D 0).toNat (σ (D + 9) 0)) D 0 (σ D 0 + 1)
section COPS
variable {D : Nat} {σ : St} {Q : St → Int → Prop} {w x y : Int}
theorem cAp_row {c : Nat} (h : c < D ∨ D + 8 < c) : cAp σ D w x y c = σ c := by
  unfold cAp
  rw [sset_row _ _ _ (by omega), sset_row _ _ _ (by omega), sset_row _ _ _ (by omega), sset_row _ _ _ (by omega), sset_row _ _ _ (by omega), sset_row _ _ _ (by omega), sset_row _ _ _ (by omega), sset_row _ _ _ (by omega), sset_row _ _ _ (by omega)]
theorem cAp_fld {j : Nat} (h : j ≠ 0) : cAp σ D w x y D j = σ D j := by
  unfold cAp
  rw [sset_place _ _ _ h, sset_row _ _ _ (by omega), sset_row _ _ _ (by omega), sset_row _ _ _ (by omega), sset_row _ _ _ (by omega), sset_row _ _ _ (by omega), sset_row _ _ _ (by omega), sset_row _ _ _ (by omega), sset_row _ _ _ (by omega)]
theorem cAp_0 : cAp σ D w x y D 0 = σ D 0 + 1 := by unfold cAp; rw [sset_self]
theorem cAp_1 : cAp σ D w x y (D + 1) = va_up (σ (D + 1)) (σ D 0).toNat w := by
  unfold cAp
  rw [sset_row _ _ _ (by omega), sset_row _ _ _ (by omega), sset_row _ _ _ (by omega), sset_row _ _ _ (by omega), sset_row _ _ _ (by omega), sset_row _ _ _ (by omega), sset_row _ _ _ (by omega), sset_row _ _ _ (by omega), sset_same]
theorem cAp_2 : cAp σ D w x y (D + 2) = va_up (σ (D + 2)) (σ D 0).toNat x := by
  unfold cAp
  rw [sset_row _ _ _ (by omega), sset_row _ _ _ (by omega), sset_row _ _ _ (by omega), sset_row _ _ _ (by omega), sset_row _ _ _ (by omega), sset_row _ _ _ (by omega), sset_row _ _ _ (by omega), sset_same, sset_row _ _ _ (by omega)]
theorem cAp_3 : cAp σ D w x y (D + 3) = va_up (σ (D + 3)) (σ D 0).toNat y := by
  unfold cAp
  rw [sset_row _ _ _ (by omega), sset_row _ _ _ (by omega), sset_row _ _ _ (by omega), sset_row _ _ _ (by omega), sset_row _ _ _ (by omega), sset_row _ _ _ (by omega), sset_same, sset_row _ _ _ (by omega), sset_row _ _ _ (by omega)]
theorem cAp_4 : cAp σ D w x y (D + 4) = va_up (σ (D + 4)) (σ D 0).toNat (-1) := by
  unfold cAp
  rw [sset_row _ _ _ (by omega), sset_row _ _ _ (by omega), sset_row _ _ _ (by omega), sset_row _ _ _ (by omega), sset_row _ _ _ (by omega), sset_same, sset_row _ _ _ (by omega), sset_row _ _ _ (by omega), sset_row _ _ _ (by omega)]
theorem cAp_5 : cAp σ D w x y (D + 5) = va_up (σ (D + 5)) (σ D 0).toNat (-1) := by
  unfold cAp
  rw [sset_row _ _ _ (by omega), sset_row _ _ _ (by omega), sset_row _ _ _ (by omega), sset_row _ _ _ (by omega), sset_same, sset_row _ _ _ (by omega), sset_row _ _ _ (by omega), sset_row _ _ _ (by omega), sset_row _ _ _ (by omega)]
theorem cAp_6 : cAp σ D w x y (D + 6) = va_up (σ (D + 6)) (σ D 0).toNat (-1) := by
  unfold cAp
  rw [sset_row _ _ _ (by omega), sset_row _ _ _ (by omega), sset_row _ _ _ (by omega), sset_same, sset_row _ _ _ (by omega), sset_row _ _ _ (by omega), sset_row _ _ _ (by omega), sset_row _ _ _ (by omega), sset_row _ _ _ (by omega)]
theorem cAp_7 : cAp σ D w x y (D + 7) = va_up (σ (D + 7)) (σ D 0).toNat (σ (D + 9) 0) := by
  unfold cAp
  rw [sset_row _ _ _ (by omega), sset_row _ _ _ (by omega), sset_same, sset_row _ _ _ (by omega), sset_row _ _ _ (by omega), sset_row _ _ _ (by omega), sset_row _ _ _ (by omega), sset_row _ _ _ (by omega), sset_row _ _ _ (by omega)]
theorem cAp_8 : cAp σ D w x y (D + 8) = va_up (σ (D + 8)) (σ D 0).toNat (σ (D + 9) 0) := by
  unfold cAp
  rw [sset_row _ _ _ (by omega), sset_same, sset_row _ _ _ (by omega), sset_row _ _ _ (by omega), sset_row _ _ _ (by omega), sset_row _ _ _ (by omega), sset_row _ _ _ (by omega), sset_row _ _ _ (by omega), sset_row _ _ _ (by omega)]
theorem t_append (hD : D = 2 ∨ D = 20) (h0 : 0 ≤ σ D 0) (h1 : σ D 0 < 400) (hQ : Q (cAp σ D w x y) (σ D 0)) : f_X7_append D w x y σ Q := by
  unfold f_X7_append
  refine ⟨hD, ⟨by omega, by omega⟩, fun c => by omega, fun _ => ⟨⟨by omega, by omega⟩, fun _ => ?_, fun c => absurd h1 c⟩⟩
  rintro x1 rfl
  refine ⟨h0, h1, fun σ1 e1 => ⟨h0, h1, fun σ2 e2 => ⟨h0, h1, fun σ3 e3 => ⟨h0, h1, fun σ4 e4 => ⟨h0, h1, fun σ5 e5 => ⟨h0, h1, fun σ6 e6 => ⟨h0, h1, fun σ7 e7 => ⟨h0, h1, fun σ8 e8 σ9 e9 => ?_⟩⟩⟩⟩⟩⟩⟩⟩
  have k6 : σ6 (D + 9) 0 = σ (D + 9) 0 := by rw [e6, e5, e4, e3, e2, e1, sset_row _ _ _ (by omega), sset_row _ _ _ (by omega), sset_row _ _ _ (by omega), sset_row _ _ _ (by omega), sset_row _ _ _ (by omega), sset_row _ _ _ (by omega)]
  have k7 : σ7 (D + 9) 0 = σ (D + 9) 0 := by rw [e7, sset_row _ _ _ (by omega), k6]
  have k8 : σ8 D 0 = σ D 0 := by rw [e8, e7, e6, e5, e4, e3, e2, e1, sset_row _ _ _ (by omega), sset_row _ _ _ (by omega), sset_row _ _ _ (by omega), sset_row _ _ _ (by omega), sset_row _ _ _ (by omega), sset_row _ _ _ (by omega), sset_row _ _ _ (by omega), sset_row _ _ _ (by omega)]
  rw [e9, k8, e8, k7, e7, k6, e6, e5, e4, e3, e2, e1]
  exact hQ
/-- the statement whose block is open -/
def cOw (σ : St) : Int := if σ 38 2 ≤ 1 then -1 else σ 40 ((σ 38 2) - 1).toNat
def cAt (σ : St) (D : Nat) (w x y : Int) : St := sset (cAp σ D w x y) 42 (σ D 0).toNat (if 0 ≤ cOw σ ∧ σ (D + 1) (cOw σ).toNat = 6 then cOw σ else -1)
def cAl (σ : St) (D : Nat) (w x y : Int) : St := if σ 40 (σ 38 2).toNat ≠ -1 then sset (cAt σ D w x y) (D + 4) (σ 40 (σ 38 2).toNat).toNat (σ D 0) else if cOw σ = -1 then sset (cAt σ D w x y) (D + 14) (σ D 10 - 1).toNat (σ D 0) else if σ 41 (σ 38 2).toNat = 0 then sset (cAt σ D w x y) (D + 5) (cOw σ).toNat (σ D 0) else sset (cAt σ D w x y) (D + 6) (cOw σ).toNat (σ D 0)
/-- the state behind add -/
def cAdd (σ : St) (D : Nat) (w x y : Int) : St := sset (sset (cAl σ D w x y) 40 (σ 38 2).toNat (σ D 0)) 38 1 3
/-- what the class needs to add a statement -/
def CB (σ : St) (D : Nat) : Prop := σ 38 0 = (D : Int) ∧ 0 ≤ σ D 0 ∧ σ D 0 < 400 ∧ 1 ≤ σ 38 2 ∧ σ 38 2 ≤ 6 ∧ -1 ≤ σ 40 (σ 38 2).toNat ∧ σ 40 (σ 38 2).toNat < σ D 0 ∧ (2 ≤ σ 38 2 → 0 ≤ σ 40 ((σ 38 2) - 1).toNat ∧ σ 40 ((σ 38 2) - 1).toNat < σ D 0 ∧ inR (σ (D + 1) (σ 40 ((σ 38 2) - 1).toNat).toNat)) ∧ 1 ≤ σ D 10 ∧ σ D 10 ≤ 12 ∧ (2 ≤ σ 38 2 → inR (σ 41 (σ 38 2).toNat))
theorem t_add (hD : D = 2 ∨ D = 20) (hB : CB σ D) (hQ : Q (cAdd σ D w x y) 1) : f_X6_add w x y σ Q := by
  obtain ⟨h0, hS, hS2, hd1, hd2, hb1, hb2, ho, hn1, hn2, his⟩ := hB
  have r38 : cAp σ D w x y 38 = σ 38 := cAp_row (by omega)
  have r40 : cAp σ D w x y 40 = σ 40 := cAp_row (by omega)
  have r41 : cAp σ D w x y 41 = σ 41 := cAp_row (by omega)
  have ow1 : -1 ≤ cOw σ ∧ cOw σ < σ D 0 ∧ (0 ≤ cOw σ → inR (σ (D + 1) (cOw σ).toNat)) := by
    unfold cOw
    by_cases q : σ 38 2 ≤ 1
    · rw [if_pos q]; exact ⟨by omega, by omega, fun c => absurd c (by decide)⟩
    · rw [if_neg q]; have := ho (by omega); exact ⟨by omega, by omega, fun _ => this.2.2⟩
  obtain ⟨ow1, ow2, ow3⟩ := ow1
  have ap1 : 0 ≤ cOw σ → cAp σ D w x y (D + 1) (cOw σ).toNat = σ (D + 1) (cOw σ).toNat := by
    intro q
    rw [cAp_1]
    exact vu_ne _ _ (by omega)
  have fin : ∀ τ, τ = cAl σ D w x y → f_X6_add_J182 Q τ (σ D 0) := by
    intro τ e
    have t38 : τ 38 = σ 38 := by
      rw [e]; unfold cAl cAt
      split
      · rw [sset_row _ _ _ (by omega), sset_row _ _ _ (by decide), r38]
      · split
        · rw [sset_row _ _ _ (by omega), sset_row _ _ _ (by decide), r38]
        · split
          · rw [sset_row _ _ _ (by omega), sset_row _ _ _ (by decide), r38]
          · rw [sset_row _ _ _ (by omega), sset_row _ _ _ (by decide), r38]
    unfold f_X6_add_J182
    rw [t38]
    refine t_put ia40 (by decide) (by omega) (by omega) (t_await ⟨Or.inr rfl, ?_⟩)
    rw [e]
    exact hQ
  have k78 : ∀ s2, s2 = (if 0 ≤ cOw σ ∧ σ (D + 1) (cOw σ).toNat = 6 then cOw σ else -1) → f_X6_add_J78 Q (cAp σ D w x y) (σ D 0) (cOw σ) (σ 40 (σ 38 2).toNat) (σ D 0) s2 := by
    intro s2 e2
    unfold f_X6_add_J78
    refine t_put ia42 (by decide) hS hS2 ?_
    have eT : sset (cAp σ D w x y) 42 (σ D 0).toNat s2 = cAt σ D w x y := by rw [e2]; rfl
    rw [eT]
    have t38 : cAt σ D w x y 38 = σ 38 := by unfold cAt; rw [sset_row _ _ _ (by decide), r38]
    have t41 : cAt σ D w x y 41 = σ 41 := by unfold cAt; rw [sset_row _ _ _ (by decide), r41]
    have t10 : cAt σ D w x y D 10 = σ D 10 := by unfold cAt; rw [sset_row _ _ _ (by omega), cAp_fld (by decide)]
    rw [t38, h0, Int.toNat_natCast, t10]
    refine ⟨⟨by omega, by omega⟩, fun c => ⟨⟨by omega, by omega⟩, fun c2 => ?_, fun c2 => ⟨hD, ?_⟩⟩, fun c => ⟨hD, ?_⟩⟩
    · unfold f_JM_min
      have mn : ∀ (r1 : Int), r1 = σ 38 2 → 0 ≤ r1 ∧ r1 < 7 ∧ inR (cAt σ D w x y 41 r1.toNat) ∧ ((cAt σ D w x y 41 r1.toNat = 0 → isS ((cAt σ D w x y 38 0).toNat) ∧ f_X9_putEntry ((cAt σ D w x y 38 0).toNat + 5) (cOw σ) (σ D 0) (cAt σ D w x y) (fun σ3 => f_X6_add_J182 Q σ3 (σ D 0))) ∧ (¬ cAt σ D w x y 41 r1.toNat = 0 → isS ((cAt σ D w x y 38 0).toNat) ∧ f_X9_putEntry ((cAt σ D w x y 38 0).toNat + 6) (cOw σ) (σ D 0) (cAt σ D w x y) (fun σ4 => f_X6_add_J182 Q σ4 (σ D 0)))) := by
        intro r1 e
        rw [e, t41, t38, h0, Int.toNat_natCast]
        have hd2' : 2 ≤ σ 38 2 := by
          by_cases q : σ 38 2 ≤ 1
          · exact absurd (by unfold cOw; rw [if_pos q]) c2
          · omega
        refine ⟨by omega, by omega, his hd2', fun c3 => ⟨hD, t_put (iaD5 hD) (by decide) (by omega) (by omega) (fin _ ?_)⟩, fun c3 => ⟨hD, t_put (iaD6 hD) (by decide) (by omega) (by omega) (fin _ ?_)⟩⟩
        · unfold cAl; rw [if_neg (fun g => g c), if_neg c2, if_pos c3]
        · unfold cAl; rw [if_neg (fun g => g c), if_neg c2, if_neg c3]
      exact ⟨⟨by omega, by omega⟩, ⟨by decide, by decide⟩, fun g => by omega, fun _ => mn _ rfl⟩
    · refine t_put (iaD14 hD) (by decide) (by omega) (by omega) (fin _ ?_)
      unfold cAl; rw [if_neg (fun g => g c), if_pos c2]
    · refine t_put (iaD4 hD) (by decide) (by omega) (by omega) (fin _ ?_)
      unfold cAl; rw [if_pos c]
  have key : f_X6_add_J37 Q (cAp σ D w x y) (σ D 0) (cOw σ) := by
    unfold f_X6_add_J37
    rw [r38]
    refine t_entry ia40 (by decide) ⟨by omega, by omega⟩ (fun _ _ => ?_) (fun q => by omega)
    rw [r40, r38, h0, Int.toNat_natCast]
    refine ⟨hD, t_sort hD ⟨by omega, by omega⟩ (by rw [cAp_0]; exact ⟨by omega, by omega⟩) ⟨by decide, by decide⟩ (fun q1 q2 => by rw [ap1 q1]; exact ow3 q1) (fun q1 q2 q3 q4 => ?_) (fun q => ?_)⟩
    · rw [ap1 q1] at q4
      exact ⟨⟨by decide, by decide⟩, fun g => absurd g (by decide), fun _ => k78 _ (by rw [if_pos ⟨q1, q4⟩])⟩
    · refine ⟨⟨by decide, by decide⟩, fun _ => k78 _ ?_, fun g => absurd rfl g⟩
      rw [if_neg]
      rintro ⟨g1, g2⟩
      rw [cAp_0, ap1 g1] at q
      omega
  unfold f_X6_add
  rw [h0, Int.toNat_natCast]
  refine ⟨hD, t_append hD hS hS2 ?_⟩
  rw [r38]
  refine ⟨⟨by omega, by omega⟩, fun c => ?_, fun c => ?_⟩
  · have e : cOw σ = -1 := by unfold cOw; rw [if_pos c]
    rw [e] at key; exact key
  · refine t_entry ia40 (by decide) ⟨by omega, by omega⟩ (fun _ _ => ?_) (fun q => by omega)
    have e : cOw σ = σ 40 ((σ 38 2) - 1).toNat := by unfold cOw; rw [if_neg c]
    rw [r40, ← e]; exact key
end COPS
