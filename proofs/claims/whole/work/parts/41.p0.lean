/-! ===== pure layer: numbers, states, small methods ===== -/
theorem inR_of {n : Int} (h1 : -2147483648 ≤ n) (h2 : n < 2147483648) : inR n := ⟨h1, h2⟩
theorem inR_nat {n : Int} (h0 : 0 ≤ n) (h : n ≤ 1000000) : inR n := ⟨by omega, by omega⟩
theorem inR_01 {n : Int} (h : n = 0 ∨ n = 1) : inR n := by rcases h with rfl | rfl <;> exact ⟨by decide, by decide⟩
theorem sset_ap (σ : St) (c j : Nat) (v : Int) (c' j' : Nat) : sset σ c j v c' j' = if c' = c ∧ j' = j then v else σ c' j' := by
  unfold sset va_up
  by_cases h1 : c' = c
  · subst h1
    by_cases h2 : j' = j <;> simp [h2]
  · simp [h1]
theorem sset_self (σ : St) (c j : Nat) (v : Int) : sset σ c j v c j = v := by rw [sset_ap, if_pos ⟨rfl, rfl⟩]
theorem sset_cell (σ : St) {c c' : Nat} (j : Nat) (v : Int) (j' : Nat) (h : c' ≠ c) : sset σ c j v c' j' = σ c' j' := by rw [sset_ap, if_neg (fun q => h q.1)]
theorem sset_row (σ : St) {c c' : Nat} (j : Nat) (v : Int) (h : c' ≠ c) : sset σ c j v c' = σ c' := by funext j'; exact sset_cell σ j v j' h
theorem sset_place (σ : St) (c : Nat) {j j' : Nat} (v : Int) (h : j' ≠ j) : sset σ c j v c j' = σ c j' := by rw [sset_ap, if_neg (fun q => h q.2)]
theorem KC_len : KC.length = 72 := by decide +kernel
theorem KM_len : KM.length = 45 := by decide +kernel
theorem mC_lt {σ u : St} {c : Nat} (h : c < 72) : mC σ u c = u c := by unfold mC sput; rw [KC_len, if_pos ⟨Nat.zero_le _, by omega⟩, Nat.sub_zero]
theorem mC_ge {σ u : St} {c : Nat} (h : 72 ≤ c) : mC σ u c = σ c := by unfold mC sput; rw [KC_len, if_neg (by omega)]
theorem mM_in {σ u : St} {c : Nat} (h : c < 45) : mM σ u (72 + c) = u c := by unfold mM sput; rw [KM_len, if_pos ⟨by omega, by omega⟩, Nat.add_sub_cancel_left]
theorem mM_lt {σ u : St} {c : Nat} (h : c < 72) : mM σ u c = σ c := by unfold mM sput; rw [if_neg (by omega)]
theorem mM_117 {σ u : St} : mM σ u 117 = σ 117 := by unfold mM sput; rw [KM_len, if_neg (by omega)]
theorem i2l_eq {x : Int} (h : inR x) : i2l64 x = x := by
  unfold i2l64
  rw [Int32.toInt_toInt64, toI_ofI h]
theorem lcmp_self (x : Int) : lcmp64 x x = 0 := by
  unfold lcmp64 lg_cmp
  simp
/-! the reference's small methods -/
theorem s_in {v lo hi : Int} {σ : St} {Q : St → Int → Prop} (hv : inR v) (hl : inR lo) (hh : inR hi) (h1 : lo ≤ v → v ≤ hi → Q σ 1) (h0 : (v < lo ∨ hi < v) → Q σ 0) : f_X10_in v lo hi σ Q := by
  unfold f_X10_in
  refine ⟨hv, hl, fun c => h0 (Or.inl c), fun c => ⟨hv, hh, fun c2 => h0 (Or.inr c2), fun c2 => h1 (by omega) (by omega)⟩⟩
theorem s_fails {w : Int} {σ : St} {Q : St → Int → Prop} (h : Q (sset σ 0 5 w) 0) : f_X10_fails w σ Q := by
  unfold f_X10_fails
  intro σ1 e1; subst e1; exact h
/-- type, of the reference: the code, the text, the answer -/
theorem s_type {x : Int} {σ : St} {Q : St → Int → Prop} (hx : inR x) (hn : 0 ≤ σ 0 1) (hn2 : σ 0 1 ≤ 400)
    (hbad : (x < 0 ∨ 255 < x) → Q (sset (sset σ 0 5 0) 0 5 1) 0) (hfull : 0 ≤ x → x ≤ 255 → σ 0 1 = 400 → Q (sset (sset σ 0 5 0) 0 5 2) 0)
    (hok : 0 ≤ x → x ≤ 255 → σ 0 1 < 400 → Q (sset (sset (sset σ 0 5 0) 1 (σ 0 1).toNat x) 0 1 (σ 0 1 + 1)) (σ 0 1 + 1)) : f_X10_type x σ Q := by
  unfold f_X10_type
  intro σ1 e1
  have l1 : σ1 0 1 = σ 0 1 := by rw [e1, sset_place _ _ _ (by decide)]
  refine s_in hx ⟨by decide, by decide⟩ ⟨by decide, by decide⟩ (fun a b => ⟨inR_01 (Or.inr rfl), fun _ => ?_, fun c => absurd c (by decide)⟩) (fun a => ⟨inR_01 (Or.inl rfl), fun c => absurd rfl c, fun _ => ?_⟩)
  · rw [l1]
    refine ⟨inR_nat hn (by omega), fun c => ⟨hn, by omega, fun σ3 e3 σ4 e4 => ?_⟩, fun c => s_fails (by rw [e1]; exact hfull a b c)⟩
    have l3 : σ3 0 1 = σ 0 1 := by rw [e3, sset_cell _ _ _ _ (by decide), l1]
    have l4 : σ4 0 1 = σ 0 1 + 1 := by rw [e4, sset_self, l3]
    rw [l4, e4, e3, e1, ← e1, ← e3, l3, e3, e1]
    exact hok a b (by omega)
  · exact s_fails (by rw [e1]; exact hbad a)
theorem s_clear {σ : St} {Q : St → Int → Prop} (h : Q (sset (sset σ 0 5 0) 0 1 0) (σ 0 1)) : f_X10_clearText σ Q := by
  unfold f_X10_clearText
  intro σ1 e1 x1 ex σ2 e2
  rw [e2, ex, e1, sset_place _ _ _ (by decide)]
  exact h
