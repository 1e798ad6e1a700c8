/-! ===== pure layer: the law's cells, the class's and the reference's ===== -/
section PLUMB
variable {σ u : St}
theorem lim_0 : lim 0 = 72 := rfl
theorem lim_72 : lim 72 = 45 := rfl
theorem ssub_C (hu : ∀ q, 72 ≤ q → u q = fun _ => 0) : ssub (mC σ u) 0 = u := by
  funext q
  unfold ssub
  rw [lim_0]
  by_cases z : q < 72
  · rw [if_pos z, Nat.zero_add, mC_lt z]
  · rw [if_neg z, hu q (by omega)]
theorem ssub_CM : ssub (mC σ u) 72 = ssub σ 72 := by
  funext q
  unfold ssub
  rw [lim_72]
  by_cases z : q < 45
  · rw [if_pos z, if_pos z, mC_ge (by omega)]
  · rw [if_neg z, if_neg z]
theorem ssub_M (hu : ∀ q, 45 ≤ q → u q = fun _ => 0) : ssub (mM σ u) 72 = u := by
  funext q
  unfold ssub
  rw [lim_72]
  by_cases z : q < 45
  · rw [if_pos z, mM_in z]
  · rw [if_neg z, hu q (by omega)]
theorem ssub_MC : ssub (mM σ u) 0 = ssub σ 0 := by
  funext q
  unfold ssub
  rw [lim_0]
  by_cases z : q < 72
  · rw [if_pos z, if_pos z, Nat.zero_add, mM_lt z]
  · rw [if_neg z, if_neg z]
theorem ssub_117 {v : Int} : ssub (sset σ 117 0 v) 72 = ssub σ 72 ∧ ssub (sset σ 117 0 v) 0 = ssub σ 0 := by
  constructor
  · funext q
    unfold ssub
    rw [lim_72]
    by_cases z : q < 45
    · rw [if_pos z, if_pos z, sset_row _ _ _ (by omega)]
    · rw [if_neg z, if_neg z]
  · funext q
    unfold ssub
    rw [lim_0]
    by_cases z : q < 72
    · rw [if_pos z, if_pos z, sset_row _ _ _ (by omega)]
    · rw [if_neg z, if_neg z]
theorem mM_id : mM σ (ssub σ 72) = σ := by
  funext q
  unfold mM sput
  rw [KM_len]
  by_cases z : 72 ≤ q ∧ q < 72 + 45
  · rw [if_pos z]
    unfold ssub
    rw [lim_72, if_pos (by omega), show 72 + (q - 72) = q by omega]
  · rw [if_neg z]
theorem ssub_hi {q : Nat} : (72 ≤ q → ssub σ 0 q = fun _ => 0) ∧ (45 ≤ q → ssub σ 72 q = fun _ => 0) := by
  unfold ssub
  rw [lim_0, lim_72]
  exact ⟨fun z => if_neg (by omega), fun z => if_neg (by omega)⟩
end PLUMB
/-- what the law does with the answers -/
def Ti (k : St → Prop) (σ1 : St) (k1 : Int) (u1 : St) (r1 : Int) : Prop := ∀ σ2 : St, σ2 = mM σ1 u1 → f_X10_thrown (ssub σ2 72) (fun u2 r2 => ∀ σ3 : St, σ3 = mM σ2 u2 → inR r2 ∧ inR k1 ∧ ((r2 = k1 → inR k1 ∧ ((¬ k1 = 0 → k σ3) ∧ (k1 = 0 → inR (lcmp64 (σ3 117 0) (i2l64 r1)) ∧ (((lcmp64 (σ3 117 0) (i2l64 r1)) = 0 → k σ3) ∧ (¬ (lcmp64 (σ3 117 0) (i2l64 r1)) = 0 → False))))) ∧ (¬ r2 = k1 → False)))
def Tb (k : St → Prop) (σ1 : St) (k1 : Int) (u1 : St) (r1 : Int) : Prop := ∀ σ2 : St, σ2 = mM σ1 u1 → f_X10_thrown (ssub σ2 72) (fun u2 r2 => ∀ σ3 : St, σ3 = mM σ2 u2 → inR r2 ∧ inR k1 ∧ ((r2 = k1 → inR k1 ∧ ((¬ k1 = 0 → k σ3) ∧ (k1 = 0 → inR r1 ∧ ((r1 = 0 → inR (lcmp64 (σ3 117 0) 0) ∧ (((lcmp64 (σ3 117 0) 0) = 0 → k σ3) ∧ (¬ (lcmp64 (σ3 117 0) 0) = 0 → False))) ∧ (¬ r1 = 0 → inR (lcmp64 (σ3 117 0) 1) ∧ (((lcmp64 (σ3 117 0) 1) = 0 → k σ3) ∧ (¬ (lcmp64 (σ3 117 0) 1) = 0 → False))))))) ∧ (¬ r2 = k1 → False)))
section TAILS
variable {k : St → Prop} {σ σ1 u1 : St} {k1 r1 : Int}
theorem mM_2 (hz : ∀ q, 45 ≤ q → u1 q = fun _ => 0) : mM (mM σ1 u1) u1 = mM σ1 u1 := by
  have h := mM_id (σ := mM σ1 u1)
  rw [ssub_M hz] at h
  exact h
theorem Ti_of (hz : ∀ q, 45 ≤ q → u1 q = fun _ => 0) (h5 : u1 0 5 = k1) (hk : inR k1) (h : k (mM σ1 u1)) (hr : k1 = 0 → σ1 117 0 = i2l64 r1) : Ti k σ1 k1 u1 r1 := by
  intro σ2 e2
  subst e2
  unfold f_X10_thrown
  rw [ssub_M hz]
  intro σ3 e3
  subst e3
  rw [mM_2 hz]
  refine ⟨by rw [h5]; exact hk, hk, fun _ => ⟨hk, fun _ => h, fun z => ?_⟩, fun u => absurd h5 u⟩
  rw [mM_117, hr z]
  exact ⟨lcmp_r _ _, fun _ => h, fun u => u (lcmp_self _)⟩
theorem Tb_of (hz : ∀ q, 45 ≤ q → u1 q = fun _ => 0) (h5 : u1 0 5 = k1) (hk : inR k1) (h : k (mM σ1 u1)) (hr : k1 = 0 → (r1 = 0 ∨ r1 = 1) ∧ σ1 117 0 = r1) : Tb k σ1 k1 u1 r1 := by
  intro σ2 e2
  subst e2
  unfold f_X10_thrown
  rw [ssub_M hz]
  intro σ3 e3
  subst e3
  rw [mM_2 hz]
  refine ⟨by rw [h5]; exact hk, hk, fun _ => ⟨hk, fun _ => h, fun z => ?_⟩, fun u => absurd h5 u⟩
  obtain ⟨a, b⟩ := hr z
  rw [mM_117, b]
  rcases a with rfl | rfl
  · exact ⟨⟨by decide, by decide⟩, fun _ => ⟨lcmp_r _ _, fun _ => h, fun u => u (lcmp_self _)⟩, fun u => absurd rfl u⟩
  · exact ⟨⟨by decide, by decide⟩, fun u => absurd u (by decide), fun _ => ⟨lcmp_r _ _, fun _ => h, fun u => u (lcmp_self _)⟩⟩
end TAILS
/-- beyond their cells both have nothing -/
def HIz (c m : St) : Prop := (∀ q, 72 ≤ q → c q = fun _ => 0) ∧ ∀ q, 45 ≤ q → m q = fun _ => 0
/-- what both do: the class returns or throws, the reference returns and keeps a code -/
def JRi (J : St → St → Prop) (fC : (St → Int → Prop) → (String → St → Prop) → Prop) (fM : (St → Int → Prop) → Prop) (hd : String → Int → Prop) : Prop := ∃ (c1 m1 : St) (r : Int), HIz c1 m1 ∧ J c1 m1 ∧ inR (m1 0 5) ∧ (∀ Q : St → Int → Prop, Q m1 r → fM Q) ∧ ((m1 0 5 = 0 ∧ ∀ (Q : St → Int → Prop) (E : String → St → Prop), Q c1 r → fC Q E) ∨ ∃ e : String, m1 0 5 ≠ 0 ∧ hd e (m1 0 5) ∧ ∀ (Q : St → Int → Prop) (E : String → St → Prop), E e c1 → fC Q E)
def JRb (J : St → St → Prop) (fC : (St → Int → Prop) → (String → St → Prop) → Prop) (fM : (St → Int → Prop) → Prop) (hd : String → Int → Prop) : Prop := ∃ (c1 m1 : St) (r : Int), HIz c1 m1 ∧ J c1 m1 ∧ inR (m1 0 5) ∧ (∀ Q : St → Int → Prop, Q m1 r → fM Q) ∧ ((m1 0 5 = 0 ∧ (r = 0 ∨ r = 1) ∧ ∀ (Q : St → Int → Prop) (E : String → St → Prop), Q c1 r → fC Q E) ∨ ∃ e : String, m1 0 5 ≠ 0 ∧ hd e (m1 0 5) ∧ ∀ (Q : St → Int → Prop) (E : String → St → Prop), E e c1 → fC Q E)
def JRn (J : St → St → Prop) (fC fM : (St → Int → Prop) → Prop) : Prop := ∃ (c1 m1 : St) (r : Int), HIz c1 m1 ∧ J c1 m1 ∧ inR r ∧ (∀ Q : St → Int → Prop, Q m1 r → fM Q) ∧ ∀ Q : St → Int → Prop, Q c1 r → fC Q
section WGEN
variable {J : St → St → Prop} {k : St → Prop} {σ : St} {hd : String → Int → Prop}
theorem W_i {fC : St → (St → Int → Prop) → (String → St → Prop) → Prop} {fM : St → (St → Int → Prop) → Prop} {G : (St → Int → Prop) → String → St → Prop} (hG : ∀ (Q : St → Int → Prop) (e : String) (σ1 : St) (code : Int), hd e code → Q σ1 code → G Q e σ1) (hJ : JRi J (fC (ssub σ 0)) (fM (ssub σ 72)) hd) (hk : ∀ σ' : St, J (ssub σ' 0) (ssub σ' 72) → k σ') : fC (ssub σ 0) (fun u r => ∀ σ1 : St, σ1 = mC σ u → ∀ σ2 : St, σ2 = sset σ1 117 0 (i2l64 r) → fM (ssub σ2 72) (Ti k σ2 0)) (fun e u => ∀ σ1 : St, σ1 = mC σ u → G (fun σ1 k1 => fM (ssub σ1 72) (Ti k σ1 k1)) e σ1) := by
  obtain ⟨c1, m1, r, ⟨hz1, hz2⟩, hj, h5r, hm, hc⟩ := hJ
  rcases hc with ⟨h5, hc⟩ | ⟨e, h5, he, hc⟩
  · refine hc _ _ ?_
    intro σ1 e1 σ2 e2
    subst e1
    subst e2
    rw [ssub_117.1, ssub_CM]
    refine hm _ (Ti_of hz2 h5 ⟨by decide, by decide⟩ (hk _ ?_) (fun _ => by rw [sset_at, vu_eq]))
    rw [ssub_MC, ssub_M hz2, ssub_117.2, ssub_C hz1]
    exact hj
  · refine hc _ _ ?_
    intro σ1 e1
    subst e1
    refine hG _ e _ _ he ?_
    show fM (ssub (mC σ c1) 72) (Ti k (mC σ c1) (m1 0 5))
    rw [ssub_CM]
    refine hm _ (Ti_of hz2 rfl h5r (hk _ ?_) (fun z => absurd z h5))
    rw [ssub_MC, ssub_M hz2, ssub_C hz1]
    exact hj
theorem W_b {fC : St → (St → Int → Prop) → (String → St → Prop) → Prop} {fM : St → (St → Int → Prop) → Prop} {G : (St → Int → Prop) → String → St → Prop} (hG : ∀ (Q : St → Int → Prop) (e : String) (σ1 : St) (code : Int), hd e code → Q σ1 code → G Q e σ1) (hJ : JRb J (fC (ssub σ 0)) (fM (ssub σ 72)) hd) (hk : ∀ σ' : St, J (ssub σ' 0) (ssub σ' 72) → k σ') : fC (ssub σ 0) (fun u r => ∀ σ1 : St, σ1 = mC σ u → inR r ∧ ((r = 0 → ∀ σ2 : St, σ2 = sset σ1 117 0 0 → fM (ssub σ2 72) (Tb k σ2 0)) ∧ (¬ r = 0 → ∀ σ2 : St, σ2 = sset σ1 117 0 1 → fM (ssub σ2 72) (Tb k σ2 0)))) (fun e u => ∀ σ1 : St, σ1 = mC σ u → G (fun σ1 k1 => fM (ssub σ1 72) (Tb k σ1 k1)) e σ1) := by
  obtain ⟨c1, m1, r, ⟨hz1, hz2⟩, hj, h5r, hm, hc⟩ := hJ
  rcases hc with ⟨h5, hr, hc⟩ | ⟨e, h5, he, hc⟩
  · refine hc _ _ ?_
    intro σ1 e1
    subst e1
    have fin : ∀ v : Int, v = r → fM (ssub (sset (mC σ c1) 117 0 v) 72) (Tb k (sset (mC σ c1) 117 0 v) 0) := by
      intro v ev
      rw [ssub_117.1, ssub_CM]
      refine hm _ (Tb_of hz2 h5 ⟨by decide, by decide⟩ (hk _ ?_) (fun _ => ⟨hr, by rw [sset_at, vu_eq, ev]⟩))
      rw [ssub_MC, ssub_M hz2, ssub_117.2, ssub_C hz1]
      exact hj
    refine ⟨inR_01 hr, fun z σ2 e2 => ?_, fun z σ2 e2 => ?_⟩
    · subst e2
      exact fin 0 z.symm
    · subst e2
      refine fin 1 ?_
      rcases hr with y | y
      · exact absurd y z
      · exact y.symm
  · refine hc _ _ ?_
    intro σ1 e1
    subst e1
    refine hG _ e _ _ he ?_
    show fM (ssub (mC σ c1) 72) (Tb k (mC σ c1) (m1 0 5))
    rw [ssub_CM]
    refine hm _ (Tb_of hz2 rfl h5r (hk _ ?_) (fun z => absurd z h5))
    rw [ssub_MC, ssub_M hz2, ssub_C hz1]
    exact hj
theorem W_n {fC fM : St → (St → Int → Prop) → Prop} (hJ : JRn J (fC (ssub σ 0)) (fM (ssub σ 72))) (hk : ∀ σ' : St, J (ssub σ' 0) (ssub σ' 72) → k σ') : fC (ssub σ 0) (fun u1 r1 => ∀ σ1 : St, σ1 = mC σ u1 → fM (ssub σ1 72) (fun u2 r2 => ∀ σ2 : St, σ2 = mM σ1 u2 → inR r1 ∧ inR r2 ∧ ((r1 = r2 → k σ2) ∧ (¬ r1 = r2 → False)))) := by
  obtain ⟨c1, m1, r, ⟨hz1, hz2⟩, hj, hr, hm, hc⟩ := hJ
  refine hc _ ?_
  intro σ1 e1
  subst e1
  rw [ssub_CM]
  refine hm _ ?_
  intro σ2 e2
  subst e2
  refine ⟨hr, hr, fun _ => hk _ ?_, fun u => absurd rfl u⟩
  rw [ssub_MC, ssub_M hz2, ssub_C hz1]
  exact hj
end WGEN
