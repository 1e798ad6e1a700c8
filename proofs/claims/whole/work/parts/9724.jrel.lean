/-! ===== pure layer: the relation between class and reference at every call ===== -/
def PN (c m : St) (D : Nat) : Prop := (c 44 0 = (D : Int) ∧ c 44 1 = 0 ∧ c 44 3 = -1 ∧ c 44 4 = -1 ∧ c 44 5 = 0 ∧ c 44 6 = 0 ∧ c 44 8 = 0 ∧ c 45 0 = 0) ∧ ∀ i, i < 31 → m 26 i = 0
def PLy (c m : St) (D nd ck H : Nat) (KB : Int) : Prop := PW c m 44 D nd ck H ∧ 1 ≤ m 26 0 ∧ m 26 0 ≤ 4 ∧ (m 26 0 = 1 ↔ m 26 9 ≠ 0) ∧ m 26 10 ≤ KB
def JTold (c m : St) (D : Nat) : Prop := ∃ (T : Nat → Int) (n : Nat), SRC T n 1 m ∧ PR (SR D) T n c (-1)
def JAn (c m : St) : Prop := (c 65 1 = 0 ∧ m 0 70 = 0) ∨ (c 65 1 = 1 ∧ m 0 70 = 1 ∧ ANx c m)
def JSx (c m : St) (D : Nat) (φ : Nat → Nat) (e : Nat → Int) (N S B nd ck ts tm H : Nat) (KB : Int) : Prop := SRx D c m φ e N S B nd ck ts tm ∧ HM c D ck H ∧ H < 2 ^ ck ∧ JTold c m D ∧ (PN c m D ∨ PLy c m D nd ck H KB) ∧ HIS c m nd ck H KB ∧ EXPL c m nd ck H ∧ JAn c m
def JN (c m : St) (D : Nat) : Prop := m 0 4 = 0 ∧ (c D 10 = 0 ∧ c D 14 = 0 ∧ c D 18 = 0) ∧ PN c m D ∧ (c 48 0 = 0 ∧ m 0 42 = 0 ∧ ∃ tp : Nat, tp ≤ 12 ∧ c 48 1 = (tp : Int)) ∧ (c 52 1 = 0 ∧ m 0 53 = 0) ∧ (c 65 1 = 0 ∧ m 0 70 = 0) ∧ 0 ≤ m 0 32 ∧ m 0 32 ≤ 16
def JB (c m : St) (D : Nat) (KB : Int) : Prop := JN c m D ∨ (m 0 4 = 1 ∧ ∃ (φ : Nat → Nat) (e : Nat → Int) (N S B nd ck ts tm H : Nat), JSx c m D φ e N S B nd ck ts tm H KB)
def JTx (c m : St) : Prop := ∃ n : Nat, n ≤ 400 ∧ c 0 1 = (n : Int) ∧ m 0 1 = (n : Int) ∧ ∀ j, j < n → c 1 j = m 1 j ∧ 0 ≤ m 1 j ∧ m 1 j ≤ 255
def JA (c m : St) (D : Nat) : Prop := (D = 2 ∨ D = 20) ∧ c 0 2 = (D : Int) ∧ c 0 3 = ((22 - D : Nat) : Int) ∧ BX m ∧ m 0 44 = 0 ∧ ∃ E : Nat, E < 4096 ∧ c 44 9 = (E : Int)
def Jx (KB : Int) (c m : St) : Prop := HIz c m ∧ JTx c m ∧ ∃ D : Nat, JA c m D ∧ JB c m D KB
section JREL
variable {c m c1 m1 : St} {D nd ck H P : Nat} {KB KB1 : Int}
theorem PW_fr (h : PW c m P D nd ck H) (h0 : c1 P = c P) (h1 : c1 (P + 1) = c (P + 1)) (h2 : c1 (P + 2) = c (P + 2)) (h3 : c1 (P + 3) = c (P + 3)) (h26 : m1 26 = m 26) (h29 : m1 29 = m 29) (h30 : m1 30 = m 30) (h44 : m1 0 44 = m 0 44) : PW c1 m1 P D nd ck H := by
  unfold PW PWa PWv PWt PWl PWx at *
  rw [h0, h1, h2, h3, h26, h29, h30, h44]
  exact h
theorem PN_fr (h : PN c m D) (h0 : c1 44 = c 44) (h1 : c1 45 = c 45) (h26 : m1 26 = m 26) : PN c1 m1 D := by
  unfold PN at *
  rw [h0, h1, h26]
  exact h
theorem SR_fr (hc : ∀ q, D ≤ q → q ≤ D + 17 → c1 q = c q) {m : St} (h : SR D c m) : SR D c1 m := by
  obtain ⟨φ, e, N, S, B, nd, ck, ts, tm, h⟩ := h
  exact ⟨φ, e, N, S, B, nd, ck, ts, tm, SRx_frame h hc (fun _ _ _ => rfl) (fun _ _ => rfl)⟩
theorem PR_fr {T : Nat → Int} {n : Nat} {r : Int} (hc : ∀ q, D ≤ q → q ≤ D + 17 → c1 q = c q) (h : PR (SR D) T n c r) : PR (SR D) T n c1 r := by
  refine ⟨h.1, ?_⟩
  intro b z Qm hs h1 h2
  exact h.2 b z Qm hs (fun e m hp hr => h1 e m hp (SR_fr hc hr)) h2
theorem SRC_fr {T : Nat → Int} {n : Nat} (h : SRC T n 1 m) (h3 : m1 0 3 = m 0 3) (h2 : m1 2 = m 2) : SRC T n 1 m1 := by
  obtain ⟨a, b, d⟩ := h
  refine ⟨a, b, ?_⟩
  rcases d with d | ⟨d1, d2, d3⟩
  · exact absurd d.1 (by decide)
  · exact Or.inr ⟨d1, by rw [h3]; exact d2, fun j hj => by rw [h2]; exact d3 j hj⟩
theorem JTold_fr (h : JTold c m D) (hc : ∀ q, D ≤ q → q ≤ D + 17 → c1 q = c q) (h3 : m1 0 3 = m 0 3) (h2 : m1 2 = m 2) : JTold c1 m1 D := by
  obtain ⟨T, n, a, b⟩ := h
  exact ⟨T, n, SRC_fr a h3 h2, PR_fr hc b⟩
theorem HM_fr (h : HM c D ck H) (h1 : c1 D = c D) (h2 : c1 (D + 16) = c (D + 16)) : HM c1 D ck H := by
  unfold HM at *
  rw [h1, h2]
  exact h
theorem EXPL_fr (h : EXPL c m nd ck H) (hc : ∀ q, 52 ≤ q → q ≤ 64 → c1 q = c q) (hm : ∀ q, 29 ≤ q → q ≤ 35 → m1 q = m q) (h51 : m1 0 51 = m 0 51) (h52 : m1 0 52 = m 0 52) (h53 : m1 0 53 = m 0 53) (h54 : m1 0 54 = m 0 54) : EXPL c1 m1 nd ck H := by
  have c52 := hc 52 (by decide) (by decide)
  rcases h with ⟨a, b⟩ | ⟨a, b, ⟨n, li, x⟩, y, z⟩
  · exact Or.inl ⟨by rw [c52]; exact a, by rw [h53]; exact b⟩
  · refine Or.inr ⟨by rw [c52]; exact a, by rw [h53]; exact b, ⟨n, li, EXR_frame x (by decide) ⟨by rw [c52], by rw [c52], by rw [c52]⟩ (fun q u v => hc q (by omega) (by omega)) (fun q u v => hm q (by omega) (by omega)) h51 h52 h54⟩, ?_, ?_⟩
    · unfold EOF at *
      rw [c52, hm 31 (by decide) (by decide)]
      exact y
    · unfold PWy at *
      rw [hc 61 (by decide) (by decide), hc (61 + 3) (by decide) (by decide), hm 30 (by decide) (by decide), hm 29 (by decide) (by decide)]
      exact z
theorem ANx_fr (h : ANx c m) (h65 : c1 65 = c 65) (h66 : c1 66 = c 66) (h67 : c1 67 = c 67) (h71 : c1 71 = c 71) (h36 : m1 36 = m 36) (h44 : m1 44 = m 44) (h72 : m1 0 72 = m 0 72) (h73 : m1 0 73 = m 0 73) : ANx c1 m1 := by
  unfold ANx CEr MEr at *
  rw [h65, h66, h67, h71, h36, h44, h72, h73]
  exact h
theorem JAn_fr (h : JAn c m) (h65 : c1 65 = c 65) (h66 : c1 66 = c 66) (h67 : c1 67 = c 67) (h71 : c1 71 = c 71) (h36 : m1 36 = m 36) (h44 : m1 44 = m 44) (h70 : m1 0 70 = m 0 70) (h72 : m1 0 72 = m 0 72) (h73 : m1 0 73 = m 0 73) : JAn c1 m1 := by
  rcases h with ⟨a, b⟩ | ⟨a, b, d⟩
  · exact Or.inl ⟨by rw [h65]; exact a, by rw [h70]; exact b⟩
  · exact Or.inr ⟨by rw [h65]; exact a, by rw [h70]; exact b, ANx_fr d h65 h66 h67 h71 h36 h44 h72 h73⟩
theorem JSx_fr {φ : Nat → Nat} {e : Nat → Int} {N S B ts tm : Nat} (hD : D = 2 ∨ D = 20) (hK : KB ≤ KB1) (h : JSx c m D φ e N S B nd ck ts tm H KB) (hc : ∀ q, 2 ≤ q → c1 q = c q) (hm : ∀ q, 2 ≤ q → m1 q = m q) (h0 : ∀ i, i ≠ 1 → i ≠ 5 → m1 0 i = m 0 i) : JSx c1 m1 D φ e N S B nd ck ts tm H KB1 := by
  obtain ⟨a1, a2, a3, a4, a5, a6, a7, a8⟩ := h
  have hD2 : 2 ≤ D := by omega
  refine ⟨SRx_frame a1 (fun q u _ => hc q (by omega)) (fun q u _ => hm q (by omega)) (fun i hi => h0 i (by omega) (by omega)), HM_fr a2 (hc D hD2) (hc (D + 16) (by omega)), a3, JTold_fr a4 (fun q u _ => hc q (by omega)) (h0 3 (by decide) (by decide)) (hm 2 (by decide)), ?_, HIS_frame a6 hK (hc 48 (by decide)) (hc 49 (by decide)) (hc 50 (by decide)) (hc 51 (by decide)) (h0 42 (by decide) (by decide)) (hm 27 (by decide)), EXPL_fr a7 (fun q u _ => hc q (by omega)) (fun q u _ => hm q (by omega)) (h0 51 (by decide) (by decide)) (h0 52 (by decide) (by decide)) (h0 53 (by decide) (by decide)) (h0 54 (by decide) (by decide)), JAn_fr a8 (hc 65 (by decide)) (hc 66 (by decide)) (hc 67 (by decide)) (hc 71 (by decide)) (hm 36 (by decide)) (hm 44 (by decide)) (h0 70 (by decide) (by decide)) (h0 72 (by decide) (by decide)) (h0 73 (by decide) (by decide))⟩
  rcases a5 with b | ⟨b1, b2, b3, b4, b5⟩
  · exact Or.inl (PN_fr b (hc 44 (by decide)) (hc 45 (by decide)) (hm 26 (by decide)))
  · have m26 := hm 26 (by decide)
    refine Or.inr ⟨PW_fr b1 (hc 44 (by decide)) (hc 45 (by decide)) (hc 46 (by decide)) (hc 47 (by decide)) m26 (hm 29 (by decide)) (hm 30 (by decide)) (h0 44 (by decide) (by decide)), ?_⟩
    rw [m26]
    exact ⟨b2, b3, b4, by omega⟩
theorem JB_fr (hD : D = 2 ∨ D = 20) (hK : KB ≤ KB1) (h : JB c m D KB) (hc : ∀ q, 2 ≤ q → c1 q = c q) (hm : ∀ q, 2 ≤ q → m1 q = m q) (h0 : ∀ i, i ≠ 1 → i ≠ 5 → m1 0 i = m 0 i) : JB c1 m1 D KB1 := by
  rcases h with ⟨a1, a2, a3, a4, a5, a6, a7⟩ | ⟨a1, φ, e, N, S, B, nd, ck, ts, tm, H, a2⟩
  · left
    refine ⟨by rw [h0 4 (by decide) (by decide)]; exact a1, by rw [hc D (by omega)]; exact a2, PN_fr a3 (hc 44 (by decide)) (hc 45 (by decide)) (hm 26 (by decide)), ?_, ?_, ?_, by rw [h0 32 (by decide) (by decide)]; exact a7⟩
    · rw [hc 48 (by decide), h0 42 (by decide) (by decide)]; exact a4
    · rw [hc 52 (by decide), h0 53 (by decide) (by decide)]; exact a5
    · rw [hc 65 (by decide), h0 70 (by decide) (by decide)]; exact a6
  · right
    exact ⟨by rw [h0 4 (by decide) (by decide)]; exact a1, φ, e, N, S, B, nd, ck, ts, tm, H, JSx_fr hD hK a2 hc hm h0⟩
theorem JA_fr (h : JA c m D) (h02 : c1 0 2 = c 0 2) (h03 : c1 0 3 = c 0 3) (hc : ∀ q, 2 ≤ q → c1 q = c q) (hm : ∀ q, 2 ≤ q → m1 q = m q) (h0 : ∀ i, i ≠ 1 → i ≠ 5 → m1 0 i = m 0 i) : JA c1 m1 D := by
  obtain ⟨a1, a2, a3, a4, a5, a6⟩ := h
  refine ⟨a1, by rw [h02]; exact a2, by rw [h03]; exact a3, BX_same a4 (h0 44 (by decide) (by decide)) (hm 29 (by decide)) (hm 30 (by decide)) (hm 31 (by decide)), by rw [h0 44 (by decide) (by decide)]; exact a5, ?_⟩
  rw [hc 44 (by decide)]
  exact a6
theorem HIz_m (h : HIz c m) (hm : ∀ q, 45 ≤ q → m1 q = m q) : HIz c m1 := ⟨h.1, fun q hq => by rw [hm q hq]; exact h.2 q hq⟩
theorem HIz_c (h : HIz c m) (hc : ∀ q, 72 ≤ q → c1 q = c q) : HIz c1 m := ⟨fun q hq => by rw [hc q hq]; exact h.1 q hq, h.2⟩
/-- the code alone changes -/
theorem Jx_code {v : Int} (h : Jx KB c m) (hK : KB ≤ KB1) : Jx KB1 c (sset m 0 5 v) := by
  obtain ⟨a1, ⟨n, b1, b2, b3, b4⟩, D, a3, a4⟩ := h
  have hm : ∀ q, q ≠ 0 → sset m 0 5 v q = m q := fun q hq => sset_row _ _ _ hq
  have h0 : ∀ i, i ≠ 5 → sset m 0 5 v 0 i = m 0 i := fun i hi => sset_place _ _ _ hi
  refine ⟨HIz_m a1 (fun q hq => hm q (by omega)), ⟨n, b1, b2, by rw [h0 1 (by decide)]; exact b3, fun j hj => by rw [hm 1 (by decide)]; exact b4 j hj⟩, D, JA_fr a3 rfl rfl (fun _ _ => rfl) (fun q hq => hm q (by omega)) (fun i _ hi => h0 i hi), JB_fr a3.1 hK a4 (fun _ _ => rfl) (fun q hq => hm q (by omega)) (fun i _ hi => h0 i hi)⟩
section QUERY
variable {fC : (St → Int → Prop) → (String → St → Prop) → Prop} {fM fN : (St → Int → Prop) → Prop} {hd : String → Int → Prop} {v r : Int}
theorem q_ret (hJ : Jx KB c m) (hm : ∀ Q : St → Int → Prop, Q (sset m 0 5 0) r → fM Q) (hc : ∀ (Q : St → Int → Prop) (E : String → St → Prop), Q c r → fC Q E) : JRi (Jx KB) fC fM hd := ⟨c, sset m 0 5 0, r, (Jx_code hJ (Int.le_refl _)).1, Jx_code hJ (Int.le_refl _), by rw [sset_at, vu_eq]; exact ⟨by decide, by decide⟩, hm, Or.inl ⟨by rw [sset_at, vu_eq], hc⟩⟩
theorem q_thr {e : String} (hJ : Jx KB c m) (hv : v = 1 ∨ v = 2 ∨ v = 3) (he : hd e v) (hm : ∀ Q : St → Int → Prop, Q (sset m 0 5 v) r → fM Q) (hc : ∀ (Q : St → Int → Prop) (E : String → St → Prop), E e c → fC Q E) : JRi (Jx KB) fC fM hd := ⟨c, sset m 0 5 v, r, (Jx_code hJ (Int.le_refl _)).1, Jx_code hJ (Int.le_refl _), by rw [sset_at, vu_eq]; rcases hv with z | z | z <;> rw [z] <;> exact ⟨by decide, by decide⟩, hm, Or.inr ⟨e, by rw [sset_at, vu_eq]; omega, by rw [sset_at, vu_eq]; exact he, hc⟩⟩
theorem qb_ret (hJ : Jx KB c m) (hr : r = 0 ∨ r = 1) (hm : ∀ Q : St → Int → Prop, Q (sset m 0 5 0) r → fM Q) (hc : ∀ (Q : St → Int → Prop) (E : String → St → Prop), Q c r → fC Q E) : JRb (Jx KB) fC fM hd := ⟨c, sset m 0 5 0, r, (Jx_code hJ (Int.le_refl _)).1, Jx_code hJ (Int.le_refl _), by rw [sset_at, vu_eq]; exact ⟨by decide, by decide⟩, hm, Or.inl ⟨by rw [sset_at, vu_eq], hr, hc⟩⟩
theorem qb_thr {e : String} (hJ : Jx KB c m) (hv : v = 1 ∨ v = 2 ∨ v = 3) (he : hd e v) (hm : ∀ Q : St → Int → Prop, Q (sset m 0 5 v) r → fM Q) (hc : ∀ (Q : St → Int → Prop) (E : String → St → Prop), E e c → fC Q E) : JRb (Jx KB) fC fM hd := ⟨c, sset m 0 5 v, r, (Jx_code hJ (Int.le_refl _)).1, Jx_code hJ (Int.le_refl _), by rw [sset_at, vu_eq]; rcases hv with z | z | z <;> rw [z] <;> exact ⟨by decide, by decide⟩, hm, Or.inr ⟨e, by rw [sset_at, vu_eq]; omega, by rw [sset_at, vu_eq]; exact he, hc⟩⟩
theorem qn_ret (hJ : Jx KB c m) (hr : inR r) (hm : ∀ Q : St → Int → Prop, Q (sset m 0 5 0) r → fM Q) (hc : ∀ Q : St → Int → Prop, Q c r → fN Q) : JRn (Jx KB) fN fM := ⟨c, sset m 0 5 0, r, (Jx_code hJ (Int.le_refl _)).1, Jx_code hJ (Int.le_refl _), hr, hm, hc⟩
end QUERY
end JREL
