/-! ===== pure layer: another node begins ===== -/
section HNODEL
variable {T : Nat → Int} {n D a : Nat} {z c m : St} {φ : Nat → Nat} {e : Nat → Int} {N S B nd ck ts tm dp b : Nat} {R : St → St → Prop} {Q : St → Int → Prop}
/-- the node that is open is closed by the class's mark -/
theorem SY_nd (hD : D = 2 ∨ D = 20) (ha : a ≤ n) (hd : dp = 1) (hL : LH T n z D c a m a φ e N S B nd ck ts tm dp) : ∃ b : Nat, b < B ∧ e b = -1 ∧ SY (cAdd c D 11 ((nd : Int) - 1) 0) m D φ (eu e b S) N (S + 1) B nd ck ts tm 0 := by
  obtain ⟨b, b1, b2, b3⟩ := LH_cur hL
  obtain ⟨n1, n2, n3, n4, n5, n6, n7, n8⟩ := LH_n hL
  obtain ⟨-, hown⟩ := LH_CB hD ha hL
  obtain ⟨h1, e6, e7, h4, h5, h6, h7, h8, h9, h10, h11, h12, h13⟩ := hL
  obtain ⟨y1, y2, y3, y4, y5, y6, y7, y8, y9, y10, y11, y12, y13, y14, y15, y16⟩ := id h6
  obtain ⟨-, he, cn⟩ := SY_cur h8 b1 h9
  have hC := AC_add (w := 11) (x := (nd : Int) - 1) (y := 0) hD y8 h7 h8 y10 n3 y9 hown
  have hk0 : m 15 b = 0 := by
    have := h9.2.2.2.2.2.2.2.1.2.2.2.1 h8
    rw [hd] at b1
    rw [show (1 : Nat) - 1 = 0 from rfl] at b1
    rw [b1, Int.toNat_natCast] at this
    exact this.1
  have := SY_mark hC h8 b1 (Or.inl ⟨hk0, rfl, by omega⟩) (cAdd_row hD (by omega) (by omega) (by omega) (by omega)) (cAdd_row hD (by omega) (by omega) (by omega) (by omega)) (cAdd_row hD (by omega) (by omega) (by omega) (by omega)) h9
  rw [hd, show (1 : Nat) - 1 = 0 from rfl] at this
  exact ⟨b, b2, he, this⟩
theorem H_node {c0 : St} {K : St → Int → Prop} (h : HC R T n D c0 Q c a (fun τ r => (r = 0 ∨ r = 1) ∧ K τ r)) (h1 : T a = 61) (hdp : c 38 2 = 1) : f_X6_takesInBlock (T a) c (fun τ r => (r = 0 ∨ r = 1) ∧ K τ r) := by
  obtain ⟨hD, hT, hF, hI, hs, ha, h3, h4, h5, h6, HQ, IH, hK1, hK0⟩ := h
  have hn := hT.1
  obtain ⟨m0, am0, φ0, e0, N0, S0, B0, nd, ck0, ts0, tm0, dp, hL0⟩ := INV_some hT hI
  have hCB := INV_CB hD hT (Nat.le_of_lt ha) hI
  have f10 : c D 10 = (nd : Int) := hL0.2.2.2.2.2.1.2.2.2.2.2.2.2.2.2.1
  obtain ⟨f0, fj, f9⟩ := cAdd_f (c := c) (w := 11) (x := (nd : Int) - 1) (y := 0) hD
  obtain ⟨k1, k38⟩ := cAdd_38 (c := c) (w := 11) (x := (nd : Int) - 1) (y := 0) hD
  rw [h1]
  refine ib_61 ?_
  rw [hdp, hCB.1, Int.toNat_natCast, f10]
  refine ⟨⟨by decide, by decide⟩, fun g => absurd rfl g, fun _ => ⟨hD, t_add hD hCB ⟨⟨by decide, by decide⟩, fun g => absurd g (by decide), fun _ => t_await ⟨⟨by decide, by decide⟩, fun g => absurd g (by decide), fun _ => hK1 _ ?_⟩⟩⟩⟩
  have j38 : ∀ j, j ≠ 1 → sset (cAdd c D 11 ((nd : Int) - 1) 0) 38 1 1 38 j = c 38 j := fun j hj => by rw [sset_place _ _ _ hj, k38 j hj]
  refine KT_ok (w := 1) (by rw [j38 3 (by decide)]; exact h3) (by rw [j38 4 (by decide)]; exact h4) (by decide) ?_
  have cx : CX (cAdd c D 11 ((nd : Int) - 1) 0) (sset (sset (cAdd c D 11 ((nd : Int) - 1) 0) 38 1 1) 38 3 ((a + 1 : Nat) : Int)) := CX_tr (CX_set (by decide) (by decide)) (CX_set (by decide) (by decide))
  refine H_name hD (CT_cx cx (CT_add hD hT)) (FC_cx cx (FC_add hD hF)) (by rw [sset_place _ _ _ (by decide), sset_self]) (sset_self _ _ _ _) (by omega) (by rw [cx.2.2, k38 2 (by decide), hdp]; exact ⟨by decide, by decide⟩) ?_ HQ (fun c' a' u1 u2 => IH c' a' (by omega) u2)
  intro bb z hsr
  obtain ⟨m, am, ⟨φ, e, N, S, B, nd', ck, ts, tm, dp', hL⟩, hR⟩ := hI bb z hsr
  have hnn : nd' = nd := by have := hL.2.2.2.2.2.1.2.2.2.2.2.2.2.2.2.1; omega
  have hdd : dp' = 1 := by have := hL.2.2.2.2.2.2.1; omega
  subst hnn
  subst hdd
  have hL1 := LH_at hs (Nat.le_of_lt ha) hL
  obtain ⟨b, b2, he, hSY⟩ := SY_nd hD (Nat.le_of_lt ha) rfl hL1
  obtain ⟨g1, e6, e7, g4, g5, g6, g7, g8, g9, g10, g11, g12, g13⟩ := id hL1
  obtain ⟨y1, y2, y3, y4, y5, y6, y7, y8, y9, y10, y11, y12, y13, y14, y15, y16⟩ := id g6
  have hle : am ≤ a := by
    have u2 := hL.2.2.2.2.1
    have u3 := sk_ge (T := T) hL.2.2.2.1
    rw [hs] at u2
    omega
  refine ⟨sset m 0 36 (a : Int), a, φ, eu e b S, N, S + 1, B, nd', ck, ts, tm, 1, NH_cx hD cx ⟨g1, e6, e7, g4, by rw [hs, ch_lt ha]; exact h1, by rw [hs], by omega, ?_, hSY, g10.1, by omega, by omega, by omega⟩, fun Qm hq => hR Qm (fun fu hf => ?_)⟩
  · unfold YY
    rw [f0, f9, fj 10 (by decide), fj 14 (by decide), fj 18 (by decide), k38 0 (by decide)]
    exact ⟨y1, y2, y3, y4, y5, y6, y7, by omega, y9, y10, y11, y12, y13, y14, y15, y16⟩
  · obtain ⟨fu0, rfl⟩ : ∃ k, fu = k + 2 := ⟨fu - 2, by have := hL.2.2.2.1; omega⟩
    refine m_node hs ha hL h1 rfl (hq _ (fun m' am' e37 hlt han hf' => KA_ok e37 (hf' _ (by omega))) (fun m' e37 hq0 => KA_dead e37 hq0))
end HNODEL
