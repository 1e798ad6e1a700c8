/-! ===== pure layer: terms, conditions, blocks of the reference ===== -/
/-- a term read from a place on: whether it is one, where it ends (or where its fault is), its sort, subject, digit -/
def tmr (T : Nat → Int) (n a : Nat) : Bool × Nat × Int × Int × Int :=
  if ch T n (sk T n a) = 33 then
    (if 97 ≤ ch T n (sk T n (sk T n a + 1)) ∧ ch T n (sk T n (sk T n a + 1)) ≤ 102 then (true, sk T n (sk T n a + 1) + 1, 1, ch T n (sk T n (sk T n a + 1)) - 97, 0) else (false, sk T n (sk T n a + 1), 0, 0, 0))
  else if 120 ≤ ch T n (sk T n a) ∧ ch T n (sk T n a) ≤ 122 then
    (if ch T n (sk T n (sk T n a + 1)) = 60 ∨ ch T n (sk T n (sk T n a + 1)) = 62 ∨ ch T n (sk T n (sk T n a + 1)) = 61 then
      (if 48 ≤ ch T n (sk T n (sk T n (sk T n a + 1) + 1)) ∧ ch T n (sk T n (sk T n (sk T n a + 1) + 1)) ≤ 57 then (true, sk T n (sk T n (sk T n a + 1) + 1) + 1, (if ch T n (sk T n (sk T n a + 1)) = 60 then 2 else if ch T n (sk T n (sk T n a + 1)) = 62 then 3 else 4), ch T n (sk T n a) - 120, ch T n (sk T n (sk T n (sk T n a + 1) + 1)) - 48)
      else (false, sk T n (sk T n (sk T n a + 1) + 1), 0, 0, 0))
    else (false, sk T n (sk T n a + 1), 0, 0, 0))
  else if 97 ≤ ch T n (sk T n a) ∧ ch T n (sk T n a) ≤ 102 then (true, sk T n a + 1, 0, ch T n (sk T n a) - 97, 0)
  else (false, sk T n a, 0, 0, 0)
section MTERM
variable {T : Nat → Int} {n a : Nat} {z σ : St} {K : St → Prop}
theorem DE_tm (hP : PS T n z σ) (h9 : inR (σ 0 39)) {w x y : Int} {e : Nat} (h : DE T n z K e) : K (mTm (sset (sset σ 0 36 (e : Int)) 0 37 0) w x y) := by
  refine h _ (PS_tm (PS_dd hP _)) ?_ ?_ ?_
  · unfold mTm; rw [sset_place _ _ _ (by decide), sset_row _ _ _ (by decide), sset_row _ _ _ (by decide), sset_row _ _ _ (by decide), dd_36]
  · unfold mTm; rw [sset_place _ _ _ (by decide), sset_row _ _ _ (by decide), sset_row _ _ _ (by decide), sset_row _ _ _ (by decide), sset_self]
  · unfold mTm; rw [sset_place _ _ _ (by decide), sset_row _ _ _ (by decide), sset_row _ _ _ (by decide), sset_row _ _ _ (by decide), sset_place _ _ _ (by decide), sset_place _ _ _ (by decide)]; exact h9
theorem dd_x {v : Int} {j : Nat} (h1 : j ≠ 36) (h2 : j ≠ 37) : sset (sset σ 0 36 v) 0 37 0 0 j = σ 0 j := by rw [sset_place _ _ _ h2, sset_place _ _ _ h1]
theorem s_termB {w x y : Int} {e : Nat} (hP : PS T n z σ) (h9 : inR (σ 0 39)) (ht : 0 ≤ σ 0 19) (ht2 : σ 0 19 < 401) (h : DE T n z K e) : f_X10_term w x y (sset (sset σ 0 36 (e : Int)) 0 37 0) K := by
  refine s_term ?_ ?_ (DE_tm hP h9 h)
  · rw [dd_x (by decide) (by decide)]; exact ht
  · rw [dd_x (by decide) (by decide)]; exact ht2
theorem r_term (hP : PS T n z σ) (h9 : inR (σ 0 39)) (ha : a ≤ n) (h6 : σ 0 36 = (a : Int)) (h7 : σ 0 37 = 1) (ht : 0 ≤ σ 0 19) (ht2 : σ 0 19 < 401)
    (hy : (tmr T n a).1 = true → K (mTm (sset σ 0 36 (((tmr T n a).2.1 : Nat) : Int)) (tmr T n a).2.2.1 (tmr T n a).2.2.2.1 (tmr T n a).2.2.2.2))
    (hn : (tmr T n a).1 = false → DE T n z K (tmr T n a).2.1) : f_X10_readsTerm σ K := by
  have hR := hP.1.2.1
  have hc0 := ch_inR (n := n) (i := sk T n a) hR
  have hle : sk T n a ≤ n := sk_le ha
  unfold tmr at hy hn
  -- the flag behind a sign or none
  have flagG : ∀ (b : Nat) (k : Int), b ≤ n → (97 ≤ ch T n (sk T n b) → ch T n (sk T n b) ≤ 102 → K (mTm (sset σ 0 36 ((sk T n b + 1 : Nat) : Int)) k (ch T n (sk T n b) - 97) 0)) → ((ch T n (sk T n b) < 97 ∨ 102 < ch T n (sk T n b)) → DE T n z K (sk T n b)) → ∀ τ, τ = sset σ 0 36 (b : Int) → f_X10_readsTerm_J163 K τ k := by
    intro b k hb g1 g2 τ eτ
    have hP1 : PS T n z τ := by rw [eτ]; exact PS_at hP _
    unfold f_X10_readsTerm_J163
    refine s_readsOf hP1.1 hb (by rw [eτ, sset_self]) (by rw [eτ, at_37]; exact h7) ⟨by decide, by decide⟩ ⟨by decide, by decide⟩ (fun q1 q2 => ?_) (fun q => ?_)
    · rw [eτ, sset_twice]
      exact s_term (by rw [at_x (by decide)]; exact ht) (by rw [at_x (by decide)]; exact ht2) (g1 q1 q2)
    · exact s_termB hP1 (by rw [eτ, at_x (by decide)]; exact h9) (by rw [eτ, at_x (by decide)]; exact ht) (by rw [eτ, at_x (by decide)]; exact ht2) (g2 q)
  unfold f_X10_readsTerm
  refine s_here hP.1 ha h6 ?_
  refine ⟨hc0, fun q => ?_, fun q => ?_⟩
  · rw [if_neg q] at hy hn
    unfold f_X10_readsTerm_J16 f_X10_readsTerm_J31
    refine ⟨⟨by decide, by decide⟩, fun _ σ1 e1 => ?_, fun c => absurd rfl c⟩
    rw [sset_self, sset_twice, Int.add_zero] at e1
    refine ⟨⟨by decide, by decide⟩, fun c => absurd rfl c, fun _ => ?_⟩
    refine s_in hc0 ⟨by decide, by decide⟩ ⟨by decide, by decide⟩ (fun m1 m2 => ?_) (fun m => ?_)
    · rw [if_pos ⟨m1, m2⟩] at hy hn
      refine ⟨⟨by decide, by decide⟩, fun c => absurd c (by decide), fun _ σ3 e3 => ?_⟩
      have hlt : sk T n a < n := ch_pos (T := T) (by omega)
      have e4 : σ3 = sset σ 0 36 ((sk T n a + 1 : Nat) : Int) := by rw [e3, e1, sset_self, sset_twice]; rfl
      have hP1 : PS T n z σ3 := by rw [e4]; exact PS_at hP _
      have hle2 : sk T n (sk T n a + 1) ≤ n := sk_le (by omega)
      have hc2 := ch_inR (n := n) (i := sk T n (sk T n a + 1)) hR
      have hss := sk_sk (T := T) (n := n) (i := sk T n a + 1) (by omega)
      refine s_here hP1.1 (a := sk T n a + 1) (by omega) (by rw [e4, sset_self]) ?_
      rw [e4, sset_twice]
      have good : (ch T n (sk T n (sk T n a + 1)) = 60 ∨ ch T n (sk T n (sk T n a + 1)) = 62 ∨ ch T n (sk T n (sk T n a + 1)) = 61) → f_X10_readsTerm_J89 K (sset σ 0 36 ((sk T n (sk T n a + 1) : Nat) : Int)) (ch T n (sk T n a)) (ch T n (sk T n (sk T n a + 1))) 1 := by
        intro hs
        rw [if_pos hs] at hy hn
        have hlt2 : sk T n (sk T n a + 1) < n := ch_pos (T := T) (by omega)
        unfold f_X10_readsTerm_J89
        refine s_req1 (by rw [at_37]; exact h7) ?_
        rw [at_37, h7, sset_self]
        refine ⟨⟨by decide, by decide⟩, fun c => absurd c (by decide), fun _ => ?_⟩
        unfold f_X10_readsTerm_J109
        intro τ eτ
        rw [sset_twice] at eτ
        have eτ2 : τ = sset σ 0 36 ((sk T n (sk T n a + 1) + 1 : Nat) : Int) := eτ
        have hP2 : PS T n z τ := by rw [eτ2]; exact PS_at hP _
        have fin : ∀ k, k = (if ch T n (sk T n (sk T n a + 1)) = 60 then (2 : Int) else if ch T n (sk T n (sk T n a + 1)) = 62 then 3 else 4) → f_X10_readsTerm_J135 K τ (ch T n (sk T n a)) k := by
          intro k hk
          rw [← hk] at hy
          unfold f_X10_readsTerm_J135
          refine s_readsOf hP2.1 (a := sk T n (sk T n a + 1) + 1) (by omega) (by rw [eτ2, sset_self]) (by rw [eτ2, at_37]; exact h7) ⟨by decide, by decide⟩ ⟨by decide, by decide⟩ (fun q1 q2 => ?_) (fun q3 => ?_)
          · rw [if_pos ⟨q1, q2⟩] at hy
            rw [eτ2, sset_twice]
            exact s_term (by rw [at_x (by decide)]; exact ht) (by rw [at_x (by decide)]; exact ht2) (hy rfl)
          · rw [if_neg (by omega)] at hn
            exact s_termB hP2 (by rw [eτ2, at_x (by decide)]; exact h9) (by rw [eτ2, at_x (by decide)]; exact ht) (by rw [eτ2, at_x (by decide)]; exact ht2) (hn rfl)
        refine ⟨hc2, fun q1 => ⟨hc2, fun q2 => fin _ ?_, fun q2 => fin _ ?_⟩, fun q1 => fin _ ?_⟩
        · rw [if_neg q1, if_neg q2]
        · rw [if_neg q1, if_pos q2]
        · rw [if_pos q1]
      have bad : ¬ (ch T n (sk T n (sk T n a + 1)) = 60 ∨ ch T n (sk T n (sk T n a + 1)) = 62 ∨ ch T n (sk T n (sk T n a + 1)) = 61) → f_X10_readsTerm_J89 K (sset σ 0 36 ((sk T n (sk T n a + 1) : Nat) : Int)) (ch T n (sk T n a)) (ch T n (sk T n (sk T n a + 1))) 0 := by
        intro hs
        rw [if_neg hs] at hn
        have hd := hn rfl
        unfold f_X10_readsTerm_J89
        refine s_req0 (by rw [at_37]; exact Or.inr h7) ?_
        rw [sset_self, dd_36]
        refine ⟨⟨by decide, by decide⟩, fun _ => ?_, fun c => absurd rfl c⟩
        unfold f_X10_readsTerm_J109
        intro τ eτ
        rw [Int.add_zero, sset_id _ _ _ dd_36] at eτ
        have fin : ∀ k, f_X10_readsTerm_J135 K τ (ch T n (sk T n a)) k := by
          intro k
          unfold f_X10_readsTerm_J135
          refine s_readsOfD (a := sk T n (sk T n a + 1)) (by rw [eτ]; exact (PS_dd hP _).1) hle2 (by rw [eτ, dd_36]) hss (by rw [eτ, sset_self]) ⟨by decide, by decide⟩ ⟨by decide, by decide⟩ ?_
          rw [eτ]
          exact s_termB hP h9 ht ht2 hd
        exact ⟨hc2, fun q1 => ⟨hc2, fun q2 => fin _, fun q2 => fin _⟩, fun q1 => fin _⟩
      unfold f_X10_readsTerm_J84
      exact ⟨hc2, fun q1 => good (by omega), fun q1 => ⟨hc2, fun q2 => good (by omega), fun q2 => ⟨hc2, fun q3 => bad (by omega), fun q3 => good (by omega)⟩⟩⟩
    · rw [if_neg (by omega)] at hy hn
      refine ⟨⟨by decide, by decide⟩, fun _ => ?_, fun c => absurd rfl c⟩
      unfold f_X10_readsTerm_J153
      refine ⟨⟨by decide, by decide⟩, fun _ => ?_, fun c => absurd rfl c⟩
      have hss := sk_sk (T := T) ha
      refine flagG (sk T n a) 0 hle (fun q1 q2 => ?_) (fun q3 => ?_) σ1 e1
      · rw [hss] at q1 q2 ⊢
        rw [if_pos ⟨q1, q2⟩] at hy
        exact hy rfl
      · rw [hss] at q3 ⊢
        rw [if_neg (by omega)] at hn
        exact hn rfl
  · rw [if_pos q] at hy hn
    have hlt : sk T n a < n := ch_pos (T := T) (by omega)
    unfold f_X10_readsTerm_J16 f_X10_readsTerm_J31
    refine ⟨⟨by decide, by decide⟩, fun c => absurd c (by decide), fun _ σ1 e1 => ?_⟩
    rw [sset_self, sset_twice] at e1
    refine ⟨⟨by decide, by decide⟩, fun _ => ?_, fun c => absurd c (by decide)⟩
    unfold f_X10_readsTerm_J153
    refine ⟨⟨by decide, by decide⟩, fun c => absurd c (by decide), fun _ => ?_⟩
    refine flagG (sk T n a + 1) 1 (by omega) (fun q1 q2 => ?_) (fun q3 => ?_) σ1 e1
    · rw [if_pos ⟨q1, q2⟩] at hy
      exact hy rfl
    · rw [if_neg (by omega)] at hn
      exact hn rfl
theorem tm_fld {k o v : Int} {j : Nat} (h : j ≠ 19) : mTm σ k o v 0 j = σ 0 j := by
  unfold mTm; rw [sset_place _ _ _ h, sset_row _ _ _ (by decide), sset_row _ _ _ (by decide), sset_row _ _ _ (by decide)]
/-- a turn of the condition's loop -/
theorem r_cond {s : Int} {fu : Nat} (hP : PS T n z σ) (h9 : inR (σ 0 39)) (ha : a ≤ n) (h6 : σ 0 36 = (a : Int)) (h7 : σ 0 37 = 1) (ht : 0 ≤ σ 0 19) (ht2 : σ 0 19 < 401) (hs : 0 ≤ s) (hs2 : s < 401)
    (hte : (tmr T n a).1 = true → (tmr T n a).2.1 ≤ n)
    (hm : (tmr T n a).1 = true → ch T n (sk T n (tmr T n a).2.1) = 38 → f_X10_readsCondition_L2 K (fu + 1) (sset (mTm (sset σ 0 36 (((tmr T n a).2.1 : Nat) : Int)) (tmr T n a).2.2.1 (tmr T n a).2.2.2.1 (tmr T n a).2.2.2.2) 0 36 ((sk T n (tmr T n a).2.1 + 1 : Nat) : Int)) s 1)
    (hd : (tmr T n a).1 = true → ch T n (sk T n (tmr T n a).2.1) ≠ 38 → K (sset (sset (mTm (sset σ 0 36 (((tmr T n a).2.1 : Nat) : Int)) (tmr T n a).2.2.1 (tmr T n a).2.2.2.1 (tmr T n a).2.2.2.2) 0 36 ((sk T n (tmr T n a).2.1 : Nat) : Int)) 11 s.toNat (σ 0 19 + 1)))
    (hn : (tmr T n a).1 = false → DE T n z K (tmr T n a).2.1) : f_X10_readsCondition_L2 K (fu + 2) σ s 1 := by
  unfold f_X10_readsCondition_L2
  rw [h7]
  refine ⟨⟨by decide, by decide⟩, fun c => absurd c (by decide), fun _ => ⟨⟨by decide, by decide⟩, fun c => absurd c (by decide), fun _ => ?_⟩⟩
  have out : ∀ τ : St, (∀ ρ, ρ = sset τ 11 s.toNat (τ 0 19) → K ρ) → f_X10_readsCondition_J37 (fun σ' v1' v2' => f_X10_readsCondition_L2 K (fu + 1) σ' v1' v2') K τ s := by
    intro τ hτ
    unfold f_X10_readsCondition_J37 f_X10_readsCondition_J38
    refine ⟨⟨by decide, by decide⟩, fun _ ρ e => ?_, fun c => absurd rfl c⟩
    rw [Int.add_zero, sset_id _ _ _ rfl] at e
    subst e
    unfold f_X10_readsCondition_L2
    refine ⟨⟨by decide, by decide⟩, fun _ => ?_, fun c => absurd rfl c⟩
    unfold f_X10_readsCondition_J60
    exact ⟨hs, hs2, hτ⟩
  refine r_term hP h9 ha h6 h7 ht ht2 (fun ok => ?_) (fun bad => ?_)
  · have f7 : mTm (sset σ 0 36 (((tmr T n a).2.1 : Nat) : Int)) (tmr T n a).2.2.1 (tmr T n a).2.2.2.1 (tmr T n a).2.2.2.2 0 37 = 1 := by rw [tm_fld (by decide), at_37]; exact h7
    have f6 : mTm (sset σ 0 36 (((tmr T n a).2.1 : Nat) : Int)) (tmr T n a).2.2.1 (tmr T n a).2.2.2.1 (tmr T n a).2.2.2.2 0 36 = (((tmr T n a).2.1 : Nat) : Int) := by rw [tm_fld (by decide), sset_self]
    have f9 : mTm (sset σ 0 36 (((tmr T n a).2.1 : Nat) : Int)) (tmr T n a).2.2.1 (tmr T n a).2.2.2.1 (tmr T n a).2.2.2.2 0 19 = σ 0 19 + 1 := by unfold mTm; rw [sset_self, at_x (by decide)]
    have hm := hm ok
    have hd := hd ok
    have hte := hte ok
    have hP1 : PS T n z (mTm (sset σ 0 36 (((tmr T n a).2.1 : Nat) : Int)) (tmr T n a).2.2.1 (tmr T n a).2.2.2.1 (tmr T n a).2.2.2.2) := PS_tm (PS_at hP _)
    generalize mTm (sset σ 0 36 (((tmr T n a).2.1 : Nat) : Int)) (tmr T n a).2.2.1 (tmr T n a).2.2.2.1 (tmr T n a).2.2.2.2 = τ at *
    refine ⟨by rw [f7]; exact ⟨by decide, by decide⟩, fun c => by rw [f7] at c; exact absurd c (by decide), fun _ => ?_⟩
    refine s_here hP1.1 hte f6 ?_
    refine ⟨ch_inR hP.1.2.1, fun q => out _ (fun ρ e => ?_), fun q => ?_⟩
    · rw [e, at_x (by decide), f9]; exact hd q
    · unfold f_X10_readsCondition_J38
      refine ⟨⟨by decide, by decide⟩, fun c => absurd c (by decide), fun _ ρ e => ?_⟩
      rw [sset_self, sset_twice] at e
      rw [e]; exact hm q
  · intro τ hPτ e6 e7 e9
    refine ⟨by rw [e7]; exact ⟨by decide, by decide⟩, fun _ => out _ (fun ρ e => ?_), fun c => absurd e7 c⟩
    rw [e]
    refine hn bad _ (PS_cell hPτ _ _ _ (by decide) (by decide)) ?_ ?_ ?_
    · rw [sset_row _ _ _ (by decide)]; exact e6
    · rw [sset_row _ _ _ (by decide)]; exact e7
    · rw [sset_row _ _ _ (by decide)]; exact e9
/-- a block is opened -/
theorem r_opens {k o s : Int} {sec : Int} (hsec : sec = 0 ∨ sec = 1) (hP : PS T n z σ) (ha : a ≤ n) (h6 : σ 0 36 = (a : Int)) (h7 : σ 0 37 = 1) (hs : 0 ≤ s) (hs2 : s < 401) (hd1 : 1 ≤ σ 0 39) (hd2 : σ 0 39 ≤ 6) (hb : 0 ≤ σ 25 ((σ 0 39) - 1).toNat) (hb2 : σ 25 ((σ 0 39) - 1).toNat < 64) (hB1 : 0 ≤ σ 0 25) (hB2 : σ 0 39 < 6 → ch T n (sk T n a) = 123 → σ 0 25 < 64)
    (hy : ch T n (sk T n a) = 123 → σ 0 39 < 6 → K (mBk (sset (sset σ 0 36 ((sk T n a + 1 : Nat) : Int)) (if sec = 0 then 8 else 9) s.toNat (σ 0 25)) k o (σ 19 (σ 25 ((σ 0 39) - 1).toNat).toNat)))
    (hn : (ch T n (sk T n a) ≠ 123 ∨ 6 ≤ σ 0 39) → DE T n z K (sk T n a)) : f_X10_opens k o s sec σ K := by
  unfold f_X10_opens
  refine s_here hP.1 ha h6 ?_
  have bad : (ch T n (sk T n a) ≠ 123 ∨ 6 ≤ σ 0 39) → f_X10_opens_J23 K (sset σ 0 36 ((sk T n a : Nat) : Int)) k o s sec := by
    intro q
    unfold f_X10_opens_J23 f_X10_opens_J24
    refine s_req0 (by rw [at_37]; exact Or.inr h7) ?_
    rw [sset_self]
    exact ⟨⟨by decide, by decide⟩, fun c => absurd rfl c, fun _ => hn q _ (PS_dd hP _) dd_36 (sset_self _ _ _ _) (by rw [dd_x (by decide) (by decide)]; exact ⟨by omega, by omega⟩)⟩
  refine ⟨ch_inR hP.1.2.1, fun q => bad (Or.inl q), fun q => ?_⟩
  rw [at_x (by decide)]
  refine ⟨⟨by omega, by omega⟩, fun q2 => bad (Or.inr q2), fun q2 => ?_⟩
  have q2 : σ 0 39 < 6 := by omega
  unfold f_X10_opens_J24
  refine s_req1 (by rw [at_37]; exact h7) ?_
  rw [at_37, h7, sset_self, sset_twice]
  refine ⟨⟨by decide, by decide⟩, fun _ σ2 e2 => ?_, fun c => absurd c (by decide)⟩
  have e3 : σ2 = sset σ 0 36 ((sk T n a + 1 : Nat) : Int) := e2
  have hK := hy q q2
  have fin : ∀ c : Nat, (c = 8 ∨ c = 9) → K (mBk (sset (sset σ 0 36 ((sk T n a + 1 : Nat) : Int)) c s.toNat (σ 0 25)) k o (σ 19 (σ 25 ((σ 0 39) - 1).toNat).toNat)) → ∀ σ3, σ3 = sset σ2 c s.toNat (σ2 0 25) → f_X10_opens_J73 K σ3 k o := by
    intro c hc hk σ3 e
    have e25 : σ2 0 25 = σ 0 25 := by rw [e3, at_x (by decide)]
    have f : σ3 0 = σ2 0 := by rw [e, sset_row _ _ _ (by omega)]
    have f39 : σ3 0 39 = σ 0 39 := by rw [f, e3, at_x (by decide)]
    have f25 : σ3 0 25 = σ 0 25 := by rw [f, e25]
    have g25 : σ3 25 = σ 25 := by rw [e, sset_row _ _ _ (by omega), e3, sset_row _ _ _ (by decide)]
    have g19 : σ3 19 = σ 19 := by rw [e, sset_row _ _ _ (by omega), e3, sset_row _ _ _ (by decide)]
    unfold f_X10_opens_J73
    rw [f39, g25, g19]
    refine ⟨by omega, by omega, hb, hb2, ?_⟩
    refine s_newBlock (by rw [f25]; exact hB1) (by rw [f25]; exact hB2 q2 q) (by rw [f39]; omega) (by rw [f39]; omega) ?_
    rw [e, e25, e3]
    exact hk
  rcases hsec with rfl | rfl
  · rw [if_pos rfl] at hK
    exact ⟨⟨by decide, by decide⟩, fun _ => ⟨hs, hs2, fin 8 (Or.inl rfl) hK⟩, fun c => absurd rfl c⟩
  · rw [if_neg (by decide)] at hK
    exact ⟨⟨by decide, by decide⟩, fun c => absurd c (by decide), fun _ => ⟨hs, hs2, fin 9 (Or.inr rfl) hK⟩⟩
theorem r_opensD {k o s sec : Int} (hP : PS T n z σ) (ha : a ≤ n) (h6 : σ 0 36 = (a : Int)) (hs : sk T n a = a) (h7 : σ 0 37 = 0) (hd2 : inR (σ 0 39)) (hK : K σ) : f_X10_opens k o s sec σ K := by
  unfold f_X10_opens
  refine s_here0 hP.1 ha h6 hs ?_
  have bad : ∀ x, f_X10_opens_J24 K σ k o s sec x := by
    intro x
    unfold f_X10_opens_J24
    refine s_reqD h7 ?_
    rw [h7]
    exact ⟨⟨by decide, by decide⟩, fun c => absurd rfl c, fun _ => hK⟩
  unfold f_X10_opens_J23
  exact ⟨ch_inR hP.1.2.1, fun q => bad 0, fun q => ⟨hd2, fun q2 => bad 0, fun q2 => bad 1⟩⟩
end MTERM
