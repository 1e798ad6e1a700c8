/-! ===== pure layer: the reference walks through a block ===== -/
/-- the stack below d is left alone -/
def SFd (d : Nat) (m m1 : St) : Prop := (∀ q, 38 ≤ q → q ≤ 43 → ∀ j, j < d → m1 q j = m q j) ∧ ∀ i, 9 ≤ i → i < 9 + 18 * d → m1 37 i = m 37 i
theorem SFd_trans {d d' : Nat} {m m1 m2 : St} (h : SFd d m m1) (h' : SFd d' m1 m2) (hd : d ≤ d') : SFd d m m2 := ⟨fun q a b j hj => by rw [h'.1 q a b j (by omega), h.1 q a b j hj], fun i a b => by rw [h'.2 i a (by omega), h.2 i a b]⟩
theorem SFd_n {d : Nat} {m m1 : St} (hd : d < 6) (h : SFn m m1) : SFd d m m1 := ⟨fun q a b j _ => by rw [h.1 q a b], fun i a b => h.2 i a (by omega)⟩
/-- sixteen bits, not looked into -/
def B16 (m : St) (k : Nat) : Prop := ∃ a : Nat, m 0 k = (a : Int) ∧ a < 65536
theorem B16_eq {m m1 : St} {k : Nat} (h : m1 0 k = m 0 k) (u : B16 m k) : B16 m1 k := by
  obtain ⟨a, a1, a2⟩ := u
  exact ⟨a, by rw [h, a1], a2⟩
theorem k_arith {s q i b kA kB kC : Nat} {v1 v3 : Int} (hs : s < b) (g5 : q ≤ i) (g6 : i ≤ b) (c4 : v3 = -1 → kC = 0) (c5 : v3 ≠ -1 → (kC : Int) + 3 * v3 ≤ 3 * (b : Int)) (a4 : v1 = -1 → kA = 0) (a5 : v1 ≠ -1 → (kA : Int) + 3 * v1 ≤ 3 * (q : Int)) (v1b : v1 ≠ -1 → (s : Int) < v1 ∧ v1 < (q : Int)) (v3b : v3 ≠ -1 → (i : Int) ≤ v3 ∧ v3 < (b : Int) ∧ (s : Int) < v3) (kb : kB ≤ 1 ∨ (kB : Int) + 3 * ((max (s + 1) q : Nat) : Int) ≤ 3 * (i : Int) + 1) : ((kC + 1 + kB + kA + 1 : Nat) : Int) + 3 * (s : Int) ≤ 3 * (b : Int) := by
  by_cases u3 : v3 = -1
  · have := c4 u3
    by_cases u1 : v1 = -1
    · have := a4 u1
      omega
    · have := a5 u1
      have := v1b u1
      omega
  · have := c5 u3
    have := v3b u3
    by_cases u1 : v1 = -1
    · have := a4 u1
      omega
    · have := a5 u1
      have := v1b u1
      omega
section MWALK
variable {m0 m c : St} {D N S B nd ck ts tm H hh : Nat} {φ δ h : Nat → Nat} {e : Nat → Int} {Q : St → Prop} {fu : Nat} {a nn : Int}
theorem L78_learn {s : Nat} (h48 : m 0 48 = (s : Int)) (hs : s < 401) (w : f_X10_learns nn m (fun σ1 => f_X10_goesThrough_L78 Q fu σ1 a nn)) : f_X10_goesThrough_L78 Q (fu + 1) m a nn := by
  unfold f_X10_goesThrough_L78 f_X10_goesThrough_J93
  rw [h48]
  exact ⟨⟨by omega, by omega⟩, fun _ => ⟨⟨by omega, by omega⟩, fun _ => w, fun u => by omega⟩, fun u => by omega⟩
theorem L78_leave {d : Nat} (h48 : m 0 48 = -1) (h66 : m 0 66 = ((d + 1 : Nat) : Int)) (hd : d < 6) (w : f_X10_leavesTest m (fun σ1 => f_X10_goesThrough_L78 Q fu σ1 a nn)) : f_X10_goesThrough_L78 Q (fu + 1) m a nn := by
  unfold f_X10_goesThrough_L78 f_X10_goesThrough_J93
  rw [h48, h66]
  exact ⟨⟨by decide, by decide⟩, fun u => absurd rfl u, fun _ => ⟨⟨by omega, by omega⟩, fun u => by omega, fun _ => ⟨⟨by decide, by decide⟩, fun u => absurd rfl u, fun _ => w⟩⟩⟩
theorem WP_up {lo hi lo2 hi2 b : Nat} {v : Int} {g g1 : Nat → Nat} {E E1 R : Nat → Nat → Nat} {m1 : St} (w : WPc c m0 D H S nd ck hh N φ e lo hi b v g g1 E E1 R m m1) (h1 : lo2 ≤ lo) (h2 : hi ≤ hi2) : WPc c m0 D H S nd ck hh N φ e lo2 hi2 b v g g1 E E1 R m m1 := ⟨SUPw_up w.1 h1 h2 rfl, w.2⟩
theorem jn_SVk {g g' : Nat → Nat} (hv : SVk ck g) (hv' : SVk ck g') : SVk ck (jn g g') := by
  refine ⟨jn_KV hv.1 hv'.1, ?_, ?_⟩
  · by_cases u : g 0 = 0
    · rw [jn_0 u]; exact hv'.2.1
    · by_cases u' : g' 0 = 0
      · rw [jn_1 u u']; exact hv.2.1
      · rw [jn_9 u u']; exact Nat.or_lt_two_pow hv.2.1 hv'.2.1
  · by_cases u : g 0 = 0
    · rw [jn_0 u]; exact hv'.2.2
    · by_cases u' : g' 0 = 0
      · rw [jn_1 u u']; exact hv.2.2
      · rw [jn_10 u u']; exact Nat.lt_of_le_of_lt Nat.and_le_left hv.2.2
/-- the walk from a point of a block to its end -/
def WLK (m0 c : St) (D H S nd ck hh N : Nat) (φ h : Nat → Nat) (e : Nat → Int) (v : Int) (b d : Nat) (m : St) (g : Nat → Nat) (E : Nat → Nat → Nat) (nn : Int) : Prop := ∃ (m1 : St) (g1 : Nat → Nat) (E1 R : Nat → Nat → Nat) (k : Nat), WSt m0 m1 ck g1 E1 d (-1) ∧ SFd d m m1 ∧ (∀ lo hi : Nat, (v ≠ -1 → (lo : Int) ≤ v) → (v ≠ -1 → h b ≤ hi) → WPc c m0 D H S nd ck hh N φ e lo hi b v g g1 E E1 R m m1) ∧ (v = -1 → k = 0) ∧ (v ≠ -1 → (k : Int) + 3 * v ≤ 3 * (h b : Int)) ∧ ∀ (Q : St → Prop) (fu : Nat) (a : Int), f_X10_goesThrough_L78 Q fu m1 a nn → f_X10_goesThrough_L78 Q (fu + k) m a nn
theorem WLK_stop {b d : Nat} {g : Nat → Nat} {E : Nat → Nat → Nat} (hW : WSt m0 m ck g E d (-1)) : WLK m0 c D H S nd ck hh N φ h e (-1) b d m g E nn := ⟨m, g, E, fun _ _ => 0, 0, hW, ⟨fun _ _ _ _ _ => rfl, fun _ _ _ => rfl⟩, fun lo hi _ _ => WP_stop (MEr_KV hW.2.1), fun _ => rfl, fun u => absurd rfl u, fun Q fu a w => w⟩
/-- the walk of a story -/
theorem walk_main (hS : SRx D c m0 φ e N S B nd ck ts tm) (hH : HM c D ck H) (hY : YWc m0 N B δ h) : ∀ (n : Nat) (v : Int) (b d : Nat) (m : St) (g : Nat → Nat) (E : Nat → Nat → Nat), b < B → d + 1 ≤ δ b → (v = -1 ∨ ∃ s : Nat, v = (s : Int) ∧ s < N ∧ m0 7 s = (b : Int) ∧ N - s < n ∧ g 0 = 1) → m0 19 b = nn → WSt m0 m ck g E d v → WLK m0 c D H S nd ck hh N φ h e v b d m g E nn := by
  have hdt := DT_of hS
  have hXQ := XQ_of hS
  have hYP : YP φ N S := hS.2.1.1
  have hYB : YB m0 N := hS.2.1.2.2.1
  have hYC : YC m0 N B := hS.2.1.2.2.2.1
  have hYD : YD m0 N B nd ck := hS.2.1.2.2.2.2.1
  have hB : B ≤ 60 := hS.1.2.2.2.2.2.2.2.2.2.2.2.2.2.2.2.2.1
  have k0 : ∀ x, x < S → c (D + 1) x = 6 → 0 ≤ c (D + 2) x := fun x hx k => ((hXQ x hx).2.2.2.2.1 k).2.2.2.2.1
  intro n
  induction n with
  | zero =>
    intro v b d m g E hb hd hv hnn hW
    rcases hv with rfl | ⟨s, -, -, -, u, -⟩
    · exact WLK_stop hW
    · omega
  | succ n ih =>
    intro v b d m g E hb hd hv hnn hW
    rcases hv with rfl | ⟨s, rfl, hsN, h7, hn, hg0⟩
    · exact WLK_stop hW
    obtain ⟨hs4, hxS, hS4⟩ := S_s401 hS hsN
    have hsb : s < h b := by have := hY.2.1 s hsN; rw [h7, Int.toNat_natCast] at this; exact this
    obtain ⟨y1, y2, y3, -⟩ := hY.1 b hb
    have hnx := S_next hS hsN
    rw [h7, Int.toNat_natCast] at hnx
    -- where the block goes on
    have nxt : ∀ g1 : Nat → Nat, (g1 0 = 0 ∨ g1 0 = 1) → ((if g1 0 = 1 then m0 6 s else -1) = (-1 : Int)) ∨ ∃ t : Nat, (if g1 0 = 1 then m0 6 s else -1) = (t : Int) ∧ t < N ∧ m0 7 t = (b : Int) ∧ N - t < n ∧ g1 0 = 1 ∧ s < t := by
      intro g1 z
      rcases z with z | z
      · left; rw [if_neg (by omega)]
      · rw [if_pos z]
        rcases hYB s hsN with ⟨u, -⟩ | ⟨u1, u2, u3⟩
        · exact Or.inl u
        · right
          exact ⟨(m0 6 s).toNat, by omega, by omega, by rw [u3, h7], by omega, z, by omega⟩
    by_cases h3 : m0 3 s = 3
    · -- a test
      obtain ⟨c6, ctq, c2, c40, c416, q1, e8, hq1, k15, k16, ce1, ps1, sec⟩ := SM_test hS hsN h3
      obtain ⟨t10, t11, t401, tM⟩ := S_terms hS hsN
      obtain ⟨z1, z2, z3, z4, z5, -⟩ := hY.1 q1 hq1
      obtain ⟨z41, z42, z43⟩ := z4 k15
      have z5 := z5 k15
      rw [k16, Int.toNat_natCast, h7, Int.toNat_natCast] at z41 z42 z5
      rw [k16, Int.toNat_natCast] at z43
      have hd6 : d < 6 := by omega
      have rt1 : rtb m0 q1 = rtb m0 b := by
        have := rt_par hS hY hq1 k15
        rw [k16, Int.toNat_natCast, h7, Int.toNat_natCast] at this
        exact this
      have fst : ∀ q : Nat, q < B → m0 15 q = 2 → m0 16 q = (s : Int) → ∀ g' : Nat → Nat, (g' 0 = 0 ∨ g' 0 = 1) → (if g' 0 = 1 then m0 17 q else -1) = (-1 : Int) ∨ ∃ t : Nat, (if g' 0 = 1 then m0 17 q else -1) = (t : Int) ∧ t < N ∧ m0 7 t = (q : Int) ∧ N - t < n ∧ g' 0 = 1 ∧ s < t := by
        clear sec
        intro q hq k15' k16' g' z
        rcases z with z | z
        · left; rw [if_neg (by omega)]
        · rw [if_pos z]
          rcases hYC q hq with ⟨u, -⟩ | ⟨u1, u2, u3, -⟩
          · exact Or.inl u
          · right
            have := hYD.2 (m0 17 q).toNat (by omega)
            rw [u3, Int.toNat_natCast] at this
            have := this k15'
            refine ⟨(m0 17 q).toNat, by omega, by omega, u3, by omega, z, by omega⟩
      have hW' := hW
      obtain ⟨⟨f1, f0⟩, wE, wg, wv, ⟨w67, w68⟩, w66, w48, w69, -⟩ := hW'
      have w72 : B16 m 72 := hW.2.2.2.2.2.2.2.2.1
      have w73 : B16 m 73 := hW.2.2.2.2.2.2.2.2.2
      have r : ∀ q, q ≠ 0 → q < 36 → m q = m0 q := fun q x y => f1 q x (Or.inl y)
      have hp : ∀ i, i ≠ 48 → sset m 0 48 (m 6 s) 0 i = m 0 i := fun i hi => sset_place _ _ _ hi
      have hr : ∀ q, q ≠ 0 → sset m 0 48 (m 6 s) q = m q := fun q hq => sset_row _ _ _ hq
      have gkt : ctp c D (φ s) g = tpF (tk c D) (tq c D) (tv c D) (tn c D (φ s)) (c (D + 7) (φ s)).toNat g := rfl
      have gkf : cfp c D (φ s) g = fpF (tk c D) (tq c D) (tv c D) (tn c D (φ s)) (c (D + 7) (φ s)).toNat g := rfl
      obtain ⟨m1, o1, o2, o3, o4, ⟨o5, o6, o7, o8⟩, o9, o10, o11, o12, o13⟩ := r_opensTest (σ := sset m 0 48 (m 6 s)) (d := d) (s := s) (t := (c (D + 7) (φ s)).toNat) (n := tn c D (φ s)) (g := g) (k := tk c D) (o := tq c D) (v := tv c D) (ch := (m0 4 s).toNat) (b := q1) hd6 (by rw [hp 66 (by decide)]; exact w66) (by omega) (by rw [hr 10 (by decide), r 10 (by decide) (by decide)]; exact t10) (by rw [hr 11 (by decide), r 11 (by decide) (by decide)]; exact t11) t401 (fun s' u w => by rw [hr 12 (by decide), hr 13 (by decide), hr 14 (by decide), r 12 (by decide) (by decide), r 13 (by decide) (by decide), r 14 (by decide) (by decide)]; exact tM s' u w) wv.1 hg0 (MRg_keep wg (fun i hi => by rw [hr 37 (by decide)])) (by rw [hr 4 (by decide), r 4 (by decide) (by decide)]; omega) (by omega) (by rw [hr 8 (by decide), r 8 (by decide) (by decide)]; exact e8) (by omega)
      rw [← gkt, ← gkf] at o9
      rw [← gkt] at o11
      rw [← gkf] at o12
      have vt : KV (ctp c D (φ s) g) := ctp_KV ctq wv.1
      have vf : KV (cfp c D (φ s) g) := cfp_KV ctq wv.1
      have t9 : ctp c D (φ s) g 9 = g 9 := ctp_hi ctq (by decide)
      have t10' : ctp c D (φ s) g 10 = g 10 := ctp_hi ctq (by decide)
      have fp9 : cfp c D (φ s) g 9 = g 9 := cfp_hi ctq (by decide)
      have fp10 : cfp c D (φ s) g 10 = g 10 := cfp_hi ctq (by decide)
      obtain ⟨gt, egt⟩ : ∃ gt, gt = ctp c D (φ s) g := ⟨_, rfl⟩
      obtain ⟨gf, egf⟩ : ∃ gf, gf = cfp c D (φ s) g := ⟨_, rfl⟩
      rw [← egt] at o9 o11 vt t9 t10'
      rw [← egf] at o9 o12 vf fp9 fp10
      have o48 : m1 0 48 = m0 17 q1 := by rw [o3, hr 17 (by decide), r 17 (by decide) (by decide)]
      -- behind the opening
      obtain ⟨ma, ea⟩ : ∃ ma : St, ma = sset m1 0 48 (if gt 0 = 1 then m0 17 q1 else -1) := ⟨_, rfl⟩
      have ra : ∀ q, q ≠ 0 → ma q = m1 q := fun q hq => by rw [ea, sset_row _ _ _ hq]
      have pa : ∀ i, i ≠ 48 → ma 0 i = m1 0 i := fun i hi => by rw [ea, sset_place _ _ _ hi]
      have goA : ∀ (Q : St → Prop) (fu : Nat) (a : Int), f_X10_goesThrough_L78 Q fu ma a nn → f_X10_goesThrough_L78 Q (fu + 1) m a nn := by
        intro Q fu a w
        refine L78_learn w48 (by omega) (r_lrn (k := 3) w48 (by omega) (by rw [r 3 (by decide) (by decide)]; exact h3) (by decide) (by decide) (fun u => absurd u (by decide)) (fun u => absurd u (by decide)) (fun u => absurd u (by decide)) (fun _ => o13 _ ?_) (fun u => absurd u (by decide)) (fun u => absurd u (by decide)) (fun u => absurd u (by decide)) (fun u => absurd u (by decide)))
        rcases KV_01 vt with z | z
        · refine r_l198b (by rw [o11.1, z]; rfl) ?_
          rw [if_neg (by omega)] at ea
          rw [← ea]; exact w
        · refine r_l198a (by rw [o11.1, z]; rfl) ?_
          rw [if_pos z] at ea
          rw [o48, ← ea]; exact w
      have wsA : WSt m0 ma ck gt E (d + 1) (if gt 0 = 1 then m0 17 q1 else -1) := by
        refine ⟨⟨fun q x y => ?_, fun i x1 x2 x3 x4 x5 x6 x7 x8 => ?_⟩, fun k hk => ⟨(wE k hk).1, (wE k hk).2.1, fun i hi => ?_⟩, MRg_keep o11 (fun i hi => by rw [ra 37 (by decide)]), ⟨vt, by rw [t9]; exact wv.2.1, by rw [t10']; exact wv.2.2⟩, ⟨?_, ?_⟩, ?_, ?_, ?_, ?_, ?_⟩
        · rw [ra q x, o1 q x (by omega) (by omega) (by omega) (by omega) (by omega) (by omega), hr q x]; exact f1 q x y
        · rw [pa i x1, o2 i x1 x2 x3, hp i x1]; exact f0 i x1 x2 x3 x4 x5 x6 x7 x8
        · rw [ra 36 (by decide), o1 36 (by decide) (by decide) (by decide) (by decide) (by decide) (by decide) (by decide), hr 36 (by decide)]; exact (wE k hk).2.2 i hi
        · rw [t9, pa 67 (by decide), o2 67 (by decide) (by decide) (by decide), hp 67 (by decide)]; exact w67
        · rw [t10', pa 68 (by decide), o2 68 (by decide) (by decide) (by decide), hp 68 (by decide)]; exact w68
        · rw [pa 66 (by decide)]; exact o4
        · rw [ea, sset_at, vu_eq]
        · rw [pa 69 (by decide), o2 69 (by decide) (by decide) (by decide), hp 69 (by decide)]; exact w69
        · rw [pa 72 (by decide), o2 72 (by decide) (by decide) (by decide), hp 72 (by decide)]; exact w72
        · rw [pa 73 (by decide), o2 73 (by decide) (by decide) (by decide), hp 73 (by decide)]; exact w73
      -- the first block
      obtain ⟨v1, ev1⟩ : ∃ v1 : Int, v1 = if gt 0 = 1 then m0 17 q1 else -1 := ⟨_, rfl⟩
      have hv1 := fst q1 hq1 k15 k16 gt (KV_01 vt)
      rw [← ev1] at hv1 wsA
      obtain ⟨mb, ga, Ea, R1, kA, a1, a2, a3, a4, a5, a6⟩ := ih v1 q1 (d + 1) ma gt E hq1 (by omega) (by rcases hv1 with u | ⟨t, u1, u2, u3, u4, u5, -⟩; exact Or.inl u; exact Or.inr ⟨t, u1, u2, u3, u4, u5⟩) (by rw [z5]; exact hnn) wsA
      have a1' := a1
      obtain ⟨⟨af1, af0⟩, aE, ag, av, ⟨a67, a68⟩, a66, a48, a69, -⟩ := a1'
      have a72 : B16 mb 72 := a1.2.2.2.2.2.2.2.2.1
      have a73 : B16 mb 73 := a1.2.2.2.2.2.2.2.2.2
      have le16 : 2 ^ ck ≤ 2 ^ 16 := Nat.pow_le_pow_right (by decide) hS.1.2.2.2.2.2.2.2.2.2.2.2.2.2.1
      have e16 : (2 : Nat) ^ 16 = 65536 := rfl
      have wv9 := wv.2.1
      have wv10 := wv.2.2
      have av9 := av.2.1
      have av10 := av.2.2
      -- what the stack holds at d
      have st38 : mb 38 d = (s : Int) := by rw [a2.1 38 (by decide) (by decide) d (by omega), ra 38 (by decide), o5, vu_eq]
      have st43 : mb 43 d = 0 := by rw [a2.1 43 (by decide) (by decide) d (by omega), ra 43 (by decide), o6, vu_eq]
      have st39 : mb 39 d = ((g 9 : Nat) : Int) := by rw [a2.1 39 (by decide) (by decide) d (by omega), ra 39 (by decide), o7, vu_eq, hp 67 (by decide)]; exact w67
      have st40 : mb 40 d = ((g 10 : Nat) : Int) := by rw [a2.1 40 (by decide) (by decide) d (by omega), ra 40 (by decide), o8, vu_eq, hp 68 (by decide)]; exact w68
      have stf : MRg mb 37 (9 + 18 * d) gf := MRg_keep (m := m1) o12 (fun i hi => by rw [a2.2 (9 + 18 * d + i) (by omega) (by omega), ra 37 (by decide)])
      have b9 : mb 9 s = m0 9 s := by rw [af1 9 (by decide) (Or.inl (by decide))]
      have r9 : -1 ≤ m0 9 s ∧ m0 9 s < 64 := by
        rcases sec with ⟨u, -⟩ | ⟨q2, u, u2, -⟩
        · omega
        · omega
      obtain ⟨mc, l1, l2, l3, ⟨l4, l5, l6⟩, l7, l8, l9, l10, l11⟩ := r_leave1 (σ := mb) (d := d) (s := s) (g1 := ga) (g2 := gf) hd6 (by omega) a66 st38 st43 (by rw [b9]; exact r9) vf ag stf
      have sfAB : SFd d m ma := by
        refine ⟨fun q x y j hj => ?_, fun i x y => by rw [ra 37 (by decide), o10 i x y, hr 37 (by decide)]⟩
        rw [ra q (by omega)]
        by_cases u38 : q = 38
        · rw [u38, o5, vu_ne _ _ (by omega), hr 38 (by decide)]
        · by_cases u43 : q = 43
          · rw [u43, o6, vu_ne _ _ (by omega), hr 43 (by decide)]
          · by_cases u39 : q = 39
            · rw [u39, o7, vu_ne _ _ (by omega), hr 39 (by decide)]
            · by_cases u40 : q = 40
              · rw [u40, o8, vu_ne _ _ (by omega), hr 40 (by decide)]
              · rw [o1 q (by omega) (by omega) u38 u39 u40 u43 (by omega), hr q (by omega)]
      have sfBC : SFd d mb mc := by
        refine ⟨fun q x y j hj => ?_, fun i x y => l3 i x (Or.inl (by omega))⟩
        by_cases u41 : q = 41
        · rw [u41, l4, vu_ne _ _ (by omega)]
        · by_cases u42 : q = 42
          · rw [u42, l5, vu_ne _ _ (by omega)]
          · by_cases u43 : q = 43
            · rw [u43, l6, vu_ne _ _ (by omega)]
            · rw [l1 q (by omega) (by omega) u41 u42 u43]
      have sfmc : SFd d m mc := SFd_trans (SFd_trans sfAB a2 (by omega)) sfBC (Nat.le_refl _)
      -- the second block: mc (with the false part) to md
      have second : ∃ (q2 : Nat) (v2 : Int) (md : St) (gb : Nat → Nat) (Eb R2 : Nat → Nat → Nat) (kB hi2 : Nat), q2 < B ∧ ceb c m0 D φ e q2 = c (D + 4) (φ s) ∧ (gf 0 ≠ 0 → psv c m0 D φ e v2 q2 = c (D + 6) (φ s)) ∧ rtb m0 q2 = rtb m0 b ∧ h q1 ≤ hi2 ∧ hi2 ≤ h b ∧ (m0 6 s ≠ -1 → (hi2 : Int) ≤ m0 6 s) ∧ WPc c m0 D H S nd ck hh N φ e (max (s + 1) (h q1)) (max (s + 1) hi2) q2 v2 gf gb Ea Eb R2 mc md ∧ SFd d mc md ∧ SVk ck gb ∧ MEr md Eb ∧ (FRw m0 md ∧ (md 0 69 = 0 ∨ md 0 69 = 1) ∧ B16 md 72 ∧ B16 md 73) ∧ MRg md 37 0 gb ∧ MRg md 37 (18 + 18 * d) ga ∧ md 0 66 = ((d + 1 : Nat) : Int) ∧ md 0 67 = ((gb 9 : Nat) : Int) ∧ md 0 68 = ((gb 10 : Nat) : Int) ∧ md 41 d = ((ga 9 : Nat) : Int) ∧ md 42 d = ((ga 10 : Nat) : Int) ∧ (kB ≤ 1 ∨ (kB : Int) + 3 * ((max (s + 1) (h q1) : Nat) : Int) ≤ 3 * (hi2 : Int) + 1) ∧ ∀ (Q : St → Prop) (fu : Nat) (a : Int), f_X10_leavesTest_J146 (fun σ1 => f_X10_goesThrough_L78 Q fu σ1 a nn) md (d : Int) (s : Int) → f_X10_goesThrough_L78 Q (fu + 1 + kB) mb a nn := by
        have c67 : mc 0 67 = ((gf 9 : Nat) : Int) := by rw [l7, st39, fp9]
        have c68 : mc 0 68 = ((gf 10 : Nat) : Int) := by rw [l8, st40, fp10]
        have c41 : mc 41 d = ((ga 9 : Nat) : Int) := by rw [l4, vu_eq]; exact a67
        have c42 : mc 42 d = ((ga 10 : Nat) : Int) := by rw [l5, vu_eq]; exact a68
        have svf : SVk ck gf := ⟨vf, by rw [fp9]; exact wv9, by rw [fp10]; exact wv10⟩
        have cfr : ∀ q, q ≠ 0 → q < 36 ∨ 44 < q → mc q = m0 q := fun q x y => by rw [l1 q x (by omega) (by omega) (by omega) (by omega)]; exact af1 q x y
        have cE : MEr mc Ea := fun k hk => ⟨(aE k hk).1, (aE k hk).2.1, fun i hi => by rw [l1 36 (by decide) (by decide) (by decide) (by decide) (by decide)]; exact (aE k hk).2.2 i hi⟩
        have none : (m0 9 s = -1 ∨ gf 0 = 0) → ∀ (Q : St → Prop) (fu : Nat) (a : Int), f_X10_leavesTest_J146 (fun σ1 => f_X10_goesThrough_L78 Q fu σ1 a nn) mc (d : Int) (s : Int) → f_X10_goesThrough_L78 Q (fu + 1 + 0) mb a nn := by
          intro u Q fu a w
          refine L78_leave a48 a66 hd6 (l11 _ (fun _ => w) (fun x1 x2 => ?_))
          rw [b9] at x1
          rcases u with u | u
          · exact absurd u x1
          · omega
        have stopAll : ∀ (q2 : Nat), q2 < B → ceb c m0 D φ e q2 = c (D + 4) (φ s) → (gf 0 ≠ 0 → c (D + 6) (φ s) = c (D + 4) (φ s)) → rtb m0 q2 = rtb m0 b → (m0 9 s = -1 ∨ gf 0 = 0) → ∃ (q2 : Nat) (v2 : Int) (md : St) (gb : Nat → Nat) (Eb R2 : Nat → Nat → Nat) (kB hi2 : Nat), q2 < B ∧ ceb c m0 D φ e q2 = c (D + 4) (φ s) ∧ (gf 0 ≠ 0 → psv c m0 D φ e v2 q2 = c (D + 6) (φ s)) ∧ rtb m0 q2 = rtb m0 b ∧ h q1 ≤ hi2 ∧ hi2 ≤ h b ∧ (m0 6 s ≠ -1 → (hi2 : Int) ≤ m0 6 s) ∧ WPc c m0 D H S nd ck hh N φ e (max (s + 1) (h q1)) (max (s + 1) hi2) q2 v2 gf gb Ea Eb R2 mc md ∧ SFd d mc md ∧ SVk ck gb ∧ MEr md Eb ∧ (FRw m0 md ∧ (md 0 69 = 0 ∨ md 0 69 = 1) ∧ B16 md 72 ∧ B16 md 73) ∧ MRg md 37 0 gb ∧ MRg md 37 (18 + 18 * d) ga ∧ md 0 66 = ((d + 1 : Nat) : Int) ∧ md 0 67 = ((gb 9 : Nat) : Int) ∧ md 0 68 = ((gb 10 : Nat) : Int) ∧ md 41 d = ((ga 9 : Nat) : Int) ∧ md 42 d = ((ga 10 : Nat) : Int) ∧ (kB ≤ 1 ∨ (kB : Int) + 3 * ((max (s + 1) (h q1) : Nat) : Int) ≤ 3 * (hi2 : Int) + 1) ∧ ∀ (Q : St → Prop) (fu : Nat) (a : Int), f_X10_leavesTest_J146 (fun σ1 => f_X10_goesThrough_L78 Q fu σ1 a nn) md (d : Int) (s : Int) → f_X10_goesThrough_L78 Q (fu + 1 + kB) mb a nn := by
          intro q2 x1 x2 x3 x4 x5
          refine ⟨q2, -1, mc, gf, Ea, fun _ _ => 0, 0, h q1, x1, x2, fun u => by unfold psv; rw [if_pos rfl, x2, x3 u], x4, Nat.le_refl _, z42, z43, WP_stop (MEr_KV aE), ⟨fun _ _ _ _ _ => rfl, fun _ _ _ => rfl⟩, svf, cE, ⟨⟨cfr, fun i y1 y2 y3 y4 y5 y6 y7 y8 => by rw [l2 i y4 y5]; exact af0 i y1 y2 y3 y4 y5 y6 y7 y8⟩, by rw [l2 69 (by decide) (by decide)]; exact a69, B16_eq (l2 72 (by decide) (by decide)) a72, B16_eq (l2 73 (by decide) (by decide)) a73⟩, l9, l10, by rw [l2 66 (by decide) (by decide)]; exact a66, c67, c68, c41, c42, Or.inl (Nat.zero_le _), none x5⟩
        rcases sec with ⟨s1, s2⟩ | ⟨q2, s1, s2, s3, s4, s5, s6⟩
        · exact stopAll q1 hq1 ce1 (fun _ => s2) rt1 (Or.inl s1)
        · by_cases dead : gf 0 = 0
          · exact stopAll q1 hq1 ce1 (fun u => absurd dead u) rt1 (Or.inr dead)
          · have gf1 : gf 0 = 1 := by
              rcases KV_01 vf with z | z
              · exact absurd z dead
              · exact z
            obtain ⟨y1', y2', y3', y4', y5', -⟩ := hY.1 q2 s2
            obtain ⟨y41, y42, y43⟩ := y4' s3
            have y5' := y5' s3
            rw [s4, Int.toNat_natCast, h7, Int.toNat_natCast] at y41 y42 y5'
            rw [s4, Int.toNat_natCast] at y43
            have rt2 : rtb m0 q2 = rtb m0 b := by
              have := rt_par hS hY s2 s3
              rw [s4, Int.toNat_natCast, h7, Int.toNat_natCast] at this
              exact this
            have hv2 := fst q2 s2 s3 s4 gf (Or.inr gf1)
            rw [if_pos gf1] at hv2
            obtain ⟨mc2, em⟩ : ∃ mc2 : St, mc2 = sset (sset mc 0 49 (m0 9 s)) 0 48 (m0 17 q2) := ⟨_, rfl⟩
            have rm : ∀ q, q ≠ 0 → mc2 q = mc q := fun q hq => by rw [em, sset_row _ _ _ hq, sset_row _ _ _ hq]
            have pm : ∀ i, i ≠ 48 → i ≠ 49 → mc2 0 i = mc 0 i := fun i x y => by rw [em, sset_place _ _ _ x, sset_place _ _ _ y]
            have wsM : WSt m0 mc2 ck gf Ea (d + 1) (m0 17 q2) := ⟨⟨fun q x y => by rw [rm q x]; exact cfr q x y, fun i y1 y2 y3 y4 y5 y6 y7 y8 => by rw [pm i y1 y2, l2 i y4 y5]; exact af0 i y1 y2 y3 y4 y5 y6 y7 y8⟩, fun k hk => ⟨(cE k hk).1, (cE k hk).2.1, fun i hi => by rw [rm 36 (by decide)]; exact (cE k hk).2.2 i hi⟩, MRg_keep l9 (fun i hi => by rw [rm 37 (by decide)]), svf, ⟨by rw [pm 67 (by decide) (by decide)]; exact c67, by rw [pm 68 (by decide) (by decide)]; exact c68⟩, by rw [pm 66 (by decide) (by decide), l2 66 (by decide) (by decide)]; exact a66, by rw [em, sset_at, vu_eq], by rw [pm 69 (by decide) (by decide), l2 69 (by decide) (by decide)]; exact a69, by rw [pm 72 (by decide) (by decide), l2 72 (by decide) (by decide)]; exact a72, by rw [pm 73 (by decide) (by decide), l2 73 (by decide) (by decide)]; exact a73⟩
            obtain ⟨md, gb, Eb, R2, kB, b1, b2, b3, b4, b5, b6⟩ := ih (m0 17 q2) q2 (d + 1) mc2 gf Ea s2 (by omega) (by rcases hv2 with u | ⟨t, u1, u2, u3, u4, u5, -⟩; exact Or.inl u; exact Or.inr ⟨t, u1, u2, u3, u4, u5⟩) (by rw [y5']; exact hnn) wsM
            -- statements of the second block stand behind the first
            have ord : m0 17 q2 ≠ -1 → (h q1 : Int) ≤ m0 17 q2 ∧ m0 17 q2 < (h q2 : Int) ∧ (s : Int) < m0 17 q2 := by
              intro u
              rcases hv2 with w | ⟨t, w1, w2, w3, -, -, w5⟩
              · exact absurd w u
              · have p1 := hY.2.2.1 t w2
                rw [w3, Int.toNat_natCast, s4, Int.toNat_natCast, s1, e8, Int.toNat_natCast] at p1
                have p2 := hY.2.1 t w2
                rw [w3, Int.toNat_natCast] at p2
                have := p1 s3 rfl
                omega
            have tq : TRo mc mc2 := ⟨by rw [rm 44 (by decide)], pm 72 (by decide) (by decide), pm 73 (by decide) (by decide), pm 69 (by decide) (by decide)⟩
            have wp2 := b3 (max (s + 1) (h q1)) (max (s + 1) (max (h q1) (h q2))) (fun u => by have := ord u; omega) (fun _ => by omega)
            have bb9 : B16 md 72 := b1.2.2.2.2.2.2.2.2.1
            have bb10 : B16 md 73 := b1.2.2.2.2.2.2.2.2.2
            obtain ⟨bb1, bb2, bb3, bb4, bb5, bb6, bb7, bb8, -⟩ := b1
            refine ⟨q2, m0 17 q2, md, gb, Eb, R2, kB + 1, max (h q1) (h q2), s2, s5, fun _ => s6, rt2, by omega, by omega, fun u => ?_, ⟨wp2.1, wp2.2.1, wp2.2.2.1, wp2.2.2.2.1, GRW_q tq.2.2.2 wp2.2.2.2.2.1, OUT_q tq wp2.2.2.2.2.2⟩, ⟨fun q x y j hj => by rw [b2.1 q x y j (by omega), rm q (by omega)], fun i x y => by rw [b2.2 i x (by omega), rm 37 (by decide)]⟩, bb4, bb2, ⟨bb1, bb8, bb9, bb10⟩, bb3, MRg_keep l10 (fun i hi => by rw [b2.2 (18 + 18 * d + i) (by omega) (by omega), rm 37 (by decide)]), bb6, bb5.1, bb5.2, by rw [b2.1 41 (by decide) (by decide) d (by omega), rm 41 (by decide)]; exact c41, by rw [b2.1 42 (by decide) (by decide) d (by omega), rm 42 (by decide)]; exact c42, ?_, fun Q fu a w => ?_⟩
            · have u1 := z43 u
              have u2 := y43 u
              omega
            · by_cases u : m0 17 q2 = -1
              · left
                have := b4 u
                omega
              · right
                have := b5 u
                have := ord u
                omega
            · have st2 : md 38 d = (s : Int) := by rw [b2.1 38 (by decide) (by decide) d (by omega), rm 38 (by decide), l1 38 (by decide) (by decide) (by decide) (by decide) (by decide)]; exact st38
              have st3 : md 43 d = 1 := by rw [b2.1 43 (by decide) (by decide) d (by omega), rm 43 (by decide), l6, vu_eq]
              have step2 : f_X10_goesThrough_L78 Q (fu + 1) md a nn := L78_leave bb7 bb6 hd6 (r_leave2 hd6 bb6 st2 st3 w)
              have step1 : f_X10_goesThrough_L78 Q (fu + 1 + kB) mc2 a nn := b6 Q (fu + 1) a step2
              refine L78_leave a48 a66 hd6 (l11 _ (fun x1 => ?_) (fun x1 x2 => ?_))
              · rw [b9] at x1
                omega
              · rw [b9, s1, Int.toNat_natCast, af1 17 (by decide) (Or.inl (by decide)), ← s1, ← em]
                exact step1
      obtain ⟨q2, v2, md, gb, Eb, R2, kB, hi2, g1', g2', g3', g4', g5', g6', g7', g8', g9', g10', g11', ⟨g12a, g12b, g12c, g12d⟩, g13', g14', g15', g16', g17', g18', g19', g20', g21'⟩ := second
      have gb9 := g10'.2.1
      have gb10 := g10'.2.2
      obtain ⟨me, j1, j2, j3, j4, j5, j6, j7, j8, j9⟩ := r_j146 (σ := md) (d := d) (s := s) (g1 := ga) (g2 := gb) hd6 (by omega) g15' av.1 g10'.1 ⟨by omega, by omega⟩ ⟨by omega, by omega⟩ g13' g14' g16' g17' g18' g19'
      have e6 : md 6 s = m0 6 s := by rw [g12a.1 6 (by decide) (Or.inl (by decide))]
      rw [e6] at j5
      have jv : SVk ck (jn gb ga) := jn_SVk g10' av
      obtain ⟨v3, ev3⟩ : ∃ v3 : Int, v3 = if jn gb ga 0 = 1 then m0 6 s else -1 := ⟨_, rfl⟩
      rw [← ev3] at j5
      have wsE : WSt m0 me ck (jn gb ga) Eb d v3 := ⟨⟨fun q x y => by rw [j1 q x (by omega)]; exact g12a.1 q x y, fun i y1 y2 y3 y4 y5 y6 y7 y8 => by rw [j2 i y1 y2 y3 y4 y5]; exact g12a.2 i y1 y2 y3 y4 y5 y6 y7 y8⟩, fun k hk => ⟨(g11' k hk).1, (g11' k hk).2.1, fun i hi => by rw [j1 36 (by decide) (by decide)]; exact (g11' k hk).2.2 i hi⟩, j6, jv, ⟨j7, j8⟩, j4, j5, by rw [j2 69 (by decide) (by decide) (by decide) (by decide) (by decide)]; exact g12b, by rw [j2 72 (by decide) (by decide) (by decide) (by decide) (by decide)]; exact g12c, by rw [j2 73 (by decide) (by decide) (by decide) (by decide) (by decide)]; exact g12d⟩
      have hv3 := nxt (jn gb ga) (KV_01 jv.1)
      rw [← ev3] at hv3
      obtain ⟨mf, gz, Ez, R3, kC, c1, c2', c3, c4, c5, c6'⟩ := ih v3 b d me (jn gb ga) Eb hb hd (by rcases hv3 with u | ⟨t, u1, u2, u3, u4, u5, -⟩; exact Or.inl u; exact Or.inr ⟨t, u1, u2, u3, u4, u5⟩) hnn wsE
      have sfde : SFd d md me := ⟨fun q x y j hj => by rw [j1 q (by omega) (by omega)], fun i x y => j3 i x⟩
      have v3ne : v3 ≠ -1 → v3 = m0 6 s ∧ m0 6 s ≠ -1 := by
        intro u
        rw [ev3] at u ⊢
        by_cases z : jn gb ga 0 = 1
        · rw [if_pos z] at u ⊢; exact ⟨rfl, u⟩
        · rw [if_neg z] at u; exact absurd rfl u
      have v3b : v3 ≠ -1 → (hi2 : Int) ≤ v3 ∧ v3 < (h b : Int) ∧ (s : Int) < v3 := by
        intro u
        obtain ⟨x1, x2⟩ := v3ne u
        have := g7' x2
        rcases hv3 with w | ⟨t, w1, w2, w3, -, -, w4⟩
        · exact absurd w u
        · have p2 := hY.2.1 t w2
          rw [w3, Int.toNat_natCast] at p2
          omega
      have v1b : v1 ≠ -1 → (s : Int) < v1 ∧ v1 < (h q1 : Int) := by
        intro u
        rcases hv1 with w | ⟨t, w1, w2, w3, -, -, w4⟩
        · exact absurd w u
        · have p2 := hY.2.1 t w2
          rw [w3, Int.toNat_natCast] at p2
          omega
      refine ⟨mf, gz, Ez, RUn (SGL (φ s) g) (RUn R1 (RUn R2 R3)), kC + 1 + kB + kA + 1, c1, SFd_trans (SFd_trans (SFd_trans sfmc g9' (Nat.le_refl _)) sfde (Nat.le_refl _)) c2' (Nat.le_refl _), fun lo hi hlo hhi => ?_, fun u => by omega, fun _ => ?_, fun Q fu a w => ?_⟩
      · have hlo := hlo (by omega)
        have hhi := hhi (by omega)
        have wp3 := c3 (if v3 = -1 then h b else v3.toNat) (h b) (fun u => by rw [if_neg u]; have := v3b u; omega) (fun _ => Nat.le_refl _)
        have wp1 := a3 (s + 1) (h q1) (fun u => by have := v1b u; omega) (fun _ => Nat.le_refl _)
        have sl : s + 1 ≤ h b := hsb
        have lo3 : hi2 ≤ (if v3 = -1 then h b else v3.toNat) ∧ s + 1 ≤ (if v3 = -1 then h b else v3.toNat) := by
          by_cases u : v3 = -1
          · rw [if_pos u]; exact ⟨g6', sl⟩
          · rw [if_neg u]; have := v3b u; omega
        have h44' : ma 44 = va_up (m 44) (c (D + 2) (φ s)).toNat (vdN c D (φ s) g) := by
          rw [ra 44 (by decide), o9, hr 44 (by decide), c2]
          unfold vdN
          rw [← egt, ← egf]
          congr 1
          rcases KV_01 vt with z | z <;> rcases KV_01 vf with z' | z' <;> rw [z, z'] <;> rfl
        have q72 : ma 0 72 = m 0 72 := by rw [pa 72 (by decide), o2 72 (by decide) (by decide) (by decide), hp 72 (by decide)]
        have q73 : ma 0 73 = m 0 73 := by rw [pa 73 (by decide), o2 73 (by decide) (by decide) (by decide), hp 73 (by decide)]
        have q69 : ma 0 69 = m 0 69 := by rw [pa 69 (by decide), o2 69 (by decide) (by decide) (by decide), hp 69 (by decide)]
        have t1' : TRo mb mc := ⟨l1 44 (by decide) (by decide) (by decide) (by decide) (by decide), l2 72 (by decide) (by decide), l2 73 (by decide) (by decide), l2 69 (by decide) (by decide)⟩
        have t2' : TRo md me := ⟨j1 44 (by decide) (by decide), j2 72 (by decide) (by decide) (by decide) (by decide) (by decide), j2 73 (by decide) (by decide) (by decide) (by decide) (by decide), j2 69 (by decide) (by decide) (by decide) (by decide) (by decide)⟩
        exact WP_up (WP_test (m := m) (lo := if v3 = -1 then h b else v3.toNat) (hi := h b) (lo1 := s + 1) (hi1 := max (s + 1) (h q1)) (lo2 := max (s + 1) (h q1)) (hi2 := max (s + 1) hi2) (m1 := ma) (ma := mb) (mb := mc) (mc := md) (md := me) hYP hS4 hdt k0 hsN h7 hsb hg0 wv c6 ctq hnx egt egf ce1 g2' (fun u => by rw [ev1, if_pos (by rcases KV_01 vt with z | z; exact absurd z u; exact z)]; exact ps1) g3' rt1 g4' (MEr_KV wE) (MEr_KV aE) (MEr_KV g11') (MEr_KV c1.2.1) av.1 g10'.1 h44' q72 q73 q69 t1' t2' ev3 (Nat.lt_succ_self _) (Nat.le_refl _) (by omega) (by omega) (by omega) (by omega) lo3.2 (by omega) (WP_up wp1 (Nat.le_refl _) (by omega)) g8' wp3) (by omega) hhi
      · exact k_arith hsb g5' g6' c4 c5 a4 a5 v1b v3b g20'
      · have s3 : f_X10_goesThrough_L78 Q (fu + kC) me a nn := c6' Q fu a w
        have s2 := g21' Q (fu + kC) a (j9 _ s3)
        have s1 := a6 Q _ a s2
        have s0 := goA Q _ a s1
        rw [show fu + (kC + 1 + kB + kA + 1) = fu + kC + 1 + kB + kA + 1 by omega]
        exact s0
    · -- no test
      obtain ⟨⟨m1, g1, E1, w1, w2, w3, w4, w5, w6, w7, w8⟩, n6⟩ := L_any hS hH hsN h3 hW hg0
      have e6 : m 6 s = m0 6 s := by rw [hW.1.1 6 (by decide) (Or.inl (by decide))]
      rw [e6] at w1
      have hg1 := KV_01 w1.2.2.2.1.1
      have hv1 := nxt g1 hg1
      obtain ⟨v1, ev1⟩ : ∃ v1 : Int, v1 = if g1 0 = 1 then m0 6 s else -1 := ⟨_, rfl⟩
      rw [← ev1] at hv1 w1
      rw [h7, Int.toNat_natCast, hnn] at w8
      obtain ⟨m2, g2, E2, R, k, i1, i2, i3, i4, i5, i6⟩ := ih v1 b d m1 g1 E1 hb hd (by rcases hv1 with u | ⟨t, u1, u2, u3, u4, u5, -⟩; exact Or.inl u; exact Or.inr ⟨t, u1, u2, u3, u4, u5⟩) hnn w1
      have v1b : v1 ≠ -1 → (s : Int) < v1 ∧ v1 < (h b : Int) := by
        intro u
        rcases hv1 with w | ⟨t, x1, x2, x3, -, -, x4⟩
        · exact absurd w u
        · have p2 := hY.2.1 t x2
          rw [x3, Int.toNat_natCast] at p2
          omega
      refine ⟨m2, g2, E2, RUn (SGL (φ s) g) R, k + 1, i1, SFd_trans (SFd_n (by omega) w2) i2 (Nat.le_refl _), fun lo hi hlo hhi => ?_, fun u => by omega, fun _ => ?_, fun Q fu a w => ?_⟩
      · have hlo := hlo (by omega)
        have hhi := hhi (by omega)
        have wp := i3 (s + 1) (h b) (fun u => by have := v1b u; omega) (fun _ => Nat.le_refl _)
        exact WP_up (WP_step hYP hS4 hdt k0 hsN h7 hsb hg0 hW.2.2.2.1 n6 hnx (MEr_KV hW.2.1) (MEr_KV w1.2.1) (MEr_KV i1.2.1) w3 w4 w5 w6 w7 ev1 hg1 (Nat.lt_succ_self _) wp) (by omega) hhi
      · by_cases u : v1 = -1
        · have := i4 u
          omega
        · have := i5 u
          have := v1b u
          omega
      · have s1 := i6 Q fu a w
        exact L78_learn hW.2.2.2.2.2.2.1 (by omega) (w8 _ s1)
end MWALK
