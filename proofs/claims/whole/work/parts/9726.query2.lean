/-! ===== pure layer: calls that only look: the play ===== -/
theorem mt_rd : ∀ x y z : Fin 10, iand32 (ishr32 ((mt x.val y.val z.val : Nat) : Int) (4 * 0)) 15 = (x.val : Int) ∧ iand32 (ishr32 ((mt x.val y.val z.val : Nat) : Int) (4 * 1)) 15 = (y.val : Int) ∧ iand32 (ishr32 ((mt x.val y.val z.val : Nat) : Int) (4 * 2)) 15 = (z.val : Int) := by decide +kernel
section QPL
variable {c m : St} {KB a : Int}
theorem Q_status (hJ : Jx KB c m) (hK : KB < 1000000) : JRn (Jx KB) (f_X9_status c) (f_X10_status m) := by
  obtain ⟨O, ck, -, -, -, ⟨p1, p2, p3⟩, -⟩ := J_play hJ hK
  refine qn_ret (r := m 26 0) hJ ⟨by omega, by omega⟩ (fun Q hQ => ?_) (fun Q hQ => ?_)
  · unfold f_X10_status
    rintro σ1 rfl
    rw [sset_row _ _ _ (by decide)]; exact hQ
  · unfold f_X9_status
    rw [p1]; exact hQ
theorem Q_ending (hJ : Jx KB c m) (hK : KB < 1000000) : JRn (Jx KB) (f_X9_ending c) (f_X10_ending m) := by
  obtain ⟨O, ck, -, -, -, ⟨p1, p2, p3⟩, -, -, -, -, p4, -⟩ := J_play hJ hK
  have i0 : inR (m 26 0) := ⟨by omega, by omega⟩
  by_cases z : m 26 0 = 2
  · obtain ⟨q1, q2⟩ := p4 z
    refine qn_ret (r := m 26 1) hJ q2 (fun Q hQ => ?_) (fun Q hQ => ?_)
    · unfold f_X10_ending
      rintro σ1 rfl
      rw [sset_row _ _ _ (by decide)]
      exact ⟨i0, fun u => absurd z u, fun _ => hQ⟩
    · unfold f_X9_ending
      rw [p1, q1]
      exact ⟨i0, fun u => absurd z u, fun _ => hQ⟩
  · refine qn_ret (r := -1) hJ ⟨by decide, by decide⟩ (fun Q hQ => ?_) (fun Q hQ => ?_)
    · unfold f_X10_ending
      rintro σ1 rfl
      rw [sset_row _ _ _ (by decide)]
      exact ⟨i0, fun _ => hQ, fun u => absurd u z⟩
    · unfold f_X9_ending
      rw [p1]
      exact ⟨i0, fun _ => hQ, fun u => absurd u z⟩
theorem Q_node (hJ : Jx KB c m) (hK : KB < 1000000) : JRn (Jx KB) (f_X9_node c) (f_X10_node m) := by
  obtain ⟨O, ck, -, -, -, ⟨p1, p2, p3⟩, -, -, p4, p5, -⟩ := J_play hJ hK
  have i0 : inR (m 26 0) := ⟨by omega, by omega⟩
  by_cases z : m 26 0 = 0
  · refine qn_ret (r := -1) hJ ⟨by decide, by decide⟩ (fun Q hQ => ?_) (fun Q hQ => ?_)
    · unfold f_X10_node
      rintro σ1 rfl
      rw [sset_row _ _ _ (by decide)]
      exact ⟨i0, fun u => absurd z u, fun _ => hQ⟩
    · unfold f_X9_node
      rw [(p4 z).1]; exact hQ
  · obtain ⟨q1, q2, q3, q4⟩ := p5 z
    refine qn_ret (r := m 26 2) hJ q3 (fun Q hQ => ?_) (fun Q hQ => ?_)
    · unfold f_X10_node
      rintro σ1 rfl
      rw [sset_row _ _ _ (by decide)]
      exact ⟨i0, fun _ => hQ, fun u => absurd u z⟩
    · unfold f_X9_node
      rw [q1]; exact hQ
theorem Q_hub (hJ : Jx KB c m) (hK : KB < 1000000) : JRn (Jx KB) (f_X9_hub c) (f_X10_hub m) := by
  obtain ⟨O, ck, -, -, -, ⟨p1, p2, p3⟩, -, -, p4, p5, -⟩ := J_play hJ hK
  have i0 : inR (m 26 0) := ⟨by omega, by omega⟩
  by_cases z : m 26 0 = 0
  · refine qn_ret (r := -1) hJ ⟨by decide, by decide⟩ (fun Q hQ => ?_) (fun Q hQ => ?_)
    · unfold f_X10_hub
      rintro σ1 rfl
      rw [sset_row _ _ _ (by decide)]
      exact ⟨i0, fun u => absurd z u, fun _ => hQ⟩
    · unfold f_X9_hub
      rw [(p4 z).2]; exact hQ
  · obtain ⟨q1, q2, q3, q4⟩ := p5 z
    refine qn_ret (r := m 26 3) hJ q4 (fun Q hQ => ?_) (fun Q hQ => ?_)
    · unfold f_X10_hub
      rintro σ1 rfl
      rw [sset_row _ _ _ (by decide)]
      exact ⟨i0, fun _ => hQ, fun u => absurd u z⟩
    · unfold f_X9_hub
      rw [q2]; exact hQ
theorem Q_offered (hJ : Jx KB c m) (hK : KB < 1000000) : JRn (Jx KB) (f_X9_offered c) (f_X10_offered m) := by
  obtain ⟨O, ck, ⟨o1, o2, -⟩, o3, o4, -⟩ := J_play hJ hK
  have le : 2 ^ ck ≤ 2 ^ 16 := Nat.pow_le_pow_right (by decide) o2
  have e16 : (2 : Nat) ^ 16 = 65536 := rfl
  have pl := pcr_le (O := O) 16 0
  refine qn_ret (r := ((pcr O 16 0 : Nat) : Int)) hJ ⟨by omega, by omega⟩ (fun Q hQ => ?_) (fun Q hQ => ?_)
  · unfold f_X10_offered
    rintro σ1 rfl
    have e9 : sset m 0 5 0 26 9 = (O : Int) := by rw [sset_row _ _ _ (by decide)]; exact o4
    rw [e9]
    exact r_bits (by omega) hQ
  · unfold f_X9_offered
    rw [o3]
    exact t_bitCount (by omega) hQ
theorem Q_said (hJ : Jx KB c m) (hK : KB < 1000000) : JRn (Jx KB) (f_X9_said c) (f_X10_said m) := by
  obtain ⟨O, ck, -, -, -, -, -, ⟨p1, p2, p3⟩, -⟩ := J_play hJ hK
  refine qn_ret (r := m 26 10) hJ ⟨by omega, by omega⟩ (fun Q hQ => ?_) (fun Q hQ => ?_)
  · unfold f_X10_said
    rintro σ1 rfl
    rw [sset_row _ _ _ (by decide)]; exact hQ
  · unfold f_X9_said
    rw [p1]; exact hQ
/-- a position among the offered choices -/
theorem t_needPos {O : Nat} (hO : O < 65536) (h8 : c 44 8 = (O : Int)) (ha : inR a) (Q : St → Prop) (E : String → St → Prop) : (0 ≤ a → a < ((pcr O 16 0 : Nat) : Int) → Q c → f_X9_needPosition a c Q E) ∧ ((a < 0 ∨ ((pcr O 16 0 : Nat) : Int) ≤ a) → E IOE c → f_X9_needPosition a c Q E) := by
  have pl := pcr_le (O := O) 16 0
  unfold f_X9_needPosition f_X9_needPosition_J18
  rw [h8]
  exact ⟨fun u1 u2 q => ⟨ha, fun w => by omega, fun _ => t_bitCount hO ⟨ha, ⟨by omega, by omega⟩, fun _ => q, fun w => by omega⟩⟩, fun u q => ⟨ha, fun _ => q, fun w => t_bitCount hO ⟨ha, ⟨by omega, by omega⟩, fun w' => by omega, fun _ => q⟩⟩⟩
theorem Q_choice (hJ : Jx KB c m) (hK : KB < 1000000) (ha : inR a) : JRi (Jx KB) (f_X9_choice a c) (f_X10_choice a m) (fun e v => e = IOE ∧ v = 1) := by
  obtain ⟨O, ck, ⟨o1, o2, o32⟩, o3, o4, -⟩ := J_play hJ hK
  have le : 2 ^ ck ≤ 2 ^ 16 := Nat.pow_le_pow_right (by decide) o2
  have e16 : (2 : Nat) ^ 16 = 65536 := rfl
  have hO : O < 65536 := by omega
  have e9 : sset m 0 5 0 26 9 = (O : Int) := by rw [sset_row _ _ _ (by decide)]; exact o4
  have e32 : sset m 0 5 0 0 32 = (ck : Int) := by rw [sset_place _ _ _ (by decide)]; exact o32
  by_cases ok : 0 ≤ a ∧ a < ((pcr O 16 0 : Nat) : Int)
  · obtain ⟨p, ep⟩ : ∃ p : Nat, a = (p : Int) := ⟨a.toNat, by omega⟩
    subst ep
    have hp : p < 2147483648 := by have := ha.2; omega
    have hne : nthb O 16 0 p ≠ -1 := by
      intro u
      have := (nthb_iff 16 0 p).1 u
      omega
    have e16' := nthb_16 (pos := p) o1 o2
    refine q_ret (r := nthb O 16 0 p) hJ (fun Q hQ => ?_) (fun Q E hQ => ?_)
    · unfold f_X10_choice
      rintro σ1 rfl
      refine ⟨ha, fun _ => r_offeredAt e9 hO e32 o2 hp ?_, fun u => by omega⟩
      rw [← e16']
      unfold f_X10_choice_J18
      refine ⟨?_, fun _ => hQ, fun u => absurd u hne⟩
      rcases nthb_r (O := O) 16 0 p with u | ⟨i, u1, u2, u3, -⟩
      · exact absurd u hne
      · rw [u1]; exact ⟨by omega, by omega⟩
    · unfold f_X9_choice
      exact (t_needPos hO o3 ha _ E).1 ok.1 ok.2 (t_choiceAt (Or.inl rfl) o3 hO hp hQ)
  · refine q_thr (r := 0) (v := 1) (e := IOE) hJ (Or.inl rfl) ⟨rfl, rfl⟩ (fun Q hQ => ?_) (fun Q E hE => ?_)
    · unfold f_X10_choice
      rintro σ1 rfl
      refine ⟨ha, fun u => ?_, fun u => ?_⟩
      · obtain ⟨p, ep⟩ : ∃ p : Nat, a = (p : Int) := ⟨a.toNat, by omega⟩
        subst ep
        have hp : p < 2147483648 := by have := ha.2; omega
        refine r_offeredAt e9 hO e32 o2 hp ?_
        rw [← nthb_16 (pos := p) o1 o2, (nthb_iff 16 0 p).2 (by omega)]
        unfold f_X10_choice_J18
        exact ⟨⟨by decide, by decide⟩, fun w => absurd rfl w, fun _ => fail_c hQ⟩
      · unfold f_X10_choice_J18
        exact ⟨⟨by decide, by decide⟩, fun w => absurd rfl w, fun _ => fail_c hQ⟩
    · unfold f_X9_choice
      exact (t_needPos hO o3 ha _ E).2 (by omega) hE
theorem Q_flag (hJ : Jx KB c m) (hK : KB < 1000000) (ha : inR a) : JRi (Jx KB) (f_X9_flag a c) (f_X10_flag a m) (fun e v => e = IAE ∧ v = 1) := by
  obtain ⟨O, ck, -, -, -, -, ⟨p1, p2, p3⟩, -⟩ := J_play hJ hK
  by_cases ok : 0 ≤ a ∧ a ≤ 5
  · refine q_ret (r := iand32 (ishr32 (m 26 4) a) 1) hJ (fun Q hQ => ?_) (fun Q E hQ => ?_)
    · unfold f_X10_flag
      rintro σ1 rfl
      refine s_in ha ⟨by decide, by decide⟩ ⟨by decide, by decide⟩ (fun _ _ => ⟨⟨by decide, by decide⟩, fun u => absurd u (by decide), fun _ => ?_⟩) (fun u => by omega)
      rw [sset_row _ _ _ (by decide)]; exact hQ
    · rw [← p1] at hQ
      unfold f_X9_flag f_X9_needFlag
      exact ⟨ha, fun u => by omega, fun _ => ⟨ha, fun _ => hQ, fun u => by omega⟩⟩
  · refine q_thr (r := 0) (v := 1) (e := IAE) hJ (Or.inl rfl) ⟨rfl, rfl⟩ (fun Q hQ => ?_) (fun Q E hE => ?_)
    · unfold f_X10_flag
      rintro σ1 rfl
      exact s_in ha ⟨by decide, by decide⟩ ⟨by decide, by decide⟩ (fun u w => by omega) (fun _ => ⟨⟨by decide, by decide⟩, fun _ => fail_c hQ, fun u => absurd rfl u⟩)
    · unfold f_X9_flag f_X9_needFlag f_X9_needFlag_J10
      exact ⟨ha, fun _ => hE, fun _ => ⟨ha, fun u => by omega, fun _ => hE⟩⟩
theorem Q_meter (hJ : Jx KB c m) (hK : KB < 1000000) (ha : inR a) : JRi (Jx KB) (f_X9_meter a c) (f_X10_meter a m) (fun e v => e = IAE ∧ v = 1) := by
  obtain ⟨O, ck, -, -, -, -, -, -, -, -, -, ⟨x, y, z, x1, y1, z1, x2, y2, z2, w⟩, -⟩ := J_play hJ hK
  by_cases ok : 0 ≤ a ∧ a ≤ 2
  · have rd := mt_rd ⟨x, x1⟩ ⟨y, y1⟩ ⟨z, z1⟩
    have key : iand32 (ishr32 (c 44 6) (4 * a)) 15 = m 26 (5 + a).toNat := by
      rw [w]
      have : a = 0 ∨ a = 1 ∨ a = 2 := by omega
      rcases this with rfl | rfl | rfl
      · exact rd.1.trans x2.symm
      · exact rd.2.1.trans y2.symm
      · exact rd.2.2.trans z2.symm
    refine q_ret (r := m 26 (5 + a).toNat) hJ (fun Q hQ => ?_) (fun Q E hQ => ?_)
    · unfold f_X10_meter
      rintro σ1 rfl
      refine s_in ha ⟨by decide, by decide⟩ ⟨by decide, by decide⟩ (fun _ _ => ⟨⟨by decide, by decide⟩, fun u => absurd u (by decide), fun _ => ⟨by omega, by omega, ?_⟩⟩) (fun u => by omega)
      rw [sset_row _ _ _ (by decide)]; exact hQ
    · rw [← key] at hQ
      unfold f_X9_meter f_X9_needMeter f_X9_meterIn
      exact ⟨ha, fun u => by omega, fun _ => ⟨ha, fun _ => hQ, fun u => by omega⟩⟩
  · refine q_thr (r := 0) (v := 1) (e := IAE) hJ (Or.inl rfl) ⟨rfl, rfl⟩ (fun Q hQ => ?_) (fun Q E hE => ?_)
    · unfold f_X10_meter
      rintro σ1 rfl
      exact s_in ha ⟨by decide, by decide⟩ ⟨by decide, by decide⟩ (fun u w => by omega) (fun _ => ⟨⟨by decide, by decide⟩, fun _ => fail_c hQ, fun u => absurd rfl u⟩)
    · unfold f_X9_meter f_X9_needMeter f_X9_needMeter_J9
      exact ⟨ha, fun _ => hE, fun _ => ⟨ha, fun u => by omega, fun _ => hE⟩⟩
theorem Q_line (hJ : Jx KB c m) (hK : KB < 1000000) (ha : inR a) : JRi (Jx KB) (f_X9_line a c) (f_X10_line a m) (fun e v => e = IAE ∧ v = 1) := by
  obtain ⟨O, ck, -, -, -, -, -, ⟨p1, p2, p3⟩, -, -, -, -, hl⟩ := J_play hJ hK
  have i10 : inR (m 26 10) := ⟨by omega, by omega⟩
  have iN : isN 45 := Or.inl rfl
  by_cases ok : 0 ≤ a ∧ a ≤ 19
  · by_cases far : m 26 10 ≤ a
    · refine q_ret (r := -1) hJ (fun Q hQ => ?_) (fun Q E hQ => ?_)
      · unfold f_X10_line
        rintro σ1 rfl
        refine s_in ha ⟨by decide, by decide⟩ ⟨by decide, by decide⟩ (fun _ _ => ⟨⟨by decide, by decide⟩, fun _ => ?_, fun u => absurd u (by decide)⟩) (fun u => by omega)
        rw [sset_row _ _ _ (by decide)]
        exact ⟨ha, i10, fun _ => hQ, fun u => absurd far u⟩
      · unfold f_X9_line f_X4_before
        rw [p1]
        exact ⟨ha, fun u => by omega, fun _ => ⟨ha, fun _ => ⟨iN, ha, i10, fun _ => hQ, fun u => absurd far u⟩, fun u => by omega⟩⟩
    · obtain ⟨p, ep⟩ : ∃ p : Nat, a = (p : Int) := ⟨a.toNat, by omega⟩
      subst ep
      have h := hl p (by omega) (by omega)
      have e11 : ((11 : Int) + (p : Int)).toNat = 11 + p := by omega
      have ek : m 26 10 - 1 - (p : Int) = (((m 26 10 - 1 - (p : Int)).toNat : Nat) : Int) := by omega
      refine q_ret (r := m 26 (11 + p)) hJ (fun Q hQ => ?_) (fun Q E hQ => ?_)
      · unfold f_X10_line
        rintro σ1 rfl
        refine s_in ha ⟨by decide, by decide⟩ ⟨by decide, by decide⟩ (fun _ _ => ⟨⟨by decide, by decide⟩, fun _ => ?_, fun u => absurd u (by decide)⟩) (fun u => by omega)
        rw [sset_row _ _ _ (by decide), e11]
        exact ⟨ha, i10, fun u => absurd u far, fun _ => ⟨by omega, by omega, hQ⟩⟩
      · unfold f_X9_line f_X4_before
        rw [p1]
        refine ⟨ha, fun u => by omega, fun _ => ⟨ha, fun _ => ⟨iN, ha, i10, fun u => absurd u far, fun _ => ?_⟩, fun u => by omega⟩⟩
        rw [ek]
        refine t_floorMod (by omega) ⟨by omega, by have := Nat.mod_lt (m 26 10 - 1 - (p : Int)).toNat (by decide : 0 < 20); omega, ?_⟩
        rw [Int.toNat_natCast]
        show Q c (c 46 ((m 26 10 - 1 - (p : Int)).toNat % 20))
        rw [h]
        exact hQ
  · refine q_thr (r := 0) (v := 1) (e := IAE) hJ (Or.inl rfl) ⟨rfl, rfl⟩ (fun Q hQ => ?_) (fun Q E hE => ?_)
    · unfold f_X10_line
      rintro σ1 rfl
      exact s_in ha ⟨by decide, by decide⟩ ⟨by decide, by decide⟩ (fun u w => by omega) (fun _ => ⟨⟨by decide, by decide⟩, fun u => absurd rfl u, fun _ => fail_c hQ⟩)
    · unfold f_X9_line f_X9_line_J10
      exact ⟨ha, fun _ => hE, fun _ => ⟨ha, fun u => by omega, fun _ => hE⟩⟩
end QPL
