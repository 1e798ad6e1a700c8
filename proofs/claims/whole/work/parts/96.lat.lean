/-! ===== pure layer: what is known, as numbers; its order; what terms do to it ===== -/
/-- a set is a part of another -/
def sub2 (a b : Nat) : Prop := ∀ i, a.testBit i = true → b.testBit i = true
theorem sub2_refl (a : Nat) : sub2 a a := fun _ h => h
theorem sub2_trans {a b d : Nat} (h : sub2 a b) (h' : sub2 b d) : sub2 a d := fun i g => h' i (h i g)
theorem sub2_or_l (a b : Nat) : sub2 a (a ||| b) := fun i h => by rw [Nat.testBit_or, h, Bool.true_or]
theorem sub2_or_r (a b : Nat) : sub2 b (a ||| b) := fun i h => by rw [Nat.testBit_or, h, Bool.or_true]
theorem sub2_or {a b d : Nat} (h : sub2 a d) (h' : sub2 b d) : sub2 (a ||| b) d := fun i g => by
  rw [Nat.testBit_or] at g
  cases q : a.testBit i
  · rw [q, Bool.false_or] at g; exact h' i g
  · exact h i q
theorem sub2_and_l (a b : Nat) : sub2 (a &&& b) a := fun i h => by
  rw [Nat.testBit_and] at h
  cases q : a.testBit i
  · rw [q, Bool.false_and] at h; exact h
  · rfl
theorem sub2_and_r (a b : Nat) : sub2 (a &&& b) b := fun i h => by
  rw [Nat.testBit_and] at h
  cases q : b.testBit i
  · rw [q, Bool.and_false] at h; exact h
  · rfl
theorem sub2_and {a b d : Nat} (h : sub2 d a) (h' : sub2 d b) : sub2 d (a &&& b) := fun i g => by rw [Nat.testBit_and, h i g, h' i g]; rfl
theorem sub2_antisymm {a b : Nat} (h : sub2 a b) (h' : sub2 b a) : a = b := by
  apply Nat.eq_of_testBit_eq
  intro i
  cases q : a.testBit i
  · cases q2 : b.testBit i
    · rfl
    · have := h' i q2; rw [q] at this; exact this
  · rw [h i q]
/-- knowledge: there, lows, highs, values, hubs; then offered, certain -/
def KL (g g' : Nat → Nat) : Prop := g' 0 = 1 ∧ (∀ i, i < 3 → g' (1 + i) ≤ g (1 + i)) ∧ (∀ i, i < 3 → g (4 + i) ≤ g' (4 + i)) ∧ sub2 (g 7) (g' 7) ∧ sub2 (g 8) (g' 8)
def KLE (g g' : Nat → Nat) : Prop := g 0 = 0 ∨ KL g g'
def SLE (g g' : Nat → Nat) : Prop := g 0 = 0 ∨ (KL g g' ∧ sub2 (g 9) (g' 9) ∧ sub2 (g' 10) (g 10))
theorem KL_refl {g : Nat → Nat} (h : g 0 = 1) : KL g g := ⟨h, fun _ _ => Nat.le_refl _, fun _ _ => Nat.le_refl _, sub2_refl _, sub2_refl _⟩
theorem KL_trans {a b d : Nat → Nat} (h : KL a b) (h' : KL b d) : KL a d := ⟨h'.1, fun i hi => Nat.le_trans (h'.2.1 i hi) (h.2.1 i hi), fun i hi => Nat.le_trans (h.2.2.1 i hi) (h'.2.2.1 i hi), sub2_trans h.2.2.2.1 h'.2.2.2.1, sub2_trans h.2.2.2.2 h'.2.2.2.2⟩
theorem KLE_trans {a b d : Nat → Nat} (h : KLE a b) (h' : KLE b d) : KLE a d := by
  rcases h with h | h
  · exact Or.inl h
  · rcases h' with h' | h'
    · have := h.1; omega
    · exact Or.inr (KL_trans h h')
theorem SLE_trans {a b d : Nat → Nat} (h : SLE a b) (h' : SLE b d) : SLE a d := by
  rcases h with h | ⟨h, h2, h3⟩
  · exact Or.inl h
  · rcases h' with h' | ⟨h', h2', h3'⟩
    · have := h.1; omega
    · exact Or.inr ⟨KL_trans h h', sub2_trans h2 h2', sub2_trans h3' h3⟩
theorem SLE_refl {g : Nat → Nat} (h : g 0 = 0 ∨ g 0 = 1) : SLE g g := by
  rcases h with h | h
  · exact Or.inl h
  · exact Or.inr ⟨KL_refl h, sub2_refl _, sub2_refl _⟩
theorem KLE_refl {g : Nat → Nat} (h : g 0 = 0 ∨ g 0 = 1) : KLE g g := by
  rcases h with h | h
  · exact Or.inl h
  · exact Or.inr (KL_refl h)
theorem SLE_K {a b : Nat → Nat} (h : SLE a b) : KLE a b := by
  rcases h with h | ⟨h, -⟩
  · exact Or.inl h
  · exact Or.inr h
/-- the union -/
def jn (a b : Nat → Nat) : Nat → Nat := if a 0 = 0 then b else if b 0 = 0 then a else fun i => if i = 0 then 1 else if i ≤ 3 then min (a i) (b i) else if i ≤ 6 then max (a i) (b i) else if i ≤ 9 then a i ||| b i else a i &&& b i
theorem jn_0 {a b : Nat → Nat} (h : a 0 = 0) : jn a b = b := by unfold jn; rw [if_pos h]
theorem jn_1 {a b : Nat → Nat} (h : a 0 ≠ 0) (h' : b 0 = 0) : jn a b = a := by unfold jn; rw [if_neg h, if_pos h']
theorem jn_2 {a b : Nat → Nat} (h : a 0 ≠ 0) (h' : b 0 ≠ 0) (i : Nat) : jn a b i = if i = 0 then 1 else if i ≤ 3 then min (a i) (b i) else if i ≤ 6 then max (a i) (b i) else if i ≤ 9 then a i ||| b i else a i &&& b i := by unfold jn; rw [if_neg h, if_neg h']
theorem jn_low {a b : Nat → Nat} (h : a 0 ≠ 0) (h' : b 0 ≠ 0) {i : Nat} (hi : i < 3) : jn a b (1 + i) = min (a (1 + i)) (b (1 + i)) := by rw [jn_2 h h', if_neg (by omega), if_pos (by omega)]
theorem jn_high {a b : Nat → Nat} (h : a 0 ≠ 0) (h' : b 0 ≠ 0) {i : Nat} (hi : i < 3) : jn a b (4 + i) = max (a (4 + i)) (b (4 + i)) := by rw [jn_2 h h', if_neg (by omega), if_neg (by omega), if_pos (by omega)]
theorem jn_7 {a b : Nat → Nat} (h : a 0 ≠ 0) (h' : b 0 ≠ 0) : jn a b 7 = a 7 ||| b 7 := by rw [jn_2 h h']; rfl
theorem jn_8 {a b : Nat → Nat} (h : a 0 ≠ 0) (h' : b 0 ≠ 0) : jn a b 8 = a 8 ||| b 8 := by rw [jn_2 h h']; rfl
theorem jn_9 {a b : Nat → Nat} (h : a 0 ≠ 0) (h' : b 0 ≠ 0) : jn a b 9 = a 9 ||| b 9 := by rw [jn_2 h h']; rfl
theorem jn_10 {a b : Nat → Nat} (h : a 0 ≠ 0) (h' : b 0 ≠ 0) : jn a b 10 = a 10 &&& b 10 := by rw [jn_2 h h']; rfl
theorem jn_there {a b : Nat → Nat} (h : a 0 ≠ 0) (h' : b 0 ≠ 0) : jn a b 0 = 1 := by rw [jn_2 h h']; rfl
theorem jn_01 {a b : Nat → Nat} (h : a 0 = 0 ∨ a 0 = 1) (h' : b 0 = 0 ∨ b 0 = 1) : jn a b 0 = 0 ∨ jn a b 0 = 1 := by
  by_cases g : a 0 = 0
  · rw [jn_0 g]; exact h'
  · by_cases g' : b 0 = 0
    · rw [jn_1 g g']; exact h
    · exact Or.inr (jn_there g g')
theorem jn_l {a b : Nat → Nat} (h : a 0 = 0 ∨ a 0 = 1) (h' : b 0 = 0 ∨ b 0 = 1) : SLE a (jn a b) := by
  by_cases g : a 0 = 0
  · exact Or.inl g
  · by_cases g' : b 0 = 0
    · rw [jn_1 g g']; exact SLE_refl h
    · refine Or.inr ⟨⟨jn_there g g', fun i hi => ?_, fun i hi => ?_, ?_, ?_⟩, ?_, ?_⟩
      · rw [jn_low g g' hi]; exact Nat.min_le_left _ _
      · rw [jn_high g g' hi]; exact Nat.le_max_left _ _
      · rw [jn_7 g g']; exact sub2_or_l _ _
      · rw [jn_8 g g']; exact sub2_or_l _ _
      · rw [jn_9 g g']; exact sub2_or_l _ _
      · rw [jn_10 g g']; exact sub2_and_l _ _
theorem jn_r {a b : Nat → Nat} (h : a 0 = 0 ∨ a 0 = 1) (h' : b 0 = 0 ∨ b 0 = 1) : SLE b (jn a b) := by
  by_cases g : a 0 = 0
  · rw [jn_0 g]; exact SLE_refl h'
  · by_cases g' : b 0 = 0
    · exact Or.inl g'
    · refine Or.inr ⟨⟨jn_there g g', fun i hi => ?_, fun i hi => ?_, ?_, ?_⟩, ?_, ?_⟩
      · rw [jn_low g g' hi]; exact Nat.min_le_right _ _
      · rw [jn_high g g' hi]; exact Nat.le_max_right _ _
      · rw [jn_7 g g']; exact sub2_or_r _ _
      · rw [jn_8 g g']; exact sub2_or_r _ _
      · rw [jn_9 g g']; exact sub2_or_r _ _
      · rw [jn_10 g g']; exact sub2_and_r _ _
theorem jn_lub {a b d : Nat → Nat} (h : SLE a d) (h' : SLE b d) : SLE (jn a b) d := by
  by_cases g : a 0 = 0
  · rw [jn_0 g]; exact h'
  · by_cases g' : b 0 = 0
    · rw [jn_1 g g']; exact h
    · rcases h with h | ⟨⟨h1, h2, h3, h4, h5⟩, h6, h7⟩
      · exact absurd h g
      · rcases h' with h' | ⟨⟨-, k2, k3, k4, k5⟩, k6, k7⟩
        · exact absurd h' g'
        · refine Or.inr ⟨⟨h1, fun i hi => ?_, fun i hi => ?_, ?_, ?_⟩, ?_, ?_⟩
          · rw [jn_low g g' hi]; exact Nat.le_min.2 ⟨h2 i hi, k2 i hi⟩
          · rw [jn_high g g' hi]; exact Nat.max_le.2 ⟨h3 i hi, k3 i hi⟩
          · rw [jn_7 g g']; exact sub2_or h4 k4
          · rw [jn_8 g g']; exact sub2_or h5 k5
          · rw [jn_9 g g']; exact sub2_or h6 k6
          · rw [jn_10 g g']; exact sub2_and h7 k7
theorem jn_lubK {a b d : Nat → Nat} (h : KLE a d) (h' : KLE b d) : KLE (jn a b) d := by
  by_cases g : a 0 = 0
  · rw [jn_0 g]; exact h'
  · by_cases g' : b 0 = 0
    · rw [jn_1 g g']; exact h
    · rcases h with h | ⟨h1, h2, h3, h4, h5⟩
      · exact absurd h g
      · rcases h' with h' | ⟨-, k2, k3, k4, k5⟩
        · exact absurd h' g'
        · refine Or.inr ⟨h1, fun i hi => ?_, fun i hi => ?_, ?_, ?_⟩
          · rw [jn_low g g' hi]; exact Nat.le_min.2 ⟨h2 i hi, k2 i hi⟩
          · rw [jn_high g g' hi]; exact Nat.max_le.2 ⟨h3 i hi, k3 i hi⟩
          · rw [jn_7 g g']; exact sub2_or h4 k4
          · rw [jn_8 g g']; exact sub2_or h5 k5
/-- what numbers may be -/
def KV (g : Nat → Nat) : Prop := g 0 = 0 ∨ (g 0 = 1 ∧ (∀ i, i < 3 → g (1 + i) ≤ g (4 + i) ∧ g (4 + i) ≤ 9) ∧ g 7 < 4096 ∧ (∀ f, f < 6 → g 7 / 2 ^ (2 * f) % 4 ≠ 0) ∧ g 8 < 8192)
def SV (g : Nat → Nat) : Prop := KV g ∧ (g 0 = 1 → g 9 < 65536 ∧ g 10 < 65536)
theorem KV_01 {g : Nat → Nat} (h : KV g) : g 0 = 0 ∨ g 0 = 1 := by
  rcases h with h | ⟨h, -⟩
  · exact Or.inl h
  · exact Or.inr h
/-- nothing is known -/
def noth (g : Nat → Nat) : Nat → Nat := va_up g 0 0
theorem noth_0 (g : Nat → Nat) : noth g 0 = 0 := vu_eq _ _ _
/-- a bit is taken out -/
def clr (V y : Nat) : Nat := V ^^^ (V &&& y)
theorem clr_tb (V y i : Nat) : (clr V y).testBit i = (V.testBit i && !y.testBit i) := by
  unfold clr
  rw [Nat.testBit_xor, Nat.testBit_and]
  cases V.testBit i <;> cases y.testBit i <;> rfl
theorem clr_mono {V V' y : Nat} (h : sub2 V V') : sub2 (clr V y) (clr V' y) := fun i g => by
  rw [clr_tb] at g ⊢
  cases q : V.testBit i
  · rw [q, Bool.false_and] at g; exact absurd g (by decide)
  · rw [q, Bool.true_and] at g; rw [h i q, g]; rfl
theorem clr_lt {V y k : Nat} (h : V < 2 ^ k) : clr V y < 2 ^ k := Nat.xor_lt_two_pow h (Nat.lt_of_le_of_lt Nat.and_le_left h)
/-- no value of a flag is left -/
theorem pair_iff (V o : Nat) : V / 2 ^ (2 * o) % 4 = 0 ↔ (V.testBit (2 * o) = false ∧ V.testBit (2 * o + 1) = false) := by
  have t1 : V.testBit (2 * o) = decide (V / 2 ^ (2 * o) % 2 = 1) := Nat.testBit_eq_decide_div_mod_eq
  have t2 : V.testBit (2 * o + 1) = decide (V / 2 ^ (2 * o + 1) % 2 = 1) := Nat.testBit_eq_decide_div_mod_eq
  have e : V / 2 ^ (2 * o + 1) = V / 2 ^ (2 * o) / 2 := by rw [Nat.pow_succ, Nat.div_div_eq_div_mul]
  rw [t1, t2, e]
  generalize V / 2 ^ (2 * o) = w
  constructor
  · intro h
    exact ⟨decide_eq_false (by omega), decide_eq_false (by omega)⟩
  · intro h
    have a := of_decide_eq_false h.1
    have b := of_decide_eq_false h.2
    omega
theorem pair_mono {V V' o : Nat} (h : sub2 V V') (hp : V / 2 ^ (2 * o) % 4 ≠ 0) : V' / 2 ^ (2 * o) % 4 ≠ 0 := by
  intro u
  rw [pair_iff] at u
  apply hp
  rw [pair_iff]
  constructor
  · cases q : V.testBit (2 * o)
    · rfl
    · have := h _ q; rw [u.1] at this; exact this.symm
  · cases q : V.testBit (2 * o + 1)
    · rfl
    · have := h _ q; rw [u.2] at this; exact this.symm
/-- one value of a flag is ruled out -/
def kfl (g : Nat → Nat) (o b : Nat) : Nat → Nat := if clr (g 7) (2 ^ (2 * o + b)) / 2 ^ (2 * o) % 4 = 0 then noth g else va_up g 7 (clr (g 7) (2 ^ (2 * o + b)))
/-- a range is looked at -/
def chk (g : Nat → Nat) (o : Nat) : Nat → Nat := if g (4 + o) < g (1 + o) then noth g else g
def rng (g : Nat → Nat) (o l h : Nat) : Nat → Nat := chk (va_up (va_up g (1 + o) l) (4 + o) h) o
/-- narrowed by a term -/
def opN (k o v : Nat) (g : Nat → Nat) : Nat → Nat := if k = 0 then kfl g o 0 else if k = 1 then kfl g o 1 else if k = 2 then (if v = 0 then noth g else rng g o (g (1 + o)) (min (g (4 + o)) (v - 1))) else if k = 3 then rng g o (max (g (1 + o)) (v + 1)) (g (4 + o)) else rng g o (max (g (1 + o)) v) (min (g (4 + o)) v)
/-- narrowed by its opposite -/
def opO (k o v : Nat) (g : Nat → Nat) : Nat → Nat := if k = 0 then kfl g o 1 else if k = 1 then kfl g o 0 else if k = 2 then rng g o (max (g (1 + o)) v) (g (4 + o)) else if k = 3 then rng g o (g (1 + o)) (min (g (4 + o)) v) else if g (4 + o) = v ∧ v = 0 then noth g else rng g o (if g (1 + o) = v then g (1 + o) + 1 else g (1 + o)) (if g (4 + o) = v then g (4 + o) - 1 else g (4 + o))
theorem rng_at {g : Nat → Nat} {o l h : Nat} (ho : o < 3) (hlh : l ≤ h) : (∀ i, i ≠ 1 + o → i ≠ 4 + o → rng g o l h i = g i) ∧ rng g o l h (1 + o) = l ∧ rng g o l h (4 + o) = h := by
  have e1 : va_up (va_up g (1 + o) l) (4 + o) h (4 + o) = h := vu_eq _ _ _
  have e2 : va_up (va_up g (1 + o) l) (4 + o) h (1 + o) = l := by rw [vu_ne _ _ (by omega), vu_eq]
  have e : rng g o l h = va_up (va_up g (1 + o) l) (4 + o) h := by unfold rng chk; rw [e1, e2, if_neg (by omega)]
  rw [e]
  exact ⟨fun i a b => by rw [vu_ne _ _ b, vu_ne _ _ a], e2, e1⟩
theorem rng_no {g : Nat → Nat} {o l h : Nat} (ho : o < 3) (hlh : h < l) : rng g o l h 0 = 0 := by
  have e1 : va_up (va_up g (1 + o) l) (4 + o) h (4 + o) = h := vu_eq _ _ _
  have e2 : va_up (va_up g (1 + o) l) (4 + o) h (1 + o) = l := by rw [vu_ne _ _ (by omega), vu_eq]
  unfold rng chk; rw [e1, e2, if_pos hlh]; exact noth_0 _
theorem rng_mono {g g' : Nat → Nat} {o l h l' h' : Nat} (ho : o < 3) (hg : SLE g g') (h1 : g 0 ≠ 0 → l' ≤ l) (h2 : g 0 ≠ 0 → h ≤ h') : SLE (rng g o l h) (rng g' o l' h') := by
  by_cases q : l ≤ h
  · obtain ⟨r1, r2, r3⟩ := rng_at (g := g) ho q
    by_cases q0 : g 0 = 0
    · exact Or.inl (by rw [r1 0 (by omega) (by omega)]; exact q0)
    · have h1 := h1 q0
      have h2 := h2 q0
      obtain ⟨s1, s2, s3⟩ := rng_at (g := g') (l := l') (h := h') ho (by omega)
      rcases hg with u | ⟨⟨k1, k2, k3, k4, k5⟩, k6, k7⟩
      · exact absurd u q0
      · refine Or.inr ⟨⟨by rw [s1 0 (by omega) (by omega)]; exact k1, fun i hi => ?_, fun i hi => ?_, ?_, ?_⟩, ?_, ?_⟩
        · by_cases e : i = o
          · subst e; rw [r2, s2]; exact h1
          · rw [r1 _ (by omega) (by omega), s1 _ (by omega) (by omega)]; exact k2 i hi
        · by_cases e : i = o
          · subst e; rw [r3, s3]; exact h2
          · rw [r1 _ (by omega) (by omega), s1 _ (by omega) (by omega)]; exact k3 i hi
        · rw [r1 7 (by omega) (by omega), s1 7 (by omega) (by omega)]; exact k4
        · rw [r1 8 (by omega) (by omega), s1 8 (by omega) (by omega)]; exact k5
        · rw [r1 9 (by omega) (by omega), s1 9 (by omega) (by omega)]; exact k6
        · rw [r1 10 (by omega) (by omega), s1 10 (by omega) (by omega)]; exact k7
  · exact Or.inl (rng_no ho (by omega))
theorem kfl_mono {g g' : Nat → Nat} {o b : Nat} (hg : SLE g g') : SLE (kfl g o b) (kfl g' o b) := by
  unfold kfl
  by_cases q : clr (g 7) (2 ^ (2 * o + b)) / 2 ^ (2 * o) % 4 = 0
  · rw [if_pos q]; exact Or.inl (noth_0 _)
  · rw [if_neg q]
    rcases hg with u | ⟨⟨k1, k2, k3, k4, k5⟩, k6, k7⟩
    · exact Or.inl (by rw [vu_ne _ _ (by decide)]; exact u)
    · rw [if_neg (pair_mono (clr_mono k4) q)]
      refine Or.inr ⟨⟨by rw [vu_ne _ _ (by decide)]; exact k1, fun i hi => ?_, fun i hi => ?_, ?_, ?_⟩, ?_, ?_⟩
      · rw [vu_ne _ _ (by omega), vu_ne _ _ (by omega)]; exact k2 i hi
      · rw [vu_ne _ _ (by omega), vu_ne _ _ (by omega)]; exact k3 i hi
      · rw [vu_eq, vu_eq]; exact clr_mono k4
      · rw [vu_ne _ _ (by decide), vu_ne _ _ (by decide)]; exact k5
      · rw [vu_ne _ _ (by decide), vu_ne _ _ (by decide)]; exact k6
      · rw [vu_ne _ _ (by decide), vu_ne _ _ (by decide)]; exact k7
theorem SLE_low {g g' : Nat → Nat} {o : Nat} (h : SLE g g') (hg : g 0 ≠ 0) (ho : o < 3) : g' (1 + o) ≤ g (1 + o) ∧ g (4 + o) ≤ g' (4 + o) := by
  rcases h with u | ⟨⟨k1, k2, k3, k4, k5⟩, k6, k7⟩
  · exact absurd u hg
  · exact ⟨k2 o ho, k3 o ho⟩
theorem opN_mono {g g' : Nat → Nat} {k o v : Nat} (ho : 2 ≤ k → o < 3) (hg : SLE g g') : SLE (opN k o v g) (opN k o v g') := by
  unfold opN
  by_cases q0 : k = 0
  · rw [if_pos q0, if_pos q0]; exact kfl_mono hg
  · rw [if_neg q0, if_neg q0]
    by_cases q1 : k = 1
    · rw [if_pos q1, if_pos q1]; exact kfl_mono hg
    · rw [if_neg q1, if_neg q1]
      have ho := ho (by omega)
      by_cases q2 : k = 2
      · rw [if_pos q2, if_pos q2]
        by_cases qv : v = 0
        · rw [if_pos qv]; exact Or.inl (noth_0 _)
        · rw [if_neg qv, if_neg qv]
          exact rng_mono ho hg (fun q => (SLE_low hg q ho).1) (fun q => by have := (SLE_low hg q ho).2; omega)
      · rw [if_neg q2, if_neg q2]
        by_cases q3 : k = 3
        · rw [if_pos q3, if_pos q3]
          exact rng_mono ho hg (fun q => by have := (SLE_low hg q ho).1; omega) (fun q => (SLE_low hg q ho).2)
        · rw [if_neg q3, if_neg q3]
          exact rng_mono ho hg (fun q => by have := (SLE_low hg q ho).1; omega) (fun q => by have := (SLE_low hg q ho).2; omega)
theorem opO_mono {g g' : Nat → Nat} {k o v : Nat} (ho : 2 ≤ k → o < 3) (hv : KV g) (hv' : KV g') (hg : SLE g g') : SLE (opO k o v g) (opO k o v g') := by
  unfold opO
  by_cases q0 : k = 0
  · rw [if_pos q0, if_pos q0]; exact kfl_mono hg
  · rw [if_neg q0, if_neg q0]
    by_cases q1 : k = 1
    · rw [if_pos q1, if_pos q1]; exact kfl_mono hg
    · rw [if_neg q1, if_neg q1]
      have ho := ho (by omega)
      by_cases q2 : k = 2
      · rw [if_pos q2, if_pos q2]
        exact rng_mono ho hg (fun q => by have := (SLE_low hg q ho).1; omega) (fun q => (SLE_low hg q ho).2)
      · rw [if_neg q2, if_neg q2]
        by_cases q3 : k = 3
        · rw [if_pos q3, if_pos q3]
          exact rng_mono ho hg (fun q => (SLE_low hg q ho).1) (fun q => by have := (SLE_low hg q ho).2; omega)
        · rw [if_neg q3, if_neg q3]
          by_cases q4 : g (4 + o) = v ∧ v = 0
          · rw [if_pos q4]; exact Or.inl (noth_0 _)
          · rw [if_neg q4]
            by_cases qg : g 0 = 0
            · by_cases q5 : g' (4 + o) = v ∧ v = 0
              · rw [if_pos q5]
                by_cases q6 : (if g (1 + o) = v then g (1 + o) + 1 else g (1 + o)) ≤ (if g (4 + o) = v then g (4 + o) - 1 else g (4 + o))
                · exact Or.inl (by rw [(rng_at ho q6).1 0 (by omega) (by omega)]; exact qg)
                · exact Or.inl (rng_no ho (by omega))
              · rw [if_neg q5]
                exact rng_mono ho hg (fun q => absurd qg q) (fun q => absurd qg q)
            · have l := SLE_low hg qg ho
              have b : g (1 + o) ≤ g (4 + o) := by
                rcases hv with u | ⟨-, u, -⟩
                · exact absurd u qg
                · exact (u o ho).1
              by_cases q5 : g' (4 + o) = v ∧ v = 0
              · exact absurd ⟨by omega, q5.2⟩ q4
              · rw [if_neg q5]
                refine rng_mono ho hg (fun q => ?_) (fun q => ?_)
                · by_cases u : g (1 + o) = v
                  · rw [if_pos u]; split <;> omega
                  · rw [if_neg u]; split <;> omega
                · by_cases u : g (4 + o) = v
                  · rw [if_pos u]; split <;> omega
                  · rw [if_neg u]; split <;> omega
/-- both keep the numbers as they may be -/
theorem rng_KV {g : Nat → Nat} {o l h : Nat} (ho : o < 3) (hv : KV g) (hh : g 0 ≠ 0 → h ≤ 9) : KV (rng g o l h) := by
  by_cases q : l ≤ h
  · obtain ⟨r1, r2, r3⟩ := rng_at (g := g) ho q
    rcases hv with u | ⟨u0, u1, u2, u3, u4⟩
    · exact Or.inl (by rw [r1 0 (by omega) (by omega)]; exact u)
    · refine Or.inr ⟨by rw [r1 0 (by omega) (by omega)]; exact u0, fun i hi => ?_, by rw [r1 7 (by omega) (by omega)]; exact u2, by rw [r1 7 (by omega) (by omega)]; exact u3, by rw [r1 8 (by omega) (by omega)]; exact u4⟩
      by_cases e : i = o
      · subst e; rw [r2, r3]; exact ⟨q, hh (by omega)⟩
      · rw [r1 _ (by omega) (by omega), r1 _ (by omega) (by omega)]; exact u1 i hi
  · exact Or.inl (rng_no ho (by omega))
theorem kfl_KV {g : Nat → Nat} {o b : Nat} (ho : o < 6) (hb : b < 2) (hv : KV g) : KV (kfl g o b) := by
  unfold kfl
  by_cases q : clr (g 7) (2 ^ (2 * o + b)) / 2 ^ (2 * o) % 4 = 0
  · rw [if_pos q]; exact Or.inl (noth_0 _)
  · rw [if_neg q]
    rcases hv with u | ⟨u0, u1, u2, u3, u4⟩
    · exact Or.inl (by rw [vu_ne _ _ (by decide)]; exact u)
    · refine Or.inr ⟨by rw [vu_ne _ _ (by decide)]; exact u0, fun i hi => ?_, ?_, fun f hf => ?_, ?_⟩
      · rw [vu_ne _ _ (by omega), vu_ne _ _ (by omega)]; exact u1 i hi
      · rw [vu_eq]; exact clr_lt (k := 12) u2
      · rw [vu_eq]
        by_cases e : f = o
        · rw [e]; exact q
        · intro w
          rw [pair_iff, clr_tb, clr_tb, Nat.testBit_two_pow, Nat.testBit_two_pow, decide_eq_false (by omega), decide_eq_false (by omega)] at w
          apply u3 f hf
          rw [pair_iff]
          refine ⟨?_, ?_⟩
          · have := w.1; rw [Bool.not_false, Bool.and_true] at this; exact this
          · have := w.2; rw [Bool.not_false, Bool.and_true] at this; exact this
      · rw [vu_ne _ _ (by decide)]; exact u4
theorem KV_hi {g : Nat → Nat} {o : Nat} (h : KV g) (hg : g 0 ≠ 0) (ho : o < 3) : g (1 + o) ≤ g (4 + o) ∧ g (4 + o) ≤ 9 := by
  rcases h with u | ⟨-, u, -⟩
  · exact absurd u hg
  · exact u o ho
theorem opN_KV {g : Nat → Nat} {k o v : Nat} (ho : o < 6) (ho3 : 2 ≤ k → o < 3) (hv : KV g) : KV (opN k o v g) := by
  unfold opN
  split
  · exact kfl_KV ho (by decide) hv
  · split
    · exact kfl_KV ho (by decide) hv
    · have ho := ho3 (by omega)
      split
      · split
        · exact Or.inl (noth_0 _)
        · exact rng_KV ho hv (fun q => by have := (KV_hi hv q ho).2; omega)
      · split
        · exact rng_KV ho hv (fun q => (KV_hi hv q ho).2)
        · exact rng_KV ho hv (fun q => by have := (KV_hi hv q ho).2; omega)
theorem opO_KV {g : Nat → Nat} {k o v : Nat} (ho : o < 6) (ho3 : 2 ≤ k → o < 3) (hv : KV g) : KV (opO k o v g) := by
  unfold opO
  split
  · exact kfl_KV ho (by decide) hv
  · split
    · exact kfl_KV ho (by decide) hv
    · have ho := ho3 (by omega)
      split
      · exact rng_KV ho hv (fun q => (KV_hi hv q ho).2)
      · split
        · exact rng_KV ho hv (fun q => by have := (KV_hi hv q ho).2; omega)
        · split
          · exact Or.inl (noth_0 _)
          · refine rng_KV ho hv (fun q => ?_)
            have := (KV_hi hv q ho).2
            split <;> omega
