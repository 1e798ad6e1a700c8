/-! ===== pure layer: class and reference beside each other while they read ===== -/
def lk (φ : Nat → Nat) (e : Nat → Int) (v b : Int) : Int := if v = -1 then e b.toNat else ((φ v.toNat : Nat) : Int)
def lp (φ : Nat → Nat) (v : Int) : Int := if v = -1 then -1 else ((φ v.toNat : Nat) : Int)
/-- where the class has the reference's statements -/
def YP (φ : Nat → Nat) (N S : Nat) : Prop := (∀ s, s < N → φ s < S) ∧ ∀ s t, s < t → t < N → φ s < φ t
/-- the reference: in which block a statement stands -/
def YA (m : St) (N B : Nat) : Prop := ∀ s, s < N → 0 ≤ m 7 s ∧ m 7 s < B
/-- the reference: what follows in the block -/
def YB (m : St) (N : Nat) : Prop := ∀ s, s < N → (m 6 s = -1 ∧ m 18 (m 7 s).toNat = s) ∨ ((s : Int) < m 6 s ∧ m 6 s < N ∧ m 7 (m 6 s).toNat = m 7 s)
/-- the reference: a block's first and last statement -/
def YC (m : St) (N B : Nat) : Prop := ∀ b : Nat, b < B → (m 17 b = -1 ∧ m 18 b = -1) ∨ (0 ≤ m 17 b ∧ m 17 b < N ∧ m 7 (m 17 b).toNat = b ∧ 0 ≤ m 18 b ∧ m 18 b < N ∧ m 7 (m 18 b).toNat = b ∧ m 6 (m 18 b).toNat = -1)
/-- the reference: of what a block is -/
def YD (m : St) (N B nd ck : Nat) : Prop := (∀ b : Nat, b < B → 0 ≤ m 19 b ∧ m 19 b < nd ∧ ((m 15 b = 0 ∧ m 16 b = m 19 b) ∨ (m 15 b = 1 ∧ 0 ≤ m 16 b ∧ m 16 b < ck ∧ m 8 (m 24 (m 16 b).toNat).toNat = b) ∨ (m 15 b = 2 ∧ 0 ≤ m 16 b ∧ m 16 b < N ∧ m 3 (m 16 b).toNat = 3 ∧ (m 8 (m 16 b).toNat = b ∨ m 9 (m 16 b).toNat = b)))) ∧ ∀ s, s < N → m 15 (m 7 s).toNat = 2 → m 16 (m 7 s).toNat < s
/-- the reference: tests and choices -/
def YE (m : St) (N B ck ts : Nat) : Prop := ∀ s, s < N → (m 3 s = 3 → 0 ≤ m 4 s ∧ m 4 s < ts ∧ (m 8 s = -1 ∨ (0 ≤ m 8 s ∧ m 8 s < B ∧ m 15 (m 8 s).toNat = 2 ∧ m 16 (m 8 s).toNat = s)) ∧ (m 9 s = -1 ∨ (0 ≤ m 9 s ∧ m 9 s < B ∧ m 15 (m 9 s).toNat = 2 ∧ m 16 (m 9 s).toNat = s ∧ m 8 s ≠ -1 ∧ m 9 s ≠ m 8 s))) ∧ (m 3 s = 4 → 0 ≤ m 4 s ∧ m 4 s < ck ∧ m 24 (m 4 s).toNat = s ∧ (m 8 s = -1 ∨ (0 ≤ m 8 s ∧ m 8 s < B ∧ m 15 (m 8 s).toNat = 1 ∧ m 16 (m 8 s).toNat = m 4 s)))
/-- the reference: the tables of choices and nodes -/
def YF (m : St) (N B nd ck : Nat) : Prop := (∀ c : Nat, c < ck → 0 ≤ m 24 c ∧ m 24 c < N ∧ m 3 (m 24 c).toNat = 4 ∧ m 4 (m 24 c).toNat = c) ∧ ∀ v : Nat, v < nd → 0 ≤ m 22 v ∧ m 22 v < B ∧ m 15 (m 22 v).toNat = 0 ∧ m 19 (m 22 v).toNat = v
/-- depth of a block, and behind which statements it ends -/
def YWc (m : St) (N B : Nat) (δ h : Nat → Nat) : Prop := (∀ q, q < B → 1 ≤ δ q ∧ δ q ≤ 6 ∧ h q ≤ N ∧ (m 15 q = 2 → δ q = δ (m 7 (m 16 q).toNat).toNat + 1 ∧ h q ≤ h (m 7 (m 16 q).toNat).toNat ∧ (m 6 (m 16 q).toNat ≠ -1 → (h q : Int) ≤ m 6 (m 16 q).toNat)) ∧ (m 15 q = 2 → m 19 q = m 19 (m 7 (m 16 q).toNat).toNat) ∧ (m 15 q = 1 → m 19 q = m 19 (m 7 (m 24 (m 16 q).toNat).toNat).toNat)) ∧ (∀ s, s < N → s < h (m 7 s).toNat) ∧ (∀ s, s < N → m 15 (m 7 s).toNat = 2 → m 9 (m 16 (m 7 s).toNat).toNat = m 7 s → h (m 8 (m 16 (m 7 s).toNat).toNat).toNat ≤ s) ∧ ∀ s t, s < t → t < N → m 3 s = 3 → m 3 t = 3 → m 4 s < m 4 t
def YW (m : St) (N B dp : Nat) : Prop := ∃ δ h : Nat → Nat, (∀ d, d < dp → δ (m 25 d).toNat = d + 1 ∧ h (m 25 d).toNat = N) ∧ YWc m N B δ h
/-- the blocks that are open -/
def YS (m : St) (e : Nat → Int) (N B nd dp : Nat) : Prop := dp ≤ 6 ∧ (∀ d, d < dp → 0 ≤ m 25 d ∧ m 25 d < B ∧ e (m 25 d).toNat = -1 ∧ m 19 (m 25 d).toNat + 1 = nd) ∧ (∀ d d', d < d' → d' < dp → m 25 d < m 25 d') ∧ (0 < dp → m 15 (m 25 0).toNat = 0 ∧ 0 < nd ∧ m 22 (nd - 1) = m 25 0) ∧ (∀ d, d + 1 < dp → (m 15 (m 25 (d + 1)).toNat = 2 ∧ m 16 (m 25 (d + 1)).toNat = m 18 (m 25 d).toNat) ∨ (m 15 (m 25 (d + 1)).toNat = 1 ∧ m 24 (m 16 (m 25 (d + 1)).toNat).toNat = m 18 (m 25 d).toNat)) ∧ (∀ b : Nat, b < B → (m 15 b = 2 → e b = -1) ∧ (m 15 b ≠ 2 → e b ≠ -1 ∨ ∃ d, d < dp ∧ m 25 d = b)) ∧ YW m N B dp
/-- what follows, in both -/
def YN (c m : St) (D : Nat) (φ : Nat → Nat) (e : Nat → Int) (N : Nat) : Prop := ∀ s, s < N → c (D + 4) (φ s) = lk φ e (m 6 s) (m 7 s) ∧ (m 3 s = 3 ∨ m 3 s = 4 → c (D + 5) (φ s) = if m 8 s = -1 then -1 else lk φ e (m 17 (m 8 s).toNat) (m 8 s)) ∧ (m 3 s = 3 → c (D + 6) (φ s) = if m 9 s = -1 then -1 else lk φ e (m 17 (m 9 s).toNat) (m 9 s))
def YV (c m : St) (D : Nat) (φ : Nat → Nat) (e : Nat → Int) (nd : Nat) : Prop := ∀ v : Nat, v < nd → lk φ e (m 17 (m 22 v).toNat) (m 22 v) ≠ -1 → c (D + 14) v = lk φ e (m 17 (m 22 v).toNat) (m 22 v)
def YO (c m : St) (φ : Nat → Nat) (N : Nat) : Prop := ∀ s, s < N → c 42 (φ s) = if m 15 (m 7 s).toNat = 2 then ((φ (m 16 (m 7 s).toNat).toNat : Nat) : Int) else -1
def YL (c m : St) (φ : Nat → Nat) (dp : Nat) : Prop := (∀ d, d < dp → c 40 (d + 1) = lp φ (m 18 (m 25 d).toNat)) ∧ (∀ d, d + 1 < dp → c 41 (d + 2) = 0 ∨ c 41 (d + 2) = 1) ∧ ∀ d, d + 1 < dp → (c 41 (d + 2) ≠ 0 ↔ (m 15 (m 25 (d + 1)).toNat = 2 ∧ m 8 (m 16 (m 25 (d + 1)).toNat).toNat ≠ m 25 (d + 1)))
/-- the sorts of the statements -/
def KR (k x y f v w x' y' : Int) : Prop :=
  (k = 0 ∧ w = 0 ∧ x' = x ∧ 0 ≤ x ∧ x ≤ 99) ∨ (k = 1 ∧ 0 ≤ x ∧ x ≤ 5 ∧ x' = x ∧ ((y = 1 ∧ w = 1) ∨ (y = 0 ∧ w = 2))) ∨ (k = 2 ∧ 0 ≤ x ∧ x ≤ 2 ∧ x' = x ∧ 0 ≤ y ∧ y ≤ 9 ∧ y' = y ∧ ((f = 61 ∧ w = 3) ∨ (f = 43 ∧ w = 4) ∨ (f = 45 ∧ w = 5))) ∨ (k = 3 ∧ w = 6 ∧ x' = x) ∨ (k = 4 ∧ w = 7 ∧ x' = x ∧ 0 ≤ y ∧ y ≤ 99) ∨ (k = 5 ∧ w = 8 ∧ x' = x ∧ 0 ≤ x ∧ x ≤ 11 ∧ 0 ≤ y ∧ y ≤ 400) ∨ (k = 6 ∧ w = 9 ∧ x' = v) ∨ (k = 7 ∧ w = 10 ∧ x' = x ∧ 0 ≤ x ∧ x ≤ 9)
def YK (c m : St) (D : Nat) (φ : Nat → Nat) (N : Nat) : Prop := ∀ s, s < N → KR (m 3 s) (m 4 s) (m 5 s) (m 8 s) (m 19 (m 7 s).toNat) (c (D + 1) (φ s)) (c (D + 2) (φ s)) (c (D + 3) (φ s))
def YG (c m : St) (φ : Nat → Nat) (N : Nat) : Prop := ∀ s, s < N → m 3 s = 5 → c 43 (φ s) = m 5 s
/-- terms -/
def TR (k o v : Int) : Prop := (0 ≤ k ∧ k < 2 ∧ 0 ≤ o ∧ o ≤ 5) ∨ (2 ≤ k ∧ k ≤ 4 ∧ 0 ≤ o ∧ o ≤ 2 ∧ 0 ≤ v ∧ v ≤ 9)
def YT (c m : St) (D : Nat) (φ : Nat → Nat) (N tm : Nat) : Prop := (∀ t, t < tm → c (D + 10) t = m 12 t ∧ c (D + 11) t = m 13 t ∧ c (D + 12) t = m 14 t ∧ TR (m 12 t) (m 13 t) (m 14 t)) ∧ ∀ s, s < N → c (D + 7) (φ s) = m 10 s ∧ c (D + 8) (φ s) = m 11 s ∧ 0 ≤ m 10 s ∧ m 10 s ≤ m 11 s ∧ m 11 s ≤ tm
/-- names -/
def nc (r : Nat → Int) : Nat → Nat
  | 0 => 0
  | k + 1 => nc r k + if r k = -1 then 0 else 1
def YM (c m : St) (D nd : Nat) : Prop := (∀ k, k < 12 → c 39 k = m 23 k ∧ -1 ≤ m 23 k ∧ m 23 k < nd) ∧ nc (m 23) 12 = nd ∧ ∀ v, v < nd → c (D + 13) v = m 20 v
/-- hubs -/
def YH (c m : St) (D nd : Nat) : Prop := ∃ h : Nat, c D 13 = (h : Int) ∧ h < 2 ^ nd ∧ ∀ v, v < nd → m 21 v = if h.testBit v then 1 else 0
/-- choices -/
def YQ (c m : St) (D ck : Nat) : Prop := ∀ k : Nat, k < ck → c (D + 15) k = m 5 (m 24 k).toNat ∧ c (D + 16) k = m 19 (m 7 (m 24 k).toNat).toNat
/-- the class's marks at the ends of blocks -/
def YX (c m : St) (D : Nat) (e : Nat → Int) (B S : Nat) : Prop := ∀ b, b < B → e b = -1 ∨ (0 ≤ e b ∧ e b < S ∧ ((m 15 b = 0 ∧ c (D + 1) (e b).toNat = 11 ∧ c (D + 2) (e b).toNat = m 19 b) ∨ (m 15 b = 1 ∧ c (D + 1) (e b).toNat = 12 ∧ c (D + 2) (e b).toNat = m 16 b)) ∧ c 42 (e b).toNat = -1 ∧ c (D + 4) (e b).toNat = -1)
def YU (φ : Nat → Nat) (e : Nat → Int) (N B S : Nat) : Prop := ∀ x, x < S → (∃ s, s < N ∧ φ s = x) ∨ ∃ b, b < B ∧ e b = x
/-- what follows stands behind -/
def ca (r : Nat → Int) : Nat → Int → Int
  | 0, x => x
  | k + 1, x => if ca r k x = -1 then -1 else r (ca r k x).toNat
def YZ (c : St) (D S : Nat) : Prop := (∀ x : Nat, x < S → -1 ≤ c 42 x ∧ c 42 x < x) ∧ (∀ x : Nat, x < S → -1 ≤ c (D + 4) x ∧ c (D + 4) x < S) ∧ ∀ x k : Nat, x < S → ca (c 42) k x ≠ -1 → c (D + 4) (ca (c 42) k x).toNat = -1 ∨ (x : Int) < c (D + 4) (ca (c 42) k x).toNat
/-- the numbers that both keep -/
def YY (c m : St) (D N S B nd ck ts tm dp : Nat) : Prop := m 0 15 = N ∧ m 0 19 = tm ∧ m 0 25 = B ∧ m 0 30 = nd ∧ m 0 32 = ck ∧ m 0 33 = ts ∧ m 0 39 = dp ∧ c D 0 = S ∧ c (D + 9) 0 = tm ∧ c D 10 = nd ∧ c D 14 = ck ∧ c D 18 = ts ∧ c 38 0 = D ∧ ck ≤ 16 ∧ ts ≤ 16 ∧ nd ≤ 12
/-- all of it, but the numbers -/
def SY (c m : St) (D : Nat) (φ : Nat → Nat) (e : Nat → Int) (N S B nd ck ts tm dp : Nat) : Prop :=
  YP φ N S ∧ YA m N B ∧ YB m N ∧ YC m N B ∧ YD m N B nd ck ∧ YE m N B ck ts ∧ YF m N B nd ck ∧ YS m e N B nd dp ∧ YN c m D φ e N ∧ YV c m D φ e nd ∧ YO c m φ N ∧ YL c m φ dp ∧ YK c m D φ N ∧ YG c m φ N ∧ YT c m D φ N tm ∧ YM c m D nd ∧ YH c m D nd ∧ YQ c m D ck ∧ YX c m D e B S ∧ YU φ e N B S ∧ YZ c D S
/-- the reference adds a statement -/
def AM (m m' : St) (N b tm tm' : Nat) (w x y f : Int) : Prop :=
  m' 3 = va_up (m 3) N w ∧ m' 4 = va_up (m 4) N x ∧ m' 5 = va_up (m 5) N y ∧ m' 6 = (if m 18 b = -1 then va_up (m 6) N (-1) else va_up (va_up (m 6) N (-1)) (m 18 b).toNat N) ∧ m' 7 = va_up (m 7) N b ∧ m' 8 = va_up (m 8) N f ∧ m' 9 = va_up (m 9) N (-1) ∧ m' 10 = va_up (m 10) N tm ∧ m' 11 = va_up (m 11) N tm' ∧ m' 17 = (if m 18 b = -1 then va_up (m 17) b N else m 17) ∧ m' 18 = va_up (m 18) b N ∧ m' 24 = (if w = 4 then va_up (m 24) x.toNat N else m 24) ∧ m' 12 = m 12 ∧ m' 13 = m 13 ∧ m' 14 = m 14 ∧ m' 15 = m 15 ∧ m' 16 = m 16 ∧ m' 19 = m 19 ∧ m' 20 = m 20 ∧ m' 21 = m 21 ∧ m' 22 = m 22 ∧ m' 23 = m 23 ∧ m' 25 = m 25
/-- the class adds a statement -/
def AC (c c' : St) (D S nd dp : Nat) (tm tm' : Int) (w x y : Int) : Prop :=
  c' (D + 1) = va_up (c (D + 1)) S w ∧ c' (D + 2) = va_up (c (D + 2)) S x ∧ c' (D + 3) = va_up (c (D + 3)) S y ∧ c' (D + 4) = (if c 40 dp = -1 then va_up (c (D + 4)) S (-1) else va_up (va_up (c (D + 4)) S (-1)) (c 40 dp).toNat S) ∧ c' (D + 5) = (if c 40 dp = -1 ∧ 2 ≤ dp ∧ c 41 dp = 0 then va_up (va_up (c (D + 5)) S (-1)) (c 40 (dp - 1)).toNat S else va_up (c (D + 5)) S (-1)) ∧ c' (D + 6) = (if c 40 dp = -1 ∧ 2 ≤ dp ∧ c 41 dp ≠ 0 then va_up (va_up (c (D + 6)) S (-1)) (c 40 (dp - 1)).toNat S else va_up (c (D + 6)) S (-1)) ∧ c' (D + 7) = va_up (c (D + 7)) S tm ∧ c' (D + 8) = va_up (c (D + 8)) S tm' ∧ c' (D + 14) = (if c 40 dp = -1 ∧ dp < 2 then va_up (c (D + 14)) (nd - 1) S else c (D + 14)) ∧ c' 40 = va_up (c 40) dp S ∧ c' 42 = va_up (c 42) S (if 2 ≤ dp ∧ c (D + 1) (c 40 (dp - 1)).toNat = 6 then c 40 (dp - 1) else -1) ∧ c' (D + 10) = c (D + 10) ∧ c' (D + 11) = c (D + 11) ∧ c' (D + 12) = c (D + 12) ∧ c' (D + 13) = c (D + 13) ∧ c' 39 = c 39 ∧ c' 41 = c 41 ∧ c' D 13 = c D 13
