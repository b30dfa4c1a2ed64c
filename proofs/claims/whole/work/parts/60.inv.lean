/-! what the two states have in common -/
def okr (x : Nat) : Prop := x < 1000 ∧ x / 10 % 10 ≤ 1
def enc (x : Nat) : Nat := x % 10 + 16 * (x / 10 % 10) + 32 * (x / 100)
def RowsV (ρ : RS) (r n : Nat) (g : Nat → Int32) : Prop := isK ρ r 11 = true ∧ pN ρ r = n ∧ ∀ j, j < n → ∃ x, okr x ∧ pA ρ r j = nI (enc x) ∧ g j = nI x
def ClothV (own : Nat → Nat) (ρ : RS) (s c n : Nat) (col way : Int32) (g : Nat → Int32) : Prop :=
  isK ρ c 0 = true ∧ own c = s ∧ pI ρ c 1 = col ∧ pI ρ c 2 = way ∧ (∃ k, k ≤ 9 ∧ col = nI k) ∧ (way = 0 ∨ way = 1) ∧ 1 ≤ n ∧ n ≤ 120 ∧ ∃ r, pR ρ c 0 = some r ∧ own r = s + 1 ∧ RowsV ρ r n g
def InvT (ρ : RS) (μ : MS) : Prop := ∃ T, T ≤ 130 ∧ rI ρ 801 = nI T ∧ μ.1 31 = nI T ∧ ∀ j, j < T → ∃ b, b < 256 ∧ rA ρ 800 j = nI b ∧ μ.2 30 j = nI b
def BoltN (ρ : RS) (μ : MS) (B i : Nat) : Prop := rQ ρ 902 i = none ∧ (i < B → μ.2 1 i = 0)
def BoltL (own : Nat → Nat) (ρ : RS) (μ : MS) (i c n : Nat) : Prop := rQ ρ 902 i = some c ∧ μ.2 1 i = 1 ∧ μ.2 2 i = nI n ∧ ClothV own ρ (2 * i) c n (μ.2 3 i) (μ.2 4 i) (fun j => μ.2 5 (120 * i + j))
def InvB (own : Nat → Nat) (ρ : RS) (μ : MS) (B : Nat) : Prop := B ≤ 40 ∧ rI ρ 903 = nI B ∧ μ.1 0 = nI B ∧ ∀ i, i < 40 → BoltN ρ μ B i ∨ (i < B ∧ ∃ c n, BoltL own ρ μ i c n)
def LenV (own : Nat → Nat) (ρ : RS) (s e b sl f l : Nat) : Prop := isK ρ e 11 = true ∧ own e = s ∧ pN ρ e = 6 ∧ pA ρ e 0 = nI b ∧ pA ρ e 1 = nI b ∧ pA ρ e 2 = nI sl ∧ pA ρ e 3 = nI sl ∧ pA ρ e 4 = nI f ∧ pA ρ e 5 = nI l
def RobeN (ρ : RS) (μ : MS) (K j : Nat) : Prop := rQ ρ 904 j = none ∧ (j < K → μ.2 7 j = 0) ∧ (K ≤ j → μ.2 15 j = 0)
def okl (b sl f l : Nat) : Prop := 1 ≤ b ∧ b ≤ 30 ∧ 1 ≤ sl ∧ 1 ≤ f ∧ f ≤ 30 ∧ 1 ≤ l ∧ l ≤ 30 ∧ 2 * b + 2 * sl + f + l ≤ 120
def RobeL (own : Nat → Nat) (ρ : RS) (μ : MS) (j a c e b sl f l : Nat) : Prop :=
  (rQ ρ 904 j = some a ∧ isK ρ a 4 = true ∧ own a = 100 + j ∧ μ.2 7 j = 1 ∧ okl b sl f l) ∧
  (μ.2 10 j = nI b ∧ μ.2 11 j = nI f ∧ μ.2 12 j = nI l ∧ μ.2 13 j = nI sl) ∧
  (pR ρ a 0 = some c ∧ ClothV own ρ (200 + 2 * j) c (2 * b + 2 * sl + f + l) (μ.2 8 j) (μ.2 9 j) (fun i => μ.2 14 (120 * j + i))) ∧
  (pR ρ a 1 = some e ∧ LenV own ρ (300 + j) e b sl f l) ∧
  ((pR ρ a 2 = none ∧ μ.2 15 j = 0) ∨ (μ.2 15 j = 1 ∧ ∃ d, pR ρ a 2 = some d ∧ ClothV own ρ (400 + 2 * j) d (2 * b + 2 * sl + f + l) (μ.2 16 j) (μ.2 17 j) (fun i => μ.2 18 (120 * j + i)))) ∧
  (pI ρ a 3 = μ.2 19 j ∧ (μ.2 19 j = -1 ∨ ∃ k, k < 4 ∧ μ.2 19 j = nI k)) ∧
  (pI ρ a 4 = μ.2 20 j ∧ (μ.2 20 j = -1 ∨ ∃ p, p < 10 ∧ μ.2 20 j = nI p))
def InvR (own : Nat → Nat) (ρ : RS) (μ : MS) (K : Nat) : Prop := K ≤ 30 ∧ rI ρ 905 = nI K ∧ μ.1 6 = nI K ∧ ∀ j, j < 30 → RobeN ρ μ K j ∨ (j < K ∧ ∃ a c e b sl f l, RobeL own ρ μ j a c e b sl f l)
def held (μ : MS) (K j p : Nat) : Prop := j < K ∧ μ.2 7 j = 1 ∧ μ.2 20 j = nI p
def PersV (own : Nat → Nat) (ρ : RS) (μ : MS) (K p a : Nat) : Prop :=
  (rQ ρ 914 p = some a ∧ isK ρ a 3 = true ∧ own a = 520 + p) ∧
  ((pI ρ a 0 = 0 ∧ μ.2 26 p = -1) ∨ (pI ρ a 0 = 1 ∧ ∃ g k, g ≤ 99 ∧ k ≤ 9 ∧ μ.2 26 p = nI g ∧ pI ρ a 1 = nI g ∧ μ.2 27 p = nI k ∧ pI ρ a 2 = nI k)) ∧
  ((pI ρ a 3 = 1 ∧ ∃ j, held μ K j p) ∨ (pI ρ a 3 = 0 ∧ ∀ j, ¬ held μ K j p))
def InvP (own : Nat → Nat) (ρ : RS) (μ : MS) (K : Nat) : Prop := (∀ p, p < 10 → ∃ a, PersV own ρ μ K p a) ∧ ∀ p j j', p < 10 → held μ K j p → held μ K j' p → j = j'
def ChestV (own : Nat → Nat) (ρ : RS) (μ : MS) (k u e m : Nat) : Prop :=
  (rQ ρ 913 k = some u ∧ isK ρ u 6 = true ∧ own u = 500 + k) ∧ (pR ρ u 0 = some e ∧ isK ρ e 11 = true ∧ own e = 510 + k ∧ pN ρ e = 6) ∧ (m ≤ 6 ∧ pI ρ u 1 = nI m ∧ μ.2 28 k = nI m) ∧
  ∀ t, t < m → ∃ w sg nn, w < 6 ∧ sg < 3 ∧ nn < 100 ∧ pA ρ e t = nI ((w * 3 + sg) * 100 + nn) ∧ μ.2 29 (18 * k + 3 * t) = nI w ∧ μ.2 29 (18 * k + 3 * t + 1) = nI (60 + sg) ∧ μ.2 29 (18 * k + 3 * t + 2) = nI nn
def InvC (own : Nat → Nat) (ρ : RS) (μ : MS) : Prop := ∀ k, k < 4 → ∃ u e m, ChestV own ρ μ k u e m
def MeasV (own : Nat → Nat) (ρ : RS) (μ : MS) (e b f l : Nat) : Prop := (rV ρ 906 = some e ∧ isK ρ e 11 = true ∧ own e = 540 ∧ pN ρ e = 6) ∧ (1 ≤ b ∧ b ≤ 30 ∧ 1 ≤ f ∧ f ≤ 30 ∧ 1 ≤ l ∧ l ≤ 30) ∧ (pA ρ e 0 = nI b ∧ pA ρ e 1 = nI b ∧ pA ρ e 4 = nI f ∧ pA ρ e 5 = nI l) ∧ μ.1 21 = nI b ∧ μ.1 22 = nI f ∧ μ.1 23 = nI l
def InvM (own : Nat → Nat) (ρ : RS) (μ : MS) : Prop := ∃ e b f l, MeasV own ρ μ e b f l
def InvS (ρ : RS) (μ : MS) : Prop := (∃ t, t ≤ 9 ∧ rI ρ 907 = nI t ∧ μ.1 24 = nI t) ∧ (∃ f, f ≤ 9 ∧ rI ρ 908 = nI f ∧ μ.1 25 = nI f) ∧ ((rI ρ 911 = -1 ∧ rI ρ 912 = -1 ∧ μ.1 36 = -1) ∨ (¬ μ.1 36 = -1 ∧ rI ρ 911 = μ.1 36 ∧ rI ρ 912 = μ.1 37)) ∧ ∀ p, p < 10 → rA ρ 101 p = μ.2 43 p
def InvO (own : Nat → Nat) (B K : Nat) (ρ : RS) (μ : MS) : Prop := InvT ρ μ ∧ InvB own ρ μ B ∧ InvR own ρ μ K ∧ InvP own ρ μ K ∧ InvC own ρ μ ∧ InvM own ρ μ ∧ InvS ρ μ
def Inv (ρ : RS) (μ : MS) : Prop := ∃ own B K, InvO own B K ρ μ
/-- all cells of the pool lie below -/
def Low (N : Nat) (ρ : RS) : Prop := ∀ a, a ∈ pL ρ → a < N
