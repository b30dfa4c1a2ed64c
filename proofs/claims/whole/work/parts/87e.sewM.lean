/-! the reference sews -/
theorem fro_cov {b sl f l j : Nat} (hj : j < 2 * b + 2 * sl + f + l) : ∃ p u, p < 6 ∧ u < lenP b sl f l p ∧ j = froP b sl f l p + u := by
  by_cases c0 : j < b
  · exact ⟨0, j, by decide, c0, (Nat.zero_add j).symm⟩
  · by_cases c1 : j < 2 * b
    · exact ⟨1, j - b, by decide, show j - b < b by omega, show j = b + (j - b) by omega⟩
    · by_cases c2 : j < 2 * b + sl
      · exact ⟨2, j - 2 * b, by decide, show j - 2 * b < sl by omega, show j = 2 * b + (j - 2 * b) by omega⟩
      · by_cases c3 : j < 2 * b + 2 * sl
        · exact ⟨3, j - (2 * b + sl), by decide, show j - (2 * b + sl) < sl by omega, show j = 2 * b + sl + (j - (2 * b + sl)) by omega⟩
        · by_cases c4 : j < 2 * b + 2 * sl + f
          · exact ⟨4, j - (2 * b + 2 * sl), by decide, show j - (2 * b + 2 * sl) < f by omega, show j = 2 * b + 2 * sl + (j - (2 * b + 2 * sl)) by omega⟩
          · exact ⟨5, j - (2 * b + 2 * sl + f), by decide, show j - (2 * b + 2 * sl + f) < l by omega, show j = 2 * b + 2 * sl + f + (j - (2 * b + 2 * sl + f)) by omega⟩
theorem sew118 {μ : MS} {t k n : Nat} (ht : t < 40) (hk : k < 30) (hn : n ≤ 120) (h2 : μ.2 2 t = nI n) {K : MS → Option (Int32 × MS)} : ∀ d i fuel, i + d = n → d < fuel →
    FM_sew_118 K (nI t) (nI k) fuel (nI i) (mc μ 14 (hyb (120 * k) i (fun j => μ.2 34 j) (μ.2 14))) = K (mc μ 14 (hyb (120 * k) n (fun j => μ.2 34 j) (μ.2 14))) := by
  intro d
  have a2 : ∀ g, (mc μ 14 g).2 2 t = nI n := fun g => h2
  have a34 : ∀ g, (mc μ 14 g).2 34 = μ.2 34 := fun g => rfl
  induction d with
  | zero =>
    intro i fuel hi hf
    obtain ⟨f1, rfl⟩ : ∃ f, fuel = f + 1 := ⟨fuel - 1, by omega⟩
    have e : i = n := by omega
    subst e
    rw [FM_sew_118, gd_t (inb_nI ht (by decide)), nI_clamp (by omega), a2, if_pos (nI_le (Nat.le_refl _) (by omega))]
  | succ d ih =>
    intro i fuel hi hf
    obtain ⟨f1, rfl⟩ : ∃ f, fuel = f + 1 := ⟨fuel - 1, by omega⟩
    have n1 : ¬ nI n ≤ nI i := nI_ge (by omega) (by omega)
    have a1 : (120 : Int32) * nI k + nI i = nI (120 * k + i) := by rw [show (120 : Int32) * nI k = nI (120 * k) from pk_mul 120 k, nI_add]
    rw [FM_sew_118, gd_t (inb_nI ht (by decide)), nI_clamp (show t < 2 ^ 31 by omega), a2, if_neg n1, gd_t (inb_nI (show i < 120 by omega) (by decide)), a1, gd_t (inb_nI (show 120 * k + i < 3600 by omega) (by decide)), a34, nI_clamp (show i < 2 ^ 31 by omega), sa_mc, mc_mc, nI_clamp (show 120 * k + i < 2 ^ 31 by omega), m2_mc, if_pos rfl, hyb_s (120 * k) i (fun j => μ.2 34 j) (μ.2 14), nI_1]
    exact ih (i + 1) f1 (by omega) (by omega)
def sewF (μ μ' : MS) (k t b sl f l : Nat) (col way : Int32) (G : Nat → Int32) : Prop := (∀ j, j ≠ 6 → μ'.1 j = μ.1 j) ∧ μ'.1 6 = nI (k + 1) ∧ (∀ j, j ≠ 1 → (j < 7 ∨ 14 < j) → j ≠ 19 → j ≠ 20 → μ'.2 j = μ.2 j) ∧ μ'.2 1 = upd (μ.2 1) t 0 ∧ (μ'.2 7 = upd (μ.2 7) k 1 ∧ μ'.2 8 = upd (μ.2 8) k col ∧ μ'.2 9 = upd (μ.2 9) k way ∧ μ'.2 10 = upd (μ.2 10) k (nI b) ∧ μ'.2 11 = upd (μ.2 11) k (nI f) ∧ μ'.2 12 = upd (μ.2 12) k (nI l) ∧ μ'.2 13 = upd (μ.2 13) k (nI sl)) ∧ μ'.2 14 = G ∧ μ'.2 19 = upd (μ.2 19) k (-1) ∧ μ'.2 20 = upd (μ.2 20) k (-1)
theorem sew_F {μ : MS} {k t b sl f l : Nat} {col way : Int32} {G : Nat → Int32} (hk : k < 30) (ht : t < 40) : sewF μ (si (sa (sa (sa (mc (sa (sa (sa (sa (sa (sa (sa μ 7 (nI k) 1) 8 (nI k) col) 9 (nI k) way) 10 (nI k) (nI b)) 11 (nI k) (nI f)) 12 (nI k) (nI l)) 13 (nI k) (nI sl)) 14 G) 19 (nI k) (-1)) 20 (nI k) (-1)) 1 (nI t) 0) 6 (nI (k + 1))) k t b sl f l col way G := by
  have ek : (nI k).toNatClampNeg = k := nI_clamp (by omega)
  have et : (nI t).toNatClampNeg = t := nI_clamp (by omega)
  refine ⟨fun j hj => by rw [s1_si_n hj]; rfl, by rw [s1_si_s], fun j h1 h2 h3 h4 => ?_, ?_, ⟨?_, ?_, ?_, ?_, ?_, ?_, ?_⟩, ?_, ?_, ?_⟩
  · rw [s2_si, s2_sa_n h1, s2_sa_n h4, s2_sa_n h3, m2_mc, if_neg (by omega), s2_sa_n (by omega), s2_sa_n (by omega), s2_sa_n (by omega), s2_sa_n (by omega), s2_sa_n (by omega), s2_sa_n (by omega), s2_sa_n (by omega)]
  · simp only [s2_si, s2_sa, m2_mc, Nat.reduceEqDiff, ↓reduceIte, et]
  · simp only [s2_si, s2_sa, m2_mc, Nat.reduceEqDiff, ↓reduceIte, ek]
  · simp only [s2_si, s2_sa, m2_mc, Nat.reduceEqDiff, ↓reduceIte, ek]
  · simp only [s2_si, s2_sa, m2_mc, Nat.reduceEqDiff, ↓reduceIte, ek]
  · simp only [s2_si, s2_sa, m2_mc, Nat.reduceEqDiff, ↓reduceIte, ek]
  · simp only [s2_si, s2_sa, m2_mc, Nat.reduceEqDiff, ↓reduceIte, ek]
  · simp only [s2_si, s2_sa, m2_mc, Nat.reduceEqDiff, ↓reduceIte, ek]
  · simp only [s2_si, s2_sa, m2_mc, Nat.reduceEqDiff, ↓reduceIte, ek]
  · simp only [s2_si, s2_sa, m2_mc, Nat.reduceEqDiff, ↓reduceIte]
  · simp only [s2_si, s2_sa, m2_mc, Nat.reduceEqDiff, ↓reduceIte, ek]
  · simp only [s2_si, s2_sa, m2_mc, Nat.reduceEqDiff, ↓reduceIte, ek]
theorem sew_t {μ7 : MS} {t k n : Nat} {G34 G14 : Nat → Int32} (ht : t < 40) (hk : k < 30) (hn : n ≤ 120) (e2 : μ7.2 2 t = nI n) (e14 : μ7.2 14 = G14) (e34 : μ7.2 34 = G34) (e60 : μ7.1 6 = nI k) (fuel : Nat) (hf : n < fuel) : FM_sew_118 (fun σ_155 => FM_sew_155 (nI t) (nI k) σ_155) (nI t) (nI k) fuel (0 : Int32) μ7 = some (nI k, si (sa (sa (sa (mc μ7 14 (hyb (120 * k) n (fun j => G34 j) G14)) 19 (nI k) (-1)) 20 (nI k) (-1)) 1 (nI t) 0) 6 (nI (k + 1))) := by
  have e6 : ∀ G, (mc μ7 14 G).1 6 = nI k := fun G => e60
  have w := sew118 (μ := μ7) (t := t) (k := k) (n := n) (K := fun σ_155 => FM_sew_155 (nI t) (nI k) σ_155) ht hk hn e2 n 0 fuel (by omega) hf
  rw [hyb_0, mc_self, e34, e14, show nI 0 = (0 : Int32) from rfl] at w
  refine Eq.trans w ?_
  unfold FM_sew_155
  rw [gd_t (inb_nI hk (by decide)), gd_t (inb_nI hk (by decide)), gd_t (inb_nI ht (by decide)), e6, nI_1]
theorem sew_h {μ1 : MS} {t k : Nat} {A B C D E : Int32} {Z : Option (Int32 × MS)} (F : MS → Option (Int32 × MS)) (ht : t < 40) (hk : k < 30) (h6 : μ1.1 6 = nI k) (h3 : μ1.2 3 t = A) (h21 : μ1.1 21 = B) (h22 : μ1.1 22 = C) (h23 : μ1.1 23 = D) (h32 : μ1.2 32 2 = E) (hF : F (sa (sa (sa (sa (sa (sa (sa μ1 7 (nI k) 1) 8 (nI k) A) 9 (nI k) (μ1.2 4 t)) 10 (nI k) B) 11 (nI k) C) 12 (nI k) D) 13 (nI k) E) = Z) : (if (μ1.1 6) = (30 : Int32) then (some ((-4 : Int32), μ1)) else (gd (inb (μ1.1 6) 30) (gd (inb (nI t) 40) (gd (inb (μ1.1 6) 30) (gd (inb (nI t) 40) (gd (inb (μ1.1 6) 30) (gd (inb (μ1.1 6) 30) (gd (inb (μ1.1 6) 30) (gd (inb (μ1.1 6) 30) (gd (inb (2 : Int32) 6) (gd (inb (μ1.1 6) 30) (F (sa (sa (sa (sa (sa (sa (sa μ1 7 (μ1.1 6) (1 : Int32)) 8 (μ1.1 6) (μ1.2 3 (nI t).toNatClampNeg)) 9 (μ1.1 6) (μ1.2 4 (nI t).toNatClampNeg)) 10 (μ1.1 6) (μ1.1 21)) 11 (μ1.1 6) (μ1.1 22)) 12 (μ1.1 6) (μ1.1 23)) 13 (μ1.1 6) (μ1.2 32 (2 : Int32).toNatClampNeg)))))))))))))) = Z := by
  have c0 : ¬ nI k = 30 := fun z => by have := (nI_eq (b := 30) (by omega) (by decide)).mp z; omega
  have c2 : (2 : Int32).toNatClampNeg = 2 := by decide
  have i2 : inb (2 : Int32) 6 = true := by decide
  rw [h6, if_neg c0, inb_nI hk (show 30 < 2 ^ 31 by decide), inb_nI ht (show 40 < 2 ^ 31 by decide), i2, gdt, gdt, gdt, gdt, gdt, gdt, gdt, gdt, gdt, gdt, nI_clamp (show t < 2 ^ 31 by omega), h3, h21, h22, h23, c2, h32]
  exact hF
theorem sew_M {μ μ1 : MS} {t k n b sl f l : Nat} {p2 p3 : Int32} (ht : t < 40) (hk : k < 30) (hn : n ≤ 120) (hbad : FM_bad μ (nI t) p2 p3 = some (0, μ1)) (h6 : μ1.1 6 = nI k) (h2 : μ1.2 2 t = nI n) (h21 : μ1.1 21 = nI b) (h22 : μ1.1 22 = nI f) (h23 : μ1.1 23 = nI l) (h32 : μ1.2 32 2 = nI sl) : ∃ μ', FM_sew μ (nI t) p2 p3 = some (nI k, μ') ∧ sewF μ1 μ' k t b sl f l (μ1.2 3 t) (μ1.2 4 t) (hyb (120 * k) n (fun j => μ1.2 34 j) (μ1.2 14)) := by
  have hfu := fu_pos
  refine ⟨_, ?_, sew_F hk ht⟩
  have w := sew_t (μ7 := sa (sa (sa (sa (sa (sa (sa μ1 7 (nI k) 1) 8 (nI k) (μ1.2 3 t)) 9 (nI k) (μ1.2 4 t)) 10 (nI k) (nI b)) 11 (nI k) (nI f)) 12 (nI k) (nI l)) 13 (nI k) (nI sl)) (t := t) (k := k) (n := n) (G34 := μ1.2 34) (G14 := μ1.2 14) ht hk hn (by simp only [s2_sa, Nat.reduceEqDiff, ↓reduceIte, h2]) (by simp only [s2_sa, Nat.reduceEqDiff, ↓reduceIte]) (by simp only [s2_sa, Nat.reduceEqDiff, ↓reduceIte]) (by simp only [s1_sa, h6]) fu (by omega)
  have w2 := sew_h (fun σ => FM_sew_118 (fun σ_155 => FM_sew_155 (nI t) (nI k) σ_155) (nI t) (nI k) fu (0 : Int32) σ) ht hk h6 rfl h21 h22 h23 h32 w
  unfold FM_sew
  rw [hbad, sb]
  rw [if_pos rfl]
  rw [← h6] at w2 ⊢
  exact w2
