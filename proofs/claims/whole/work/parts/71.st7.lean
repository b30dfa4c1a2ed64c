theorem i_a0 (x : Int32) : x + 0 = x := Int32.add_zero x
theorem rowsOf_e {own : Nat → Nat} {ρ : RS} {μ : MS} {j a c e b sl f l : Nat} (hj : j < 30) (h : RobeL own ρ μ j a c e b sl f l) : FM_rowsOf μ (nI j) = some (nI (2 * b + 2 * sl + f + l)) := by
  obtain ⟨-, ⟨b1, b2, b3, b4⟩, -⟩ := h
  unfold FM_rowsOf
  simp only [inb_nI hj (show 30 < 2 ^ 31 by decide), gdt, nI_clamp (show j < 2 ^ 31 by omega), b1, b2, b3, b4]
  rw [show (2 : Int32) * nI b = nI (2 * b) from pk_mul 2 b, show (2 : Int32) * nI sl = nI (2 * sl) from pk_mul 2 sl, nI_add, nI_add, nI_add]
theorem tl0 {own : Nat → Nat} {B K : Nat} {ρ : RS} {μ : MS} (h : InvO own B K ρ μ) : ∀ d k (x : Int32) fuel, k + d = 40 → B ≤ k → d < fuel → FR_X9_boltsThere_13 ρ 40 fuel x (nI k) = some x := by
  obtain ⟨-, ⟨-, -, -, hb⟩, -⟩ := h
  intro d
  induction d with
  | zero =>
    intro k x fuel hk hB hf
    obtain ⟨f1, rfl⟩ : ∃ f, fuel = f + 1 := ⟨fuel - 1, by omega⟩
    have e : k = 40 := by omega
    subst e
    rw [FR_X9_boltsThere_13, if_pos (show (40 : Int32) ≤ nI 40 by decide)]
  | succ d ih =>
    intro k x fuel hk hB hf
    obtain ⟨f1, rfl⟩ : ∃ f, fuel = f + 1 := ⟨fuel - 1, by omega⟩
    rw [FR_X9_boltsThere_13, if_neg (show ¬ (40 : Int32) ≤ nI k from nI_ge (b := 40) (by omega) (by decide)), gd_t (inb_nI (show k < 40 by omega) (by decide)), nI_clamp (show k < 2 ^ 31 by omega)]
    rcases hb k (by omega) with ⟨h1, -⟩ | ⟨h1, -⟩
    · rw [h1, ocn, nI_1]
      exact ih (k + 1) x f1 (by omega) (by omega) (by omega)
    · omega
theorem cnt0 {own : Nat → Nat} {B K : Nat} {ρ : RS} {μ : MS} (h : InvO own B K ρ μ) : ∀ d k (x : Int32) fuel fuel', k + d = B → 40 - k < fuel → d < fuel' → ∃ q, FR_X9_boltsThere_13 ρ 40 fuel x (nI k) = some q ∧ FM_count_42 μ fuel' x (nI k) = some q := by
  obtain ⟨-, ⟨hB, -, hB2, hb⟩, -⟩ := id h
  intro d
  induction d with
  | zero =>
    intro k x fuel fuel' hk hf hf'
    obtain ⟨f2, rfl⟩ : ∃ f, fuel' = f + 1 := ⟨fuel' - 1, by omega⟩
    rw [tl0 h (40 - k) k x fuel (by omega) (by omega) hf, FM_count_42, hB2, if_pos (nI_le (by omega) (by omega))]
    exact ⟨_, rfl, rfl⟩
  | succ d ih =>
    intro k x fuel fuel' hk hf hf'
    obtain ⟨f1, rfl⟩ : ∃ f, fuel = f + 1 := ⟨fuel - 1, by omega⟩
    obtain ⟨f2, rfl⟩ : ∃ f, fuel' = f + 1 := ⟨fuel' - 1, by omega⟩
    have n1 : ¬ nI B ≤ nI k := nI_ge (by omega) (by omega)
    rw [FR_X9_boltsThere_13, FM_count_42, hB2, if_neg (show ¬ (40 : Int32) ≤ nI k from nI_ge (b := 40) (by omega) (by decide)), if_neg n1]
    unfold FM_count_65
    simp only [inb_nI (show k < 40 by omega) (show 40 < 2 ^ 31 by decide), gdt, nI_clamp (show k < 2 ^ 31 by omega), nI_1, i_a0]
    rcases hb k (by omega) with ⟨h1, h2⟩ | ⟨-, c, n, h1, h2, -⟩
    · rw [h1, ocn, if_pos (h2 (by omega))]
      exact ih (k + 1) x f1 f2 (by omega) (by omega) (by omega)
    · rw [h1, ocs, if_neg (by rw [h2]; decide)]
      exact ih (k + 1) (x + 1) f1 f2 (by omega) (by omega) (by omega)
theorem tl1 {own : Nat → Nat} {B K : Nat} {ρ : RS} {μ : MS} (h : InvO own B K ρ μ) : ∀ d k (x : Int32) fuel, k + d = 30 → K ≤ k → d < fuel → FR_X9_robesThere_13 ρ 30 fuel x (nI k) = some x := by
  obtain ⟨-, -, ⟨-, -, -, hb⟩, -⟩ := h
  intro d
  induction d with
  | zero =>
    intro k x fuel hk hB hf
    obtain ⟨f1, rfl⟩ : ∃ f, fuel = f + 1 := ⟨fuel - 1, by omega⟩
    have e : k = 30 := by omega
    subst e
    rw [FR_X9_robesThere_13, if_pos (show (30 : Int32) ≤ nI 30 by decide)]
  | succ d ih =>
    intro k x fuel hk hB hf
    obtain ⟨f1, rfl⟩ : ∃ f, fuel = f + 1 := ⟨fuel - 1, by omega⟩
    rw [FR_X9_robesThere_13, if_neg (show ¬ (30 : Int32) ≤ nI k from nI_ge (b := 30) (by omega) (by decide)), gd_t (inb_nI (show k < 30 by omega) (by decide)), nI_clamp (show k < 2 ^ 31 by omega)]
    rcases hb k (by omega) with ⟨h1, -⟩ | ⟨h1, -⟩
    · rw [h1, ocn, nI_1]
      exact ih (k + 1) x f1 (by omega) (by omega) (by omega)
    · omega
theorem cnt1 {own : Nat → Nat} {B K : Nat} {ρ : RS} {μ : MS} (h : InvO own B K ρ μ) : ∀ d k (x : Int32) fuel fuel', k + d = K → 30 - k < fuel → d < fuel' → ∃ q, FR_X9_robesThere_13 ρ 30 fuel x (nI k) = some q ∧ FM_count_77 μ fuel' x (nI k) = some q := by
  obtain ⟨-, -, ⟨hB, -, hB2, hb⟩, -⟩ := id h
  intro d
  induction d with
  | zero =>
    intro k x fuel fuel' hk hf hf'
    obtain ⟨f2, rfl⟩ : ∃ f, fuel' = f + 1 := ⟨fuel' - 1, by omega⟩
    rw [tl1 h (30 - k) k x fuel (by omega) (by omega) hf, FM_count_77, hB2, if_pos (nI_le (by omega) (by omega))]
    exact ⟨_, rfl, rfl⟩
  | succ d ih =>
    intro k x fuel fuel' hk hf hf'
    obtain ⟨f1, rfl⟩ : ∃ f, fuel = f + 1 := ⟨fuel - 1, by omega⟩
    obtain ⟨f2, rfl⟩ : ∃ f, fuel' = f + 1 := ⟨fuel' - 1, by omega⟩
    have n1 : ¬ nI K ≤ nI k := nI_ge (by omega) (by omega)
    rw [FR_X9_robesThere_13, FM_count_77, hB2, if_neg (show ¬ (30 : Int32) ≤ nI k from nI_ge (b := 30) (by omega) (by decide)), if_neg n1]
    unfold FM_count_100
    simp only [inb_nI (show k < 30 by omega) (show 30 < 2 ^ 31 by decide), gdt, nI_clamp (show k < 2 ^ 31 by omega), nI_1, i_a0]
    rcases hb k (by omega) with ⟨h1, h2⟩ | ⟨-, a, c, e, b, sl, f, l, ⟨h1, -, -, h2, -⟩, -⟩
    · rw [h1, ocn, if_pos (h2.1 (by omega))]
      exact ih (k + 1) x f1 f2 (by omega) (by omega) (by omega)
    · rw [h1, ocs, if_neg (by rw [h2]; decide)]
      exact ih (k + 1) (x + 1) f1 f2 (by omega) (by omega) (by omega)
theorem tl2 {own : Nat → Nat} {B K : Nat} {ρ : RS} {μ : MS} (h : InvO own B K ρ μ) : ∀ d k (x : Int32) fuel, k + d = 30 → K ≤ k → d < fuel → FR_X9_robesLent_13 ρ 30 fuel x (nI k) = some x := by
  obtain ⟨-, -, ⟨-, -, -, hb⟩, -⟩ := h
  intro d
  induction d with
  | zero =>
    intro k x fuel hk hB hf
    obtain ⟨f1, rfl⟩ : ∃ f, fuel = f + 1 := ⟨fuel - 1, by omega⟩
    have e : k = 30 := by omega
    subst e
    rw [FR_X9_robesLent_13, if_pos (show (30 : Int32) ≤ nI 30 by decide)]
  | succ d ih =>
    intro k x fuel hk hB hf
    obtain ⟨f1, rfl⟩ : ∃ f, fuel = f + 1 := ⟨fuel - 1, by omega⟩
    rw [FR_X9_robesLent_13, if_neg (show ¬ (30 : Int32) ≤ nI k from nI_ge (b := 30) (by omega) (by decide)), gd_t (inb_nI (show k < 30 by omega) (by decide)), nI_clamp (show k < 2 ^ 31 by omega)]
    rcases hb k (by omega) with ⟨h1, -⟩ | ⟨h1, -⟩
    · rw [h1, ocn, nI_1]
      exact ih (k + 1) x f1 (by omega) (by omega) (by omega)
    · omega
theorem cnt2 {own : Nat → Nat} {B K : Nat} {ρ : RS} {μ : MS} (h : InvO own B K ρ μ) : ∀ d k (x : Int32) fuel fuel', k + d = K → 30 - k < fuel → d < fuel' → ∃ q, FR_X9_robesLent_13 ρ 30 fuel x (nI k) = some q ∧ FM_count_112 μ fuel' x (nI k) = some q := by
  obtain ⟨-, -, ⟨hB, -, hB2, hb⟩, -⟩ := id h
  intro d
  induction d with
  | zero =>
    intro k x fuel fuel' hk hf hf'
    obtain ⟨f2, rfl⟩ : ∃ f, fuel' = f + 1 := ⟨fuel' - 1, by omega⟩
    rw [tl2 h (30 - k) k x fuel (by omega) (by omega) hf, FM_count_112, hB2, if_pos (nI_le (by omega) (by omega))]
    exact ⟨_, rfl, rfl⟩
  | succ d ih =>
    intro k x fuel fuel' hk hf hf'
    obtain ⟨f1, rfl⟩ : ∃ f, fuel = f + 1 := ⟨fuel - 1, by omega⟩
    obtain ⟨f2, rfl⟩ : ∃ f, fuel' = f + 1 := ⟨fuel' - 1, by omega⟩
    have n1 : ¬ nI K ≤ nI k := nI_ge (by omega) (by omega)
    rw [FR_X9_robesLent_13, FM_count_112, hB2, if_neg (show ¬ (30 : Int32) ≤ nI k from nI_ge (b := 30) (by omega) (by decide)), if_neg n1]
    unfold FM_count_145
    simp only [inb_nI (show k < 30 by omega) (show 30 < 2 ^ 31 by decide), gdt, nI_clamp (show k < 2 ^ 31 by omega), nI_1, i_a0]
    rcases hb k (by omega) with ⟨h1, h2⟩ | ⟨-, a, c, e, b, sl, f, l, ⟨h1, h3, -, h2, -⟩, -, -, -, -, -, ⟨u1, u2⟩⟩
    · rw [h1, ocn, if_pos (h2.1 (by omega))]
      exact ih (k + 1) x f1 f2 (by omega) (by omega) (by omega)
    · rw [h1, ocs, if_neg (show ¬ μ.2 7 k = 0 by rw [h2]; decide), h3, gdt, u1]
      by_cases c1 : μ.2 20 k = -1
      · rw [if_pos c1, if_pos c1]
        exact ih (k + 1) x f1 f2 (by omega) (by omega) (by omega)
      · rw [if_neg c1, if_neg c1]
        exact ih (k + 1) (x + 1) f1 f2 (by omega) (by omega) (by omega)
theorem tl3 {own : Nat → Nat} {B K : Nat} {ρ : RS} {μ : MS} (h : InvO own B K ρ μ) : ∀ d k (x : Int32) fuel, k + d = 30 → K ≤ k → d < fuel → FR_X9_rowsThere_56 ρ 30 fuel x (nI k) = some x := by
  obtain ⟨-, -, ⟨-, -, -, hb⟩, -⟩ := h
  intro d
  induction d with
  | zero =>
    intro k x fuel hk hB hf
    obtain ⟨f1, rfl⟩ : ∃ f, fuel = f + 1 := ⟨fuel - 1, by omega⟩
    have e : k = 30 := by omega
    subst e
    rw [FR_X9_rowsThere_56, if_pos (show (30 : Int32) ≤ nI 30 by decide)]
  | succ d ih =>
    intro k x fuel hk hB hf
    obtain ⟨f1, rfl⟩ : ∃ f, fuel = f + 1 := ⟨fuel - 1, by omega⟩
    rw [FR_X9_rowsThere_56, if_neg (show ¬ (30 : Int32) ≤ nI k from nI_ge (b := 30) (by omega) (by decide)), gd_t (inb_nI (show k < 30 by omega) (by decide)), nI_clamp (show k < 2 ^ 31 by omega)]
    rcases hb k (by omega) with ⟨h1, -⟩ | ⟨h1, -⟩
    · rw [h1, ocn, nI_1]
      exact ih (k + 1) x f1 (by omega) (by omega) (by omega)
    · omega
theorem cnt3 {own : Nat → Nat} {B K : Nat} {ρ : RS} {μ : MS} (h : InvO own B K ρ μ) : ∀ d k (x : Int32) fuel fuel', k + d = K → 30 - k < fuel → d < fuel' → ∃ q, FR_X9_rowsThere_56 ρ 30 fuel x (nI k) = some q ∧ FM_count_195 μ fuel' x (nI k) = some q := by
  obtain ⟨-, -, ⟨hB, -, hB2, hb⟩, -⟩ := id h
  intro d
  induction d with
  | zero =>
    intro k x fuel fuel' hk hf hf'
    obtain ⟨f2, rfl⟩ : ∃ f, fuel' = f + 1 := ⟨fuel' - 1, by omega⟩
    rw [tl3 h (30 - k) k x fuel (by omega) (by omega) hf, FM_count_195, hB2, if_pos (nI_le (by omega) (by omega))]
    exact ⟨_, rfl, rfl⟩
  | succ d ih =>
    intro k x fuel fuel' hk hf hf'
    obtain ⟨f1, rfl⟩ : ∃ f, fuel = f + 1 := ⟨fuel - 1, by omega⟩
    obtain ⟨f2, rfl⟩ : ∃ f, fuel' = f + 1 := ⟨fuel' - 1, by omega⟩
    have n1 : ¬ nI K ≤ nI k := nI_ge (by omega) (by omega)
    rw [FR_X9_rowsThere_56, FM_count_195, hB2, if_neg (show ¬ (30 : Int32) ≤ nI k from nI_ge (b := 30) (by omega) (by decide)), if_neg n1]
    unfold FM_count_237
    simp only [inb_nI (show k < 30 by omega) (show 30 < 2 ^ 31 by decide), gdt, nI_clamp (show k < 2 ^ 31 by omega), nI_1, i_a0]
    rcases hb k (by omega) with ⟨h1, h2⟩ | ⟨-, a, c, e, b, sl, f, l, hr⟩
    · rw [h1, ocn, if_pos (h2.1 (by omega))]
      exact ih (k + 1) x f1 f2 (by omega) (by omega) (by omega)
    · have e9 := rowsOf_e (show k < 30 by omega) hr
      obtain ⟨⟨h1, h3, -, h2, -⟩, -, ⟨c1, c2⟩, -, hl, -, -⟩ := hr
      obtain ⟨d1, -, -, -, -, -, -, -, r, d2, -, d3, d4, -⟩ := c2
      have e8 : FR_X4_liningRows ρ a = some (if μ.2 15 k = 0 then 0 else nI (2 * b + 2 * sl + f + l)) := by
        unfold FR_X4_liningRows
        rw [h3, gdt]
        rcases hl with ⟨l1, l2⟩ | ⟨l1, dd, l2, ⟨g1, -, -, -, -, -, -, -, r2, g2, -, g3, g4, -⟩⟩
        · rw [l1, ocn, if_pos l2]
        · rw [l2, ocs, g1, gdt, g2, sb, g3, gdt, g4, if_neg (by rw [l1]; decide)]
          rfl
      simp only [h1, ocs, if_neg (show ¬ μ.2 7 k = 0 by rw [h2]; decide), h3, gdt, c1, sb, d1, d2, d3, d4, e8, e9]
      generalize hG : 2 * b + 2 * sl + f + l = G
      show ∃ q, FR_X9_rowsThere_56 ρ 30 f1 (x + (nI G + if μ.2 15 k = 0 then 0 else nI G)) (nI (k + 1)) = some q ∧ _
      by_cases c9 : μ.2 15 k = 0
      · rw [if_pos c9, if_pos c9, i_a0, show nI G * 1 = nI G from (pk_mul G 1).trans (by rw [Nat.mul_one])]
        exact ih (k + 1) _ f1 f2 (by omega) (by omega) (by omega)
      · rw [if_neg c9, if_neg c9, nI_add, show nI G * 2 = nI (G + G) from (pk_mul G 2).trans (by congr 1; omega)]
        exact ih (k + 1) _ f1 f2 (by omega) (by omega) (by omega)
theorem tl4 {own : Nat → Nat} {B K : Nat} {ρ : RS} {μ : MS} {KR : Int32 → Option Int32} (h : InvO own B K ρ μ) : ∀ d k (x : Int32) fuel, k + d = 40 → B ≤ k → d < fuel → FR_X9_rowsThere_13 ρ KR 40 fuel x (nI k) = KR x := by
  obtain ⟨-, ⟨-, -, -, hb⟩, -⟩ := h
  intro d
  induction d with
  | zero =>
    intro k x fuel hk hB hf
    obtain ⟨f1, rfl⟩ : ∃ f, fuel = f + 1 := ⟨fuel - 1, by omega⟩
    have e : k = 40 := by omega
    subst e
    rw [FR_X9_rowsThere_13, if_pos (show (40 : Int32) ≤ nI 40 by decide)]
  | succ d ih =>
    intro k x fuel hk hB hf
    obtain ⟨f1, rfl⟩ : ∃ f, fuel = f + 1 := ⟨fuel - 1, by omega⟩
    rw [FR_X9_rowsThere_13, if_neg (show ¬ (40 : Int32) ≤ nI k from nI_ge (b := 40) (by omega) (by decide)), gd_t (inb_nI (show k < 40 by omega) (by decide)), nI_clamp (show k < 2 ^ 31 by omega)]
    rcases hb k (by omega) with ⟨h1, -⟩ | ⟨h1, -⟩
    · rw [h1, ocn, nI_1]
      exact ih (k + 1) x f1 (by omega) (by omega) (by omega)
    · omega
theorem cnt4 {own : Nat → Nat} {B K : Nat} {ρ : RS} {μ : MS} (h : InvO own B K ρ μ) {KR KM : Int32 → Option Int32} (hK : ∀ x, ∃ q, KR x = some q ∧ KM x = some q) : ∀ d k (x : Int32) fuel fuel', k + d = B → 40 - k < fuel → d < fuel' → ∃ q, FR_X9_rowsThere_13 ρ KR 40 fuel x (nI k) = some q ∧ FM_count_157 μ KM fuel' x (nI k) = some q := by
  obtain ⟨-, ⟨hB, -, hB2, hb⟩, -⟩ := id h
  intro d
  induction d with
  | zero =>
    intro k x fuel fuel' hk hf hf'
    obtain ⟨f2, rfl⟩ : ∃ f, fuel' = f + 1 := ⟨fuel' - 1, by omega⟩
    rw [tl4 h (40 - k) k x fuel (by omega) (by omega) hf, FM_count_157, hB2, if_pos (nI_le (by omega) (by omega))]
    exact hK x
  | succ d ih =>
    intro k x fuel fuel' hk hf hf'
    obtain ⟨f1, rfl⟩ : ∃ f, fuel = f + 1 := ⟨fuel - 1, by omega⟩
    obtain ⟨f2, rfl⟩ : ∃ f, fuel' = f + 1 := ⟨fuel' - 1, by omega⟩
    have n1 : ¬ nI B ≤ nI k := nI_ge (by omega) (by omega)
    rw [FR_X9_rowsThere_13, FM_count_157, hB2, if_neg (show ¬ (40 : Int32) ≤ nI k from nI_ge (b := 40) (by omega) (by decide)), if_neg n1]
    unfold FM_count_185
    simp only [inb_nI (show k < 40 by omega) (show 40 < 2 ^ 31 by decide), gdt, nI_clamp (show k < 2 ^ 31 by omega), nI_1, i_a0]
    rcases hb k (by omega) with ⟨h1, h2⟩ | ⟨-, c, n, h1, h2, h3, ⟨g1, -, -, -, -, -, -, -, r2, g2, -, g3, g4, -⟩⟩
    · rw [h1, ocn, if_pos (h2 (by omega))]
      exact ih (k + 1) x f1 f2 (by omega) (by omega) (by omega)
    · rw [h1, ocs, if_neg (show ¬ μ.2 1 k = 0 by rw [h2]; decide), g1, gdt, g2, sb, g3, gdt, g4, h3]
      exact ih (k + 1) (x + nI n) f1 f2 (by omega) (by omega) (by omega)
theorem st_count {ρ : RS} {μ : MS} (h : Inv ρ μ) (p1 : Int32) : ∃ q, FR_X9_count ρ p1 = some q ∧ FM_count μ p1 = some q := by
  obtain ⟨own, B, K, h⟩ := h
  have hf := fu_pos
  have hB := h.2.1.1
  have hK := h.2.2.1.1
  unfold FR_X9_count FM_count
  by_cases c0 : p1 = 0
  · simp only [if_pos c0]
    obtain ⟨q, e1, e2⟩ := cnt0 h B 0 0 fu fu (by omega) (by omega) (by omega)
    exact ⟨q, by unfold FR_X9_boltsThere; rw [show (0 : Int32) = nI 0 from rfl] at e1 ⊢; rw [e1]; rfl, e2⟩
  simp only [if_neg c0]
  by_cases c1 : p1 = 1
  · simp only [if_pos c1]
    obtain ⟨q, e1, e2⟩ := cnt1 h K 0 0 fu fu (by omega) (by omega) (by omega)
    exact ⟨q, by unfold FR_X9_robesThere; rw [show (0 : Int32) = nI 0 from rfl] at e1 ⊢; rw [e1]; rfl, e2⟩
  simp only [if_neg c1]
  by_cases c2 : p1 = 2
  · simp only [if_pos c2]
    obtain ⟨q, e1, e2⟩ := cnt2 h K 0 0 fu fu (by omega) (by omega) (by omega)
    exact ⟨q, by unfold FR_X9_robesLent; rw [show (0 : Int32) = nI 0 from rfl] at e1 ⊢; rw [e1]; rfl, e2⟩
  simp only [if_neg c2]
  by_cases c3 : p1 = 3
  · simp only [if_pos c3]
    obtain ⟨q, e1, e2⟩ := cnt4 h (KR := fun x1_45 => FR_X9_rowsThere_45 ρ x1_45) (KM := fun x2_193 => FM_count_193 μ x2_193) (fun x => cnt3 h K 0 x fu fu (by omega) (by omega) (by omega)) B 0 0 fu fu (by omega) (by omega) (by omega)
    exact ⟨q, by unfold FR_X9_rowsThere; rw [show (0 : Int32) = nI 0 from rfl] at e1 ⊢; rw [e1]; rfl, e2⟩
  simp only [if_neg c3]
  by_cases c4 : p1 = 4
  · simp only [if_pos c4]
    obtain ⟨T, -, t1, t2, -⟩ := h.1
    exact ⟨_, by rw [t1], by rw [t2]⟩
  simp only [if_neg c4]
  by_cases c5 : p1 = 5
  · simp only [if_pos c5]
    exact ⟨_, by rw [h.2.1.2.1], by rw [h.2.1.2.2.1]⟩
  simp only [if_neg c5]
  exact ⟨_, rfl, rfl⟩
/-- whether one of the people has a robe, as the reference looks for it -/
theorem has_c {own : Nat → Nat} {B K : Nat} {ρ : RS} {μ : MS} (h : InvO own B K ρ μ) (p : Nat) : ∀ d k fuel, k + d = K → d < fuel → (FM_hasSome_2 μ (nI p) fuel (nI k) = some 1 ∧ ∃ j, held μ K j p) ∨ (FM_hasSome_2 μ (nI p) fuel (nI k) = some 0 ∧ ∀ j, k ≤ j → ¬ held μ K j p) := by
  obtain ⟨-, -, ⟨hB, hB1, hB2, hb⟩, -⟩ := h
  intro d
  induction d with
  | zero =>
    intro k fuel hk hf
    obtain ⟨f1, rfl⟩ : ∃ f, fuel = f + 1 := ⟨fuel - 1, by omega⟩
    rw [FM_hasSome_2, hB2, if_pos (nI_le (by omega) (by omega))]
    exact Or.inr ⟨rfl, fun j hj hh => absurd hh.1 (by omega)⟩
  | succ d ih =>
    intro k fuel hk hf
    obtain ⟨f1, rfl⟩ : ∃ f, fuel = f + 1 := ⟨fuel - 1, by omega⟩
    have n1 : ¬ nI K ≤ nI k := nI_ge (by omega) (by omega)
    rw [FM_hasSome_2, hB2, if_neg n1]
    simp only [inb_nI (show k < 30 by omega) (show 30 < 2 ^ 31 by decide), gdt, nI_clamp (show k < 2 ^ 31 by omega), nI_1]
    have nx := ih (k + 1) f1 (by omega) (by omega)
    have mk : (∀ j, k + 1 ≤ j → ¬ held μ K j p) → ¬ held μ K k p → ∀ j, k ≤ j → ¬ held μ K j p := fun a1 a2 j hj => by
      by_cases e : j = k
      · rw [e]; exact a2
      · exact a1 j (by omega)
    rcases hb k (by omega) with ⟨h1, h2⟩ | ⟨-, a, c, e, b, sl, f, l, ⟨h1, h3, -, h2, -⟩, -⟩
    · have h9 := h2.1 (by omega)
      rw [if_pos h9]
      rcases nx with nx | nx
      · exact Or.inl nx
      · exact Or.inr ⟨nx.1, mk nx.2 (fun hh => absurd (hh.2.1.symm.trans h9) (by decide))⟩
    · rw [if_neg (show ¬ μ.2 7 k = 0 by rw [h2]; decide)]
      by_cases c1 : μ.2 20 k = nI p
      · rw [if_pos c1]
        exact Or.inl ⟨rfl, k, by omega, h2, c1⟩
      · rw [if_neg c1]
        rcases nx with nx | nx
        · exact Or.inl nx
        · exact Or.inr ⟨nx.1, mk nx.2 (fun hh => c1 hh.2.2)⟩
theorem has_p {own : Nat → Nat} {B K : Nat} {ρ : RS} {μ : MS} (h : InvO own B K ρ μ) {p pa : Nat} (hp : PersV own ρ μ K p pa) : (pI ρ pa 3 = 1 ∧ FM_hasSome μ (nI p) = some 1 ∧ ∃ j, held μ K j p) ∨ (pI ρ pa 3 = 0 ∧ FM_hasSome μ (nI p) = some 0 ∧ ∀ j, ¬ held μ K j p) := by
  have hK := h.2.2.1.1
  have hf := fu_pos
  have := has_c h p K 0 fu (by omega) (by omega)
  unfold FM_hasSome
  rcases hp.2.2 with ⟨h1, j, h2⟩ | ⟨h1, h2⟩
  · rcases this with ⟨h3, h4⟩ | ⟨h3, h4⟩
    · exact Or.inl ⟨h1, h3, h4⟩
    · exact absurd h2 (h4 j (Nat.zero_le _))
  · rcases this with ⟨h3, j, h4⟩ | ⟨h3, h4⟩
    · exact absurd h4 (h2 j)
    · exact Or.inr ⟨h1, h3, h2⟩
/-- one robe's holder rewritten -/
theorem InvR.hold {own : Nat → Nat} {ρ : RS} {μ : MS} {K : Nat} (h : InvR own ρ μ K) {i a c e b sl f l : Nat} (hi : i < K) (hr : RobeL own ρ μ i a c e b sl f l) (v : Int32) (hv : v = -1 ∨ ∃ p, p < 10 ∧ v = nI p) : InvR own (wi ρ a 4 v) (sa μ 20 (nI i) v) K := by
  have hK := h.1
  obtain ⟨⟨r1, r2, r3, r4, r5⟩, r6, r7, r8, r9, ⟨q1, q2⟩, ⟨u1, u2⟩⟩ := hr
  have hs : ∀ s, s ≠ 100 + i → ag ρ (wi ρ a 4 v) own own s := fun s hs => ag_wi (by rw [r3]; exact hs)
  refine h.up K h.1 h.2.1 h.2.2.1 i ?_ (fun j hj hji => ⟨rfl, Iff.rfl, ⟨hs _ (by omega), hs _ (by omega), hs _ (by omega), hs _ (by omega), hs _ (by omega), hs _ (by omega)⟩, ⟨rfl, rfl, rfl, rfl, rfl, rfl, rfl⟩, ⟨rfl, rfl, rfl, rfl, ?_⟩, fun _ _ => rfl, fun _ _ => rfl⟩)
  · have e9 : (sa μ 20 (nI i) v).2 20 i = v := by rw [s2_sa_s, nI_clamp (by omega), upd_s]
    refine Or.inr ⟨hi, a, c, e, b, sl, f, l, ⟨r1, r2, r3, r4, r5⟩, r6, ⟨r7.1, r7.2.fr (hs _ (by omega)) (hs _ (by omega)) (fun _ _ => rfl)⟩, ⟨r8.1, r8.2.fr (hs _ (by omega))⟩, ?_, ⟨?_, q2⟩, ⟨?_, ?_⟩⟩
    · rcases r9 with r9 | ⟨l1, d, l2, l3⟩
      · exact Or.inl r9
      · exact Or.inr ⟨l1, d, l2, l3.fr (hs _ (by omega)) (hs _ (by omega)) (fun _ _ => rfl)⟩
    · rw [qpI_wi]
      simp
      exact q1
    · rw [e9, qpI_wi]; simp
    · rw [e9]; exact hv
  · rw [s2_sa_s, nI_clamp (by omega), upd_n hji]
theorem held_sa {μ : MS} {K i j p : Nat} {v : Int32} (hi : i < 30) : held (sa μ 20 (nI i) v) K j p ↔ (j < K ∧ μ.2 7 j = 1 ∧ (if j = i then v else μ.2 20 j) = nI p) := by
  unfold held
  rw [s2_sa_n (show 7 ≠ 20 by decide), s2_sa_s, nI_clamp (by omega)]
  rfl
theorem st_lend {ρ : RS} {μ : MS} (h : Inv ρ μ) (p1 : Int32) (p2 : Int32) (p3 : Int32) : ∃ q ρ' μ', FR_X9_lend ρ p1 p2 p3 = some (q, ρ') ∧ FM_lend μ p1 p2 p3 = some (q, μ') ∧ Inv ρ' μ' := by
  obtain ⟨own, B, K, h⟩ := h
  unfold FR_X9_lend FM_lend FM_cannot
  rcases robe_c h p1 with ⟨e1, e2⟩ | ⟨i, a, c, e, b, sl, f, l, hi, hi2, rfl, hr, e1, e2⟩
  · rcases pers_c h p2 with ⟨e3, e4⟩ | ⟨p, pa, hp, rfl, hpa, ht, e3, e4⟩
    · simp only [e1, e2, e3, sb, ocn, im1, ↓reduceIte]
      exact ⟨_, _, _, rfl, rfl, own, B, K, h⟩
    · simp only [e1, e2, e3, sb, ocn, im1, ↓reduceIte]
      exact ⟨_, _, _, rfl, rfl, own, B, K, h⟩
  · rcases pers_c h p2 with ⟨e3, e4⟩ | ⟨p, pa, hp, rfl, hpa, ht, e3, e4⟩
    · simp only [e1, e2, e3, e4, sb, ocs, ocn, i10, im1, ↓reduceIte]
      exact ⟨_, _, _, rfl, rfl, own, B, K, h⟩
    · simp only [e1, e2, e3, e4, sb, ocs, i10, ↓reduceIte]
      by_cases hw : (0 : Int32) ≤ p3 ∧ p3 ≤ 3
      · simp only [w_in hw, m_in hw, sb, i10, ↓reduceIte, hr.1.2.1, gdt, inb_nI hi2 (show 30 < 2 ^ 31 by decide), nI_clamp (show i < 2 ^ 31 by omega)]
        rcases hand_c hr with ⟨x1, x2⟩ | ⟨k, hk, x1, x2, x3⟩
        · simp only [x1, sb, ↓reduceIte]
          rcases x2 with x2 | ⟨x2, x3⟩
          · simp only [if_pos x2, sb, im3, ↓reduceIte]
            exact ⟨_, _, _, rfl, rfl, own, B, K, h⟩
          · simp only [if_neg x2, if_neg x3, sb, im3, ↓reduceIte]
            exact ⟨_, _, _, rfl, rfl, own, B, K, h⟩
        · have n1 : ¬ μ.2 19 i = -1 := by rw [x1]; exact z_m1 (by omega)
          obtain ⟨v, G, hv, y1, y2⟩ := canW h hi2 hr hp hpa ht hk x1 p3
          have hpa3 : isK ρ pa 3 = true := hpa.1.2.1
          rcases has_p h hpa with ⟨t1, t2, -⟩ | ⟨t1, t2, t3⟩
          · simp only [x3, sb, i10, if_neg n1, if_pos x2, t1, t2, hpa3, gdt, ↓reduceIte]
            exact ⟨_, _, _, rfl, rfl, own, B, K, h⟩
          · simp only [x3, sb, i10, if_neg n1, if_pos x2, t1, t2, y1, y2, hpa3, gdt, ↓reduceIte]
            rcases hv with rfl | rfl
            · simp only [↓reduceIte]
              exact ⟨_, _, _, rfl, rfl, own, B, K, rc_inv h (by decide) (by decide) G⟩
            · have k1 : isK (rc ρ 916 G) a 4 = true := hr.1.2.1
              have k2 : isK (wi (rc ρ 916 G) a 4 (nI p)) pa 3 = true := hpa3
              simp only [i10, ↓reduceIte, k1, k2, gdt]
              refine ⟨_, _, _, rfl, rfl, ?_⟩
              have h := rc_inv h (k := 916) (by decide) (by decide) G
              have hr : RobeL own (rc ρ 916 G) μ i a c e b sl f l := hr
              have hpa : PersV own (rc ρ 916 G) μ K p pa := hpa
              generalize rc ρ 916 G = ρ at h hr hpa
              obtain ⟨hT, hB, hR, hP, hC, hM, hS⟩ := h
              have hs1 : ∀ s, s ≠ 100 + i → ag ρ (wi ρ a 4 (nI p)) own own s := fun s hs => ag_wi (by rw [hr.1.2.2.1]; exact hs)
              have hs2 : ∀ s, s ≠ 520 + p → ag (wi ρ a 4 (nI p)) (wi (wi ρ a 4 (nI p)) pa 3 1) own own s := fun s hs => ag_wi (by rw [hpa.1.2.2]; exact hs)
              have hs : ∀ s, s ≠ 100 + i → s ≠ 520 + p → ag ρ (wi (wi ρ a 4 (nI p)) pa 3 1) own own s := fun s h1 h2 => (hs1 s h1).trans (hs2 s h2)
              have hR1 := hR.hold hi hr (nI p) (Or.inr ⟨p, hp, rfl⟩)
              refine ⟨own, B, K, hT.fr rfl rfl rfl rfl, hB.fr rfl rfl (fun s _ => hs s (by omega) (by omega)) rfl rfl rfl rfl rfl rfl, hR1.fr rfl rfl (fun s _ _ => hs2 s (by omega)) rfl (fun k _ _ => rfl), ⟨fun p' hp' => ?_, fun p' j j' hp' g1 g2 => ?_⟩, hC.fr rfl (fun s _ _ => hs s (by omega) (by omega)) rfl rfl, hM.fr rfl (hs _ (by omega) (by omega)) rfl rfl rfl, hS.fr rfl rfl rfl rfl rfl rfl rfl rfl rfl rfl⟩
              · by_cases hpp : p' = p
                · subst hpp
                  obtain ⟨⟨z1, z2, z3⟩, z4, -⟩ := hpa
                  have ia : ∀ t, t ≠ 3 → pI (wi (wi ρ a 4 (nI p')) pa 3 1) pa t = pI ρ pa t := fun t ht3 => by
                    have hne : pa ≠ a := fun e => by rw [e, hr.1.2.2.1] at z3; omega
                    rw [qpI_wi, if_neg ht3, qpI_wi]
                    simp [hne]
                  refine ⟨pa, ⟨z1, z2, z3⟩, ?_, Or.inl ⟨by rw [qpI_wi]; simp, i, ?_⟩⟩
                  · rw [ia 0 (by decide), ia 1 (by decide), ia 2 (by decide)]
                    exact z4
                  · rw [held_sa hi2, if_pos rfl]
                    exact ⟨hi, hr.1.2.2.2.1, rfl⟩
                · obtain ⟨a', ha'⟩ := hP.1 p' hp'
                  refine ⟨a', ha'.fr rfl (hs _ (by omega) (by omega)) rfl rfl (fun j => ?_)⟩
                  rw [held_sa hi2]
                  unfold held
                  by_cases hji : j = i
                  · rw [if_pos hji, hji, x2]
                    exact ⟨fun g => absurd ((nI_eq (by omega) (by omega)).mp g.2.2) (fun e => hpp e.symm), fun g => absurd g.2.2 (z_m1' (by omega))⟩
                  · rw [if_neg hji]
              · rw [held_sa hi2] at g1 g2
                by_cases hpp : p' = p
                · subst hpp
                  have fin : ∀ j, (j < K ∧ μ.2 7 j = 1 ∧ (if j = i then nI p' else μ.2 20 j) = nI p') → j = i := fun j g => by
                    by_cases hji : j = i
                    · exact hji
                    · rw [if_neg hji] at g
                      exact absurd g (t3 j)
                  rw [fin j g1, fin j' g2]
                · have fin : ∀ j, (j < K ∧ μ.2 7 j = 1 ∧ (if j = i then nI p else μ.2 20 j) = nI p') → held μ K j p' := fun j g => by
                    by_cases hji : j = i
                    · rw [if_pos hji] at g
                      exact absurd ((nI_eq (by omega) (by omega)).mp g.2.2) (fun e => hpp e.symm)
                    · rw [if_neg hji] at g
                      exact g
                  exact hP.2 p' j j' hp' (fin j g1) (fin j' g2)
      · simp only [w_out hw, m_out hw, sb, im2, ↓reduceIte]
        exact ⟨_, _, _, rfl, rfl, own, B, K, h⟩
