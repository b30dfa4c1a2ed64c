theorem mc_cm (μ : MS) {j k : Nat} (h : j ≠ k) (g g' : Nat → Int32) : mc (mc μ j g) k g' = mc (mc μ k g') j g := by
  unfold mc va_up
  refine Prod.ext rfl ?_
  funext i
  show (if i = k then g' else if i = j then g else μ.2 i) = if i = j then g else if i = k then g' else μ.2 i
  by_cases c1 : i = k
  · rw [if_pos c1, if_neg (by omega), if_pos c1]
  · rw [if_neg c1]
    by_cases c2 : i = j
    · rw [if_pos c2, if_pos c2]
    · rw [if_neg c2, if_neg c2, if_neg c1]
theorem bz_m (μ : MS) (R D : Nat → Int32) (v w : Int32) : bz μ R D v w = mc (mc (si (si μ 36 v) 37 w) 34 R) 35 D := by
  unfold bz
  rw [mc_cm (si (si μ 36 v) 37 w) (show 34 ≠ 35 by decide)]
  rfl
theorem si_sf (μ : MS) (k : Nat) : si μ k (μ.1 k) = μ := by
  unfold si
  refine Prod.ext ?_ rfl
  funext j
  show va_up μ.1 k (μ.1 k) j = μ.1 j
  unfold va_up
  by_cases c : j = k
  · rw [if_pos c, c]
  · rw [if_neg c]
theorem bz_0 (μ : MS) (D : Nat → Int32) : mc μ 35 D = bz μ (μ.2 34) D (μ.1 36) (μ.1 37) := by
  rw [bz_m]
  have e1 : si (si μ 36 (μ.1 36)) 37 (μ.1 37) = μ := by rw [si_sf, si_sf]
  rw [e1, mc_self]
theorem b72 {μ : MS} {t n b sl f l thr fo : Nat} {x : Nat → Nat} {ow : Bool} (h : MB2 μ t n b sl f l thr fo x) (hway : μ.2 4 t = if ow = true then 1 else 0) : ∀ g ls fuel S R D v w, gdA g ls = true → g < fuel → DL D ls → mV S v w → ∃ R' D' v' w', FM_best_72 (nI t) fuel (mI S) 1 (bz μ R D v w) = some (mI ((seqn g ls).foldl (stp (EO thr fo b sl f l x ow) (TO thr b sl f l x ow)) S), bz μ R' D' v' w') ∧ mV ((seqn g ls).foldl (stp (EO thr fo b sl f l x ow) (TO thr b sl f l x ow)) S) v' w' := by
  have hfu := fu_pos
  intro g
  induction g with
  | zero => intro ls fuel S R D v w hg; cases hg
  | succ g ih =>
    intro ls fuel S R D v w hg hf hD hV
    obtain ⟨f1, rfl⟩ : ∃ f, fuel = f + 1 := ⟨fuel - 1, by omega⟩
    obtain ⟨f2, rfl⟩ : ∃ f, f1 = f + 1 := ⟨f1 - 1, by omega⟩
    unfold gdA at hg
    rw [Bool.and_eq_true] at hg
    obtain ⟨g1, g2, g3, g4, g5⟩ := gdL_e hg.1
    obtain ⟨R1, v1, w1, z1, z2⟩ := b80 (S0 := S) (K := fun x3_181 σ_181 => FM_best_181 (fun x3_72 x4_72 σ_72 => FM_best_72 (nI t) (f2 + 1) x3_72 x4_72 σ_72) (nI t) x3_181 σ_181) h hway (o := cdL ls) (D := D) (fun k hk => by rw [g4 k hk]; exact hD.2 k hk) g2 g3 7 0 fu S R v w (by omega) (by omega) hV (Or.inl ⟨rfl, fun tw _ hd => by
      rcases hd with z | z
      · exact absurd z (Nat.not_lt_zero _)
      · exact absurd z.2 (Nat.not_lt_zero _)⟩)
    rw [FM_best_72, if_neg (show ¬ (1 : Int32) = 0 by decide), show (0 : Int32) = nI 0 from rfl, z1]
    unfold FM_best_181 seqn
    rw [List.foldl_cons, bz_m]
    rcases turns_e (σ := mc (si (si μ 36 v1) 37 w1) 34 R1) hD hg.1 with ⟨y1, y2⟩ | ⟨l2, D2, y1, y2, y3⟩
    · rw [y1, y2, sb]
      refine ⟨R1, D, v1, w1, ?_, z2⟩
      dsimp only
      rw [FM_best_72, if_pos rfl, ← bz_m]
      rfl
    · rw [y1, y2, sb]
      rw [y1] at hg
      dsimp only
      rw [← bz_m]
      exact ih l2 (f2 + 1) _ R1 D2 v1 w1 hg.2 (by omega) y3 z2
theorem b47 {σ : MS} {x1 x3 : Int32} {K : MS → Option (Int32 × MS)} : ∀ d i fuel D, i + d = 6 → d < fuel → (∀ j, j < i → D j = nI j) → ∃ D', FM_best_47 K x1 x3 fuel (nI i) (mc σ 35 D) = K (mc σ 35 D') ∧ ∀ j, j < 6 → D' j = nI j := by
  intro d
  induction d with
  | zero =>
    intro i fuel D hi hf hD
    obtain ⟨f1, rfl⟩ : ∃ f, fuel = f + 1 := ⟨fuel - 1, by omega⟩
    have e : i = 6 := by omega
    subst e
    exact ⟨D, by rw [FM_best_47, if_pos (show (6 : Int32) ≤ nI 6 by decide)], hD⟩
  | succ d ih =>
    intro i fuel D hi hf hD
    obtain ⟨f1, rfl⟩ : ∃ f, fuel = f + 1 := ⟨fuel - 1, by omega⟩
    obtain ⟨D', z1, z2⟩ := ih (i + 1) f1 (upd D i (nI i)) (by omega) (by omega) (fun j hj => by
      by_cases c : j = i
      · subst c; rw [upd_s]
      · rw [upd_n c]; exact hD j (by omega))
    refine ⟨D', ?_, z2⟩
    rw [FM_best_47, if_neg (show ¬ (6 : Int32) ≤ nI i from nI_ge (b := 6) (by omega) (by decide)), gd_t (inb_nI (show i < 6 by omega) (by decide)), nI_1, sa_mc, mc_mc, nI_clamp (by omega), m2_mc, if_pos rfl]
    exact z1
theorem best_M {μ : MS} {t n b sl f l thr fo : Nat} {x : Nat → Nat} {ow : Bool} (ht : t < 40) (hn2 : n ≤ 120) (hn : 2 * b + 2 * sl + f + l = n) (ho : okl b sl f l) (hx : ∀ j, j < n → okr (x j) ∧ μ.2 5 (120 * t + j) = nI (x j)) (h24 : μ.1 24 = nI thr) (h25 : μ.1 25 = nI fo) (hthr : thr ≤ 9) (hfo : fo ≤ 9) (hway : μ.2 4 t = if ow = true then 1 else 0) (hth : FM_isThere μ (nI t) = some 1) (hsl : FM_sleeveOf μ (nI t) = some (nI sl)) (h21 : μ.1 21 = nI b) (h22 : μ.1 22 = nI f) (h23 : μ.1 23 = nI l) : ∃ μ', FM_best μ (nI t) = some (mI ((enum 6 0 0).foldl (stp (EO thr fo b sl f l x ow) (TO thr b sl f l x ow)) none), μ') ∧ (∀ k, k ≠ 36 → k ≠ 37 → μ'.1 k = μ.1 k) ∧ (∀ k, (k < 32 ∨ k = 43) → μ'.2 k = μ.2 k) ∧ mV ((enum 6 0 0).foldl (stp (EO thr fo b sl f l x ow) (TO thr b sl f l x ow)) none) (μ'.1 36) (μ'.1 37) := by
  have hfu := fu_pos
  obtain ⟨L, Fr, x1, x2, x3⟩ := lengths_e μ b sl f l
  have hk : ∀ k, k ≠ 32 → k ≠ 33 → (mc (mc μ 32 L) 33 Fr).2 k = μ.2 k := fun k h1 h2 => by rw [m2_mc, if_neg h2, m2_mc, if_neg h1]
  have q32 : (mc (mc μ 32 L) 33 Fr).2 32 = L := by rw [m2_mc, if_neg (by decide), m2_mc, if_pos rfl]
  have q33 : (mc (mc μ 32 L) 33 Fr).2 33 = Fr := by rw [m2_mc, if_pos rfl]
  have q1 : (mc (mc μ 32 L) 33 Fr).1 = μ.1 := rfl
  generalize mc (mc μ 32 L) 33 Fr = σ at x3 hk q32 q33 q1
  have hB : MB2 σ t n b sl f l thr fo x := ⟨ht, hn2, hn, ho, fun p hp => by rw [q32]; exact x1 p hp, fun p hp => by rw [q33]; exact x2 p hp, fun j hj => by rw [hk 5 (by decide) (by decide)]; exact hx j hj, by rw [q1]; exact h24, by rw [q1]; exact h25, hthr, hfo⟩
  obtain ⟨D, d1, d2⟩ := b47 (σ := σ) (x1 := nI t) (x3 := -1) (K := fun σ_69 => FM_best_69 (nI t) (-1) σ_69) 6 0 fu (σ.2 35) (by omega) (by omega) (fun j hj => absurd hj (Nat.not_lt_zero j))
  rw [mc_self] at d1
  have hDL : DL D [0, 1, 2, 3, 4, 5] := ⟨rfl, fun j hj => by
    rw [d2 j hj]
    rcases (show j = 0 ∨ j = 1 ∨ j = 2 ∨ j = 3 ∨ j = 4 ∨ j = 5 by omega) with rfl | rfl | rfl | rfl | rfl | rfl <;> rfl⟩
  obtain ⟨R', D', v', w', z1, z2⟩ := b72 hB (by rw [hk 4 (by decide) (by decide)]; exact hway) 720 [0, 1, 2, 3, 4, 5] fu none (σ.2 34) D (σ.1 36) (σ.1 37) gd_all (by omega) hDL (fun q z => by cases z)
  rw [seq_en] at z1 z2
  have hsl3 : ¬ nI sl = (-3 : Int32) := by
    intro z
    have hs := ho
    obtain ⟨-, -, -, -, -, -, -, hs8⟩ := hs
    have z1 := congrArg Int32.toInt z
    rw [nI_toInt (by omega), show (-3 : Int32).toInt = -3 from by decide] at z1
    omega
  refine ⟨bz σ R' D' v' w', ?_, fun k a b => by rw [bz_1 a b, q1], fun k hk2 => by rw [bz_2 (by omega) (by omega), hk k (by omega) (by omega)], ?_⟩
  · unfold FM_best
    rw [hth, sb, if_neg (show ¬ (1 : Int32) = 0 by decide), hsl, sb, if_neg hsl3, h21, h22, h23, x3, sb]
    refine Eq.trans d1 ?_
    unfold FM_best_69
    rw [bz_0]
    exact z1
  · have e36 : (bz σ R' D' v' w').1 36 = v' := by
      show (si (si (mc σ 35 D') 36 v') 37 w').1 36 = _
      rw [s1_si_n (by decide), s1_si_s]
    have e37 : (bz σ R' D' v' w').1 37 = w' := by
      show (si (si (mc σ 35 D') 36 v') 37 w').1 37 = _
      rw [s1_si_s]
    rw [e36, e37]
    exact z2
