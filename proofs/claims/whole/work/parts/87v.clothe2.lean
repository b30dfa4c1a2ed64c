theorem wearT {own : Nat → Nat} {B K pa : Nat} {ρ : RS} {μ : MS} {s : Int32} (h : InvO own B K ρ μ) : ∀ d i fuel x G, i + d = 30 → K ≤ i → d < fuel → FR_X9_wearableFor_21 pa s fuel x (nI i) (rc ρ 916 G) = some (x, rc ρ 916 G) := by
  obtain ⟨-, -, ⟨-, -, -, hb⟩, -⟩ := h
  intro d
  induction d with
  | zero =>
    intro i fuel x G hi hK hf
    obtain ⟨f1, rfl⟩ : ∃ f, fuel = f + 1 := ⟨fuel - 1, by omega⟩
    have e : i = 30 := by omega
    subst e
    rw [FR_X9_wearableFor_21, if_pos (show (30 : Int32) ≤ nI 30 by decide)]
  | succ d ih =>
    intro i fuel x G hi hK hf
    obtain ⟨f1, rfl⟩ : ∃ f, fuel = f + 1 := ⟨fuel - 1, by omega⟩
    rw [FR_X9_wearableFor_21, if_neg (show ¬ (30 : Int32) ≤ nI i from nI_ge (b := 30) (by omega) (by decide)), gd_t (inb_nI (show i < 30 by omega) (by decide)), nI_clamp (show i < 2 ^ 31 by omega)]
    rcases hb i (by omega) with ⟨h1, -⟩ | ⟨h1, -⟩
    · rw [show rQ (rc ρ 916 G) 904 i = none from h1, ocn, nI_1]
      exact ih (i + 1) f1 x G (by omega) (by omega) (by omega)
    · omega
theorem wear21 {own : Nat → Nat} {B K p pa : Nat} {ρ : RS} {μ : MS} {s : Int32} {KK : MS → Option (Int32 × MS)} (h : InvO own B K ρ μ) (hp : p < 10) (hpa : PersV own ρ μ K p pa) (ht : pI ρ pa 0 = 1) (hh : pI ρ pa 3 = 0) : ∀ d i fuel fuel' x G W, i + d = K → 30 - i < fuel → d < fuel' → W p = x → (∀ r, i ≤ r → r < 30 → bI x r = false) → ∃ x' G' W', FR_X9_wearableFor_21 pa s fuel x (nI i) (rc ρ 916 G) = some (x', rc ρ 916 G') ∧ FM_clothe_29 KK s (nI p) fuel' (nI i) (mc μ 41 W) = KK (mc μ 41 W') ∧ W' p = x' ∧ (∀ q, q ≠ p → W' q = W q) ∧ ∀ r, K ≤ r → r < 30 → bI x' r = false := by
  have hK30 := h.2.2.1.1
  have eM : ∀ W, (mc μ 41 W).1 6 = nI K := fun W => h.2.2.1.2.2.1
  have hI : ∀ G W, InvO own B K (rc ρ 916 G) (mc μ 41 W) := fun G W => rck_inv (mc_inv h (by decide) (by decide) W) (by decide) (by decide) G
  have eT : ∀ W, FM_isTold (mc μ 41 W) (nI p) = some 1 := fun W => by
    unfold FM_isTold
    rw [show FM_in (nI p) 0 9 = some 1 from m_in ⟨nI_le (a := 0) (Nat.zero_le _) (by omega), nI_le (b := 9) (by omega) (by decide)⟩, sb, if_neg (show ¬ (1 : Int32) = 0 by decide), gd_t (inb_nI hp (by decide)), nI_clamp (by omega)]
    rcases hpa.2.1 with ⟨z, -⟩ | ⟨-, g, k, g1, k1, z, -⟩
    · rw [ht] at z
      exact absurd z (by decide)
    · rw [show (mc μ 41 W).2 26 p = nI g from z, if_neg (z_m1 (by omega))]
  have eH : ∀ W, FM_hasSome (mc μ 41 W) (nI p) = some 0 := fun W => by
    rcases has_p (mc_inv h (by decide) (by decide) W) (show PersV own ρ (mc μ 41 W) K p pa from hpa) with ⟨z, -⟩ | ⟨-, z, -⟩
    · rw [hh] at z
      exact absurd z (by decide)
    · exact z
  intro d
  induction d with
  | zero =>
    intro i fuel fuel' x G W hi hf hf' hW hx
    obtain ⟨f2, rfl⟩ : ∃ f, fuel' = f + 1 := ⟨fuel' - 1, by omega⟩
    have e : i = K := by omega
    subst e
    exact ⟨x, G, W, wearT h (30 - i) i fuel x G (by omega) (Nat.le_refl _) hf, by rw [FM_clothe_29, eM, if_pos (nI_le (Nat.le_refl _) (by omega))], hW, fun _ _ => rfl, hx⟩
  | succ d ih =>
    intro i fuel fuel' x G W hi hf hf' hW hx
    obtain ⟨f1, rfl⟩ : ∃ f, fuel = f + 1 := ⟨fuel - 1, by omega⟩
    obtain ⟨f2, rfl⟩ : ∃ f, fuel' = f + 1 := ⟨fuel' - 1, by omega⟩
    have hi30 : i < 30 := by omega
    have g30 := inb_nI hi30 (show 30 < 2 ^ 31 by decide)
    have ci := nI_clamp (show i < 2 ^ 31 by omega)
    have gp := inb_nI hp (show 10 < 2 ^ 31 by decide)
    have cp := nI_clamp (show p < 2 ^ 31 by omega)
    have e41 : (mc μ 41 W).2 41 p = x := by rw [m2_mc, if_pos rfl]; exact hW
    have sk : ∀ y, FM_clothe_106 (fun x3_29 σ_29 => FM_clothe_29 KK s (nI p) f2 x3_29 σ_29) s (nI p) (nI i) (nI p) x y (mc μ 41 W) = FM_clothe_29 KK s (nI p) f2 (nI (i + 1)) (mc μ 41 (upd W p (x ||| y))) := fun y => by
      unfold FM_clothe_106
      rw [gp, gdt, nI_1, sa_mc, mc_mc, cp, m2_mc, if_pos rfl]
    have next : ∀ y G1, (∀ r, i + 1 ≤ r → r < 30 → bI (x ||| y) r = false) → ∃ x' G' W', FR_X9_wearableFor_21 pa s f1 (x ||| y) (nI (i + 1)) (rc ρ 916 G1) = some (x', rc ρ 916 G') ∧ FM_clothe_29 KK s (nI p) f2 (nI (i + 1)) (mc μ 41 (upd W p (x ||| y))) = KK (mc μ 41 W') ∧ W' p = x' ∧ (∀ q, q ≠ p → W' q = W q) ∧ ∀ r, K ≤ r → r < 30 → bI x' r = false := fun y G1 hy => by
      obtain ⟨x', G', W', z1, z2, z3, z4, z5⟩ := ih (i + 1) f1 f2 (x ||| y) G1 (upd W p (x ||| y)) (by omega) (by omega) (by omega) (upd_s _ _ _) hy
      exact ⟨x', G', W', z1, z2, z3, fun q hq => (z4 q hq).trans (upd_n hq), z5⟩
    have hx0 : ∀ r, i + 1 ≤ r → r < 30 → bI (x ||| 0) r = false := fun r h1 h2 => by rw [Int32.or_zero]; exact hx r (by omega) h2
    have n0 := fun G1 => next 0 G1 hx0
    simp only [Int32.or_zero] at n0
    have eK1 : ¬ (30 : Int32) ≤ nI i := nI_ge (b := 30) (by omega) (by decide)
    have eM1 : ¬ (mc μ 41 W).1 6 ≤ nI i := by rw [eM]; exact nI_ge (by omega) (by omega)
    rw [FR_X9_wearableFor_21, if_neg eK1, g30, gdt, ci, FM_clothe_29, if_neg eM1, eT, sb, if_neg (show ¬ (1 : Int32) = 0 by decide), eH, sb, if_pos rfl, gp, gdt, g30, gdt, gdt, gdt, ci, cp, e41, nI_1]
    rcases h.2.2.1.2.2.2 i hi30 with hN | ⟨-, a, c, e, b, sl, f, l, hr⟩
    · rw [show rQ (rc ρ 916 G) 904 i = none from hN.1, ocn, show (mc μ 41 W).2 7 i = 0 from hN.2.1 (by omega), if_pos rfl, sk, Int32.or_zero]
      exact n0 G
    · have hr0 := hr
      obtain ⟨⟨r1, r2, r3, r4, r5⟩, -, -, -, -, ⟨q1, q2⟩, u1, u2⟩ := hr
      have ka : isK (rc ρ 916 G) a 4 = true := r2
      have p3 : pI (rc ρ 916 G) a 3 = μ.2 19 i := q1
      have p4 : pI (rc ρ 916 G) a 4 = μ.2 20 i := u1
      have m19 : (mc μ 41 W).2 19 i = μ.2 19 i := rfl
      have m20 : (mc μ 41 W).2 20 i = μ.2 20 i := rfl
      rw [show rQ (rc ρ 916 G) 904 i = some a from r1, ocs, ka, gdt, show (mc μ 41 W).2 7 i = 1 from r4, if_neg (show ¬ (1 : Int32) = 0 by decide), m19, m20]
      unfold FR_X4_isAtHand
      rw [ka, gdt, p3, p4]
      by_cases c19 : μ.2 19 i = -1
      · rw [if_pos c19, if_pos c19, sb, if_pos rfl, sk, Int32.or_zero]
        exact n0 G
      · rw [if_neg c19, if_neg c19]
        by_cases c20 : μ.2 20 i = -1
        · rw [if_pos c20, if_pos c20, sb, if_neg (show ¬ (1 : Int32) = 0 by decide)]
          obtain ⟨k, k1, k2⟩ := q2.resolve_left c19
          obtain ⟨v, G1, v1, v2, v3⟩ := canW (hI G W) hi30 (show RobeL own (rc ρ 916 G) (mc μ 41 W) i a c e b sl f l from hr0) hp (show PersV own (rc ρ 916 G) (mc μ 41 W) K p pa from hpa) ht k1 k2 s
          rw [rc_rc] at v2
          rw [v2, v3, sb, sb]
          dsimp only
          rcases v1 with rfl | rfl
          · rw [if_pos rfl, if_pos rfl, sk, Int32.or_zero]
            exact n0 G1
          · rw [if_neg (show ¬ (1 : Int32) = 0 by decide), if_neg (show ¬ (1 : Int32) = 0 by decide), sk]
            refine next _ G1 (fun r h1 h2 => ?_)
            rw [bI_or hi30, hx r (by omega) h2, decide_eq_false (by omega)]
            rfl
        · rw [if_neg c20, if_neg c20, sb, if_pos rfl, sk, Int32.or_zero]
          exact n0 G
theorem rc_cm (ρ : RS) {j k : Nat} (h : j ≠ k) (g g' : Nat → Int32) : rc (rc ρ j g) k g' = rc (rc ρ k g') j g := by
  unfold rc va_up
  refine Prod.ext rfl (Prod.ext ?_ rfl)
  funext i
  show (if i = k then g' else if i = j then g else ρ.2.1 i) = if i = j then g else if i = k then g' else ρ.2.1 i
  by_cases c1 : i = k
  · rw [if_pos c1, if_neg (by omega), if_pos c1]
  · rw [if_neg c1]
    by_cases c2 : i = j
    · rw [if_pos c2, if_pos c2]
    · rw [if_neg c2, if_neg c2, if_neg c1]
theorem cl14 {own : Nat → Nat} {B K : Nat} {ρ : RS} {μ : MS} {s : Int32} {KR : RS → Option (Int32 × RS)} {KM : MS → Option (Int32 × MS)} (h : InvO own B K ρ μ) : ∀ d k fuel fuel' V G W, k + d = 10 → d < fuel → d < fuel' → (∀ q, q < k → V q = W q ∧ ∀ r, K ≤ r → r < 30 → bI (W q) r = false) → ∃ V' G' W', FR_X9_clothe_14 KR s fuel (nI k) (rc (rc ρ 100 V) 916 G) = KR (rc (rc ρ 100 V') 916 G') ∧ FM_clothe_14 KM s fuel' (nI k) (mc μ 41 W) = KM (mc μ 41 W') ∧ ∀ q, q < 10 → V' q = W' q ∧ ∀ r, K ≤ r → r < 30 → bI (W' q) r = false := by
  have hfu := fu_pos
  have hK30 := h.2.2.1.1
  intro d
  induction d with
  | zero =>
    intro k fuel fuel' V G W hk hf hf' hq
    obtain ⟨f1, rfl⟩ : ∃ f, fuel = f + 1 := ⟨fuel - 1, by omega⟩
    obtain ⟨f2, rfl⟩ : ∃ f, fuel' = f + 1 := ⟨fuel' - 1, by omega⟩
    have e : k = 10 := by omega
    subst e
    exact ⟨V, G, W, by rw [FR_X9_clothe_14, if_pos (show (10 : Int32) ≤ nI 10 by decide)], by rw [FM_clothe_14, if_pos (show (10 : Int32) ≤ nI 10 by decide)], hq⟩
  | succ d ih =>
    intro k fuel fuel' V G W hk hf hf' hq
    obtain ⟨f1, rfl⟩ : ∃ f, fuel = f + 1 := ⟨fuel - 1, by omega⟩
    obtain ⟨f2, rfl⟩ : ∃ f, fuel' = f + 1 := ⟨fuel' - 1, by omega⟩
    have g10 := inb_nI (show k < 10 by omega) (show 10 < 2 ^ 31 by decide)
    have ck := nI_clamp (show k < 2 ^ 31 by omega)
    have hV : InvO own B K (rc ρ 100 V) μ := rck_inv h (by decide) (by decide) V
    obtain ⟨pa, hpa⟩ := hV.2.2.2.1.1 k (by omega)
    have hpa0 := hpa
    obtain ⟨⟨p1, p2, -⟩, hT, hH⟩ := hpa
    have eS : sa (mc μ 41 W) 41 (nI k) 0 = mc μ 41 (upd W k 0) := by rw [sa_mc, mc_mc, ck, m2_mc, if_pos rfl]
    have key : ∀ (KK : MS → Option (Int32 × MS)), ∃ x G1 W1, FR_X9_wearableFor (rc (rc ρ 100 V) 916 G) pa s = some (x, rc (rc ρ 100 V) 916 G1) ∧ FM_clothe_29 KK s (nI k) fu (nI 0) (mc μ 41 (upd W k 0)) = KK (mc μ 41 W1) ∧ W1 k = x ∧ (∀ q, q ≠ k → W1 q = W q) ∧ ∀ r, K ≤ r → r < 30 → bI x r = false := by
      intro KK
      unfold FR_X9_wearableFor
      rw [show isK (rc (rc ρ 100 V) 916 G) pa 3 = true from p2, gdt, show pI (rc (rc ρ 100 V) 916 G) pa 0 = pI (rc ρ 100 V) pa 0 from rfl, show pI (rc (rc ρ 100 V) 916 G) pa 3 = pI (rc ρ 100 V) pa 3 from rfl]
      have e6 : (mc μ 41 (upd W k 0)).1 6 = nI K := h.2.2.1.2.2.1
      have z0 : (FM_isTold (mc μ 41 (upd W k 0)) (nI k) = some 0 ∨ (FM_isTold (mc μ 41 (upd W k 0)) (nI k) = some 1 ∧ FM_hasSome (mc μ 41 (upd W k 0)) (nI k) = some 1)) → FM_clothe_29 KK s (nI k) fu (nI 0) (mc μ 41 (upd W k 0)) = KK (mc μ 41 (upd W k 0)) := fun hz => by
        obtain ⟨g, hg⟩ : ∃ g, fu = g + 1 := ⟨fu - 1, by omega⟩
        rw [hg, FM_clothe_29, e6]
        by_cases cK : K = 0
        · rw [if_pos (by rw [cK]; decide)]
        · rw [if_neg (nI_ge (by omega) (by omega))]
          rcases hz with hz | ⟨hz, hz2⟩
          · rw [hz, sb, if_pos rfl]
          · rw [hz, sb, if_neg (show ¬ (1 : Int32) = 0 by decide), hz2, sb, if_neg (show ¬ (1 : Int32) = 0 by decide)]
      have fin : FM_clothe_29 KK s (nI k) fu (nI 0) (mc μ 41 (upd W k 0)) = KK (mc μ 41 (upd W k 0)) → ∃ x G1 W1, (some ((0 : Int32), rc (rc ρ 100 V) 916 G)) = some (x, rc (rc ρ 100 V) 916 G1) ∧ FM_clothe_29 KK s (nI k) fu (nI 0) (mc μ 41 (upd W k 0)) = KK (mc μ 41 W1) ∧ W1 k = x ∧ (∀ q, q ≠ k → W1 q = W q) ∧ ∀ r, K ≤ r → r < 30 → bI x r = false := fun hz => ⟨0, G, upd W k 0, rfl, hz, upd_s _ _ _, fun q hq => upd_n hq, fun r _ _ => bI_0 r⟩
      have eTd : FM_in (nI k) 0 9 = some 1 := m_in ⟨nI_le (a := 0) (Nat.zero_le _) (by omega), nI_le (b := 9) (by omega) (by decide)⟩
      rcases hT with ⟨t0, t1⟩ | ⟨t0, gg, kk, g1, k1, t1, -⟩
      · rw [if_pos t0]
        refine fin (z0 (Or.inl ?_))
        unfold FM_isTold
        rw [eTd, sb, if_neg (show ¬ (1 : Int32) = 0 by decide), g10, gdt, ck, show (mc μ 41 (upd W k 0)).2 26 k = -1 from t1, if_pos rfl]
      · have hT1 : FM_isTold (mc μ 41 (upd W k 0)) (nI k) = some 1 := by
          unfold FM_isTold
          rw [eTd, sb, if_neg (show ¬ (1 : Int32) = 0 by decide), g10, gdt, ck, show (mc μ 41 (upd W k 0)).2 26 k = nI gg from t1, if_neg (z_m1 (by omega))]
        rw [if_neg (by rw [t0]; decide)]
        rcases has_p (mc_inv hV (k := 41) (by decide) (by decide) (upd W k 0)) (show PersV own (rc ρ 100 V) (mc μ 41 (upd W k 0)) K k pa from hpa0) with ⟨z, z2, -⟩ | ⟨z, -, -⟩
        · rw [if_neg (by rw [z]; decide)]
          exact fin (z0 (Or.inr ⟨hT1, z2⟩))
        · rw [if_pos z]
          obtain ⟨x', G', W', y1, y2, y3, y4, y5⟩ := wear21 (s := s) (KK := KK) hV (show k < 10 by omega) hpa0 t0 z K 0 fu fu 0 G (upd W k 0) (by omega) (by omega) (by omega) (upd_s _ _ _) (fun r _ _ => bI_0 r)
          exact ⟨x', G', W', y1, y2, y3, fun q hq => (y4 q hq).trans (upd_n hq), y5⟩
    obtain ⟨x, G1, W1, k1, k2, k3, k4, k5⟩ := key (fun σ_114 => FM_clothe_114 (fun x2_14 σ_14 => FM_clothe_14 KM s f2 x2_14 σ_14) s (nI k) σ_114)
    obtain ⟨V', G', W', z1, z2, z3⟩ := ih (k + 1) f1 f2 (upd V k x) G1 W1 (by omega) (by omega) (by omega) (fun q hq1 => by
      by_cases c : q = k
      · subst c
        rw [upd_s, k3]
        exact ⟨rfl, k5⟩
      · rw [upd_n c, k4 q c]
        exact hq q (by omega))
    refine ⟨V', G', W', ?_, ?_, z3⟩
    · rw [FR_X9_clothe_14, if_neg (show ¬ (10 : Int32) ≤ nI k from nI_ge (b := 10) (by omega) (by decide)), g10, gdt, ck, show rQ (rc (rc ρ 100 V) 916 G) 914 k = some pa from p1, sb, k1, sb, gdt, nI_1]
      dsimp only
      rw [ra_rc, ck, rc_cm _ (by decide), rc_rc, rA_rc, if_neg (by decide), rA_rc, if_pos rfl]
      exact z1
    · rw [FM_clothe_14, if_neg (show ¬ (10 : Int32) ≤ nI k from nI_ge (b := 10) (by omega) (by decide)), g10, gdt, eS]
      refine Eq.trans k2 ?_
      unfold FM_clothe_114
      rw [nI_1]
      exact z2
theorem st_clothe {ρ : RS} {μ : MS} (h : Inv ρ μ) (p1 : Int32) : ∃ q ρ' μ', FR_X9_clothe ρ p1 = some (q, ρ') ∧ FM_clothe μ p1 = some (q, μ') ∧ Inv ρ' μ' := by
  obtain ⟨own, B, K, h⟩ := h
  have hfu := fu_pos
  have hK30 := h.2.2.1.1
  unfold FR_X9_clothe FM_clothe
  rcases in_c (a := 0) (b := 3) p1 0 3 rfl rfl (by decide) (by decide) with ⟨s, -, hs3, rfl, hw⟩ | hw
  · rw [w_in hw, m_in hw, sb, sb, if_neg (show ¬ (1 : Int32) = 0 by decide), if_neg (show ¬ (1 : Int32) = 0 by decide)]
    obtain ⟨V, G, W, z1, z2, z3⟩ := cl14 (s := nI s) (KR := fun σ_46 => FR_X9_clothe_46 σ_46) (KM := fun σ_120 => FM_clothe_120 σ_120) h 10 0 fu fu (rA ρ 100) (rA ρ 916) (μ.2 41) (by omega) (by omega) (by omega) (fun q hq => absurd hq (Nat.not_lt_zero q))
    rw [rc_self, rc_self, show nI 0 = (0 : Int32) from rfl] at z1
    rw [mc_self, show nI 0 = (0 : Int32) from rfl] at z2
    have e100 : rA (rc (rc ρ 100 V) 916 G) 100 = V := by rw [rA_rc, if_neg (by decide), rA_rc, if_pos rfl]
    have fr0 : frR ρ (rc (rc ρ 100 V) 916 G) := (frR_rc ρ (by omega) V).tr (frR_rc _ (by omega) G)
    have e41 : (mc μ 41 W).2 41 = W := by rw [m2_mc, if_pos rfl]
    have e6 : (mc μ 41 W).1 6 = nI K := h.2.2.1.2.2.1
    have fc0 : frC μ (mc μ 41 W) := ⟨rfl, fun k hk => by rw [m2_mc, if_neg (by omega)]⟩
    rw [z1, z2]
    generalize rc (rc ρ 100 V) 916 G = τ at e100 fr0 ⊢
    generalize mc μ 41 W = ν at e41 e6 fc0 ⊢
    have hVK : ∀ q r, q < 10 → r < 30 → bI (V q) r = true → r < K := fun q r hq hr hb => by
      obtain ⟨y1, y2⟩ := z3 q hq
      refine Decidable.byContradiction (fun c => ?_)
      rw [y1, y2 r (by omega) hr] at hb
      cases hb
    have hgr : ∀ q r, q < 10 → r < 30 → mA (ν.2 41) q r = wA V 0 0 q r := fun q r hq hr => by
      unfold mA wA
      rw [e41, ← (z3 q hq).1, bI_0, decide_eq_true (Nat.zero_le q), Bool.not_false, Bool.and_true, Bool.true_and]
    obtain ⟨m, X, v, a1, a2⟩ := mostFrom_e (first := 0) e100 (by omega) 0
    obtain ⟨m', ν1, b1, b2, b3⟩ := most_e (μ := ν) (K := K) rfl e6 hK30 (fun q r hq hr hA => by
      rw [hgr q r hq hr] at hA
      exact wA_K hVK q r hq hr hA)
    have em : m' = m := MaxM_u (MaxM_cg hgr b3) a2
    subst em
    have hm := MaxM_le b3
    have e41' : ν1.2 41 = ν.2 41 := b2.2 41 (by decide) (by decide) (by decide) (by decide) (by decide)
    obtain ⟨τ', ν', c1, c2, c3, c4, c5⟩ := shareL hK30 hVK (nI m') 10 0 fu fu (fz τ X v) ν1 m' 0 (by omega) (by omega) (by omega) (by rw [fz_100]; exact e100) (by rw [b2.1]; exact e6) hm (by rw [e41']; exact hgr) (fun q hq => absurd hq (Nat.not_lt_zero q))
    rw [show nI 0 = (0 : Int32) from rfl] at a1 c1 c2
    refine ⟨nI m', τ', ν', ?_, ?_, own, B, K, cl_inv h (fr0.tr ((frR_fz τ X v).tr c3)) (fc0.tr (b2.q.c.tr c4)) c5⟩
    · unfold FR_X9_clothe_46 FR_X1_share
      rw [a1, sb]
      dsimp only
      rw [c1, sb]
    · unfold FM_clothe_120
      rw [b1, sb]
      exact c2
  · rw [w_out hw, m_out hw, sb, sb, if_pos rfl, if_pos rfl]
    exact ⟨_, _, _, rfl, rfl, own, B, K, h⟩
