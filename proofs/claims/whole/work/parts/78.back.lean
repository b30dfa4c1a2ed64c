theorem worn_e {own : Nat → Nat} {ρ : RS} {μ : MS} {r a c e b sl f l : Nat} {x : Nat → Nat} (hr30 : r < 30) (hr : RobeL own ρ μ r a c e b sl f l) (hx : ∀ t, t < 2 * b + 2 * sl + f + l → okr (x t) ∧ μ.2 14 (120 * r + t) = nI (x t)) : ∃ L Fr Rw, FM_wornOnce μ (nI r) = some (nI (cntN (ctQ (wnB b sl f l) x) (2 * b + 2 * sl + f + l)), wst μ L Fr Rw r (2 * b + 2 * sl + f + l) (wnB b sl f l) x) := by
  obtain ⟨L, Fr, Rw, x1, x2, x3, x4⟩ := looks_e hr30 hr
  have ho := hr.1.2.2.2.2
  have hfu := fu_pos
  refine ⟨L, Fr, Rw, ?_⟩
  have hl : l ≤ 30 := ho.2.2.2.2.2.2.1
  obtain ⟨hm, hm1, hm2, hm3⟩ : ∃ hm, hm ≤ 3 ∧ hm ≤ sl ∧ (hm = 3 ∨ hm = sl) := by
    by_cases c : 3 ≤ sl
    · exact ⟨3, by omega, c, Or.inl rfl⟩
    · exact ⟨sl, by omega, by omega, Or.inr rfl⟩
  have hx' : ∀ t, t < 2 * b + 2 * sl + f + l → okr (x t) := fun t ht => (hx t ht).1
  have e0 : look μ L Fr Rw = wst μ L Fr Rw r (2 * b + 2 * sl + f + l) (Q2 b sl 0) x := by
    have h1 : hyb (120 * r) (2 * b + 2 * sl + f + l) (fun t => nI (bp (Q2 b sl 0) x t)) (μ.2 14) = (look μ L Fr Rw).2 14 := by
      show _ = μ.2 14
      funext j
      unfold hyb
      by_cases cc : 120 * r ≤ j ∧ j < 120 * r + (2 * b + 2 * sl + f + l)
      · rw [if_pos cc]
        show nI (bp (Q2 b sl 0) x (j - 120 * r)) = _
        rw [bp_n (decide_eq_false (by omega)), ← (hx (j - 120 * r) (by omega)).2, show 120 * r + (j - 120 * r) = j by omega]
      · rw [if_neg cc]
    unfold wst
    rw [h1, mc_self]
  have w9 := worn9 (μ := μ) (L := L) (Fr := Fr) (Rw := Rw) (K := fun x2_48 σ_48 => FM_wornOnce_48 (nI r) x2_48 σ_48) x1 x2 hr30 ho hx' hm1 hm2 hm3 hm 0 fu (by omega) (by omega)
  have w50 := worn50 (μ := μ) (L := L) (Fr := Fr) (Rw := Rw) (hm := hm) (C := cntN (fun i => lt9 x (2 * b + i)) hm + cntN (fun i => lt9 x (2 * b + sl + i)) hm) (K := fun x2_76 σ_76 => FM_wornOnce_76 (nI r) x2_76 σ_76) x1 x2 hr30 ho hx' hm2 l 0 fu (by omega) (by omega)
  have w76 := worn76 (μ := μ) (L := L) (Fr := Fr) (Rw := Rw) (C := cntN (fun i => lt9 x (2 * b + i)) hm + cntN (fun i => lt9 x (2 * b + sl + i)) hm + cntN (fun i => lt9 x (2 * b + 2 * sl + f + i)) l) x1 x2 hr30 ho hx' hm1 hm2 hm3
  have eQ : Q5 b sl f hm 0 = Q2 b sl hm := by
    funext u
    refine Bool.eq_iff_iff.mpr ?_
    unfold Q5 Q2
    simp only [decide_eq_true_iff]
    omega
  have hs := wear_sum (f := f) (l := l) (x := x) ho.1 hm hm1 hm2 hm3
  rw [← hs] at w76
  rw [eQ] at w50
  unfold FM_wornOnce
  rw [x4, sb, e0]
  refine Eq.trans w9 ?_
  unfold FM_wornOnce_48
  refine Eq.trans w50 ?_
  exact w76
theorem wear_e {own : Nat → Nat} {ρ : RS} {μ : MS} {r a c e b sl f l rr : Nat} {x : Nat → Nat} (hr : RobeL own ρ μ r a c e b sl f l) (hrr : pR ρ c 0 = some rr) (hrk : isK ρ rr 11 = true) (hrn : pN ρ rr = 2 * b + 2 * sl + f + l) (hne : e ≠ rr) (hx : ∀ t, t < 2 * b + 2 * sl + f + l → okr (x t) ∧ pA ρ rr t = nI (enc (x t))) : FR_X4_wearOnce ρ a = some (nI (cntN (ctQ (wnB b sl f l) x) (2 * b + 2 * sl + f + l)), wc ρ rr (hyb 0 (2 * b + 2 * sl + f + l) (fun t => nI (enc (bp (wnB b sl f l) x t))) (pA ρ rr))) := by
  have hfu := fu_pos
  have w := wearO hr hrr hrk hrn hne hx 6 0 fu (by omega) (by omega)
  rw [show froP b sl f l 0 = 0 from rfl, hyb_0, wc_self] at w
  unfold FR_X4_wearOnce
  exact w
theorem wear_inv {own : Nat → Nat} {B K : Nat} {ρ : RS} {μ : MS} {r a c e b sl f l rr : Nat} {x : Nat → Nat} (h : InvO own B K ρ μ) (hK : r < K) (hr : RobeL own ρ μ r a c e b sl f l) (hrr : pR ρ c 0 = some rr) (hro : own rr = 200 + 2 * r + 1) (hrk : isK ρ rr 11 = true) (hrn : pN ρ rr = 2 * b + 2 * sl + f + l) (hx : ∀ t, t < 2 * b + 2 * sl + f + l → okr (x t)) (Q : Nat → Bool) (L Fr Rw : Nat → Int32) : InvO own B K (wc ρ rr (hyb 0 (2 * b + 2 * sl + f + l) (fun t => nI (enc (bp Q x t))) (pA ρ rr))) (wst μ L Fr Rw r (2 * b + 2 * sl + f + l) Q x) := by
  obtain ⟨hT, hB, hR, hP, hC, hM, hS⟩ := h
  have hs : ∀ s, s ≠ 200 + 2 * r + 1 → ag ρ (wc ρ rr (hyb 0 (2 * b + 2 * sl + f + l) (fun t => nI (enc (bp Q x t))) (pA ρ rr))) own own s := fun s hs => ag_wc (by rw [hro]; exact hs)
  have hK30 := hR.1
  have a14 : (wst μ L Fr Rw r (2 * b + 2 * sl + f + l) Q x).2 14 = hyb (120 * r) (2 * b + 2 * sl + f + l) (fun t => nI (bp Q x t)) (μ.2 14) := rfl
  refine ⟨hT.fr rfl rfl rfl rfl, hB.fr rfl rfl (fun s _ => hs s (by omega)) rfl rfl rfl rfl rfl rfl, ?_, hP.fr rfl (fun s _ _ => hs s (by omega)) rfl rfl rfl rfl, hC.fr rfl (fun s _ _ => hs s (by omega)) rfl rfl, hM.fr rfl (hs _ (by omega)) rfl rfl rfl, hS.fr rfl rfl rfl rfl rfl rfl rfl rfl rfl rfl⟩
  obtain ⟨⟨r1, r2, r3, r4, r5⟩, r6, ⟨r7, c1, c2, c3, c4, c5, c6, c7, c8, -⟩, r8, r9, r10, r11⟩ := hr
  have hn := r5.2.2.2.2.2.2.2
  refine hR.up K hR.1 hR.2.1 hR.2.2.1 r ?_ (fun j hj hji => ⟨rfl, Iff.rfl, ⟨hs _ (by omega), hs _ (by omega), hs _ (by omega), hs _ (by omega), hs _ (by omega), hs _ (by omega)⟩, ⟨rfl, rfl, rfl, rfl, rfl, rfl, rfl⟩, ⟨rfl, rfl, rfl, rfl, rfl⟩, fun i hi => ?_, fun _ _ => rfl⟩)
  · refine Or.inr ⟨hK, a, c, e, b, sl, f, l, ⟨r1, r2, r3, r4, r5⟩, r6, ⟨r7, c1, c2, c3, c4, c5, c6, c7, c8, rr, hrr, hro, hrk, hrn, fun j hj => ?_⟩, ⟨r8.1, r8.2.fr (hs _ (by omega))⟩, ?_, r10, r11⟩
    · refine ⟨bp Q x j, bp_ok (hx j hj), ?_, ?_⟩
      · rw [qpA_wc, if_pos rfl, hyb_in0 hj]
      · show (wst μ L Fr Rw r (2 * b + 2 * sl + f + l) Q x).2 14 (120 * r + j) = _
        rw [a14, hyb_in hj]
    · rcases r9 with r9 | ⟨l1, d, l2, l3⟩
      · exact Or.inl r9
      · exact Or.inr ⟨l1, d, l2, l3.fr (hs _ (by omega)) (hs _ (by omega)) (fun _ _ => rfl)⟩
  · rw [a14, hyb_out (by omega)]
theorem robe_of {own : Nat → Nat} {B K : Nat} {ρ : RS} {μ : MS} (h : InvO own B K ρ μ) {r a : Nat} (hr : r < 30) (hq : rQ ρ 904 r = some a) : r < K ∧ ∃ c e b sl f l, RobeL own ρ μ r a c e b sl f l := by
  rcases h.2.2.1.2.2.2 r hr with hn | ⟨hK, a', c, e, b, sl, f, l, hl⟩
  · rw [hn.1] at hq
    exact absurd hq (by simp)
  · have := hl.1.1
    rw [hq] at this
    cases this
    exact ⟨hK, c, e, b, sl, f, l, hl⟩
theorem wear_step {own : Nat → Nat} {B K : Nat} {ρ : RS} {μ : MS} (h : InvO own B K ρ μ) {r a : Nat} (hr30 : r < 30) (hq : rQ ρ 904 r = some a) : isK ρ a 4 = true ∧ ∃ q ρ' μ', FR_X4_wearOnce ρ a = some (q, ρ') ∧ FM_wornOnce μ (nI r) = some (q, μ') ∧ InvO own B K ρ' μ' ∧ rQ ρ' 904 r = some a := by
  obtain ⟨hK, c, e, b, sl, f, l, hr⟩ := robe_of h hr30 hq
  obtain ⟨-, -, -, -, -, -, -, -, rr, hrr, hro, hrv⟩ := hr.2.2.1.2
  obtain ⟨x, hx⟩ := hrv.xs
  have hne : e ≠ rr := fun z => by
    have h1 := hr.2.2.2.1.2.2.1
    rw [z, hro] at h1
    omega
  have e1 := wear_e (x := x) hr hrr hrv.1 hrv.2.1 hne (fun t ht => ⟨(hx t ht).1, (hx t ht).2.1⟩)
  obtain ⟨L, Fr, Rw, e2⟩ := worn_e (x := x) hr30 hr (fun t ht => ⟨(hx t ht).1, (hx t ht).2.2⟩)
  exact ⟨hr.1.2.1, _, _, _, e1, e2, wear_inv h hK hr hrr hro hrv.1 hrv.2.1 (fun t ht => (hx t ht).1) _ L Fr Rw, hq⟩
theorem st_wear {ρ : RS} {μ : MS} (h : Inv ρ μ) (p1 : Int32) : ∃ q ρ' μ', FR_X9_wear ρ p1 = some (q, ρ') ∧ FM_wear μ p1 = some (q, μ') ∧ Inv ρ' μ' := by
  obtain ⟨own, B, K, h⟩ := h
  unfold FR_X9_wear FM_wear
  rcases robe_c h p1 with ⟨e1, e2⟩ | ⟨i, a, c, e, b, sl, f, l, hi, hi2, rfl, hr, e1, e2⟩
  · simp only [e1, e2, sb, ocn, ↓reduceIte]
    exact ⟨_, _, _, rfl, rfl, own, B, K, h⟩
  · obtain ⟨k1, q, ρ', μ', s1, s2, s3, -⟩ := wear_step h hi2 hr.1.1
    simp only [e1, e2, sb, ocs, i10, ↓reduceIte, k1, gdt, s1, s2]
    exact ⟨_, _, _, rfl, rfl, own, B, K, s3⟩
theorem backL {own : Nat → Nat} {B K : Nat} {r a n : Nat} (hr30 : r < 30) (hn : n ≤ 9) (v : Int32) : ∀ d k fuel ρ μ, k + d = n → d < fuel → InvO own B K ρ μ → rQ ρ 904 r = some a → ∃ ρ' μ', FR_X9_back_64 (nI n) (some a) v fuel (nI k) ρ = some (v, ρ') ∧ FM_back_53 (nI r) (nI n) v fuel (nI k) μ = some (v, μ') ∧ InvO own B K ρ' μ' := by
  intro d
  induction d with
  | zero =>
    intro k fuel ρ μ hk hf h hq
    obtain ⟨f1, rfl⟩ : ∃ f, fuel = f + 1 := ⟨fuel - 1, by omega⟩
    refine ⟨ρ, μ, ?_, ?_, h⟩
    · rw [FR_X9_back_64, if_pos (nI_le (by omega) (by omega))]
    · rw [FM_back_53, if_pos (nI_le (by omega) (by omega))]
  | succ d ih =>
    intro k fuel ρ μ hk hf h hq
    obtain ⟨f1, rfl⟩ : ∃ f, fuel = f + 1 := ⟨fuel - 1, by omega⟩
    have n1 : ¬ nI n ≤ nI k := nI_ge (by omega) (by omega)
    obtain ⟨k1, q, ρ1, μ1, s1, s2, s3, s4⟩ := wear_step h hr30 hq
    obtain ⟨ρ', μ', t1, t2, t3⟩ := ih (k + 1) f1 ρ1 μ1 (by omega) (by omega) s3 s4
    refine ⟨ρ', μ', ?_, ?_, t3⟩
    · rw [FR_X9_back_64, if_neg n1, sb, k1, gdt, s1, sb, nI_1]
      exact t1
    · rw [FM_back_53, if_neg n1, s2, sb, nI_1]
      exact t2
theorem back_inv {own : Nat → Nat} {B K : Nat} {ρ : RS} {μ : MS} (h : InvO own B K ρ μ) {i p pa a c e b sl f l : Nat} (hi : i < K) (hr : RobeL own ρ μ i a c e b sl f l) (hp : p < 10) (x2 : μ.2 20 i = nI p) (hpa : PersV own ρ μ K p pa) : InvO own B K (wi (wi ρ a 4 (-1)) pa 3 0) (sa μ 20 (nI i) (-1)) := by
  obtain ⟨hT, hB, hR, hP, hC, hM, hS⟩ := h
  have hK := hR.1
  have hi2 : i < 30 := by omega
  have hs1 : ∀ s, s ≠ 100 + i → ag ρ (wi ρ a 4 (-1)) own own s := fun s hs => ag_wi (by rw [hr.1.2.2.1]; exact hs)
  have hs2 : ∀ s, s ≠ 520 + p → ag (wi ρ a 4 (-1)) (wi (wi ρ a 4 (-1)) pa 3 0) own own s := fun s hs => ag_wi (by rw [hpa.1.2.2]; exact hs)
  have hs : ∀ s, s ≠ 100 + i → s ≠ 520 + p → ag ρ (wi (wi ρ a 4 (-1)) pa 3 0) own own s := fun s h1 h2 => (hs1 s h1).trans (hs2 s h2)
  have hR1 := hR.hold hi hr (-1) (Or.inl rfl)
  have hhi : held μ K i p := ⟨hi, hr.1.2.2.2.1, x2⟩
  refine ⟨hT.fr rfl rfl rfl rfl, hB.fr rfl rfl (fun s _ => hs s (by omega) (by omega)) rfl rfl rfl rfl rfl rfl, hR1.fr rfl rfl (fun s _ _ => hs2 s (by omega)) rfl (fun k _ _ => rfl), ⟨fun p' hp' => ?_, fun p' j j' hp' g1 g2 => ?_⟩, hC.fr rfl (fun s _ _ => hs s (by omega) (by omega)) rfl rfl, hM.fr rfl (hs _ (by omega) (by omega)) rfl rfl rfl, hS.fr rfl rfl rfl rfl rfl rfl rfl rfl rfl rfl⟩
  · by_cases hpp : p' = p
    · subst hpp
      obtain ⟨⟨z1, z2, z3⟩, z4, -⟩ := hpa
      have ia : ∀ t, t ≠ 3 → pI (wi (wi ρ a 4 (-1)) pa 3 0) pa t = pI ρ pa t := fun t ht3 => by
        have hne : pa ≠ a := fun e => by rw [e, hr.1.2.2.1] at z3; omega
        rw [qpI_wi, if_neg ht3, qpI_wi]
        simp [hne]
      refine ⟨pa, ⟨z1, z2, z3⟩, ?_, Or.inr ⟨by rw [qpI_wi]; simp, fun j g => ?_⟩⟩
      · rw [ia 0 (by decide), ia 1 (by decide), ia 2 (by decide)]
        exact z4
      · rw [held_sa hi2] at g
        by_cases hji : j = i
        · rw [if_pos hji] at g
          exact absurd g.2.2 (z_m1' (by omega))
        · rw [if_neg hji] at g
          exact hji (hP.2 p' j i hp' g hhi)
    · obtain ⟨a', ha'⟩ := hP.1 p' hp'
      refine ⟨a', ha'.fr rfl (hs _ (by omega) (by omega)) rfl rfl (fun j => ?_)⟩
      rw [held_sa hi2]
      unfold held
      by_cases hji : j = i
      · rw [if_pos hji, hji, x2]
        exact ⟨fun g => absurd g.2.2 (z_m1' (by omega)), fun g => absurd ((nI_eq (by omega) (by omega)).mp g.2.2) (fun e => hpp e.symm)⟩
      · rw [if_neg hji]
  · rw [held_sa hi2] at g1 g2
    have fin : ∀ j, (j < K ∧ μ.2 7 j = 1 ∧ (if j = i then (-1 : Int32) else μ.2 20 j) = nI p') → held μ K j p' := fun j g => by
      by_cases hji : j = i
      · rw [if_pos hji] at g
        exact absurd g.2.2 (z_m1' (by omega))
      · rw [if_neg hji] at g
        exact g
    exact hP.2 p' j j' hp' (fin j g1) (fin j' g2)
theorem st_back {ρ : RS} {μ : MS} (h : Inv ρ μ) (p1 : Int32) (p2 : Int32) : ∃ q ρ' μ', FR_X9_back ρ p1 p2 = some (q, ρ') ∧ FM_back μ p1 p2 = some (q, μ') ∧ Inv ρ' μ' := by
  obtain ⟨own, B, K, h⟩ := h
  have hfu := fu_pos
  unfold FR_X9_back FM_back
  rcases robe_c h p1 with ⟨e1, e2⟩ | ⟨i, a, c, e, b, sl, f, l, hi, hi2, rfl, hr, e1, e2⟩
  · simp only [e1, e2, sb, ocn, ↓reduceIte]
    exact ⟨_, _, _, rfl, rfl, own, B, K, h⟩
  · simp only [e1, e2, sb, ocs, i10, ↓reduceIte]
    rcases in_c (a := 0) (b := 9) p2 0 9 rfl rfl (by decide) (by decide) with ⟨n, -, hn, rfl, hw⟩ | hw
    · have u := hr.2.2.2.2.2.2
      simp only [w_in hw, m_in hw, sb, i10, ↓reduceIte, hr.1.2.1, gdt, inb_nI hi2 (show 30 < 2 ^ 31 by decide), nI_clamp (show i < 2 ^ 31 by omega), u.1]
      rcases u.2 with u2 | ⟨p, hp, u2⟩
      · simp only [u2, w_out (show ¬ ((0 : Int32) ≤ -1 ∧ (-1 : Int32) ≤ 9) by decide), sb, ↓reduceIte]
        exact ⟨_, _, _, rfl, rfl, own, B, K, h⟩
      · obtain ⟨pa, hpa⟩ := h.2.2.2.1.1 p hp
        have hw2 : (0 : Int32) ≤ nI p ∧ nI p ≤ (9 : Int32) := ⟨nI_le (a := 0) (by omega) (by omega), nI_le (b := 9) (by omega) (by decide)⟩
        have k2 : isK (wi ρ a 4 (-1)) pa 3 = true := hpa.1.2.1
        have k3 : rQ (wi ρ a 4 (-1)) 914 p = some pa := hpa.1.1
        have hI := back_inv h hi hr hp u2 hpa
        obtain ⟨ρ', μ', t1, t2, t3⟩ := backL (n := n) hi2 hn (nI p) n 0 fu _ _ (by omega) (by omega) hI hr.1.1
        simp only [u2, w_in hw2, sb, i10, ↓reduceIte, if_neg (z_m1 (show p < 2147483648 by omega)), inb_nI hp (show 10 < 2 ^ 31 by decide), gdt, nI_clamp (show p < 2 ^ 31 by omega), k2, k3]
        exact ⟨_, _, _, t1, t2, own, B, K, t3⟩
    · simp only [w_out hw, m_out hw, sb, ↓reduceIte]
      exact ⟨_, _, _, rfl, rfl, own, B, K, h⟩
