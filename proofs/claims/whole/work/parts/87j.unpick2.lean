theorem rowsOf_k {μ : MS} {j b sl f l : Nat} (hj : j < 30) (b1 : μ.2 10 j = nI b) (b2 : μ.2 11 j = nI f) (b3 : μ.2 12 j = nI l) (b4 : μ.2 13 j = nI sl) : FM_rowsOf μ (nI j) = some (nI (2 * b + 2 * sl + f + l)) := by
  unfold FM_rowsOf
  simp only [inb_nI hj (show 30 < 2 ^ 31 by decide), gdt, nI_clamp (show j < 2 ^ 31 by omega), b1, b2, b3, b4]
  rw [show (2 : Int32) * nI b = nI (2 * b) from pk_mul 2 b, show (2 : Int32) * nI sl = nI (2 * sl) from pk_mul 2 sl, nI_add, nI_add, nI_add]
theorem unp_inv {own : Nat → Nat} {B K i a c e b sl f l : Nat} {ρ1 : RS} {μ1 : MS} {R : Nat → Int32} (h : InvO own B K ρ1 μ1) (hi : i < 30) (hiK : i < K) (hl : RobeL own ρ1 μ1 i a c e b sl f l) (h20 : μ1.2 20 i = -1) (hR : ∀ j, (j < 120 * B ∨ 120 * B + 120 ≤ j) → R j = μ1.2 5 j) : InvO own B K (rq ρ1 904 (nI i) none) (sa (mc μ1 5 R) 7 (nI i) 0) := by
  obtain ⟨hT, hB, hR', hP, hC, hM, hS⟩ := h
  have ei : (nI i).toNatClampNeg = i := nI_clamp (by omega)
  have k7 : (sa (mc μ1 5 R) 7 (nI i) 0).2 7 = upd (μ1.2 7) i 0 := by rw [s2_sa_s, ei]; rfl
  have kk : ∀ k, k ≠ 5 → k ≠ 7 → (sa (mc μ1 5 R) 7 (nI i) 0).2 k = μ1.2 k := fun k h5 h7 => by
    rw [s2_sa_n h7, m2_mc, if_neg (fun z => h5 z)]
  have k5 : (sa (mc μ1 5 R) 7 (nI i) 0).2 5 = R := by
    rw [s2_sa_n (by decide), m2_mc, if_pos rfl]
  have q4 : ∀ j, rQ (rq ρ1 904 (nI i) none) 904 j = if j = i then none else rQ ρ1 904 j := fun j => by
    rw [qrQ_rq, if_pos rfl, ei]; rfl
  have qo : ∀ k, k ≠ 904 → rQ (rq ρ1 904 (nI i) none) k = rQ ρ1 k := fun k hk => by rw [qrQ_rq, if_neg hk]
  have k1 : (sa (mc μ1 5 R) 7 (nI i) 0).1 = μ1.1 := rfl
  have hh : ∀ j p, p < 10 → (held (sa (mc μ1 5 R) 7 (nI i) 0) K j p ↔ held μ1 K j p) := fun j p hp => by
    unfold held
    rw [k7, kk 20 (by decide) (by decide)]
    by_cases c : j = i
    · subst c
      rw [h20]
      exact ⟨fun z => absurd z.2.2 (z_m1' (by omega)), fun z => absurd z.2.2 (z_m1' (by omega))⟩
    · rw [upd_n c]
  generalize hμ : sa (mc μ1 5 R) 7 (nI i) 0 = μ' at k7 kk k5 k1 hh ⊢
  refine ⟨hT.fr rfl rfl (by rw [k1]) (kk _ (by decide) (by decide)), ⟨hB.1, hB.2.1, by rw [k1]; exact hB.2.2.1, fun t ht => ?_⟩, hR'.up K hR'.1 hR'.2.1 (by rw [k1]; exact hR'.2.2.1) i (Or.inl ⟨?_, fun _ => ?_, fun z => absurd hiK (by omega)⟩) (fun j hj hji => ⟨?_, Iff.rfl, ⟨ag_sm rfl, ag_sm rfl, ag_sm rfl, ag_sm rfl, ag_sm rfl, ag_sm rfl⟩, ⟨by rw [k7, upd_n hji], by rw [kk _ (by decide) (by decide)], by rw [kk _ (by decide) (by decide)], by rw [kk _ (by decide) (by decide)], by rw [kk _ (by decide) (by decide)], by rw [kk _ (by decide) (by decide)], by rw [kk _ (by decide) (by decide)]⟩, ⟨by rw [kk _ (by decide) (by decide)], by rw [kk _ (by decide) (by decide)], by rw [kk _ (by decide) (by decide)], by rw [kk _ (by decide) (by decide)], by rw [kk _ (by decide) (by decide)]⟩, fun u hu => by rw [kk _ (by decide) (by decide)], fun u hu => by rw [kk _ (by decide) (by decide)]⟩), ⟨fun p hp => ?_, fun p j j' hp a c => hP.2 p j j' hp ((hh j p hp).mp a) ((hh j' p hp).mp c)⟩, hC.fr (qo _ (by decide)) (fun s _ _ => ag_sm rfl) (kk _ (by decide) (by decide)) (kk _ (by decide) (by decide)), hM.fr rfl (ag_sm rfl) (by rw [k1]) (by rw [k1]) (by rw [k1]), hS.fr rfl rfl rfl rfl rfl (by rw [k1]) (by rw [k1]) (by rw [k1]) (by rw [k1]) (kk _ (by decide) (by decide))⟩
  · rcases hB.2.2.2 t ht with z | ⟨z0, z⟩
    · exact Or.inl ⟨by rw [qo _ (by decide)]; exact z.1, fun q => by rw [kk _ (by decide) (by decide)]; exact z.2 q⟩
    · refine BoltI.fr (ρ' := rq ρ1 904 (nI i) none) (μ' := μ') (B' := B) (Or.inr ⟨z0, z⟩) (by rw [qo _ (by decide)]) Iff.rfl (ag_sm rfl) (ag_sm rfl) ⟨by rw [kk _ (by decide) (by decide)], by rw [kk _ (by decide) (by decide)], by rw [kk _ (by decide) (by decide)], by rw [kk _ (by decide) (by decide)], fun j hj => ?_⟩
      rw [k5]
      exact hR _ (by omega)
  · rw [q4, if_pos rfl]
  · rw [k7, upd_s]
  · rw [q4, if_neg hji]
  · obtain ⟨a', ha'⟩ := hP.1 p hp
    exact ⟨a', ha'.fr (by rw [qo 914 (by decide)]) (ag_sm rfl) (by rw [kk 26 (by decide) (by decide)]) (by rw [kk 27 (by decide) (by decide)]) (fun j => hh j p hp)⟩
theorem unp_T {ρ2 : RS} {N n rb e b sl f l tw thr fo o a c B : Nat} {x : Nat → Nat} {v0 col way : Int32} (hN : Low N ρ2) (hV : LayV ρ2 rb e n b sl f l (sOf b sl f l o) tw thr fo x v0) (hm : mR_ o 6 = 63) (hn : 2 * b + 2 * sl + f + l = n) (ka : isK ρ2 a 4 = true) (kc : isK ρ2 c 0 = true) (ra : pR ρ2 a 0 = some c) (c1 : pI ρ2 c 1 = col) (c2 : pI ρ2 c 2 = way) (h3 : rI ρ2 903 = nI B) (hB : B < 40) : ∃ g, (∀ q, q < 6 → ∀ u, u < lenP b sl f l q → g (dP (sOf b sl f l o) b sl f l tw q u) = nI (enc (x (froP b sl f l q + u)))) ∧ ((FR_X2_joinRows (N + 1) (nO ρ2 N 0)).bind fun q_115 => (gd (isK q_115.2 a 4) ((pR q_115.2 a 0).bind fun r_120 => (gd (isK q_115.2 r_120 0) (gd (isK q_115.2 N 0) ((FR_X0_init q_115.2 N q_115.1 (pI q_115.2 r_120 1) (pI q_115.2 r_120 2)).bind fun q_134 => ((FR_X9_keepBolt q_134 N).bind fun q_137 => (some (q_137.1, q_137.2))))))))) = some (nI B, newB (mkC ρ2 N n g col way) B N) := by
  have lr : rb < N := hN rb (isK_L hV.1.2.1)
  have le : e < N := hN e (isK_L hV.2.1.2.1)
  have la : a < N := hN a (isK_L ka)
  have lc : c < N := hN c (isK_L kc)
  obtain ⟨g, g1, g2⟩ := joinRows_e (M := N + 1) (hV.nO (N := N) (kd := 0) (by omega) (by omega)) hm (by omega) (by omega) hn
  refine ⟨g, g1, ?_⟩
  have k1 : isK (nA (nO ρ2 N 0) (N + 1) n g) a 4 = true := by rw [qisK_nA (by omega), qisK_nO (by omega)]; exact ka
  have k2 : isK (nA (nO ρ2 N 0) (N + 1) n g) c 0 = true := by rw [qisK_nA (by omega), qisK_nO (by omega)]; exact kc
  have k3 : isK (nA (nO ρ2 N 0) (N + 1) n g) N 0 = true := by rw [qisK_nA (by omega)]; exact isK_new
  have r1 : pR (nA (nO ρ2 N 0) (N + 1) n g) a 0 = some c := by
    rw [qpR_nA, qpR_nO, if_neg (by omega)]
    exact ra
  have i1 : ∀ j, pI (nA (nO ρ2 N 0) (N + 1) n g) c j = pI ρ2 c j := fun j => by
    rw [qpI_nA, qpI_nO, if_neg (by omega)]
  have eI : FR_X0_init (nA (nO ρ2 N 0) (N + 1) n g) N (N + 1) col way = some (mkC ρ2 N n g col way) := by
    unfold FR_X0_init
    rw [k3, gdt]
    rfl
  have hK0 : isK (mkC ρ2 N n g col way) N 0 = true := mkC_K
  have h3' := ((mkC_fix ρ2 N n g col way).i 903).trans h3
  rw [g2, sb, k1, gdt, r1, sb, k2, gdt, k3, gdt, i1, i1, c1, c2, eI, sb, keep_e h3' hB hK0, sb]
theorem unp_fin {own : Nat → Nat} {B K N i a c e b sl f l n tw o : Nat} {ρ1 : RS} {μ1 : MS} {R g : Nat → Int32} {x : Nat → Nat} (h : InvO own B K ρ1 μ1) (hN : Low N ρ1) (hi : i < 30) (hiK : i < K) (hB : B < 40) (hl : RobeL own ρ1 μ1 i a c e b sl f l) (h20 : μ1.2 20 i = -1) (hm : mR_ o 6 = 63) (hn : 2 * b + 2 * sl + f + l = n) (hR : ∀ j, (j < 120 * B ∨ 120 * B + 120 ≤ j) → R j = μ1.2 5 j) (hx : ∀ j, j < n → okr (x j)) (r1 : ∀ q, q < 6 → ∀ u, u < lenP b sl f l q → R (120 * B + dP (sOf b sl f l o) b sl f l tw q u) = nI (x (froP b sl f l q + u))) (g1 : ∀ q, q < 6 → ∀ u, u < lenP b sl f l q → g (dP (sOf b sl f l o) b sl f l tw q u) = nI (enc (x (froP b sl f l q + u)))) : Inv (newB (mkC (rq ρ1 904 (nI i) none) N n g (μ1.2 8 i) (μ1.2 9 i)) B N) (newM (sa (mc μ1 5 R) 7 (nI i) 0) B (nI n) (μ1.2 8 i) (μ1.2 9 i)) := by
  have b0 := unp_inv h hi hiK hl h20 hR
  obtain ⟨-, -, ⟨-, -, -, -, -, c5, c6, c7, c8, -⟩, -⟩ := hl
  have k5 : (sa (mc μ1 5 R) 7 (nI i) 0).2 5 = R := by
    rw [s2_sa_n (by decide), m2_mc, if_pos rfl]
  have hL : Low N (rq ρ1 904 (nI i) none) := hN.r rfl
  generalize sa (mc μ1 5 R) 7 (nI i) 0 = μ3 at b0 k5 ⊢
  generalize rq ρ1 904 (nI i) none = ρ2 at b0 hL ⊢
  have hfx := mkC_fix ρ2 N n g (μ1.2 8 i) (μ1.2 9 i)
  have hV := mkC_V (own := own) (s1 := 2 * B) (G := g) (n := n) (g := fun j => μ3.2 5 (120 * B + j)) hL c5 c6 (hn ▸ c7) (hn ▸ c8) (fun j hj => by
    obtain ⟨p, u, p1, p2, p3⟩ := dP_cov (tw := tw) hm (hn ▸ hj)
    refine ⟨x (froP b sl f l p + u), hx _ (hn ▸ fro_lt p1 p2), ?_, ?_⟩
    · rw [p3]; exact g1 p p1 u p2
    · show μ3.2 5 (120 * B + j) = _
      rw [k5, p3]; exact r1 p p1 u p2)
  have hs : ∀ s, s ≠ 2 * B → s ≠ 2 * B + 1 → ag ρ2 (mkC ρ2 N n g (μ1.2 8 i) (μ1.2 9 i)) own (va_up (va_up own N (2 * B)) (N + 1) (2 * B + 1)) s := fun s hs _ => mkC_ag hL hs
  generalize va_up (va_up own N (2 * B)) (N + 1) (2 * B + 1) = own' at hV hs
  generalize mkC ρ2 N n g (μ1.2 8 i) (μ1.2 9 i) = ρ3 at hfx hV hs ⊢
  exact ⟨own', B + 1, K, add_bolt (mk_inv b0 hfx hs hB) hB hV⟩
theorem unp_M {μ1 : MS} {B i b sl f l n tw o : Nat} {x : Nat → Nat} (hB : B < 40) (hi : i < 30) (h0 : μ1.1 0 = nI B) (hn : 2 * b + 2 * sl + f + l = n) (hn2 : n ≤ 120) (b1 : μ1.2 10 i = nI b) (b2 : μ1.2 11 i = nI f) (b3 : μ1.2 12 i = nI l) (b4 : μ1.2 13 i = nI sl) (hL : ∀ p, p < 6 → μ1.2 32 p = nI (lenP b sl f l p)) (hF : ∀ p, p < 6 → μ1.2 33 p = nI (froP b sl f l p)) (hD : ∀ k, k < 6 → μ1.2 35 k = nI (dgN o k)) (hx : ∀ j, j < n → μ1.2 34 j = nI (x j)) (htw : tw < 64) (ho : okl b sl f l) (hm : mR_ o 6 = 63) (fuel : Nat) (hf : 6 < fuel) : ∃ R, (∀ q, q < 6 → ∀ u, u < lenP b sl f l q → R (120 * B + dP (sOf b sl f l o) b sl f l tw q u) = nI (x (froP b sl f l q + u))) ∧ (∀ j, (j < 120 * B ∨ 120 * B + 120 ≤ j) → R j = μ1.2 5 j) ∧ FM_unpick_79 (fun σ_178 => FM_unpick_178 (nI i) σ_178) (nI i) (nI tw) fuel ((120 : Int32) * (μ1.1 0)) (0 : Int32) μ1 = some (nI B, newM (sa (mc μ1 5 R) 7 (nI i) 0) B (nI n) (μ1.2 8 i) (μ1.2 9 i)) := by
  obtain ⟨R, r1, r2, r3⟩ := unp79 (x1 := nI i) (K := fun σ_178 => FM_unpick_178 (nI i) σ_178) hB hn2 hn hL hF hD hx htw ho hm 6 0 fuel (μ1.2 5) (by omega) (by omega) (fun j hj => absurd hj (Nat.not_lt_zero j))
  rw [mc_self, show nI (120 * B + stN (lenP b sl f l) (dgN o) 0) = (120 : Int32) * (μ1.1 0) from by rw [h0, show (120 : Int32) * nI B = nI (120 * B) from pk_mul 120 B]; rfl, show nI 0 = (0 : Int32) from rfl] at r3
  refine ⟨R, r1, r2, r3.trans ?_⟩
  have a1 : FM_rowsOf (sa (mc μ1 5 R) 7 (nI i) 0) (nI i) = some (nI n) := by
    rw [← hn]
    refine rowsOf_k hi ?_ ?_ ?_ ?_ <;> rw [s2_sa_n (by decide), m2_mc, if_neg (by decide)] <;> assumption
  have a0 : (sa (mc μ1 5 R) 7 (nI i) 0).1 0 = nI B := h0
  have a8 : (mc μ1 5 R).2 8 i = μ1.2 8 i := rfl
  have a9 : (mc μ1 5 R).2 9 i = μ1.2 9 i := rfl
  unfold FM_unpick_178
  rw [gd_t (inb_nI hi (by decide)), a1, sb, gd_t (inb_nI hi (by decide)), gd_t (inb_nI hi (by decide)), nI_clamp (show i < 2 ^ 31 by omega), a8, a9, comes_e a0 hB, sb]
theorem st_unpick {ρ : RS} {μ : MS} (h : Inv ρ μ) {N : Nat} (hN : Low N ρ) (p1 : Int32) (p2 : Int32) (p3 : Int32) : ∃ q ρ' μ', FR_X9_unpick N ρ p1 p2 p3 = some (q, ρ') ∧ FM_unpick μ p1 p2 p3 = some (q, μ') ∧ Inv ρ' μ' := by
  obtain ⟨own, B, K, h⟩ := h
  have hfu := fu_pos
  rcases robe_c h p1 with ⟨e1, e2⟩ | ⟨i, a, c, e, b, sl, f, l, hi, hi2, rfl, hr, e1, e2⟩
  · unfold FR_X9_unpick FM_unpick
    simp only [e1, e2, sb, ocn, ↓reduceIte]
    exact ⟨_, _, _, rfl, rfl, own, B, K, h⟩
  · have hr0 := hr
    obtain ⟨⟨r1, r2, r3, r4, r5⟩, ⟨b1, b2, b3, b4⟩, ⟨c1, hcl⟩, ⟨g1, g2⟩, hl, q1, u1⟩ := hr
    obtain ⟨rb, c9, -, c11⟩ := hcl.2.2.2.2.2.2.2.2
    have hn2 := hcl.2.2.2.2.2.2.2.1
    have g30 := inb_nI hi2 (show 30 < 2 ^ 31 by decide)
    have gi := nI_clamp (show i < 2 ^ 31 by omega)
    rcases lie_c hcl.1 hcl.2.2.2.1 hcl.2.2.2.2.2.1 p2 p3 μ with ⟨D, y1, y2⟩ | ⟨D, o, tw, ho6, htw, rfl, rfl, hm, hD, y1, y2⟩
    · unfold FR_X9_unpick FM_unpick
      simp only [e1, e2, sb, ocs, r2, gdt, c1, hcl.1, y1, y2, i10, ↓reduceIte, g30, gi]
      exact ⟨_, _, _, rfl, rfl, own, B, K, mc_inv h (by decide) (by decide) D⟩
    · have m20 : (mc μ 35 D).2 20 i = μ.2 20 i := rfl
      have m15 : (mc μ 35 D).2 15 i = μ.2 15 i := rfl
      have m0 : (mc μ 35 D).1 0 = nI B := h.2.1.2.2.1
      have hI := mc_inv h (k := 35) (by decide) (by decide) D
      by_cases ch : μ.2 20 i = -1
      · rcases hl with ⟨l1, l2⟩ | ⟨l1, d, l2, l3⟩
        · by_cases cB : B = 40
          · subst cB
            have n1 : ¬ rI ρ 903 < (40 : Int32) := by rw [h.2.1.2.1]; decide
            have n2 : nI 40 = (40 : Int32) := rfl
            unfold FR_X9_unpick FM_unpick
            simp only [e1, e2, sb, ocs, ocn, r2, gdt, c1, hcl.1, y1, y2, i10, ↓reduceIte, g30, gi, u1.1, ch, l1, l2, m20, m15, m0, n2, if_neg n1]
            exact ⟨_, _, _, rfl, rfl, own, 40, K, hI⟩
          · have hB : B < 40 := by have := h.2.1.1; omega
            have n1 : rI ρ 903 < (40 : Int32) := by rw [h.2.1.2.1]; exact nI_lt (b := 40) hB (by decide)
            have n2 : ¬ nI B = (40 : Int32) := fun z => cB ((nI_eq (b := 40) (by omega) (by decide)).mp z)
            obtain ⟨⟨thr, t1, t2, t3⟩, ⟨fo, f1, f2, f3⟩, -⟩ := h.2.2.2.2.2.2
            obtain ⟨x, hx⟩ := c11.xs
            obtain ⟨q, G, S, k1, k2, k3⟩ := laid_e (o := o) (tw := tw) (s := sOf b sl f l o) (x := x) c11.1 c11.2.1 hn2 (fun j hj => ⟨(hx j hj).1, (hx j hj).2.1⟩) g2.1 g2.2.2.1 (fun p hp => lenP_A g2 hp) (by omega) (inj_e hm) (fun p hp => by
              obtain ⟨j1, j2⟩ := jOf_e (surj_e hm hp)
              exact ⟨_, j1, j2, rfl⟩) (fun p hp => sOf_le hm hp) htw t1 f1 r5
            obtain ⟨L, Fr, Rw, x1, x2, x3, x4⟩ := looks_e hi2 (show RobeL own ρ (mc μ 35 D) i a c e b sl f l from hr0)
            have hI2 := look_inv (laS_inv hI rb e (nI thr) (nI fo) G (nI tw) S) L Fr Rw
            have hRL : RobeL own (laS ρ rb e (nI thr) (nI fo) G (nI tw) S) (look (mc μ 35 D) L Fr Rw) i a c e b sl f l := hr0
            obtain ⟨R, v1, v2, v3⟩ := unp_M (μ1 := look (mc μ 35 D) L Fr Rw) (o := o) (tw := tw) (x := x) hB hi2 m0 rfl hn2 b1 b2 b3 b4 x1 x2 hD (fun j hj => (x3 j hj).trans (hx j hj).2.2) htw r5 hm fu (by omega)
            obtain ⟨g, w1, w2⟩ := unp_T (ρ2 := rq (laS ρ rb e (nI thr) (nI fo) G (nI tw) S) 904 (nI i) none) (N := N) (hN.r rfl) k3 hm rfl r2 hcl.1 c1 hcl.2.2.1 hcl.2.2.2.1 h.2.1.2.1 hB
            have hfin := unp_fin (N := N) (g := g) (x := x) (tw := tw) hI2 (hN.r rfl) hi2 hi hB hRL ch hm rfl v2 (fun j hj => (hx j hj).1) v1 w1
            refine ⟨nI B, _, _, ?_, ?_, hfin⟩
            · unfold FR_X9_unpick
              rw [e1, sb, ocs, r2, gdt, c1, sb, hcl.1, gdt, y1, sb, if_neg (show ¬ (1 : Int32) = 0 by decide), u1.1, if_pos ch, l1, ocn, if_pos n1, c9, sb, g1, sb, t2, f2, k1, sb, k2, sb, g30, gdt]
              exact w2
            · unfold FM_unpick
              rw [e2, sb, if_neg (show ¬ (1 : Int32) = 0 by decide), g30, gdt, gi, y2, sb, if_neg (show ¬ (1 : Int32) = 0 by decide), gdt, m20, if_pos ch, gdt, m15, if_pos l2, m0, if_neg n2, x4, sb]
              exact v3
        · have n15 : ¬ μ.2 15 i = 0 := by rw [l1]; decide
          unfold FR_X9_unpick FM_unpick
          simp only [e1, e2, sb, ocs, r2, gdt, c1, hcl.1, y1, y2, i10, ↓reduceIte, g30, gi, u1.1, if_pos ch, l2, m20, m15, if_neg n15]
          exact ⟨_, _, _, rfl, rfl, own, B, K, hI⟩
      · unfold FR_X9_unpick FM_unpick
        simp only [e1, e2, sb, ocs, r2, gdt, c1, hcl.1, y1, y2, i10, ↓reduceIte, g30, gi, u1.1, if_neg ch, m20]
        exact ⟨_, _, _, rfl, rfl, own, B, K, hI⟩
