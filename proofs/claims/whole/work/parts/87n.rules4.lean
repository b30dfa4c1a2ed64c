theorem rul116 {μ : MS} {p m : Nat} {W : Nat → Int32} (hp : p < 4) (hm : m ≤ 6) (hW : μ.2 40 = W) : ∀ d i fuel, i + d = 3 * m → d < fuel → FM_rules_116 (nI p) (nI m) fuel (nI i) (mc μ 29 (hyb (18 * p) i W (μ.2 29))) = some (nI m, mc μ 29 (hyb (18 * p) (3 * m) W (μ.2 29))) := by
  intro d
  have a40 : ∀ g, (mc μ 29 g).2 40 = W := fun g => hW
  induction d with
  | zero =>
    intro i fuel hi hf
    obtain ⟨f1, rfl⟩ : ∃ f, fuel = f + 1 := ⟨fuel - 1, by omega⟩
    have e : i = 3 * m := by omega
    subst e
    rw [FM_rules_116, i_3n, if_pos (nI_le (Nat.le_refl _) (by omega))]
  | succ d ih =>
    intro i fuel hi hf
    obtain ⟨f1, rfl⟩ : ∃ f, fuel = f + 1 := ⟨fuel - 1, by omega⟩
    rw [FM_rules_116, i_3n, if_neg (nI_ge (by omega) (by omega)), gd_t (inb_nI (show i < 18 by omega) (by decide)), show (18 : Int32) * nI p = nI (18 * p) from pk_mul 18 p, nI_add, gd_t (inb_nI (show 18 * p + i < 72 by omega) (by decide)), a40, nI_clamp (show i < 2 ^ 31 by omega), sa_mc, mc_mc, nI_clamp (show 18 * p + i < 2 ^ 31 by omega), m2_mc, if_pos rfl, hyb_s, nI_1]
    exact ih (i + 1) f1 (by omega) (by omega)
theorem rul87 {μ : MS} {p m : Nat} {W : Nat → Int32} {k : Int32} (hp : p < 4) (hm : m ≤ 6) : FM_rules_87 (nI p) (nI m) (pz μ W k 0) = some (nI m, mc (sa (si (pz μ W k 0) 31 0) 28 (nI p) (nI m)) 29 (hyb (18 * p) (3 * m) W (μ.2 29))) := by
  have hfu := fu_pos
  unfold FM_rules_87
  rw [pz_39, if_pos rfl, gd_t (inb_nI hp (by decide))]
  have hW : (sa (si (pz μ W k 0) 31 0) 28 (nI p) (nI m)).2 40 = W := by
    rw [s2_sa_n (by decide), s2_si]
    unfold pz
    rw [m2_mc, if_pos rfl]
  have h29 : (sa (si (pz μ W k 0) 31 0) 28 (nI p) (nI m)).2 29 = μ.2 29 := by
    rw [s2_sa_n (by decide), s2_si]
    unfold pz
    rw [m2_mc, if_neg (by decide)]
    rfl
  generalize sa (si (pz μ W k 0) 31 0) 28 (nI p) (nI m) = μ2 at hW h29 ⊢
  have w := rul116 (μ := μ2) hp hm hW (3 * m) 0 fu (by omega) (by omega)
  rw [hyb_0, mc_self, h29, show nI 0 = (0 : Int32) from rfl] at w
  exact w
theorem pz_o {μ : MS} {W : Nat → Int32} {k fl : Int32} : (∀ j, j ≠ 38 → j ≠ 39 → (pz μ W k fl).1 j = μ.1 j) ∧ (∀ j, j ≠ 40 → (pz μ W k fl).2 j = μ.2 j) := by
  refine ⟨fun j h1 h2 => ?_, fun j h1 => ?_⟩
  · show (si (si μ 38 k) 39 fl).1 j = _
    rw [s1_si_n h2, s1_si_n h1]
  · unfold pz
    rw [m2_mc, if_neg h1]
    rfl
/-- the text is gone, nothing else -/
theorem rul_no {own : Nat → Nat} {B K : Nat} {ρ ρ' : RS} {μ μ' : MS} (h : InvO own B K ρ μ) (h1 : ∀ j, j ≠ 501 → j ≠ 801 → rI ρ' j = rI ρ j) (h8 : rI ρ' 801 = 0) (h2 : ∀ j, j ≠ 500 → rA ρ' j = rA ρ j) (h3 : ρ'.2.2 = ρ.2.2) (m1 : ∀ j, j ≠ 31 → j ≠ 38 → j ≠ 39 → μ'.1 j = μ.1 j) (m31 : μ'.1 31 = 0) (m2 : ∀ j, j ≠ 40 → μ'.2 j = μ.2 j) : InvO own B K ρ' μ' := by
  have hq : ∀ j, rQ ρ' j = rQ ρ j := fun j => by unfold rQ; rw [h3]
  have hv : ∀ j, rV ρ' j = rV ρ j := fun j => by unfold rV; rw [h3]
  have hp : ρ'.2.2.2.2 = ρ.2.2.2.2 := by rw [h3]
  obtain ⟨hT, hB, hR, hP, hC, hM, hS⟩ := h
  exact ⟨⟨0, by omega, h8, m31, fun j hj => absurd hj (Nat.not_lt_zero j)⟩, hB.fr (h1 _ (by decide) (by decide)) (hq _) (fun s _ => ag_sm hp) (m1 _ (by decide) (by decide) (by decide)) (m2 _ (by decide)) (m2 _ (by decide)) (m2 _ (by decide)) (m2 _ (by decide)) (m2 _ (by decide)), hR.fr (h1 _ (by decide) (by decide)) (hq _) (fun s _ _ => ag_sm hp) (m1 _ (by decide) (by decide) (by decide)) (fun k _ _ => m2 k (by omega)), hP.fr (hq _) (fun s _ _ => ag_sm hp) (m2 _ (by decide)) (m2 _ (by decide)) (m2 _ (by decide)) (m2 _ (by decide)), hC.fr (hq _) (fun s _ _ => ag_sm hp) (m2 _ (by decide)) (m2 _ (by decide)), hM.fr (hv _) (ag_sm hp) (m1 _ (by decide) (by decide) (by decide)) (m1 _ (by decide) (by decide) (by decide)) (m1 _ (by decide) (by decide) (by decide)), hS.fr (h1 _ (by decide) (by decide)) (h1 _ (by decide) (by decide)) (h1 _ (by decide) (by decide)) (h1 _ (by decide) (by decide)) (h2 _ (by decide)) (m1 _ (by decide) (by decide) (by decide)) (m1 _ (by decide) (by decide) (by decide)) (m1 _ (by decide) (by decide) (by decide)) (m1 _ (by decide) (by decide) (by decide)) (m2 _ (by decide))⟩
/-- a chest's rules become these -/
theorem rul_yes {own : Nat → Nat} {B K p u e m0 m : Nat} {ρ : RS} {μ : MS} {C G W : Nat → Int32} (h : InvO own B K ρ μ) (hp : p < 4) (hc : ChestV own ρ μ p u e m0) (hm : m ≤ 6) (hG : ∀ t, t < m → G t = C t) (hok : ∀ t, t < m → clOk C W t) : InvO own B K (wc (wi ρ u 1 (nI m)) e G) (mc (sa μ 28 (nI p) (nI m)) 29 (hyb (18 * p) (3 * m) W (μ.2 29))) := by
  obtain ⟨⟨u1, u2, u3⟩, ⟨e1, e2, e3, e4⟩, -, -⟩ := hc
  have hs : ∀ s, s ≠ 500 + p → s ≠ 510 + p → ag ρ (wc (wi ρ u 1 (nI m)) e G) own own s := fun s h1 h2 => (ag_wi (by rw [u3]; exact h1)).trans (ag_wc (by rw [e3]; exact h2))
  have ep : (nI p).toNatClampNeg = p := nI_clamp (by omega)
  have k28 : (mc (sa μ 28 (nI p) (nI m)) 29 (hyb (18 * p) (3 * m) W (μ.2 29))).2 28 = upd (μ.2 28) p (nI m) := by rw [m2_mc, if_neg (by decide), s2_sa_s, ep]
  have k29 : (mc (sa μ 28 (nI p) (nI m)) 29 (hyb (18 * p) (3 * m) W (μ.2 29))).2 29 = hyb (18 * p) (3 * m) W (μ.2 29) := by rw [m2_mc, if_pos rfl]
  have kk : ∀ j, j ≠ 28 → j ≠ 29 → (mc (sa μ 28 (nI p) (nI m)) 29 (hyb (18 * p) (3 * m) W (μ.2 29))).2 j = μ.2 j := fun j h1 h2 => by rw [m2_mc, if_neg h2, s2_sa_n h1]
  have k1 : (mc (sa μ 28 (nI p) (nI m)) 29 (hyb (18 * p) (3 * m) W (μ.2 29))).1 = μ.1 := rfl
  have i1 : pI (wc (wi ρ u 1 (nI m)) e G) u 1 = nI m := by
    rw [qpI_wc, qpI_wi]
    simp
  have aE : pA (wc (wi ρ u 1 (nI m)) e G) e = G := by rw [qpA_wc, if_pos rfl]
  generalize mc (sa μ 28 (nI p) (nI m)) 29 (hyb (18 * p) (3 * m) W (μ.2 29)) = μ' at k28 k29 kk k1 ⊢
  have q0 : ∀ j, rQ (wc (wi ρ u 1 (nI m)) e G) j = rQ ρ j := fun j => rfl
  have r0 : pR (wc (wi ρ u 1 (nI m)) e G) u 0 = some e := e1
  have n0 : pN (wc (wi ρ u 1 (nI m)) e G) e = 6 := e4
  have ku : isK (wc (wi ρ u 1 (nI m)) e G) u 6 = true := u2
  have ke : isK (wc (wi ρ u 1 (nI m)) e G) e 11 = true := e2
  have ri0 : ∀ j, rI (wc (wi ρ u 1 (nI m)) e G) j = rI ρ j := fun j => rfl
  have ra0 : ∀ j, rA (wc (wi ρ u 1 (nI m)) e G) j = rA ρ j := fun j => rfl
  have rv0 : ∀ j, rV (wc (wi ρ u 1 (nI m)) e G) j = rV ρ j := fun j => rfl
  generalize wc (wi ρ u 1 (nI m)) e G = ρ' at hs i1 aE q0 r0 n0 ku ke ri0 ra0 rv0 ⊢
  obtain ⟨hT, hB, hR, hP, hC, hM, hS⟩ := h
  refine ⟨hT.fr (ri0 _) (ra0 _) (by rw [k1]) (kk _ (by decide) (by decide)), hB.fr (ri0 _) (q0 _) (fun s _ => hs s (by omega) (by omega)) (by rw [k1]) (kk _ (by decide) (by decide)) (kk _ (by decide) (by decide)) (kk _ (by decide) (by decide)) (kk _ (by decide) (by decide)) (kk _ (by decide) (by decide)), hR.fr (ri0 _) (q0 _) (fun s _ _ => hs s (by omega) (by omega)) (by rw [k1]) (fun k _ _ => kk k (by omega) (by omega)), hP.fr (q0 _) (fun s _ _ => hs s (by omega) (by omega)) (kk _ (by decide) (by decide)) (kk _ (by decide) (by decide)) (kk _ (by decide) (by decide)) (kk _ (by decide) (by decide)), fun k hk => ?_, hM.fr (rv0 _) (hs _ (by omega) (by omega)) (by rw [k1]) (by rw [k1]) (by rw [k1]), hS.fr (ri0 _) (ri0 _) (ri0 _) (ri0 _) (ra0 _) (by rw [k1]) (by rw [k1]) (by rw [k1]) (by rw [k1]) (kk _ (by decide) (by decide))⟩
  by_cases c : k = p
  · subst c
    refine ⟨u, e, m, ⟨(congrFun (q0 913) k).trans u1, ku, u3⟩, ⟨r0, ke, e3, n0⟩, ⟨hm, i1, by rw [k28, upd_s]⟩, fun t ht => ?_⟩
    obtain ⟨w, sg, nn, z1, z2, z3, z4, z5, z6, z7⟩ := hok t ht
    refine ⟨w, sg, nn, z1, z2, z3, by rw [aE, hG t ht, z4], ?_, ?_, ?_⟩
    · rw [k29, hyb_in (by omega), z5]
    · rw [k29, Nat.add_assoc, hyb_in (by omega), z6]
    · rw [k29, Nat.add_assoc, hyb_in (by omega), z7]
  · obtain ⟨u', e', m', hz⟩ := hC k hk
    exact ⟨u', e', m', hz.fr (congrFun (q0 913) k) (hs _ (by omega) (by omega)) (hs _ (by omega) (by omega)) (by rw [k28, upd_n c]) (fun t ht => by rw [k29]; exact hyb_out (by omega))⟩
theorem ltm10 {k : Nat} (h : k ≤ 130) : ((-10 : Int32) - nI k) < 0 := by
  refine Int32.lt_iff_toInt_lt.mpr ?_
  have z2 : ((-10 : Int32) - nI k) = - nI (10 + k) := by
    rw [← nI_add, Int32.neg_add]
    rfl
  rw [z2, Int32.toInt_neg, nI_toInt (by omega), show (0 : Int32).toInt = 0 from by decide, Int.bmod_def]
  split <;> omega
theorem take_e {ρ2 : RS} {u e m : Nat} {C : Nat → Int32} (u2 : isK ρ2 u 6 = true) (e1 : pR ρ2 u 0 = some e) (e2 : isK ρ2 e 11 = true) (e4 : pN ρ2 e = 6) (hC : rA ρ2 500 = C) (hm : m ≤ 6) : FR_X6_take ρ2 u (nI m) = some (wc (wi ρ2 u 1 (nI m)) e (va_cpy C (pA ρ2 e) 0 0 m)) := by
  unfold FR_X6_take
  have a0 : (if (6 : Int32) < nI m then (6 : Int32) else nI m) = nI m := if_neg (nI_nlt (a := 6) (b := m) (by omega) (by decide))
  have a1 : pR (wi ρ2 u 1 (nI m)) u 0 = some e := e1
  have a2 : isK (wi ρ2 u 1 (nI m)) e 11 = true := e2
  have a3 : pI (wi ρ2 u 1 (nI m)) u 1 = nI m := by
    rw [qpI_wi]
    simp
  have a4 : pN (wi ρ2 u 1 (nI m)) e = 6 := e4
  have a5 : rA (wi ρ2 u 1 (nI m)) 500 = C := hC
  have a6 : pA (wi ρ2 u 1 (nI m)) e = pA ρ2 e := rfl
  rw [u2, gdt, a0, a1, sb, a2, gdt, a3, a4, a5, a6, gd_t (show cpo 0 0 (nI m) 6 6 = true from cpo_nI (a := 0) (b := 0) (by omega) (by omega) (by decide) (by decide)), nI_clamp (by omega)]
  rfl
theorem st_rules {ρ : RS} {μ : MS} (h : Inv ρ μ) (p1 : Int32) : ∃ q ρ' μ', FR_X9_rules ρ p1 = some (q, ρ') ∧ FM_rules μ p1 = some (q, μ') ∧ Inv ρ' μ' := by
  obtain ⟨own, B, K, h⟩ := h
  have hfu := fu_pos
  unfold FR_X9_rules FM_rules
  rcases in_c (a := 0) (b := 3) p1 0 3 rfl rfl (by decide) (by decide) with ⟨p, -, hp3, rfl, hw⟩ | hw
  · obtain ⟨T, T1, T2, T3, T4⟩ := h.1
    have hp : p < 4 := by omega
    have hRB : RB ρ T (fun k => if k < T then rA ρ 800 k else -1) := by
      refine ⟨T2, T1, fun k hk => ⟨(if_pos hk).symm, ?_⟩, fun k hk => if_neg (by omega)⟩
      obtain ⟨b, b1, b2, b3⟩ := T4 k hk
      exact ⟨b, b1, (if_pos hk).trans b2⟩
    have hMB : MB μ T (fun k => if k < T then rA ρ 800 k else -1) := by
      refine ⟨T3, T1, fun k hk => ?_, fun k hk => if_neg (by omega)⟩
      obtain ⟨b, b1, b2, b3⟩ := T4 k hk
      exact b3.trans ((if_pos hk).trans b2).symm
    generalize (fun k => if k < T then rA ρ 800 k else -1) = bt at hRB hMB
    simp only [w_in hw, m_in hw, sb, i10, ↓reduceIte]
    have e0 : si (si μ 38 0) 39 0 = pz μ (μ.2 40) (nI 0) 0 := (mc_self (si (si μ 38 0) 39 0) 40).symm
    have hfu1 : ∃ g, fu = g + 1 := ⟨fu - 1, by omega⟩
    have hR0 : FR_X5_readFrom ρ = FR_X5_readFrom_7 fu (nI 0) (rz ρ (rA ρ 500) 0) := by
      unfold FR_X5_readFrom rz
      rw [rc_self]
      rfl
    have hM0 : ∀ g, fu = g + 1 → FM_rules_23 (fun x2_87 σ_87 => FM_rules_87 (nI p) x2_87 σ_87) (nI p) fu (0 : Int32) (si (si μ 38 (0 : Int32)) 39 (0 : Int32)) = FM_rules_69 (fun x2 σ2 => FM_rules_23 (fun x2_87 σ_87 => FM_rules_87 (nI p) x2_87 σ_87) (nI p) g x2 σ2) (nI p) (nI 0) (pz μ (μ.2 40) (nI 0) 0) := fun g hg => by
      rw [e0, hg, FM_rules_23, pz_39, if_pos rfl, if_pos rfl]
      unfold FM_rules_45
      rw [if_neg (by decide), if_pos (by decide)]
      rfl
    obtain ⟨g, hg⟩ := hfu1
    rw [hM0 g hg, hR0]
    have L := rulesL (x1 := nI p) (K := fun x2_87 σ_87 => FM_rules_87 (nI p) x2_87 σ_87) hRB hMB 5 0 fu g (rA ρ 500) (μ.2 40) 0 (by omega) (by omega) (by omega) (Nat.zero_le _) (fun t ht => absurd ht (Nat.not_lt_zero t))
    generalize FR_X5_readFrom_7 fu (nI 0) (rz ρ (rA ρ 500) 0) = YR at L ⊢
    generalize FM_rules_69 (fun x2 σ2 => FM_rules_23 (fun x2_87 σ_87 => FM_rules_87 (nI p) x2_87 σ_87) (nI p) g x2 σ2) (nI p) (nI 0) (pz μ (μ.2 40) (nI 0) 0) = YM at L ⊢
    have hri : ∀ C' k, ∀ j, j ≠ 501 → j ≠ 801 → rI (ri (rz ρ C' k) 801 0) j = rI ρ j := fun C' k j h1 h2 => by
      rw [qrI_ri, if_neg h2]
      unfold rz
      rw [qrI_ri, if_neg h1]
      rfl
    have hri8 : ∀ C' k, rI (ri (rz ρ C' k) 801 0) 801 = 0 := fun C' k => by rw [qrI_ri, if_pos rfl]
    have hra : ∀ C' k, ∀ j, j ≠ 500 → rA (ri (rz ρ C' k) 801 0) j = rA ρ j := fun C' k j h1 => by
      show rA (rc ρ 500 C') j = _
      unfold rA rc va_up
      exact if_neg h1
    have hm1 : ∀ W' k fl, ∀ j, j ≠ 31 → j ≠ 38 → j ≠ 39 → (si (pz μ W' k fl) 31 0).1 j = μ.1 j := fun W' k fl j h1 h2 h3 => by
      rw [s1_si_n h1]
      exact pz_o.1 j h2 h3
    have hm31 : ∀ W' k fl, (si (pz μ W' k fl) 31 0).1 31 = 0 := fun W' k fl => s1_si_s _ _ _
    have hm2 : ∀ W' k fl, ∀ j, j ≠ 40 → (si (pz μ W' k fl) 31 0).2 j = μ.2 j := fun W' k fl j h1 => by
      rw [s2_si]
      exact pz_o.2 j h1
    have hN : ∀ C' W' k k' fl, InvO own B K (ri (rz ρ C' k) 801 0) (si (pz μ W' k' fl) 31 0) := fun C' W' k k' fl => rul_no h (hri C' k) (hri8 C' k) (hra C' k) rfl (hm1 W' k' fl) (hm31 W' k' fl) (hm2 W' k' fl)
    rcases L with ⟨k, C', W', y, k1, rfl, rfl⟩ | ⟨m, C', W', m1, m2, m3, rfl, rfl⟩
    · have n1 : ((-10 : Int32) - nI k) < 0 := ltm10 (by omega)
      have e87 : FM_rules_87 (nI p) y (pz μ W' (nI k) 1) = some (-10 - nI k, si (pz μ W' (nI k) 1) 31 0) := by
        unfold FM_rules_87
        rw [pz_39, if_neg (show ¬ (1 : Int32) = 0 by decide), pz_38]
      refine ⟨_, _, _, ?_, e87, own, B, K, hN C' W' k (nI k) 1⟩
      rw [sb]
      exact if_pos n1
    · have n1 : ¬ nI m < 0 := nI_pos (by omega)
      have b0 := hN C' W' T (nI T) 0
      obtain ⟨u, e, mm, hc⟩ := b0.2.2.2.2.1 p hp
      have hc0 := hc
      obtain ⟨⟨u1, u2, u3⟩, ⟨e1, e2, e3, e4⟩, -, -⟩ := hc
      have hC : rA (ri (rz ρ C' T) 801 0) 500 = C' := rz_C ρ C' T
      have h29 : (si (pz μ W' (nI T) 0) 31 0).2 29 = μ.2 29 := hm2 _ _ _ 29 (by decide)
      have e87 := rul87 (μ := μ) (W := W') (k := nI T) hp m2
      rw [← h29] at e87
      have eT := take_e u2 e1 e2 e4 hC m2
      refine ⟨nI m, wc (wi (ri (rz ρ C' T) 801 0) u 1 (nI m)) e (va_cpy C' (pA (ri (rz ρ C' T) 801 0) e) 0 0 m), _, ?_, e87, own, B, K, rul_yes b0 hp hc0 m2 (fun t ht => cpy0 ht) m3⟩
      rw [sb, if_neg n1, gd_t (inb_nI hp (by decide)), nI_clamp (by omega), u1, sb, u2, gdt, eT, sb]
  · simp only [w_out hw, m_out hw, sb, ↓reduceIte]
    exact ⟨_, _, _, rfl, rfl, own, B, K, h⟩
