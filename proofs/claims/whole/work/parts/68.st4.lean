theorem st_measure {ρ : RS} {μ : MS} (h : Inv ρ μ) (p1 : Int32) (p2 : Int32) (p3 : Int32) : ∃ q ρ' μ', FR_X9_measure ρ p1 p2 p3 = some (q, ρ') ∧ FM_measure μ p1 p2 p3 = some (q, μ') ∧ Inv ρ' μ' := by
  obtain ⟨own, B, K, h⟩ := h
  unfold FR_X9_measure FM_measure
  rcases in_c (a := 1) (b := 30) p1 1 30 rfl rfl (by decide) (by decide) with ⟨b, hb1, hb2, rfl, hw⟩ | hw
  · simp only [w_in hw, m_in hw, sb, i10, ↓reduceIte]
    rcases in_c (a := 1) (b := 30) p2 1 30 rfl rfl (by decide) (by decide) with ⟨f, hf1, hf2, rfl, hw⟩ | hw
    · simp only [w_in hw, m_in hw, sb, i10, ↓reduceIte]
      rcases in_c (a := 1) (b := 30) p3 1 30 rfl rfl (by decide) (by decide) with ⟨l, hl1, hl2, rfl, hw⟩ | hw
      · obtain ⟨hT, hB, hR, hP, hC, ⟨e, b0, f0, l0, ⟨q1, q2, q3, q4⟩, -, -, -⟩, hS⟩ := h
        simp only [w_in hw, m_in hw, sb, i10, ↓reduceIte, q1, q2, gdt, q4, show inb (0 : Int32) 6 = true from rfl, show inb (1 : Int32) 6 = true from rfl, show inb (4 : Int32) 6 = true from rfl, show inb (5 : Int32) 6 = true from rfl, qrV_wa, qisK_wa, qpN_wa]
        refine ⟨_, _, _, rfl, rfl, ?_⟩
        simp only [wa_wc, wc_wc, qpA_wc, ↓reduceIte]
        generalize hG : upd (upd (upd (upd (pA ρ e) (0 : Int32).toNatClampNeg (nI b)) (1 : Int32).toNatClampNeg (nI b)) (4 : Int32).toNatClampNeg (nI f)) (5 : Int32).toNatClampNeg (nI l) = G
        have hs : ∀ s, s ≠ 540 → ag ρ (wc ρ e G) own own s := fun s hs => ag_wc (by rw [q3]; exact hs)
        refine ⟨own, B, K, hT.fr rfl rfl rfl rfl, hB.fr rfl rfl (fun s _ => hs s (by omega)) rfl rfl rfl rfl rfl rfl, hR.fr rfl rfl (fun s _ _ => hs s (by omega)) rfl (fun k _ _ => rfl), hP.fr rfl (fun s _ _ => hs s (by omega)) rfl rfl rfl rfl, hC.fr rfl (fun s _ _ => hs s (by omega)) rfl rfl, ⟨e, b, f, l, ⟨q1, q2, q3, q4⟩, ⟨hb1, hb2, hf1, hf2, hl1, hl2⟩, ?_, rfl, rfl, rfl⟩, hS.fr rfl rfl rfl rfl rfl rfl rfl rfl rfl rfl⟩
        simp only [qpA_wc, ↓reduceIte]
        rw [← hG]
        exact ⟨rfl, rfl, rfl, rfl⟩
      · simp only [w_out hw, m_out hw, sb, ↓reduceIte]
        exact ⟨_, _, _, rfl, rfl, own, B, K, h⟩
    · simp only [w_out hw, m_out hw, sb, ↓reduceIte]
      exact ⟨_, _, _, rfl, rfl, own, B, K, h⟩
  · simp only [w_out hw, m_out hw, sb, ↓reduceIte]
    exact ⟨_, _, _, rfl, rfl, own, B, K, h⟩
/-- the sleeves' rows put into the measures -/
def fitR (ρ : RS) (e sl : Nat) : RS := wa (wa ρ e (2 : Int32) (nI sl)) e (3 : Int32) (nI sl)
theorem fit_c {own : Nat → Nat} {ρ : RS} {μ : MS} {e b f l c r n i : Nat} (hM : MeasV own ρ μ e b f l) (hc : isK ρ c 0 = true) (hr : pR ρ c 0 = some r) (hrk : isK ρ r 11 = true) (hn : pN ρ r = n) (hn2 : n ≤ 120) (hi : i < 40) (hm : μ.2 2 i = nI n) :
    (FR_X9_fitSleeves ρ c = some (0, ρ) ∧ FM_sleeveOf μ (nI i) = some (-3)) ∨ ∃ sl, 1 ≤ sl ∧ 2 * b + 2 * sl + f + l = n ∧ FR_X9_fitSleeves ρ c = some (1, fitR ρ e sl) ∧ FM_sleeveOf μ (nI i) = some (nI sl) := by
  obtain ⟨⟨q1, q2, q3, q4⟩, ⟨b1, b2, b3, b4, b5, b6⟩, ⟨a0, a1, a4, a5⟩, m1, m2, m3⟩ := hM
  unfold FR_X9_fitSleeves FM_sleeveOf
  have A0 : pA ρ e (0 : Int32).toNatClampNeg = nI b := a0
  have A4 : pA ρ e (4 : Int32).toNatClampNeg = nI f := a4
  have A5 : pA ρ e (5 : Int32).toNatClampNeg = nI l := a5
  have E : Int32.ofNat n - 2 * nI b - nI f - nI l = nI n - nI (2 * b + f + l) := by
    rw [show (2 : Int32) * nI b = nI (2 * b) from pk_mul 2 b, Int32.sub_sub, Int32.sub_sub, nI_add, nI_add]
    show nI n - _ = _
    congr 2
    omega
  have E2 : nI n - 2 * nI b - nI f - nI l = nI n - nI (2 * b + f + l) := E
  simp only [hc, gdt, hr, sb, hrk, q1, q2, q4, show inb (0 : Int32) 6 = true from rfl, show inb (2 : Int32) 6 = true from rfl, show inb (3 : Int32) 6 = true from rfl, show inb (4 : Int32) 6 = true from rfl, show inb (5 : Int32) 6 = true from rfl, hn, A0, A4, A5, E, E2, inb_nI hi (show 40 < 2 ^ 31 by decide), nI_clamp (show i < 2 ^ 31 by omega), hm, m1, m2, m3, qrV_wa, qisK_wa, qpN_wa]
  by_cases c0 : n < 2 * b + f + l + 2
  · have c1 : nI n - nI (2 * b + f + l) < 2 := by
      refine Int32.lt_iff_toInt_lt.mpr ?_
      rw [pk_sub_toInt (by omega) (by omega)]
      show _ < (2 : Int)
      omega
    exact Or.inl ⟨by rw [if_pos c1], by rw [if_pos c1]⟩
  · have E3 : nI n - nI (2 * b + f + l) = nI (n - (2 * b + f + l)) := z_sub (by omega)
    rw [E3]
    generalize hd : n - (2 * b + f + l) = d
    have c1 : ¬ nI d < 2 := nI_nlt (b := 2) (by omega) (by omega)
    have E5 : nI d / 2 = nI (d / 2) := z_div (d := 2) (by omega) (by decide) (by decide)
    have E4 : nI d - nI (d / 2) * 2 = nI (d % 2) := by rw [← E5]; exact z_rem (d := 2) (by omega) (by decide) (by decide)
    simp only [if_neg c1, E5, E4]
    by_cases c2 : d % 2 = 0
    · rw [c2]
      exact Or.inr ⟨d / 2, by omega, by omega, rfl, rfl⟩
    · have c3 : ¬ nI (d % 2) = 0 := nI_ne0 (by omega) (by omega)
      exact Or.inl ⟨by rw [if_neg c3], by rw [if_neg c3]⟩
theorem fitR_wc (ρ : RS) (e sl : Nat) : fitR ρ e sl = wc ρ e (upd (upd (pA ρ e) 2 (nI sl)) 3 (nI sl)) := by
  unfold fitR
  simp only [wa_wc, wc_wc, qpA_wc, ↓reduceIte]
  rfl
/-- with the sleeves' rows put in, all holds as before -/
theorem fit_inv {own : Nat → Nat} {B K : Nat} {ρ : RS} {μ : MS} (h : InvO own B K ρ μ) {e : Nat} (he : rV ρ 906 = some e) (sl : Nat) : InvO own B K (fitR ρ e sl) μ := by
  obtain ⟨hT, hB, hR, hP, hC, ⟨e', b, f, l, ⟨q1, q2, q3, q4⟩, q5, ⟨a0, a1, a4, a5⟩, q6⟩, hS⟩ := h
  have ee : e' = e := Option.some.inj (q1.symm.trans he)
  subst ee
  rw [fitR_wc]
  have hs : ∀ s, s ≠ 540 → ag ρ (wc ρ e' (upd (upd (pA ρ e') 2 (nI sl)) 3 (nI sl))) own own s := fun s hs => ag_wc (by rw [q3]; exact hs)
  refine ⟨hT.fr rfl rfl rfl rfl, hB.fr rfl rfl (fun s _ => hs s (by omega)) rfl rfl rfl rfl rfl rfl, hR.fr rfl rfl (fun s _ _ => hs s (by omega)) rfl (fun k _ _ => rfl), hP.fr rfl (fun s _ _ => hs s (by omega)) rfl rfl rfl rfl, hC.fr rfl (fun s _ _ => hs s (by omega)) rfl rfl, ⟨e', b, f, l, ⟨q1, q2, q3, q4⟩, q5, ?_, q6⟩, hS.fr rfl rfl rfl rfl rfl rfl rfl rfl rfl rfl⟩
  simp only [qpA_wc, ↓reduceIte]
  exact ⟨a0, a1, a4, a5⟩
theorem st_sleeves {ρ : RS} {μ : MS} (h : Inv ρ μ) (p1 : Int32) : ∃ q ρ', FR_X9_sleeves ρ p1 = some (q, ρ') ∧ FM_sleeves μ p1 = some q ∧ Inv ρ' μ := by
  obtain ⟨own, B, K, h⟩ := h
  unfold FR_X9_sleeves FM_sleeves
  rcases bolt_c h p1 with ⟨e1, e2⟩ | ⟨i, c, n, hi, hi2, rfl, ⟨h1, h2, h3, h4, h5, h6, h7, h8, h9, h10, h11, r, h12, h13, h14⟩, e1, e2⟩
  · simp only [e1, e2, sb, ocn, ↓reduceIte]
    exact ⟨_, _, rfl, rfl, own, B, K, h⟩
  · obtain ⟨e, b, f, l, hM⟩ := h.2.2.2.2.2.1
    simp only [e1, e2, sb, ocs, i10, ↓reduceIte]
    rcases fit_c hM h4 h12 h14.1 h14.2.1 h11 hi2 h3 with ⟨e3, e4⟩ | ⟨sl, s1, s2, e3, e4⟩
    · simp only [e3, e4, sb, ↓reduceIte]
      exact ⟨_, _, rfl, rfl, own, B, K, h⟩
    · simp only [e3, e4, sb, i10, ↓reduceIte]
      have hV : rV (fitR ρ e sl) 906 = some e := hM.1.1
      have hK2 : isK (fitR ρ e sl) e 11 = true := hM.1.2.1
      have hN : pN (fitR ρ e sl) e = 6 := hM.1.2.2.2
      have hA : pA (fitR ρ e sl) e (2 : Int32).toNatClampNeg = nI sl := by
        rw [fitR_wc, qpA_wc, if_pos rfl]
        rfl
      simp only [hV, sb, hK2, gdt, hN, show inb (2 : Int32) 6 = true from rfl, hA]
      exact ⟨_, _, rfl, rfl, own, B, K, fit_inv h hM.1.1 sl⟩
