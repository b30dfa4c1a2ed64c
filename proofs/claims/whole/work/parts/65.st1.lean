theorem in_B {P : Int32 → Int32 → Int32 → Option Int32} (hp1 : ∀ a b c, b ≤ a ∧ a ≤ c → P a b c = some 1) (hp0 : ∀ a b c, ¬ (b ≤ a ∧ a ≤ c) → P a b c = some 0) (p : Int32) (B : Nat) (hB : B < 1000) : (P p 0 (nI B - 1) = some 1 ∧ ∃ i, i < B ∧ p = nI i) ∨ (P p 0 (nI B - 1) = some 0 ∧ ∀ i, i < B → ¬ p = nI i) := by
  have hs : (nI B - nI 1).toInt = (B : Int) - 1 := pk_sub_toInt (by omega) (by omega)
  by_cases c : (0 : Int32) ≤ p ∧ p ≤ nI B - 1
  · left
    refine ⟨hp1 _ _ _ c, ?_⟩
    have h1 := Int32.le_iff_toInt_le.mp c.1
    have h2 : p.toInt ≤ (nI B - nI 1).toInt := Int32.le_iff_toInt_le.mp c.2
    rw [hs] at h2
    have h0 : (0 : Int32).toInt = 0 := by decide
    rw [h0] at h1
    refine ⟨p.toInt.toNat, by omega, Int32.toInt_inj.mp ?_⟩
    rw [nI_toInt (by omega)]
    omega
  · right
    refine ⟨hp0 _ _ _ c, fun i hi e => c ?_⟩
    subst e
    refine ⟨nI_pos' (by omega), Int32.le_iff_toInt_le.mpr ?_⟩
    show (nI i).toInt ≤ (nI B - nI 1).toInt
    rw [hs, nI_toInt (by omega)]
    omega
theorem bolt_c {own : Nat → Nat} {B K : Nat} {ρ : RS} {μ : MS} (h : InvO own B K ρ μ) (p : Int32) : (FR_X9_boltAt ρ p = some none ∧ FM_isThere μ p = some 0) ∨ ∃ i c n, i < B ∧ i < 40 ∧ p = nI i ∧ BoltL own ρ μ i c n ∧ FR_X9_boltAt ρ p = some (some c) ∧ FM_isThere μ p = some 1 := by
  obtain ⟨-, ⟨hB, hB1, hB2, hb⟩, -⟩ := h
  have hin := in_B (P := FM_in) (fun _ _ _ => m_in) (fun _ _ _ => m_out) p B (by omega)
  rcases in_c (a := 0) (b := 39) p 0 39 rfl rfl (by decide) (by decide) with ⟨i, -, hi, rfl, hw⟩ | hw
  · have e1 : FR_X9_boltAt ρ (nI i) = some (rQ ρ 902 i) := by
      unfold FR_X9_boltAt
      rw [w_in hw, sb, if_neg (by decide), gd_t (inb_nI (by omega) (by decide)), nI_clamp (by omega)]
    rcases hb i (by omega) with ⟨h1, h2⟩ | ⟨hi2, c, n, h1⟩
    · refine Or.inl ⟨by rw [e1, h1], ?_⟩
      unfold FM_isThere
      rw [hB2]
      rcases hin with ⟨hin, j, hj, ej⟩ | ⟨hin, -⟩
      · have e2 : i = j := (nI_eq (by omega) (by omega)).mp ej
        subst e2
        rw [hin, sb, if_neg (by decide), gd_t (inb_nI (by omega) (by decide)), nI_clamp (by omega), if_pos (h2 hj)]
      · rw [hin, sb, if_pos rfl]
    · refine Or.inr ⟨i, c, n, hi2, by omega, rfl, h1, by rw [e1, h1.1], ?_⟩
      unfold FM_isThere
      rw [hB2]
      rcases hin with ⟨hin, -⟩ | ⟨hin, hno⟩
      · rw [hin, sb, if_neg (by decide), gd_t (inb_nI (by omega) (by decide)), nI_clamp (by omega), h1.2.1, if_neg (by decide)]
      · exact absurd rfl (hno i hi2)
  · refine Or.inl ⟨?_, ?_⟩
    · unfold FR_X9_boltAt
      rw [w_out hw, sb, if_pos rfl]
    · unfold FM_isThere
      rw [hB2]
      rcases hin with ⟨hin, j, hj, ej⟩ | ⟨hin, -⟩
      · exact absurd ⟨by rw [ej]; exact nI_pos' (by omega), by rw [ej]; exact nI_le (b := 39) (by omega) (by omega)⟩ hw
      · rw [hin, sb, if_pos rfl]
theorem robe_c {own : Nat → Nat} {B K : Nat} {ρ : RS} {μ : MS} (h : InvO own B K ρ μ) (p : Int32) : (FR_X9_robeAt ρ p = some none ∧ FM_isMade μ p = some 0) ∨ ∃ i a c e b sl f l, i < K ∧ i < 30 ∧ p = nI i ∧ RobeL own ρ μ i a c e b sl f l ∧ FR_X9_robeAt ρ p = some (some a) ∧ FM_isMade μ p = some 1 := by
  obtain ⟨-, -, ⟨hB, hB1, hB2, hb⟩, -⟩ := h
  have hin := in_B (P := FM_in) (fun _ _ _ => m_in) (fun _ _ _ => m_out) p K (by omega)
  rcases in_c (a := 0) (b := 29) p 0 29 rfl rfl (by decide) (by decide) with ⟨i, -, hi, rfl, hw⟩ | hw
  · have e1 : FR_X9_robeAt ρ (nI i) = some (rQ ρ 904 i) := by
      unfold FR_X9_robeAt
      rw [w_in hw, sb, if_neg (by decide), gd_t (inb_nI (by omega) (by decide)), nI_clamp (by omega)]
    rcases hb i (by omega) with ⟨h1, h2⟩ | ⟨hi2, a, c, e, b, sl, f, l, h1⟩
    · refine Or.inl ⟨by rw [e1, h1], ?_⟩
      unfold FM_isMade
      rw [hB2]
      rcases hin with ⟨hin, j, hj, ej⟩ | ⟨hin, -⟩
      · have e2 : i = j := (nI_eq (by omega) (by omega)).mp ej
        subst e2
        rw [hin, sb, if_neg (by decide), gd_t (inb_nI (by omega) (by decide)), nI_clamp (by omega), if_pos (h2.1 hj)]
      · rw [hin, sb, if_pos rfl]
    · refine Or.inr ⟨i, a, c, e, b, sl, f, l, hi2, by omega, rfl, h1, by rw [e1, h1.1.1], ?_⟩
      unfold FM_isMade
      rw [hB2]
      rcases hin with ⟨hin, -⟩ | ⟨hin, hno⟩
      · rw [hin, sb, if_neg (by decide), gd_t (inb_nI (by omega) (by decide)), nI_clamp (by omega), h1.1.2.2.2.1, if_neg (by decide)]
      · exact absurd rfl (hno i hi2)
  · refine Or.inl ⟨?_, ?_⟩
    · unfold FR_X9_robeAt
      rw [w_out hw, sb, if_pos rfl]
    · unfold FM_isMade
      rw [hB2]
      rcases hin with ⟨hin, j, hj, ej⟩ | ⟨hin, -⟩
      · exact absurd ⟨by rw [ej]; exact nI_pos' (by omega), by rw [ej]; exact nI_le (b := 29) (by omega) (by omega)⟩ hw
      · rw [hin, sb, if_pos rfl]
theorem st_laid {ρ : RS} {μ : MS} (h : Inv ρ μ) (p1 : Int32) : ∃ q, FR_X9_laid ρ p1 = some q ∧ FM_laid μ p1 = some q := by
  obtain ⟨own, B, K, -, -, -, -, -, -, -, -, hl, -⟩ := h
  unfold FR_X9_laid FM_laid
  rcases hl with ⟨h1, h2, h3⟩ | ⟨h1, h2, h3⟩
  · rw [h1, h2, if_pos h3]
    by_cases c0 : p1 = 0
    · rw [if_pos c0]; exact ⟨_, rfl, rfl⟩
    · rw [if_neg c0]
      by_cases c1 : p1 = 1
      · rw [if_pos c1]; exact ⟨_, rfl, rfl⟩
      · rw [if_neg c1]; exact ⟨_, rfl, rfl⟩
  · rw [h2, h3, if_neg h1]
    by_cases c0 : p1 = 0
    · simp only [if_pos c0]; exact ⟨_, rfl, rfl⟩
    · simp only [if_neg c0]
      by_cases c1 : p1 = 1
      · simp only [if_pos c1]; exact ⟨_, rfl, rfl⟩
      · simp only [if_neg c1]; exact ⟨_, rfl, rfl⟩
theorem st_gets {ρ : RS} {μ : MS} (h : Inv ρ μ) (p1 : Int32) : ∃ q, FR_X9_gets ρ p1 = some q ∧ FM_gets μ p1 = some q := by
  obtain ⟨own, B, K, -, -, -, -, -, -, -, -, -, hg⟩ := h
  unfold FR_X9_gets FM_gets
  rcases in_c (a := 0) (b := 9) p1 0 9 rfl rfl (by decide) (by decide) with ⟨i, -, hi, rfl, hw⟩ | hw
  · simp only [w_in hw, m_in hw, sb, i10, ↓reduceIte, gd_t (inb_nI (show i < 10 by omega) (by decide)), nI_clamp (show i < 2 ^ 31 by omega), hg i (by omega)]
    exact ⟨_, rfl, rfl⟩
  · simp only [w_out hw, m_out hw, sb, ↓reduceIte]
    exact ⟨_, rfl, rfl⟩
theorem st_set {ρ : RS} {μ : MS} (h : Inv ρ μ) (p1 : Int32) (p2 : Int32) : ∃ q ρ' μ', FR_X9_set ρ p1 p2 = some (q, ρ') ∧ FM_set μ p1 p2 = some (q, μ') ∧ Inv ρ' μ' := by
  have h9 := h
  obtain ⟨own, B, K, hT, hB, hR, hP, hC, hM, ⟨t, t1, t2, t3⟩, ⟨f, f1, f2, f3⟩, hla, hg⟩ := h
  unfold FR_X9_set FM_set
  rcases in_c (a := 0) (b := 1) p1 0 1 rfl rfl (by decide) (by decide) with ⟨i, -, hi, rfl, hw⟩ | hw
  · simp only [w_in hw, m_in hw, sb, i10, ↓reduceIte]
    rcases in_c (a := 0) (b := 9) p2 0 9 rfl rfl (by decide) (by decide) with ⟨k, -, hk, rfl, hw2⟩ | hw2
    · simp only [w_in hw2, m_in hw2, sb, i10, ↓reduceIte]
      by_cases c0 : nI i = 0
      · simp only [if_pos c0]
        unfold FR_X9_set_39 FM_set_39
        simp only [if_pos c0, t2, t3]
        exact ⟨_, _, _, rfl, rfl, own, B, K, hT, hB.fr rfl rfl (fun s _ => ag_sm rfl) rfl rfl rfl rfl rfl rfl, hR.fr rfl rfl (fun s _ _ => ag_sm rfl) rfl (fun k _ _ => rfl), hP.fr rfl (fun s _ _ => ag_sm rfl) rfl rfl rfl rfl, hC.fr rfl (fun s _ _ => ag_sm rfl) rfl rfl, hM.fr rfl (ag_sm rfl) rfl rfl rfl, ⟨k, hk, rfl, rfl⟩, ⟨f, f1, f2, f3⟩, hla, hg⟩
      · simp only [if_neg c0]
        unfold FR_X9_set_39 FM_set_39
        simp only [if_neg c0, f2, f3]
        exact ⟨_, _, _, rfl, rfl, own, B, K, hT, hB.fr rfl rfl (fun s _ => ag_sm rfl) rfl rfl rfl rfl rfl rfl, hR.fr rfl rfl (fun s _ _ => ag_sm rfl) rfl (fun k _ _ => rfl), hP.fr rfl (fun s _ _ => ag_sm rfl) rfl rfl rfl rfl, hC.fr rfl (fun s _ _ => ag_sm rfl) rfl rfl, hM.fr rfl (ag_sm rfl) rfl rfl rfl, ⟨t, t1, t2, t3⟩, ⟨k, hk, rfl, rfl⟩, hla, hg⟩
    · simp only [w_out hw2, m_out hw2, sb, ↓reduceIte]
      exact ⟨_, _, _, rfl, rfl, h9⟩
  · simp only [w_out hw, m_out hw, sb, ↓reduceIte]
    exact ⟨_, _, _, rfl, rfl, h9⟩
theorem st_about {ρ : RS} {μ : MS} (h : Inv ρ μ) (p1 : Int32) (p2 : Int32) : ∃ q, FR_X9_about ρ p1 p2 = some q ∧ FM_about μ p1 p2 = some q := by
  obtain ⟨own, B, K, h⟩ := h
  unfold FR_X9_about FM_about
  rcases bolt_c h p1 with ⟨e1, e2⟩ | ⟨i, c, n, hi, hi2, rfl, ⟨h1, h2, h3, h4, h5, h6, h7, h8, h9, h10, h11, r, h12, h13, h14, h15, h16⟩, e1, e2⟩
  · simp only [e1, e2, sb, ocn, ↓reduceIte]
    exact ⟨_, rfl, rfl⟩
  · simp only [e1, e2, sb, ocs, i10, ↓reduceIte, h4, gdt, h12, h14, h15, h6, h7, inb_nI hi2 (show 40 < 2 ^ 31 by decide), nI_clamp (show i < 2 ^ 31 by omega), h3]
    by_cases c0 : p2 = 0
    · simp only [if_pos c0]; exact ⟨_, rfl, rfl⟩
    · simp only [if_neg c0]
      by_cases c1 : p2 = 1
      · simp only [if_pos c1]; exact ⟨_, rfl, rfl⟩
      · simp only [if_neg c1]
        by_cases c2 : p2 = 2
        · simp only [if_pos c2]; exact ⟨_, rfl, rfl⟩
        · simp only [if_neg c2]; exact ⟨_, rfl, rfl⟩
