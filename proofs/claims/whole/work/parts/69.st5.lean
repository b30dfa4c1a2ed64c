theorem pers_c {own : Nat → Nat} {B K : Nat} {ρ : RS} {μ : MS} (h : InvO own B K ρ μ) (p : Int32) : (FR_X9_personAt ρ p = some none ∧ FM_isTold μ p = some 0) ∨ ∃ i a, i < 10 ∧ p = nI i ∧ PersV own ρ μ K i a ∧ pI ρ a 0 = 1 ∧ FR_X9_personAt ρ p = some (some a) ∧ FM_isTold μ p = some 1 := by
  unfold FR_X9_personAt FM_isTold
  rcases in_c (a := 0) (b := 9) p 0 9 rfl rfl (by decide) (by decide) with ⟨i, -, hi, rfl, hw⟩ | hw
  · obtain ⟨a, ha⟩ := h.2.2.2.1.1 i (by omega)
    have ha0 := ha
    obtain ⟨⟨h1, h2, h3⟩, h4, h5⟩ := ha
    simp only [w_in hw, m_in hw, sb, i10, ↓reduceIte, inb_nI (show i < 10 by omega) (show 10 < 2 ^ 31 by decide), gdt, nI_clamp (show i < 2 ^ 31 by omega), h1, h2]
    rcases h4 with ⟨a1, a2⟩ | ⟨a1, g, k, a2, a3, a4, a5, a6, a7⟩
    · exact Or.inl ⟨by rw [if_pos a1], by rw [if_pos a2]⟩
    · refine Or.inr ⟨i, a, by omega, rfl, ha0, a1, ?_, ?_⟩
      · rw [a1, if_neg (by decide)]
      · rw [a4, if_neg (z_m1 (by omega))]
  · simp only [w_out hw, m_out hw, sb, ↓reduceIte]
    exact Or.inl ⟨trivial, trivial⟩
theorem st_person {ρ : RS} {μ : MS} (h : Inv ρ μ) (p1 : Int32) (p2 : Int32) (p3 : Int32) : ∃ q ρ' μ', FR_X9_person ρ p1 p2 p3 = some (q, ρ') ∧ FM_person μ p1 p2 p3 = some (q, μ') ∧ Inv ρ' μ' := by
  obtain ⟨own, B, K, h⟩ := h
  unfold FR_X9_person FM_person
  rcases in_c (a := 0) (b := 9) p1 0 9 rfl rfl (by decide) (by decide) with ⟨i, -, hi, rfl, hw⟩ | hw
  · simp only [w_in hw, m_in hw, sb, i10, ↓reduceIte]
    rcases in_c (a := 0) (b := 99) p2 0 99 rfl rfl (by decide) (by decide) with ⟨g, -, hg, rfl, hw⟩ | hw
    · simp only [w_in hw, m_in hw, sb, i10, ↓reduceIte]
      rcases in_c (a := 0) (b := 9) p3 0 9 rfl rfl (by decide) (by decide) with ⟨k, -, hk, rfl, hw⟩ | hw
      · obtain ⟨hT, hB, hR, hP, hC, hM, hS⟩ := h
        obtain ⟨a, ⟨h1, h2, h3⟩, h4, h5⟩ := hP.1 i (by omega)
        have key : Inv (wi (wi (wi ρ a 0 1) a 1 (nI g)) a 2 (nI k)) (sa (sa μ 26 (nI i) (nI g)) 27 (nI i) (nI k)) := by
          have hs : ∀ s, s ≠ 520 + i → ag ρ (wi (wi (wi ρ a 0 1) a 1 (nI g)) a 2 (nI k)) own own s := fun s hs => (ag_wi (by rw [h3]; exact hs)).trans ((ag_wi (by rw [h3]; exact hs)).trans (ag_wi (by rw [h3]; exact hs)))
          refine ⟨own, B, K, hT.fr rfl rfl rfl rfl, hB.fr rfl rfl (fun s _ => hs s (by omega)) rfl rfl rfl rfl rfl rfl, hR.fr rfl rfl (fun s _ _ => hs s (by omega)) rfl (fun k a b => (s2_sa_n (by omega)).trans (s2_sa_n (by omega))), ⟨fun p hp => ?_, hP.2⟩, hC.fr rfl (fun s _ _ => hs s (by omega)) rfl rfl, hM.fr rfl (hs _ (by omega)) rfl rfl rfl, hS.fr rfl rfl rfl rfl rfl rfl rfl rfl rfl rfl⟩
          by_cases hpi : p = i
          · subst hpi
            refine ⟨a, ⟨h1, h2, h3⟩, Or.inr ⟨?_, g, k, hg, hk, ?_, ?_, ?_, ?_⟩, ?_⟩
            · simp only [qpI_wi]; simp
            · rw [s2_sa_n (by decide), s2_sa_s, nI_clamp (by omega), upd_s]
            · simp only [qpI_wi]; simp
            · rw [s2_sa_s, nI_clamp (by omega), upd_s]
            · simp only [qpI_wi]; simp
            · have e3 : pI (wi (wi (wi ρ a 0 1) a 1 (nI g)) a 2 (nI k)) a 3 = pI ρ a 3 := by simp only [qpI_wi]; simp
              rw [e3]
              exact h5
          · obtain ⟨a', ha'⟩ := hP.1 p hp
            refine ⟨a', ha'.fr rfl (hs _ (by omega)) ?_ ?_ (fun j => Iff.rfl)⟩
            · rw [s2_sa_n (by decide), s2_sa_s, nI_clamp (by omega), upd_n hpi]
            · rw [s2_sa_s, nI_clamp (by omega), upd_n hpi]
              rfl
        unfold FR_X9_person_56 FM_person_50
        simp only [w_in hw, m_in hw, sb, i10, ↓reduceIte, inb_nI (show i < 10 by omega) (show 10 < 2 ^ 31 by decide), gdt, nI_clamp (show i < 2 ^ 31 by omega), h1, h2]
        rcases h4 with ⟨a1, a2⟩ | ⟨a1, g, k, a2, a3, a4, a5, a6, a7⟩
        · rw [a1, a2]
          exact ⟨_, _, _, rfl, rfl, key⟩
        · rw [a1, a4, if_neg (z_m1 (by omega)), if_neg (by decide)]
          exact ⟨_, _, _, rfl, rfl, key⟩
      · simp only [w_out hw, m_out hw, sb, ↓reduceIte]
        exact ⟨_, _, _, rfl, rfl, own, B, K, h⟩
    · simp only [w_out hw, m_out hw, sb, ↓reduceIte]
      exact ⟨_, _, _, rfl, rfl, own, B, K, h⟩
  · simp only [w_out hw, m_out hw, sb, ↓reduceIte]
    exact ⟨_, _, _, rfl, rfl, own, B, K, h⟩
/-- one robe's chest and holder rewritten -/
theorem st_chest {ρ : RS} {μ : MS} (h : Inv ρ μ) (p1 : Int32) (p2 : Int32) : ∃ q ρ' μ', FR_X9_chest ρ p1 p2 = some (q, ρ') ∧ FM_chest μ p1 p2 = some (q, μ') ∧ Inv ρ' μ' := by
  obtain ⟨own, B, K, h⟩ := h
  unfold FR_X9_chest FM_chest
  rcases robe_c h p1 with ⟨e1, e2⟩ | ⟨i, a, c, e, b, sl, f, l, hi, hi2, rfl, ⟨⟨r1, r2, r3, r4, r5⟩, r6, r7, r8, r9, ⟨q1, q2⟩, ⟨u1, u2⟩⟩, e1, e2⟩
  · simp only [e1, e2, sb, ocn, ↓reduceIte]
    exact ⟨_, _, _, rfl, rfl, own, B, K, h⟩
  · simp only [e1, e2, sb, ocs, i10, ↓reduceIte]
    by_cases hw : (-1 : Int32) ≤ p2 ∧ p2 ≤ 3
    · simp only [w_in hw, m_in hw, sb, i10, ↓reduceIte, r2, gdt, inb_nI hi2 (show 30 < 2 ^ 31 by decide), nI_clamp (show i < 2 ^ 31 by omega), u1, q1]
      by_cases c0 : μ.2 20 i = -1
      · simp only [if_pos c0]
        refine ⟨_, _, _, rfl, rfl, ?_⟩
        obtain ⟨hT, hB, hR, hP, hC, hM, hS⟩ := h
        have hs : ∀ s, s ≠ 100 + i → ag ρ (wi ρ a 3 p2) own own s := fun s hs => ag_wi (by rw [r3]; exact hs)
        refine ⟨own, B, K, hT.fr rfl rfl rfl rfl, hB.fr rfl rfl (fun s _ => hs s (by omega)) rfl rfl rfl rfl rfl rfl, hR.up K hR.1 hR.2.1 hR.2.2.1 i ?_ (fun j hj hji => ⟨rfl, Iff.rfl, ⟨hs _ (by omega), hs _ (by omega), hs _ (by omega), hs _ (by omega), hs _ (by omega), hs _ (by omega)⟩, ⟨rfl, rfl, rfl, rfl, rfl, rfl, rfl⟩, ⟨rfl, rfl, rfl, ?_, rfl⟩, fun _ _ => rfl, fun _ _ => rfl⟩), hP.fr rfl (fun s _ _ => hs s (by omega)) rfl rfl rfl rfl, hC.fr rfl (fun s _ _ => hs s (by omega)) rfl rfl, hM.fr rfl (hs _ (by omega)) rfl rfl rfl, hS.fr rfl rfl rfl rfl rfl rfl rfl rfl rfl rfl⟩
        · have e9 : (sa μ 19 (nI i) p2).2 19 i = p2 := by rw [s2_sa_s, nI_clamp (by omega), upd_s]
          refine Or.inr ⟨hi, a, c, e, b, sl, f, l, ⟨r1, r2, r3, r4, r5⟩, r6, ⟨r7.1, r7.2.fr (hs _ (by omega)) (hs _ (by omega)) (fun _ _ => rfl)⟩, ⟨r8.1, r8.2.fr (hs _ (by omega))⟩, ?_, ⟨?_, ?_⟩, ⟨?_, u2⟩⟩
          · rcases r9 with r9 | ⟨l1, d, l2, l3⟩
            · exact Or.inl r9
            · exact Or.inr ⟨l1, d, l2, l3.fr (hs _ (by omega)) (hs _ (by omega)) (fun _ _ => rfl)⟩
          · rw [e9, qpI_wi]; simp
          · rw [e9]
            have h1 := Int32.le_iff_toInt_le.mp hw.1
            have h2 := Int32.le_iff_toInt_le.mp hw.2
            have h3 : (-1 : Int32).toInt = -1 := by decide
            have h4 : (3 : Int32).toInt = 3 := by decide
            rw [h3] at h1
            rw [h4] at h2
            by_cases c1 : p2.toInt = -1
            · exact Or.inl (Int32.toInt_inj.mp (by rw [c1, h3]))
            · refine Or.inr ⟨p2.toInt.toNat, by omega, Int32.toInt_inj.mp ?_⟩
              rw [nI_toInt (by omega)]
              omega
          · rw [qpI_wi]
            simp
            exact u1
        · rw [s2_sa_s, nI_clamp (by omega), upd_n hji]
      · simp only [if_neg c0]
        exact ⟨_, _, _, rfl, rfl, own, B, K, h⟩
    · simp only [w_out hw, m_out hw, sb, ↓reduceIte]
      exact ⟨_, _, _, rfl, rfl, own, B, K, h⟩
