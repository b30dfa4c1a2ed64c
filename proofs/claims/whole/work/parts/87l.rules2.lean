theorem wd_hd : ∀ j, j < 6 → wdN j = (wdN j).headD 0 :: (wdN j).tail := by decide
theorem wd_pos : ∀ j, j < 6 → 0 < (wdN j).length := by decide
theorem sm_no {bt : Nat → Int32} {a j : Nat} (hj : j < 6) (h : bt a ≠ nI ((wdN j).headD 0)) : sm bt (wdN j) a = 0 := by
  rw [wd_hd j hj, sm_c, if_neg h]
theorem wd_one {bt : Nat → Int32} {a w : Nat} (h : ∀ j, j < 6 → j ≠ w → bt a ≠ nI ((wdN j).headD 0)) : ∀ j, j < 6 → j ≠ w → sm bt (wdN j) a ≠ (wdN j).length ∧ sm bt (wdN j) a ≤ sm bt (wdN w) a := by
  intro j hj hjw
  have := wd_pos j hj
  rw [sm_no hj (h j hj hjw)]
  exact ⟨by omega, Nat.zero_le _⟩
theorem what_e {μ : MS} {W : Nat → Int32} {T a : Nat} {bt : Nat → Int32} (h : MB μ T bt) (ha : a ≤ 200) : ∃ w, w < 6 ∧ FM_whatRead (pz μ W (nI a) 0) = some (nI w, eS μ W bt (wdN w) a) ∧ ∀ j, j < 6 → j ≠ w → sm bt (wdN j) a ≠ (wdN j).length ∧ sm bt (wdN j) a ≤ sm bt (wdN w) a := by
  have hh : FM_here (pz μ W (nI a) 0) = some (bt a) := here_e (pz_B h _ _ _) (by omega) (pz_38 _ _ _ _)
  unfold FM_whatRead
  rw [hh, sb, ← eS_0 μ W bt a]
  by_cases c1 : bt a = 97
  · refine ⟨1, by decide, ?_, wd_one (fun j hj hjw => ?_)⟩
    · rw [if_pos c1, show FM_eats3 (eS μ W bt [] a) 97 103 101 = _ from eats3_e (c1 := 97) (c2 := 103) (c3 := 101) h ha (by decide), sb]
      rfl
    · rw [c1]; revert j; decide
  · rw [if_neg c1]
    by_cases c2 : bt a = 99
    · refine ⟨3, by decide, ?_, wd_one (fun j hj hjw => ?_)⟩
      · rw [if_pos c2, show FM_eats3 (eS μ W bt [] a) 99 111 108 = _ from eats3_e (c1 := 99) (c2 := 111) (c3 := 108) h ha (by decide), sb, show FM_eats3 (eS μ W bt ([] ++ [99, 111, 108]) a) 111 117 114 = _ from eats3_e (c1 := 111) (c2 := 117) (c3 := 114) h ha (by decide), sb]
        rfl
      · rw [c2]; revert j; decide
    · rw [if_neg c2]
      by_cases c3 : bt a = 108
      · refine ⟨4, by decide, ?_, wd_one (fun j hj hjw => ?_)⟩
        · rw [if_pos c3, show FM_eats3 (eS μ W bt [] a) 108 105 110 = _ from eats3_e (c1 := 108) (c2 := 105) (c3 := 110) h ha (by decide), sb, show FM_eats (eS μ W bt ([] ++ [108, 105, 110]) a) 101 = _ from eats_e (c := 101) h ha (by decide), sb, show FM_eats (eS μ W bt ([] ++ [108, 105, 110] ++ [101]) a) 100 = _ from eats_e (c := 100) h ha (by decide), sb]
          rfl
        · rw [c3]; revert j; decide
      · rw [if_neg c3]
        by_cases c4 : bt a = 114
        · refine ⟨2, by decide, ?_, wd_one (fun j hj hjw => ?_)⟩
          · rw [if_pos c4, show FM_eats3 (eS μ W bt [] a) 114 97 110 = _ from eats3_e (c1 := 114) (c2 := 97) (c3 := 110) h ha (by decide), sb, show FM_eats (eS μ W bt ([] ++ [114, 97, 110]) a) 107 = _ from eats_e (c := 107) h ha (by decide), sb]
            rfl
          · rw [c4]; revert j; decide
        · rw [if_neg c4, show FM_eats (eS μ W bt [] a) 115 = _ from eats_e (c := 115) h ha (by decide), sb]
          have e170 : FM_whatRead_170 (eS μ W bt ([] ++ [115]) a) = some (nI 0, eS μ W bt (wdN 0) a) := by
            unfold FM_whatRead_170
            rw [show FM_eats3 (eS μ W bt ([] ++ [115]) a) 101 97 115 = _ from eats3_e (c1 := 101) (c2 := 97) (c3 := 115) h ha (by decide), sb, show FM_eats (eS μ W bt ([] ++ [115] ++ [101, 97, 115]) a) 111 = _ from eats_e (c := 111) h ha (by decide), sb, show FM_eats (eS μ W bt ([] ++ [115] ++ [101, 97, 115] ++ [111]) a) 110 = _ from eats_e (c := 110) h ha (by decide), sb]
            rfl
          have f9 : (eS μ W bt ([] ++ [115]) a).1 39 = if sm bt [115] a = 1 then 0 else 1 := by
            unfold eS
            rw [pz_39]
            rfl
          have n1 : bt a ≠ nI 97 := c1
          have n2 : bt a ≠ nI 99 := c2
          have n3 : bt a ≠ nI 108 := c3
          have n4 : bt a ≠ nI 114 := c4
          rw [f9]
          by_cases c5 : bt a = nI 115
          · have s1 : sm bt [115] a = 1 := by rw [sm_c, if_pos c5]; rfl
            have h2 : FM_here (eS μ W bt ([] ++ [115]) a) = some (bt (a + 1)) := by
              refine here_e (pz_B h _ _ _) (by omega) ?_
              show (pz μ W (nI (a + sm bt [115] a)) _).1 38 = _
              rw [pz_38, s1]
            have o1 : sm bt (wdN 1) a = 0 := sm_no (by decide) n1
            have o2 : sm bt (wdN 2) a = 0 := sm_no (by decide) n4
            have o3 : sm bt (wdN 3) a = 0 := sm_no (by decide) n2
            have o4 : sm bt (wdN 4) a = 0 := sm_no (by decide) n3
            rw [if_pos s1, if_pos rfl, h2, sb]
            by_cases c6 : bt (a + 1) = 108
            · have c7 : bt (a + 1) = nI 108 := c6
              have w0 : sm bt (wdN 0) a = 1 := by
                show sm bt [115, 101, 97, 115, 111, 110] a = 1
                rw [sm_c, if_pos c5, sm_c, if_neg (by rw [c7]; decide)]
              have w5 : 2 ≤ sm bt (wdN 5) a := by
                show 2 ≤ sm bt [115, 108, 101, 101, 118, 101] a
                rw [sm_c, if_pos c5, sm_c, if_pos c7]
                omega
              refine ⟨5, by decide, ?_, fun j hj hjw => ?_⟩
              · rw [if_pos c6, show FM_eats3 (eS μ W bt ([] ++ [115]) a) 108 101 101 = _ from eats3_e (c1 := 108) (c2 := 101) (c3 := 101) h ha (by decide), sb, show FM_eats (eS μ W bt ([] ++ [115] ++ [108, 101, 101]) a) 118 = _ from eats_e (c := 118) h ha (by decide), sb, show FM_eats (eS μ W bt ([] ++ [115] ++ [108, 101, 101] ++ [118]) a) 101 = _ from eats_e (c := 101) h ha (by decide), sb]
                rfl
              · rcases (show j = 0 ∨ j = 1 ∨ j = 2 ∨ j = 3 ∨ j = 4 by omega) with rfl | rfl | rfl | rfl | rfl
                · rw [w0]; exact ⟨by decide, by omega⟩
                · rw [o1]; exact ⟨by decide, by omega⟩
                · rw [o2]; exact ⟨by decide, by omega⟩
                · rw [o3]; exact ⟨by decide, by omega⟩
                · rw [o4]; exact ⟨by decide, by omega⟩
            · have c7 : ¬ bt (a + 1) = nI 108 := c6
              have w5 : sm bt (wdN 5) a = 1 := by
                show sm bt [115, 108, 101, 101, 118, 101] a = 1
                rw [sm_c, if_pos c5, sm_c, if_neg c7]
              have w0 : 1 ≤ sm bt (wdN 0) a := by
                show 1 ≤ sm bt [115, 101, 97, 115, 111, 110] a
                rw [sm_c, if_pos c5]
                omega
              refine ⟨0, by decide, ?_, fun j hj hjw => ?_⟩
              · rw [if_neg c6, e170]
              · rcases (show j = 5 ∨ j = 1 ∨ j = 2 ∨ j = 3 ∨ j = 4 by omega) with rfl | rfl | rfl | rfl | rfl
                · rw [w5]; exact ⟨by decide, by omega⟩
                · rw [o1]; exact ⟨by decide, by omega⟩
                · rw [o2]; exact ⟨by decide, by omega⟩
                · rw [o3]; exact ⟨by decide, by omega⟩
                · rw [o4]; exact ⟨by decide, by omega⟩
          · have s1 : sm bt [115] a = 0 := by rw [sm_c, if_neg c5]
            refine ⟨0, by decide, ?_, wd_one (fun j hj hjw => ?_)⟩
            · rw [s1, if_neg (show ¬ 0 = 1 by decide), if_neg (show ¬ (1 : Int32) = 0 by decide), e170]
            · rcases (show j = 5 ∨ j = 1 ∨ j = 2 ∨ j = 3 ∨ j = 4 by omega) with rfl | rfl | rfl | rfl | rfl
              · exact c5
              · exact n1
              · exact n4
              · exact n2
              · exact n3
theorem RB.ri {σ : RS} {T : Nat} {bt : Nat → Int32} (h : RB σ T bt) (v : Int32) : RB (ri σ 501 v) T bt := h
theorem ri_501 (σ : RS) (v : Int32) : rI (ri σ 501 v) 501 = v := by rw [qrI_ri, if_pos rfl]
theorem word_R {σ : RS} {T a w : Nat} {bt : Nat → Int32} (h : RB σ T bt) (ha : a ≤ 200) (hw : w < 6) (ho : ∀ j, j < 6 → j ≠ w → sm bt (wdN j) a ≠ (wdN j).length ∧ sm bt (wdN j) a ≤ sm bt (wdN w) a) : FR_X5_readWord (ri σ 501 (nI a)) = if sm bt (wdN w) a = (wdN w).length then some (nI w, ri σ 501 (nI (a + sm bt (wdN w) a))) else some (-1, ri σ 501 (nI (a + sm bt (wdN w) a))) := by
  have hfu := fu_pos
  unfold FR_X5_readWord
  have := rword (K59 := fun x2_59 σ_59 => FR_X5_readWord_59 x2_59 σ_59) (K33 := fun x3_33 x4_33 σ_33 => FR_X5_readWord_33 x3_33 x4_33 σ_33) (h.ri (nI a)) ha (ri_501 σ (nI a)) hw ho 6 0 fu 0 (by omega) (by omega) (Nat.zero_le _) (fun z => absurd z (Nat.not_lt_zero _)) (fun z => absurd z (Nat.not_lt_zero _))
  refine Eq.trans this ?_
  unfold FR_X5_readWord_33 FR_X5_readWord_59
  simp only [ri_501, ri_ri, nI_add]
theorem sign_c {σ : RS} {T k : Nat} {bt : Nat → Int32} (h : RB σ T bt) (hk : k ≤ 200) : (∃ sg, sg < 3 ∧ bt k = nI (60 + sg) ∧ k < T ∧ FR_X5_readSign (ri σ 501 (nI k)) = some (nI sg, ri σ 501 (nI (k + 1)))) ∨ (bt k ≠ 60 ∧ bt k ≠ 61 ∧ bt k ≠ 62 ∧ FR_X5_readSign (ri σ 501 (nI k)) = some (-1, ri σ 501 (nI k))) := by
  have hb := byteAt_e (h.ri (nI k)) (k := k) (by omega)
  unfold FR_X5_readSign
  rw [ri_501, hb, sb, ri_ri, nI_1]
  by_cases c : k < T
  · obtain ⟨b, b1, b2⟩ := (h.2.2.1 k c).2
    rw [b2]
    by_cases c1 : b < 60
    · right
      refine ⟨fun z => ?_, fun z => ?_, fun z => ?_, ?_⟩
      · have := (nI_eq (b := 60) (by omega) (by decide)).mp z; omega
      · have := (nI_eq (b := 61) (by omega) (by decide)).mp z; omega
      · have := (nI_eq (b := 62) (by omega) (by decide)).mp z; omega
      · rw [if_pos (show nI b < 60 from nI_lt (b := 60) c1 (by decide))]
    · rw [if_neg (show ¬ nI b < 60 from nI_nlt (a := b) (b := 60) (by omega) (by omega))]
      by_cases c2 : b ≤ 62
      · left
        refine ⟨b - 60, by omega, by rw [show 60 + (b - 60) = b by omega], c, ?_⟩
        rw [if_pos (show nI b ≤ 62 from nI_le (b := 62) c2 (by decide)), show nI b - 60 = nI (b - 60) from z_sub (b := 60) (by omega)]
      · right
        refine ⟨fun z => ?_, fun z => ?_, fun z => ?_, ?_⟩
        · have := (nI_eq (b := 60) (by omega) (by decide)).mp z; omega
        · have := (nI_eq (b := 61) (by omega) (by decide)).mp z; omega
        · have := (nI_eq (b := 62) (by omega) (by decide)).mp z; omega
        · rw [if_neg (show ¬ nI b ≤ 62 from nI_ge (b := b) (a := 62) (by omega) (by omega))]
  · right
    rw [h.2.2.2 k (by omega)]
    exact ⟨by decide, by decide, by decide, by rw [if_pos (by decide)]⟩
theorem dig_c {σ : RS} {T k : Nat} {bt : Nat → Int32} (h : RB σ T bt) (hk : k ≤ 200) : (∃ d, d < 10 ∧ bt k = nI (48 + d) ∧ k < T ∧ FR_X8_isDigitAt σ (nI k) = some 1 ∧ FM_in (bt k) 48 57 = some 1) ∨ (FR_X8_isDigitAt σ (nI k) = some 0 ∧ FM_in (bt k) 48 57 = some 0) := by
  have hb := byteAt_e h (k := k) (by omega)
  unfold FR_X8_isDigitAt FM_in
  rw [hb, sb]
  by_cases c : k < T
  · obtain ⟨b, b1, b2⟩ := (h.2.2.1 k c).2
    rw [b2]
    by_cases c1 : b < 48
    · right
      rw [if_pos (show nI b < 48 from nI_lt (b := 48) c1 (by decide))]
      exact ⟨rfl, rfl⟩
    · rw [if_neg (show ¬ nI b < 48 from nI_nlt (a := b) (b := 48) (by omega) (by omega))]
      by_cases c2 : 57 < b
      · right
        rw [if_pos (show 57 < nI b from nI_lt (a := 57) c2 (by omega))]
        exact ⟨rfl, rfl⟩
      · left
        rw [if_neg (show ¬ 57 < nI b from nI_nlt (a := 57) (b := b) (by omega) (by decide))]
        exact ⟨b - 48, by omega, by rw [show 48 + (b - 48) = b by omega], c, rfl, rfl⟩
  · right
    rw [h.2.2.2 k (by omega), if_pos (show (-1 : Int32) < 48 by decide)]
    exact ⟨rfl, rfl⟩
theorem cl94 (μ : MS) (W : Nat → Int32) (k fl : Int32) : FM_clauseRead_94 (pz μ W k fl) = some (pz μ W k 1) := by
  unfold FM_clauseRead_94
  rw [pz_s39]
theorem i_3n (n : Nat) : (3 : Int32) * nI n = nI (3 * n) := pk_mul 3 n
theorem cl160 {μ : MS} {W : Nat → Int32} {k fl v : Int32} {n : Nat} (hn : n < 6) : FM_clauseRead_160 (nI n) v (pz μ W k fl) = some (pz μ (upd W (3 * n + 2) v) k fl) := by
  unfold FM_clauseRead_160
  rw [i_3n, show nI (3 * n) + (2 : Int32) = nI (3 * n + 2) from nI_add (3 * n) 2, gd_t (inb_nI (show 3 * n + 2 < 18 by omega) (by decide)), pz_sa _ _ _ _ (by omega)]
theorem cl60_1 {μ : MS} {W : Nat → Int32} {k n T : Nat} {v : Int32} {bt : Nat → Int32} (h : MB μ T bt) (hk : k ≤ 200) (hn : n < 6) : FM_clauseRead_60 (nI n) v (pz μ W (nI k) 1) = some (pz μ (upd W (3 * n + 1) v) (nI k) 1) := by
  unfold FM_clauseRead_60
  rw [i_3n, nI_1, gd_t (inb_nI (show 3 * n + 1 < 18 by omega) (by decide)), pz_sa _ _ _ _ (by omega), here_e (pz_B h _ _ _) (k := k) (by omega) (pz_38 _ _ _ _), sb, pz_39, if_neg (show ¬ (1 : Int32) = 0 by decide), cl94]
theorem num_e {σ : RS} {μ : MS} {W : Nat → Int32} {k n T : Nat} {v : Int32} {bt : Nat → Int32} (hR : RB σ T bt) (h : MB μ T bt) (hk : k ≤ 150) (hn : n < 6) : (∃ nn k', nn < 100 ∧ k ≤ k' ∧ k' ≤ T ∧ FR_X5_readNumber (ri σ 501 (nI k)) = some (nI nn, ri σ 501 (nI k')) ∧ FM_clauseRead_60 (nI n) v (pz μ W (nI k) 0) = some (pz μ (upd (upd W (3 * n + 1) v) (3 * n + 2) (nI nn)) (nI k') 0)) ∨ (FR_X5_readNumber (ri σ 501 (nI k)) = some (-1, ri σ 501 (nI k)) ∧ FM_clauseRead_60 (nI n) v (pz μ W (nI k) 0) = some (pz μ (upd W (3 * n + 1) v) (nI k) 1)) := by
  unfold FM_clauseRead_60 FR_X5_readNumber
  have hb := byteAt_e (hR.ri (nI k)) (k := k) (by omega)
  rw [i_3n, nI_1, gd_t (inb_nI (show 3 * n + 1 < 18 by omega) (by decide)), pz_sa _ _ _ _ (by omega), here_e (pz_B h _ _ _) (k := k) (by omega) (pz_38 _ _ _ _), sb, pz_39, if_pos rfl, ri_501, pz_38, nI_1, pz_s38, ri_ri, ri_501, nI_1, ri_ri, pz_s38]
  rcases dig_c (hR.ri (nI k)) (k := k) (by omega) with ⟨d, d1, d2, d3, d4, d5⟩ | ⟨d4, d5⟩
  · left
    have ed : nI (48 + d) - 48 = nI d := by rw [show nI (48 + d) - 48 = nI (48 + d - 48) from z_sub (b := 48) (by omega), Nat.add_sub_cancel_left]
    rw [d4, d5, sb, sb, if_neg (show ¬ (1 : Int32) = 0 by decide), if_neg (show ¬ (1 : Int32) = 0 by decide), hb, sb, d2, ed]
    by_cases c0 : d = 0
    · subst c0
      refine ⟨0, k + 1, by decide, by omega, by omega, ?_, ?_⟩
      · rw [if_pos (show nI 0 ≤ (0 : Int32) by decide)]
      · rw [if_pos (show nI 0 = (0 : Int32) from rfl), cl160 hn]
    · rw [if_neg (show ¬ nI d ≤ (0 : Int32) from nI_ge (b := d) (a := 0) (by omega) (by omega)), if_neg (show ¬ nI d = (0 : Int32) from fun z => c0 ((nI_eq (b := 0) (by omega) (by decide)).mp z)), here_e (pz_B h _ _ _) (k := k + 1) (by omega) (pz_38 _ _ _ _), sb, sb]
      have hb1 := byteAt_e (hR.ri (nI (k + 1))) (k := k + 1) (by omega)
      rcases dig_c (hR.ri (nI (k + 1))) (k := k + 1) (by omega) with ⟨u, u1, u2, u3, u4, u5⟩ | ⟨u4, u5⟩
      · refine ⟨10 * d + u, k + 2, by omega, by omega, by omega, ?_, ?_⟩
        · rw [u4, sb, if_neg (show ¬ (1 : Int32) = 0 by decide), hb1, sb, u2, show (10 : Int32) * nI d = nI (10 * d) from pk_mul 10 d, nI_add, show nI (10 * d + (48 + u)) - 48 = nI (10 * d + (48 + u) - 48) from z_sub (b := 48) (by omega), show 10 * d + (48 + u) - 48 = 10 * d + u by omega]
        · rw [u5, sb, if_neg (show ¬ (1 : Int32) = 0 by decide), u2, show (10 : Int32) * nI d = nI (10 * d) from pk_mul 10 d, nI_add, show nI (10 * d + (48 + u)) - 48 = nI (10 * d + (48 + u) - 48) from z_sub (b := 48) (by omega), show 10 * d + (48 + u) - 48 = 10 * d + u by omega, cl160 hn]
      · refine ⟨d, k + 1, by omega, by omega, by omega, ?_, ?_⟩
        · rw [u4, sb, if_pos rfl]
        · rw [u5, sb, if_pos rfl, cl160 hn]
  · right
    rw [d4, d5, sb, sb, if_pos rfl, if_pos rfl, cl94]
    exact ⟨rfl, rfl⟩
