theorem un_pow : ∀ c, c < 6 → unN (5 - c) = 6 ^ c := by decide
theorem div_s (o c : Nat) : o / 6 ^ c / 6 = o / 6 ^ (c + 1) := by rw [Nat.div_div_eq_div_mul, Nat.pow_succ]
theorem dg_c {o c : Nat} (hc : c < 6) : dgN o (5 - c) = o / 6 ^ c % 6 := by
  unfold dgN
  rw [un_pow c hc]
/-- the reference reads an order's digits from the last on -/
theorem isl9 {σ : MS} {o : Nat} (ho : o < 2147483648) {p3 w : Int32} {K : Int32 → Int32 → MS → Option (Int32 × MS)} : ∀ d c fuel D, c + d = 6 → d < fuel → (∀ j, 6 - c ≤ j → j < 6 → D j = nI (dgN o j)) → ∃ D', (∀ j, j < 6 → D' j = nI (dgN o j)) ∧ FM_isLaying_9 K (nI o) p3 w fuel (nI (o / 6 ^ c)) (nI (mM o c)) (shM d) (mc σ 35 D) = K (nI (o / 46656)) (nI (mM o 6)) (mc σ 35 D') := by
  intro d
  induction d with
  | zero =>
    intro c fuel D hc hf hD
    obtain ⟨f1, rfl⟩ : ∃ f, fuel = f + 1 := ⟨fuel - 1, by omega⟩
    have e : c = 6 := by omega
    subst e
    refine ⟨D, fun j hj => hD j (by omega) hj, ?_⟩
    rw [FM_isLaying_9, if_pos (show shM 0 < 0 from by decide)]
  | succ d ih =>
    intro c fuel D hc hf hD
    obtain ⟨f1, rfl⟩ : ∃ f, fuel = f + 1 := ⟨fuel - 1, by omega⟩
    have e1 : shM (d + 1) = nI d := rfl
    have n1 : ¬ nI d < 0 := nI_pos (by omega)
    have n2 : (0 : Int32) ≤ nI o := nI_le (a := 0) (by omega) ho
    have hle : o / 6 ^ c ≤ o := Nat.div_le_self _ _
    have hdig : o / 6 ^ c % 6 = dgN o d := by rw [← dg_c (by omega), show 5 - c = d by omega]
    have e2 : nI (o / 6 ^ c) - nI (o / 6 ^ c) / 6 * 6 = nI (dgN o d) := by rw [← hdig]; exact z_rem (d := 6) (by omega) (by decide) (by decide)
    have e3 : nI (o / 6 ^ c) / 6 = nI (o / 6 ^ (c + 1)) := by rw [← div_s]; exact z_div (d := 6) (by omega) (by decide) (by decide)
    have hd6 := dg_lt o d
    have st : sa (mc σ 35 D) 35 (nI d) (nI (dgN o d)) = mc σ 35 (upd D d (nI (dgN o d))) := by
      rw [sa_mc, mc_mc, nI_clamp (by omega)]
      rfl
    have r5 : (mc σ 35 (upd D d (nI (dgN o d)))).2 35 d = nI (dgN o d) := upd_s _ _ _
    have e4 : nI (mM o c) ||| ((1 : Int32) <<< (nI (dgN o d) &&& 31)) = nI (mM o (c + 1)) := by
      rw [(or_t _ (mM_lt o c) _ hd6).1]
      show _ = nI (mM o c ||| 2 ^ dgN o (5 - c))
      rw [show 5 - c = d by omega]
    rw [FM_isLaying_9, e1]
    unfold FM_isLaying_33
    simp only [if_neg n1, if_pos n2, e2, st, inb_nI (show d < 6 by omega) (show 6 < 2 ^ 31 by decide), gdt, nI_clamp (show d < 2 ^ 31 by omega), r5, e4, shM_s d (by omega)]
    rw [e3]
    refine ih (c + 1) f1 _ (by omega) (by omega) (fun j h1 h2 => ?_)
    by_cases cj : j = d
    · subst cj
      exact upd_s _ _ _
    · rw [upd_n cj]
      exact hD j (by omega) h2
theorem isl9n {σ : MS} {p2 : Int32} (hneg : ¬ (0 : Int32) ≤ p2) {p3 w : Int32} {K : Int32 → Int32 → MS → Option (Int32 × MS)} : ∀ d fuel x4 x5 D, d ≤ 6 → d < fuel → ∃ y4 y5 D', FM_isLaying_9 K p2 p3 w fuel x4 x5 (shM d) (mc σ 35 D) = K y4 y5 (mc σ 35 D') := by
  intro d
  induction d with
  | zero =>
    intro fuel x4 x5 D _ hf
    obtain ⟨f1, rfl⟩ : ∃ f, fuel = f + 1 := ⟨fuel - 1, by omega⟩
    refine ⟨x4, x5, D, ?_⟩
    rw [FM_isLaying_9, if_pos (show shM 0 < 0 from by decide)]
  | succ d ih =>
    intro fuel x4 x5 D hd hf
    obtain ⟨f1, rfl⟩ : ∃ f, fuel = f + 1 := ⟨fuel - 1, by omega⟩
    have e1 : shM (d + 1) = nI d := rfl
    have n1 : ¬ nI d < 0 := nI_pos (by omega)
    have st : sa (mc σ 35 D) 35 (nI d) 0 = mc σ 35 (upd D d 0) := by
      rw [sa_mc, mc_mc, nI_clamp (by omega)]
      rfl
    rw [FM_isLaying_9, e1]
    unfold FM_isLaying_33
    simp only [if_neg n1, if_neg hneg, st, inb_nI (show d < 6 by omega) (show 6 < 2 ^ 31 by decide), gdt, shM_s d (by omega)]
    exact ih f1 _ _ _ (by omega) (by omega)
/-- the class reads them from the first on -/
theorem can47 {ρ : RS} {o : Nat} (ho : o < 46656) {K : Int32 → Option Int32} : ∀ d k fuel, k + d = 6 → d < fuel → FR_X0_canLie_47 ρ K (nI o) fuel (nI (mR_ o k)) (nI k) = K (nI (mR_ o 6)) := by
  intro d
  induction d with
  | zero =>
    intro k fuel hk hf
    obtain ⟨f1, rfl⟩ : ∃ f, fuel = f + 1 := ⟨fuel - 1, by omega⟩
    have e : k = 6 := by omega
    subst e
    rw [FR_X0_canLie_47, if_pos (show (6 : Int32) ≤ nI 6 from by decide)]
  | succ d ih =>
    intro k fuel hk hf
    obtain ⟨f1, rfl⟩ : ∃ f, fuel = f + 1 := ⟨fuel - 1, by omega⟩
    have n1 : ¬ (6 : Int32) ≤ nI k := nI_ge (b := 6) (by omega) (by decide)
    have e4 : nI (mR_ o k) ||| ((1 : Int32) <<< (nI (dgN o k) &&& 31)) = nI (mR_ o (k + 1)) := (or_t _ (mR_lt o k) _ (dg_lt o k)).1
    rw [FR_X0_canLie_47]
    simp only [if_neg n1, pieceAt_e (show o < 1000000 by omega) (show k < 6 by omega), sb, e4, nI_1]
    exact ih (k + 1) f1 (by omega) (by omega)
theorem can42 {ρ : RS} {o : Nat} (ho : o < 46656) : FR_X0_canLie_42 ρ (nI o) = some (if mR_ o 6 = 63 then 1 else 0) := by
  have hfu := fu_pos
  have hlt := mR_lt o 6
  have w := can47 (ρ := ρ) ho (K := fun x3_71 => FR_X0_canLie_71 ρ x3_71) 6 0 fu (by omega) (by omega)
  unfold FR_X0_canLie_42
  refine Eq.trans w ?_
  unfold FR_X0_canLie_71
  by_cases c : mR_ o 6 = 63
  · rw [if_pos (show nI (mR_ o 6) = 63 by rw [c]; rfl), if_pos c]
  · rw [if_neg (show ¬ nI (mR_ o 6) = 63 from fun z => c ((nI_eq (b := 63) (by omega) (by decide)).mp z)), if_neg c]
theorem nn_c (p : Int32) : (∃ o, o < 2147483648 ∧ p = nI o) ∨ (p < 0 ∧ ¬ (0 : Int32) ≤ p) := by
  by_cases c : p < 0
  · exact Or.inr ⟨c, Int32.not_le.mpr c⟩
  · refine Or.inl ⟨p.toInt.toNat, ?_, ?_⟩
    · have := p.toInt_lt; omega
    · have h1 := Int32.le_iff_toInt_le.mp (Int32.not_lt.mp c)
      have h2 : (0 : Int32).toInt = 0 := rfl
      rw [h2] at h1
      refine Int32.toInt_inj.mp ?_
      rw [nI_toInt (by have := p.toInt_lt; omega)]
      omega
theorem isl_e {σ : MS} {o : Nat} (ho : o < 2147483648) (p3 w : Int32) : ∃ D, (∀ j, j < 6 → D j = nI (dgN o j)) ∧ FM_isLaying σ (nI o) p3 w = FM_isLaying_61 (nI o) p3 w (nI (o / 46656)) (nI (mR_ o 6)) (mc σ 35 D) := by
  have hfu := fu_pos
  obtain ⟨D, d1, d2⟩ := isl9 (σ := σ) ho (p3 := p3) (w := w) (K := fun x4_61 x5_61 σ_61 => FM_isLaying_61 (nI o) p3 w x4_61 x5_61 σ_61) 6 0 fu (σ.2 35) (by omega) (by omega) (fun j h1 h2 => absurd h1 (by omega))
  rw [mc_self, mM_R, show o / 6 ^ 0 = o from Nat.div_one o, show nI (mM o 0) = (0 : Int32) from rfl, show shM 6 = (5 : Int32) from rfl] at d2
  refine ⟨D, d1, ?_⟩
  unfold FM_isLaying
  exact d2
theorem isl_n {σ : MS} {p2 : Int32} (hl : p2 < 0) (hneg : ¬ (0 : Int32) ≤ p2) (p3 w : Int32) : ∃ D, FM_isLaying σ p2 p3 w = some (0, mc σ 35 D) := by
  have hfu := fu_pos
  obtain ⟨y4, y5, D, d2⟩ := isl9n (σ := σ) hneg (p3 := p3) (w := w) (K := fun x4_61 x5_61 σ_61 => FM_isLaying_61 p2 p3 w x4_61 x5_61 σ_61) 6 fu p2 0 (σ.2 35) (by omega) (by omega)
  rw [mc_self, show shM 6 = (5 : Int32) from rfl] at d2
  refine ⟨D, ?_⟩
  unfold FM_isLaying
  refine Eq.trans d2 ?_
  unfold FM_isLaying_61
  rw [if_pos hl]
theorem lie_c {ρ : RS} {c : Nat} {way : Int32} (hk : isK ρ c 0 = true) (hw : pI ρ c 2 = way) (hway : way = 0 ∨ way = 1) (p2 p3 : Int32) (σ : MS) : (∃ D, FR_X0_canLie ρ c p2 p3 = some 0 ∧ FM_isLaying σ p2 p3 way = some (0, mc σ 35 D)) ∨ ∃ D o tw, o < 46656 ∧ tw < 64 ∧ p2 = nI o ∧ p3 = nI tw ∧ mR_ o 6 = 63 ∧ (∀ k, k < 6 → D k = nI (dgN o k)) ∧ FR_X0_canLie ρ c p2 p3 = some 1 ∧ FM_isLaying σ p2 p3 way = some (1, mc σ 35 D) := by
  rcases nn_c p2 with ⟨o, ho, rfl⟩ | ⟨n1, n2⟩
  · obtain ⟨D, d1, d2⟩ := isl_e (σ := σ) ho p3 way
    have hlt := mR_lt o 6
    have m1 : ¬ nI o < 0 := nI_pos ho
    by_cases c1 : o < 46656
    · have c2 : ¬ (46656 : Int32) ≤ nI o := nI_ge (b := 46656) c1 (by decide)
      have z0 : nI (o / 46656) = 0 := by rw [Nat.div_eq_of_lt c1]; rfl
      by_cases c3 : mR_ o 6 = 63
      · have cc := can42 (ρ := ρ) c1
        rw [if_pos c3] at cc
        have x5 : nI (mR_ o 6) = 63 := by rw [c3]; rfl
        rcases in_c (a := 0) (b := 63) p3 0 63 rfl rfl (by decide) (by decide) with ⟨tw, -, htw, rfl, hin⟩ | hin
        · have m3 : ¬ nI tw < 0 := nI_pos (by omega)
          have m4 : nI tw ≤ 63 := hin.2
          have lhs : FR_X0_canLie ρ c (nI o) (nI tw) = if way = 1 then (if nI tw = 0 then some 1 else (if nI tw = 63 then some 1 else some 0)) else some 1 := by
            unfold FR_X0_canLie
            simp only [if_neg m1, if_neg c2, if_neg m3, if_pos m4, hk, gdt, hw, cc]
          have rhs : FM_isLaying σ (nI o) (nI tw) way = if way = 0 then some (1, mc σ 35 D) else (if nI tw = 0 then some (1, mc σ 35 D) else (if nI tw = 63 then some (1, mc σ 35 D) else some (0, mc σ 35 D))) := by
            rw [d2]
            unfold FM_isLaying_61
            simp only [if_neg m1, z0, x5, m_in hin, sb, i10, ↓reduceIte]
          rcases hway with rfl | rfl
          · rw [if_neg (by decide)] at lhs
            rw [if_pos rfl] at rhs
            exact Or.inr ⟨D, o, tw, c1, by omega, rfl, rfl, c3, d1, lhs, rhs⟩
          · rw [if_pos rfl] at lhs
            rw [if_neg (by decide)] at rhs
            by_cases t0 : nI tw = 0
            · rw [if_pos t0] at lhs rhs
              exact Or.inr ⟨D, o, tw, c1, by omega, rfl, rfl, c3, d1, lhs, rhs⟩
            · rw [if_neg t0] at lhs rhs
              by_cases t6 : nI tw = 63
              · rw [if_pos t6] at lhs rhs
                exact Or.inr ⟨D, o, tw, c1, by omega, rfl, rfl, c3, d1, lhs, rhs⟩
              · rw [if_neg t6] at lhs rhs
                exact Or.inl ⟨D, lhs, rhs⟩
        · refine Or.inl ⟨D, ?_, ?_⟩
          · unfold FR_X0_canLie
            simp only [if_neg m1, if_neg c2]
            by_cases t0 : p3 < 0
            · rw [if_pos t0]
            · have t1 : ¬ p3 ≤ 63 := fun z => hin ⟨Int32.not_lt.mp t0, z⟩
              rw [if_neg t0, if_neg t1]
          · rw [d2]
            unfold FM_isLaying_61
            simp only [if_neg m1, z0, x5, m_out hin, sb, ↓reduceIte]
      · have cc := can42 (ρ := ρ) c1
        rw [if_neg c3] at cc
        refine Or.inl ⟨D, ?_, ?_⟩
        · unfold FR_X0_canLie
          simp only [if_neg m1, if_neg c2, hk, gdt, cc]
          repeat' split
          all_goals rfl
        · rw [d2]
          unfold FM_isLaying_61
          rw [if_neg m1, if_pos z0, if_neg (show ¬ nI (mR_ o 6) = 63 from fun z => c3 ((nI_eq (b := 63) (by omega) (by decide)).mp z))]
    · have c2 : (46656 : Int32) ≤ nI o := nI_le (a := 46656) (by omega) ho
      have hdv : 0 < o / 46656 := Nat.div_pos (by omega) (by decide)
      have hdl : o / 46656 ≤ o := Nat.div_le_self _ _
      have z0 : ¬ nI (o / 46656) = 0 := nI_ne0 hdv (by omega)
      refine Or.inl ⟨D, ?_, ?_⟩
      · unfold FR_X0_canLie
        rw [if_neg m1, if_pos c2]
      · rw [d2]
        unfold FM_isLaying_61
        rw [if_neg m1, if_neg z0]
  · obtain ⟨D, hD⟩ := isl_n (σ := σ) n1 n2 p3 way
    refine Or.inl ⟨D, ?_, hD⟩
    unfold FR_X0_canLie
    rw [if_pos n1]
