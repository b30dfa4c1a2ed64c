theorem enc_t : ∀ x, x < 1000 → x / 10 % 10 ≤ 1 → nI (enc x) &&& 15 = nI (x % 10) ∧ (nI (enc x) >>> ((4 : Int32) &&& 31)) &&& 1 = nI (x / 10 % 10) ∧ nI (enc x) >>> ((5 : Int32) &&& 31) = nI (x / 100) := by decide +kernel
theorem told_0 {x : Nat} (h : x < 2147483648) : nI x - nI x / 10 * 10 = nI (x % 10) := z_rem (d := 10) h (by decide) (by decide)
theorem told_1 {x : Nat} (h : x < 2147483648) : nI x / 10 - nI x / 10 / 10 * 10 = nI (x / 10 % 10) := by
  rw [show nI x / 10 = nI (x / 10) from z_div (d := 10) h (by decide) (by decide)]
  exact z_rem (d := 10) (by omega) (by decide) (by decide)
theorem told_2 {x : Nat} (h : x < 2147483648) : nI x / 100 = nI (x / 100) := z_div (d := 100) h (by decide) (by decide)
theorem enc_0 {x : Nat} (h : okr x) : nI (enc x) &&& 15 = nI (x % 10) := (enc_t x h.1 h.2).1
theorem enc_1 {x : Nat} (h : okr x) : (nI (enc x) >>> ((4 : Int32) &&& 31)) &&& 1 = nI (x / 10 % 10) := (enc_t x h.1 h.2).2.1
theorem enc_2 {x : Nat} (h : okr x) : nI (enc x) >>> ((5 : Int32) &&& 31) = nI (x / 100) := (enc_t x h.1 h.2).2.2
/-- one row of a cloth, told -/
theorem part_told {ρ : RS} {c r n : Nat} {g : Nat → Int32} (hk : isK ρ c 0 = true) (hr : pR ρ c 0 = some r) (hv : RowsV ρ r n g) (hn : n ≤ 120) {i : Nat} (hi : i < n) (w : Int32) : FR_X0_partOf ρ c (nI i) w = FM_told (g i) w := by
  obtain ⟨h1, h2, h3⟩ := hv
  obtain ⟨x, hx, a1, a2⟩ := h3 i hi
  have h9 := hx.1
  unfold FR_X0_partOf FM_told
  have e1 : nI i < Int32.ofNat n := nI_lt (b := n) hi (by omega)
  simp only [if_neg (nI_pos (show i < 2 ^ 31 by omega)), hk, gdt, hr, sb, h1, h2, if_pos e1, inb_nI hi (show n < 2 ^ 31 by omega), nI_clamp (show i < 2 ^ 31 by omega), a1, a2, enc_0 hx, enc_1 hx, enc_2 hx, told_0 (show x < 2147483648 by omega), told_1 (show x < 2147483648 by omega), told_2 (show x < 2147483648 by omega)]
theorem part_out {ρ : RS} {c r n : Nat} {g : Nat → Int32} (hk : isK ρ c 0 = true) (hr : pR ρ c 0 = some r) (hv : RowsV ρ r n g) {p : Int32} (hp : p < 0 ∨ ¬ p < nI n) (w : Int32) : FR_X0_partOf ρ c p w = some (-1) := by
  obtain ⟨h1, h2, h3⟩ := hv
  unfold FR_X0_partOf
  by_cases c0 : p < 0
  · rw [if_pos c0]
  · rw [if_neg c0]
    have c1 : ¬ p < Int32.ofNat n := hp.resolve_left c0
    simp only [hk, gdt, hr, sb, h1, h2, if_neg c1]
theorem in_n (p : Int32) (n : Nat) (hn : n < 1000) : (∃ i, i < n ∧ p = nI i ∧ FM_in p 0 (nI n - 1) = some 1) ∨ ((p < 0 ∨ ¬ p < nI n) ∧ FM_in p 0 (nI n - 1) = some 0) := by
  rcases in_B (P := FM_in) (fun _ _ _ => m_in) (fun _ _ _ => m_out) p n hn with ⟨h, i, hi, rfl⟩ | ⟨h, hno⟩
  · exact Or.inl ⟨i, hi, rfl, h⟩
  · refine Or.inr ⟨?_, h⟩
    rcases ix_c p n (by omega) with ⟨k, hk, rfl⟩ | h1 | h1
    · exact absurd rfl (hno k hk)
    · exact Or.inl h1.1
    · exact Or.inr h1.2
theorem st_row {ρ : RS} {μ : MS} (h : Inv ρ μ) (p1 : Int32) (p2 : Int32) (p3 : Int32) : ∃ q, FR_X9_row ρ p1 p2 p3 = some q ∧ FM_row μ p1 p2 p3 = some q := by
  obtain ⟨own, B, K, h⟩ := h
  unfold FR_X9_row FM_row
  rcases bolt_c h p1 with ⟨e1, e2⟩ | ⟨i, c, n, hi, hi2, rfl, ⟨h1, h2, h3, h4, h5, h6, h7, h8, h9, h10, h11, r, h12, h13, h14⟩, e1, e2⟩
  · simp only [e1, e2, sb, ocn, ↓reduceIte]
    exact ⟨_, rfl, rfl⟩
  · simp only [e1, e2, sb, ocs, i10, ↓reduceIte, h4, gdt, inb_nI hi2 (show 40 < 2 ^ 31 by decide), nI_clamp (show i < 2 ^ 31 by omega), h3]
    rcases in_n p2 n (by omega) with ⟨j, hj, rfl, e3⟩ | ⟨hj, e3⟩
    · rw [part_told h4 h12 h14 h11 hj, e3]
      have e4 : (120 : Int32) * nI i + nI j = nI (120 * i + j) := by
        rw [show (120 : Int32) * nI i = nI (120 * i) from pk_mul 120 i, nI_add]
      simp only [sb, i10, ↓reduceIte, e4, inb_nI (show 120 * i + j < 4800 by omega) (show 4800 < 2 ^ 31 by decide), gdt, nI_clamp (show 120 * i + j < 2 ^ 31 by omega)]
      unfold FM_told
      by_cases c0 : p3 = 0
      · simp only [if_pos c0, sb]; exact ⟨_, rfl, rfl⟩
      · simp only [if_neg c0]
        by_cases c1 : p3 = 1
        · simp only [if_pos c1, sb]; exact ⟨_, rfl, rfl⟩
        · simp only [if_neg c1]
          by_cases c2 : p3 = 2
          · simp only [if_pos c2, sb]; exact ⟨_, rfl, rfl⟩
          · simp only [if_neg c2, sb]; exact ⟨_, rfl, rfl⟩
    · rw [part_out h4 h12 h14 hj, e3]
      exact ⟨_, rfl, rfl⟩
theorem InvB.up {ρ ρ' : RS} {o o' : Nat → Nat} {μ μ' : MS} {B : Nat} (h : InvB o ρ μ B) (B' : Nat) (hB' : B' ≤ 40) (h1 : rI ρ' 903 = nI B') (m0 : μ'.1 0 = nI B') (i : Nat) (hi : BoltI o' ρ' μ' B' i) (ho : ∀ j, j < 40 → j ≠ i → rQ ρ' 902 j = rQ ρ 902 j ∧ (j < B' ↔ j < B) ∧ ag ρ ρ' o o' (2 * j) ∧ ag ρ ρ' o o' (2 * j + 1) ∧ mB μ μ' j) : InvB o' ρ' μ' B' := by
  refine ⟨hB', h1, m0, fun j hj => ?_⟩
  by_cases e : j = i
  · subst e; exact hi
  · obtain ⟨a, b, c, d, f⟩ := ho j hj e
    exact BoltI.fr (h.2.2.2 j hj) a b c d f
theorem InvR.up {ρ ρ' : RS} {o o' : Nat → Nat} {μ μ' : MS} {K : Nat} (h : InvR o ρ μ K) (K' : Nat) (hK' : K' ≤ 30) (h1 : rI ρ' 905 = nI K') (m0 : μ'.1 6 = nI K') (i : Nat) (hi : RobeI o' ρ' μ' K' i) (ho : ∀ j, j < 30 → j ≠ i → rQ ρ' 904 j = rQ ρ 904 j ∧ (j < K' ↔ j < K) ∧ (ag ρ ρ' o o' (100 + j) ∧ ag ρ ρ' o o' (200 + 2 * j) ∧ ag ρ ρ' o o' (200 + 2 * j + 1) ∧ ag ρ ρ' o o' (300 + j) ∧ ag ρ ρ' o o' (400 + 2 * j) ∧ ag ρ ρ' o o' (400 + 2 * j + 1)) ∧ mR μ μ' j) : InvR o' ρ' μ' K' := by
  refine ⟨hK', h1, m0, fun j hj => ?_⟩
  by_cases e : j = i
  · subst e; exact hi
  · obtain ⟨a, b, ⟨c1, c2, c3, c4, c5, c6⟩, f⟩ := ho j hj e
    exact RobeI.fr (h.2.2.2 j hj) a b c1 c2 c3 c4 c5 c6 f
theorem st_wash {ρ : RS} {μ : MS} (h : Inv ρ μ) (p1 : Int32) : ∃ q ρ' μ', FR_X9_wash ρ p1 = some (q, ρ') ∧ FM_wash μ p1 = some (q, μ') ∧ Inv ρ' μ' := by
  obtain ⟨own, B, K, h⟩ := h
  unfold FR_X9_wash FM_wash
  rcases bolt_c h p1 with ⟨e1, e2⟩ | ⟨i, c, n, hi, hi2, rfl, ⟨h1, h2, h3, h4, h5, h6, h7, ⟨k, hk, h8⟩, h9, h10, h11, r, h12, h13, h14⟩, e1, e2⟩
  · simp only [e1, e2, sb, ocn, ↓reduceIte]
    exact ⟨_, _, _, rfl, rfl, own, B, K, h⟩
  · unfold FM_wash_31
    simp only [e1, e2, sb, ocs, i10, ↓reduceIte, h4, gdt, inb_nI hi2 (show 40 < 2 ^ 31 by decide), nI_clamp (show i < 2 ^ 31 by omega), h6, h8]
    obtain ⟨hT, hB, hR, hP, hC, hM, hS⟩ := h
    have key : ∀ k', k' ≤ 9 → Inv (wi ρ c 1 (nI k')) (sa μ 3 (nI i) (nI k')) := fun k' hk' => by
      have hs : ∀ s, s ≠ 2 * i → ag ρ (wi ρ c 1 (nI k')) own own s := fun s hs => ag_wi (by rw [h5]; exact hs)
      refine ⟨own, B, K, hT.fr rfl rfl rfl rfl, hB.up B hB.1 hB.2.1 hB.2.2.1 i ?_ (fun j hj hji => ⟨rfl, Iff.rfl, hs _ (by omega), hs _ (by omega), rfl, rfl, by rw [s2_sa_s, nI_clamp (by omega), upd_n hji], rfl, fun _ _ => rfl⟩), hR.fr rfl rfl (fun s _ _ => hs s (by omega)) rfl (fun k a b => s2_sa_n (by omega)), hP.fr rfl (fun s _ _ => hs s (by omega)) rfl rfl rfl rfl, hC.fr rfl (fun s _ _ => hs s (by omega)) rfl rfl, hM.fr rfl (hs _ (by omega)) rfl rfl rfl, hS.fr rfl rfl rfl rfl rfl rfl rfl rfl rfl rfl⟩
      refine Or.inr ⟨hi, c, n, h1, h2, h3, ?_⟩
      have e3 : (sa μ 3 (nI i) (nI k')).2 3 i = nI k' := by rw [s2_sa_s, nI_clamp (by omega), upd_s]
      rw [e3]
      refine ⟨h4, h5, ?_, h7, ⟨k', hk', rfl⟩, h9, h10, h11, r, h12, h13, h14⟩
      rw [qpI_wi]; simp
    by_cases c0 : k = 0
    · subst c0
      simp only [show nI 0 ≤ 0 from by decide, ↓reduceIte]
      refine ⟨_, ρ, sa μ 3 (nI i) (nI 0), rfl, ?_, ?_⟩
      · rw [s2_sa_s, nI_clamp (by omega), upd_s]; rfl
      · have := key 0 (by omega)
        have e5 : wi ρ c 1 (nI 0) = ρ := by
          rw [← h8, ← h6]
          unfold wi rp up2 pI
          refine Prod.ext rfl (Prod.ext rfl (Prod.ext rfl (Prod.ext rfl (Prod.ext rfl (Prod.ext rfl (Prod.ext ?_ rfl))))))
          funext x j
          by_cases hj : j = 1
          · by_cases hx : x = c
            · simp [hj, hx]
            · simp [hj, hx]
          · simp [hj]
        rw [e5] at this
        exact this
    · have c1 : ¬ nI k ≤ 0 := nI_nle (by omega) (by omega)
      have e4 : nI k - 1 = nI (k - 1) := z_sub (b := 1) (by omega)
      simp only [if_neg c1, e4]
      refine ⟨_, _, _, rfl, ?_, key (k - 1) (by omega)⟩
      rw [s2_sa_s, nI_clamp (by omega), upd_s, qpI_wi]
      simp
