/-! the six lengths and where the pieces begin -/
def lenP (b sl f l p : Nat) : Nat := if p = 0 then b else if p = 1 then b else if p = 2 then sl else if p = 3 then sl else if p = 4 then f else l
def froP (b sl f l p : Nat) : Nat := if p = 0 then 0 else if p = 1 then b else if p = 2 then 2 * b else if p = 3 then 2 * b + sl else if p = 4 then 2 * b + 2 * sl else if p = 5 then 2 * b + 2 * sl + f else 2 * b + 2 * sl + f + l
theorem fro_s {b sl f l p : Nat} (h : p < 6) : froP b sl f l p + lenP b sl f l p = froP b sl f l (p + 1) := by
  rcases (show p = 0 ∨ p = 1 ∨ p = 2 ∨ p = 3 ∨ p = 4 ∨ p = 5 by omega) with rfl | rfl | rfl | rfl | rfl | rfl <;> simp [froP, lenP] <;> omega
theorem fro_le {b sl f l p : Nat} : froP b sl f l p ≤ 2 * b + 2 * sl + f + l := by
  unfold froP
  repeat' split
  all_goals omega
theorem mc_sw (μ : MS) {j k : Nat} (h : j ≠ k) (g g' : Nat → Int32) : mc (mc μ j g) k g' = mc (mc μ k g') j g := by
  unfold mc
  refine Prod.ext rfl ?_
  funext x
  show va_up (va_up μ.2 j g) k g' x = va_up (va_up μ.2 k g') j g x
  unfold va_up
  by_cases h1 : x = k
  · have h2 : ¬ x = j := fun e => h (e.symm.trans h1)
    rw [if_pos h1, if_neg h2, if_pos h1]
  · rw [if_neg h1, if_neg h1]
theorem lenS {μ : MS} {L g : Nat → Int32} {x : Int32} {p n : Nat} (hp : p < 6) : FM_lengths_49 (n + 1) x (nI p) (mc (mc μ 32 L) 33 g) = FM_lengths_49 n (x + L p) (nI (p + 1)) (mc (mc μ 32 L) 33 (upd g p x)) := by
  have n1 : ¬ (6 : Int32) ≤ nI p := nI_ge (b := 6) hp (by decide)
  have a1 : (mc (mc μ 32 L) 33 g).2 32 = L := rfl
  rw [FM_lengths_49, if_neg n1, gd_t (inb_nI hp (by decide)), gd_t (inb_nI hp (by decide)), a1, nI_clamp (by omega), nI_1, sa_mc, mc_mc, nI_clamp (by omega)]
  rfl
theorem lengths_f (μ : MS) (b sl f l n : Nat) (L g : Nat → Int32) (hL : ∀ p, p < 6 → L p = nI (lenP b sl f l p)) : ∃ Fr, (∀ p, p < 6 → Fr p = nI (froP b sl f l p)) ∧ FM_lengths_49 (n + 7) (nI 0) (nI 0) (mc (mc μ 32 L) 33 g) = some (mc (mc μ 32 L) 33 Fr) := by
  have st : ∀ p, p < 6 → ∀ m G, FM_lengths_49 (m + 1) (nI (froP b sl f l p)) (nI p) (mc (mc μ 32 L) 33 G) = FM_lengths_49 m (nI (froP b sl f l (p + 1))) (nI (p + 1)) (mc (mc μ 32 L) 33 (upd G p (nI (froP b sl f l p)))) := fun p hp m G => by
    rw [lenS hp, hL p hp, nI_add, fro_s hp]
  have e0 : nI 0 = nI (froP b sl f l 0) := rfl
  refine ⟨upd (upd (upd (upd (upd (upd g 0 (nI (froP b sl f l 0))) 1 (nI (froP b sl f l 1))) 2 (nI (froP b sl f l 2))) 3 (nI (froP b sl f l 3))) 4 (nI (froP b sl f l 4))) 5 (nI (froP b sl f l 5)), ?_, ?_⟩
  · intro p hp
    rcases (show p = 0 ∨ p = 1 ∨ p = 2 ∨ p = 3 ∨ p = 4 ∨ p = 5 by omega) with rfl | rfl | rfl | rfl | rfl | rfl <;> rfl
  · have := st 0 (by omega) (n + 6) g
    rw [← e0] at this
    rw [this, st 1 (by omega) (n + 5), st 2 (by omega) (n + 4), st 3 (by omega) (n + 3), st 4 (by omega) (n + 2), st 5 (by omega) (n + 1)]
    rw [FM_lengths_49, if_pos (show (6 : Int32) ≤ nI (5 + 1) from by decide)]
    rfl
theorem lengths_e (μ : MS) (b sl f l : Nat) : ∃ L Fr, (∀ p, p < 6 → L p = nI (lenP b sl f l p)) ∧ (∀ p, p < 6 → Fr p = nI (froP b sl f l p)) ∧ FM_lengths μ (nI b) (nI sl) (nI f) (nI l) = some (mc (mc μ 32 L) 33 Fr) := by
  have hfu : ∃ n, fu = n + 7 := ⟨fu - 7, by have := fu_pos; omega⟩
  obtain ⟨n, hn⟩ := hfu
  have hL : ∀ p, p < 6 → (upd (upd (upd (upd (upd (upd (μ.2 32) 0 (nI b)) 1 (nI b)) 2 (nI sl)) 3 (nI sl)) 4 (nI f)) 5 (nI l)) p = nI (lenP b sl f l p) := by
    intro p hp
    rcases (show p = 0 ∨ p = 1 ∨ p = 2 ∨ p = 3 ∨ p = 4 ∨ p = 5 by omega) with rfl | rfl | rfl | rfl | rfl | rfl <;> rfl
  obtain ⟨Fr, h1, h2⟩ := lengths_f μ b sl f l n _ (μ.2 33) hL
  refine ⟨_, Fr, hL, h1, ?_⟩
  rw [← h2]
  unfold FM_lengths
  simp only [show inb (0 : Int32) 6 = true from rfl, show inb (1 : Int32) 6 = true from rfl, show inb (2 : Int32) 6 = true from rfl, show inb (3 : Int32) 6 = true from rfl, show inb (4 : Int32) 6 = true from rfl, show inb (5 : Int32) 6 = true from rfl, gdt, hn, sa_mc, mc_mc, m2_mc, ↓reduceIte]
  have e1 : mc (mc μ 32 (upd (upd (upd (upd (upd (upd (μ.2 32) 0 (nI b)) 1 (nI b)) 2 (nI sl)) 3 (nI sl)) 4 (nI f)) 5 (nI l))) 33 (μ.2 33) = mc μ 32 (upd (upd (upd (upd (upd (upd (μ.2 32) 0 (nI b)) 1 (nI b)) 2 (nI sl)) 3 (nI sl)) 4 (nI f)) 5 (nI l)) := mc_self _ 33
  rw [e1]
  rfl
/-- a state with the six lengths, the starts and the rows told -/
def look (μ : MS) (L Fr Rw : Nat → Int32) : MS := mc (mc (mc μ 32 L) 33 Fr) 34 Rw
theorem looksL {own : Nat → Nat} {ρ : RS} {μ : MS} {r a c e b sl f l : Nat} (hr30 : r < 30) (hr : RobeL own ρ μ r a c e b sl f l) (L Fr : Nat → Int32) : ∀ d k fuel Rw, k + d = 2 * b + 2 * sl + f + l → d < fuel → (∀ j, j < k → Rw j = μ.2 14 (120 * r + j)) → ∃ Rw', (∀ j, j < 2 * b + 2 * sl + f + l → Rw' j = μ.2 14 (120 * r + j)) ∧ FM_looksAt_30 (nI r) fuel (nI k) (look μ L Fr Rw) = some (look μ L Fr Rw') := by
  intro d
  have hn := hr.1.2.2.2.2.2.2.2.2.2.2.2
  induction d with
  | zero =>
    intro k fuel Rw hk hf hR
    obtain ⟨f1, rfl⟩ : ∃ f, fuel = f + 1 := ⟨fuel - 1, by omega⟩
    have e1 : FM_rowsOf (look μ L Fr Rw) (nI r) = FM_rowsOf μ (nI r) := rfl
    refine ⟨Rw, fun j hj => hR j (by omega), ?_⟩
    rw [FM_looksAt_30, e1, rowsOf_e hr30 hr, sb, if_pos (nI_le (by omega) (by omega))]
  | succ d ih =>
    intro k fuel Rw hk hf hR
    obtain ⟨f1, rfl⟩ : ∃ f, fuel = f + 1 := ⟨fuel - 1, by omega⟩
    have e1 : FM_rowsOf (look μ L Fr Rw) (nI r) = FM_rowsOf μ (nI r) := rfl
    have n1 : ¬ nI (2 * b + 2 * sl + f + l) ≤ nI k := nI_ge (by omega) (by omega)
    have a1 : (120 : Int32) * nI r + nI k = nI (120 * r + k) := by rw [show (120 : Int32) * nI r = nI (120 * r) from pk_mul 120 r, nI_add]
    have a2 : (look μ L Fr Rw).2 14 = μ.2 14 := rfl
    have a3 : sa (look μ L Fr Rw) 34 (nI k) (μ.2 14 (120 * r + k)) = look μ L Fr (upd Rw k (μ.2 14 (120 * r + k))) := by
      unfold look
      rw [sa_mc, mc_mc, nI_clamp (by omega)]
      rfl
    rw [FM_looksAt_30, e1, rowsOf_e hr30 hr, sb, if_neg n1, a1, gd_t (inb_nI (show 120 * r + k < 3600 by omega) (by decide)), gd_t (inb_nI (show k < 120 by omega) (by decide)), a2, nI_clamp (by omega), a3, nI_1]
    exact ih (k + 1) f1 _ (by omega) (by omega) (fun j hj => by
      by_cases e : j = k
      · subst e; exact upd_s _ _ _
      · rw [upd_n e]; exact hR j (by omega))
theorem looks_e {own : Nat → Nat} {ρ : RS} {μ : MS} {r a c e b sl f l : Nat} (hr30 : r < 30) (hr : RobeL own ρ μ r a c e b sl f l) : ∃ L Fr Rw, (∀ p, p < 6 → L p = nI (lenP b sl f l p)) ∧ (∀ p, p < 6 → Fr p = nI (froP b sl f l p)) ∧ (∀ j, j < 2 * b + 2 * sl + f + l → Rw j = μ.2 14 (120 * r + j)) ∧ FM_looksAt μ (nI r) = some (look μ L Fr Rw) := by
  obtain ⟨L, Fr, h1, h2, h3⟩ := lengths_e μ b sl f l
  have hfu := fu_pos
  have hn := hr.1.2.2.2.2.2.2.2.2.2.2.2
  obtain ⟨Rw, h4, h5⟩ := looksL hr30 hr L Fr (2 * b + 2 * sl + f + l) 0 fu ((mc (mc μ 32 L) 33 Fr).2 34) (by omega) (by omega) (fun j hj => absurd hj (Nat.not_lt_zero j))
  refine ⟨L, Fr, Rw, h1, h2, h4, ?_⟩
  obtain ⟨-, ⟨b1, b2, b3, b4⟩, -⟩ := hr
  unfold FM_looksAt
  have e1 : look μ L Fr ((mc (mc μ 32 L) 33 Fr).2 34) = mc (mc μ 32 L) 33 Fr := mc_self _ 34
  rw [e1] at h5
  simp only [inb_nI hr30 (show 30 < 2 ^ 31 by decide), gdt, nI_clamp (show r < 2 ^ 31 by omega), b1, b2, b3, b4, h3, sb]
  exact h5
theorem look_inv {own : Nat → Nat} {B K : Nat} {ρ : RS} {μ : MS} (h : InvO own B K ρ μ) (L Fr Rw : Nat → Int32) : InvO own B K ρ (look μ L Fr Rw) := by
  obtain ⟨hT, hB, hR, hP, hC, hM, hS⟩ := h
  have k9 : ∀ k, k < 32 → (look μ L Fr Rw).2 k = μ.2 k := fun k hk => by
    unfold look
    rw [m2_mc, if_neg (by omega), m2_mc, if_neg (by omega), m2_mc, if_neg (by omega)]
  exact ⟨hT.fr rfl rfl rfl rfl, hB.fr rfl rfl (fun s _ => ag_sm rfl) rfl rfl rfl rfl rfl rfl, hR.fr rfl rfl (fun s _ _ => ag_sm rfl) rfl (fun k _ _ => k9 k (by omega)), hP.fr rfl (fun s _ _ => ag_sm rfl) rfl rfl rfl rfl, hC.fr rfl (fun s _ _ => ag_sm rfl) rfl rfl, hM.fr rfl (ag_sm rfl) rfl rfl rfl, hS.fr rfl rfl rfl rfl rfl rfl rfl rfl rfl rfl⟩
/-- where a piece begins, as the class adds it up -/
theorem startL {own : Nat → Nat} {ρ : RS} {μ : MS} {r a c e b sl f l : Nat} (hr : RobeL own ρ μ r a c e b sl f l) {p : Nat} (hp : p < 6) : ∀ d k fuel, k + d = p → d < fuel → FR_X4_startOf_4 ρ a (nI p) fuel (nI (froP b sl f l k)) (nI k) = some (nI (froP b sl f l p)) := by
  obtain ⟨⟨r1, r2, r3, r4, r5⟩, -, -, ⟨e1, e2⟩, -⟩ := hr
  have hA : ∀ k, k < 6 → pA ρ e k = nI (lenP b sl f l k) := fun k hk => by
    obtain ⟨-, -, -, a0, a1, a2, a3, a4, a5⟩ := e2
    rcases (show k = 0 ∨ k = 1 ∨ k = 2 ∨ k = 3 ∨ k = 4 ∨ k = 5 by omega) with rfl | rfl | rfl | rfl | rfl | rfl
    · exact a0
    · exact a1
    · exact a2
    · exact a3
    · exact a4
    · exact a5
  intro d
  induction d with
  | zero =>
    intro k fuel hk hf
    obtain ⟨f1, rfl⟩ : ∃ f, fuel = f + 1 := ⟨fuel - 1, by omega⟩
    have e : k = p := by omega
    subst e
    rw [FR_X4_startOf_4, if_pos (nI_le (Nat.le_refl _) (by omega))]
  | succ d ih =>
    intro k fuel hk hf
    obtain ⟨f1, rfl⟩ : ∃ f, fuel = f + 1 := ⟨fuel - 1, by omega⟩
    have n1 : ¬ nI p ≤ nI k := nI_ge (by omega) (by omega)
    have n2 : ¬ (6 : Int32) ≤ nI k := nI_ge (b := 6) (by omega) (by decide)
    rw [FR_X4_startOf_4, if_neg n1, if_neg n2, r2, gdt, e1, sb, e2.1, gdt, e2.2.2.1, gd_t (inb_nI (show k < 6 by omega) (by decide)), nI_clamp (by omega), hA k (by omega), nI_add, fro_s (by omega), nI_1]
    exact ih (k + 1) f1 (by omega) (by omega)
theorem st_piece {ρ : RS} {μ : MS} (h : Inv ρ μ) (p1 : Int32) (p2 : Int32) (p3 : Int32) (p4 : Int32) : ∃ q μ', FR_X9_piece ρ p1 p2 p3 p4 = some q ∧ FM_piece μ p1 p2 p3 p4 = some (q, μ') ∧ Inv ρ μ' := by
  obtain ⟨own, B, K, h⟩ := h
  have hfu := fu_pos
  unfold FR_X9_piece FM_piece
  rcases robe_c h p1 with ⟨e1, e2⟩ | ⟨i, a, c, e, b, sl, f, l, hi, hi2, rfl, hr, e1, e2⟩
  · simp only [e1, e2, sb, ocn, ↓reduceIte]
    exact ⟨_, _, rfl, rfl, own, B, K, h⟩
  · simp only [e1, e2, sb, ocs, i10, ↓reduceIte]
    rcases in_c (a := 0) (b := 5) p2 0 5 rfl rfl (by decide) (by decide) with ⟨p, -, hp, rfl, hw⟩ | hw
    · obtain ⟨L, Fr, Rw, x1, x2, x3, x4⟩ := looks_e hi2 hr
      have hI := look_inv h L Fr Rw
      have hstart := startL hr (p := p) (by omega) p 0 fu (by omega) (by omega)
      have hst : FR_X4_startOf ρ a (nI p) = some (nI (froP b sl f l p)) := by
        unfold FR_X4_startOf
        exact hstart
      obtain ⟨⟨r1, r2, r3, r4, r5⟩, -, ⟨c1, c2⟩, ⟨g1, g2⟩, -⟩ := hr
      have hA : pA ρ e p = nI (lenP b sl f l p) := by
        obtain ⟨-, -, -, a0, a1, a2, a3, a4, a5⟩ := g2
        rcases (show p = 0 ∨ p = 1 ∨ p = 2 ∨ p = 3 ∨ p = 4 ∨ p = 5 by omega) with rfl | rfl | rfl | rfl | rfl | rfl
        · exact a0
        · exact a1
        · exact a2
        · exact a3
        · exact a4
        · exact a5
      have l32 : (look μ L Fr Rw).2 32 p = nI (lenP b sl f l p) := x1 p (by omega)
      have l33 : (look μ L Fr Rw).2 33 p = nI (froP b sl f l p) := x2 p (by omega)
      have l34 : (look μ L Fr Rw).2 34 = Rw := rfl
      have hlen : froP b sl f l p + lenP b sl f l p ≤ 2 * b + 2 * sl + f + l := by rw [fro_s (by omega)]; exact fro_le
      have hn := r5.2.2.2.2.2.2.2
      simp only [w_in hw, m_in hw, sb, i10, ↓reduceIte, r2, gdt, g1, g2.1, g2.2.2.1, inb_nI (show p < 6 by omega) (show 6 < 2 ^ 31 by decide), nI_clamp (show p < 2 ^ 31 by omega), hA, x4, l32, l33]
      rcases in_B (P := FM_in) (fun _ _ _ => m_in) (fun _ _ _ => m_out) p3 (lenP b sl f l p) (by omega) with ⟨e3, j, hj, rfl⟩ | ⟨e3, hno⟩
      · have e4 : FR_X9_within (nI j) 0 (nI (lenP b sl f l p) - 1) = some 1 := by
          rcases in_B (P := FR_X9_within) (fun _ _ _ => w_in) (fun _ _ _ => w_out) (nI j) (lenP b sl f l p) (by omega) with ⟨z, -⟩ | ⟨-, z⟩
          · exact z
          · exact absurd rfl (z j hj)
        obtain ⟨d1, -, -, -, -, -, -, d8, rr, d9, -, d11⟩ := c2
        have e5 := part_told d1 d9 d11 d8 (show froP b sl f l p + j < 2 * b + 2 * sl + f + l by omega) p4
        simp only [e3, e4, sb, i10, ↓reduceIte, c1, hst, d1, gdt, nI_add, e5, inb_nI (show froP b sl f l p + j < 120 by omega) (show 120 < 2 ^ 31 by decide), nI_clamp (show froP b sl f l p + j < 2 ^ 31 by omega), l34, x3 _ (show froP b sl f l p + j < 2 * b + 2 * sl + f + l by omega)]
        unfold FM_told
        by_cases c0 : p4 = 0
        · simp only [if_pos c0, sb]; exact ⟨_, _, rfl, rfl, own, B, K, hI⟩
        · simp only [if_neg c0]
          by_cases c1 : p4 = 1
          · simp only [if_pos c1, sb]; exact ⟨_, _, rfl, rfl, own, B, K, hI⟩
          · simp only [if_neg c1]
            by_cases c2 : p4 = 2
            · simp only [if_pos c2, sb]; exact ⟨_, _, rfl, rfl, own, B, K, hI⟩
            · simp only [if_neg c2, sb]; exact ⟨_, _, rfl, rfl, own, B, K, hI⟩
      · have e4 : FR_X9_within p3 0 (nI (lenP b sl f l p) - 1) = some 0 := by
          rcases in_B (P := FR_X9_within) (fun _ _ _ => w_in) (fun _ _ _ => w_out) p3 (lenP b sl f l p) (by omega) with ⟨-, j, hj, z⟩ | ⟨z, -⟩
          · exact absurd z (hno j hj)
          · exact z
        simp only [e3, e4, sb, ↓reduceIte]
        exact ⟨_, _, rfl, rfl, own, B, K, hI⟩
    · simp only [w_out hw, m_out hw, sb, ↓reduceIte]
      exact ⟨_, _, rfl, rfl, own, B, K, h⟩
