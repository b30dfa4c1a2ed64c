def frR (σ τ : RS) : Prop := (∀ j, j ≠ 103 → rI τ j = rI σ j) ∧ (∀ j, j ≠ 100 → j ≠ 101 → j ≠ 102 → j ≠ 916 → rA τ j = rA σ j) ∧ τ.2.2 = σ.2.2
theorem frR.tr {σ τ υ : RS} (h : frR σ τ) (h' : frR τ υ) : frR σ υ := ⟨fun j hj => (h'.1 j hj).trans (h.1 j hj), fun j a b c d => (h'.2.1 j a b c d).trans (h.2.1 j a b c d), h'.2.2.trans h.2.2⟩
theorem frR.rf (σ : RS) : frR σ σ := ⟨fun _ _ => rfl, fun _ _ _ _ _ => rfl, rfl⟩
theorem frR_fz (σ : RS) (X : Nat → Int32) (v : Int32) : frR σ (fz σ X v) := by
  refine ⟨fun j hj => ?_, fun j a b c d => ?_, rfl⟩
  · unfold fz
    rw [qrI_ri, if_neg hj]
    rfl
  · show rA (rc σ 102 X) j = _
    rw [rA_rc, if_neg c]
theorem frR_rc (σ : RS) {k : Nat} (hk : k = 100 ∨ k = 101 ∨ k = 102 ∨ k = 916) (g : Nat → Int32) : frR σ (rc σ k g) := by
  refine ⟨fun j hj => rfl, fun j a b c d => ?_, rfl⟩
  rw [rA_rc, if_neg (by omega)]
def frC (μ ν : MS) : Prop := ν.1 = μ.1 ∧ ∀ k, k < 41 → ν.2 k = μ.2 k
theorem frC.tr {μ ν τ : MS} (h : frC μ ν) (h' : frC ν τ) : frC μ τ := ⟨h'.1.trans h.1, fun k hk => (h'.2 k hk).trans (h.2 k hk)⟩
theorem frQ.c {μ σ : MS} (h : frQ μ σ) : frC μ σ := ⟨h.1, fun k hk => h.2 k (by omega) (by omega) (by omega) (by omega) (by omega) (by omega) (by omega)⟩
theorem leastR {τ : RS} {w : Nat → Int32} {p left : Nat} {tk : Int32} (hw : rA τ 100 = w) (hp : p < 10) (hl : left ≤ 30) : ∃ x X v, FR_X1_leastRobeFor τ (nI p) tk (nI left) = some (x, fz τ X v) ∧ Lst (okT w p tk left) x := by
  have hfu := fu_pos
  have e : τ = fz τ (rA τ 102) (rI τ 103) := by
    unfold fz
    rw [rc_self, ri_self rfl]
  obtain ⟨x, X, v, h1, h2⟩ := least3 (σ := τ) (w := w) (p := p) (left := left) (tk := tk) hw hp hl 30 0 fu (rA τ 102) (rI τ 103) (by omega) (by omega) (fun r hr => absurd hr (Nat.not_lt_zero r))
  rw [← e] at h1
  exact ⟨x, X, v, h1, h2⟩
theorem shareL {w : Nat → Int32} {K : Nat} (hK : K ≤ 30) (hwK : ∀ q r, q < 10 → r < 30 → bI (w q) r = true → r < K) (x : Int32) : ∀ d p fuel fuel' τ ν left tk, p + d = 10 → d < fuel → d < fuel' → rA τ 100 = w → ν.1 6 = nI K → left ≤ 30 → (∀ q s, q < 10 → s < 30 → mA (ν.2 41) q s = wA w p tk q s) → (∀ q, q < p → rA τ 101 q = ν.2 43 q) → ∃ τ' ν', FR_X1_share_14 x fuel (nI left) tk (nI p) τ = some (x, τ') ∧ FM_clothe_130 x fuel' (nI left) (nI p) ν = some (x, ν') ∧ frR τ τ' ∧ frC ν ν' ∧ ∀ q, q < 10 → rA τ' 101 q = ν'.2 43 q := by
  intro d
  induction d with
  | zero =>
    intro p fuel fuel' τ ν left tk hp hf hf' hw h6 hl hG hq
    obtain ⟨f1, rfl⟩ : ∃ f, fuel = f + 1 := ⟨fuel - 1, by omega⟩
    obtain ⟨f2, rfl⟩ : ∃ f, fuel' = f + 1 := ⟨fuel' - 1, by omega⟩
    have e : p = 10 := by omega
    subst e
    exact ⟨τ, ν, by rw [FR_X1_share_14, if_pos (show (10 : Int32) ≤ nI 10 by decide)], by rw [FM_clothe_130, if_pos (show (10 : Int32) ≤ nI 10 by decide)], frR.rf τ, ⟨rfl, fun _ _ => rfl⟩, hq⟩
  | succ d ih =>
    intro p fuel fuel' τ ν left tk hp hf hf' hw h6 hl hG hq
    obtain ⟨f1, rfl⟩ : ∃ f, fuel = f + 1 := ⟨fuel - 1, by omega⟩
    obtain ⟨f2, rfl⟩ : ∃ f, fuel' = f + 1 := ⟨fuel' - 1, by omega⟩
    have g10 := inb_nI (show p < 10 by omega) (show 10 < 2 ^ 31 by decide)
    have cp := nI_clamp (show p < 2 ^ 31 by omega)
    obtain ⟨v, X, v', r1, r2⟩ := leastR (tk := tk) (left := left) hw (show p < 10 by omega) hl
    obtain ⟨v2, σ', m1, m2, m3, m4⟩ := leastM (left := left) h6 hK hwK (show p < 10 by omega) hl hG
    have ev := Lst_u m3 r2
    subst ev
    have eA : ∀ y, rA (ra (fz τ X v') 101 (nI p) y) 101 = upd (rA τ 101) p y := fun y => by
      rw [ra_rc, rA_rc, if_pos rfl, cp]
      show upd (rA (rc τ 102 X) 101) p y = _
      rw [rA_rc, if_neg (by decide)]
    have eM : ∀ y, (sa σ' 43 (nI p) y).2 43 = upd (ν.2 43) p y := fun y => by
      rw [s2_sa_s, cp, m2.2 43 (by decide) (by decide) (by decide) (by decide) (by decide) (by decide) (by decide)]
    have eW : rA (ra (fz τ X v') 101 (nI p) v2) 100 = w := by
      rw [ra_rc, rA_rc, if_neg (by decide), fz_100]
      exact hw
    have e6 : (sa σ' 43 (nI p) v2).1 6 = nI K := by
      show σ'.1 6 = _
      rw [m2.1]
      exact h6
    have e41 : (sa σ' 43 (nI p) v2).2 41 = σ'.2 41 := s2_sa_n (by decide)
    have eq1 : ∀ q, q < p + 1 → rA (ra (fz τ X v') 101 (nI p) v2) 101 q = (sa σ' 43 (nI p) v2).2 43 q := fun q hq1 => by
      rw [eA, eM]
      by_cases c : q = p
      · subst c; rw [upd_s, upd_s]
      · rw [upd_n c, upd_n c]; exact hq q (by omega)
    have eF : frR τ (ra (fz τ X v') 101 (nI p) v2) := (frR_fz τ X v').tr (by rw [ra_rc]; exact frR_rc _ (by omega) _)
    have eC : frC ν (sa σ' 43 (nI p) v2) := m2.c.tr ⟨rfl, fun k hk => s2_sa_n (by omega)⟩
    have eP : rA (ra (fz τ X v') 101 (nI p) v2) 101 p = v2 := by rw [eA, upd_s]
    have eQ : (sa σ' 43 (nI p) v2).2 43 p = v2 := by rw [eM, upd_s]
    have hs : FR_X1_share_14 x (f1 + 1) (nI left) tk (nI p) τ = if v2 = -1 then FR_X1_share_14 x f1 (nI left) tk (nI (p + 1)) (ra (fz τ X v') 101 (nI p) v2) else FR_X1_share_14 x f1 (nI left + (-1)) (tk ||| ((1 : Int32) <<< (v2 &&& 31))) (nI (p + 1)) (ra (fz τ X v') 101 (nI p) v2) := by
      rw [FR_X1_share_14, if_neg (show ¬ (10 : Int32) ≤ nI p from nI_ge (b := 10) (by omega) (by decide)), r1, sb, g10, gdt, gdt, gdt, cp, nI_1]
      dsimp only
      rw [eP]
    have hm : FM_clothe_130 x (f2 + 1) (nI left) (nI p) ν = if v2 = -1 then FM_clothe_130 x f2 (nI left) (nI (p + 1)) (sa σ' 43 (nI p) v2) else FM_clothe_130 x f2 (nI left - 1) (nI (p + 1)) (sa σ' 43 (nI p) v2) := by
      rw [FM_clothe_130, if_neg (show ¬ (10 : Int32) ≤ nI p from nI_ge (b := 10) (by omega) (by decide)), m1, sb, g10, gdt, gdt, cp]
      dsimp only
      rw [eQ]
      unfold FM_clothe_168
      rw [Int32.sub_zero, nI_1]
    rw [hs, hm]
    generalize ra (fz τ X v') 101 (nI p) v2 = τ1 at eW eq1 eF
    generalize sa σ' 43 (nI p) v2 = ν1 at e6 e41 eq1 eC
    rcases m4 with ⟨rfl, m5⟩ | ⟨r, r30, rfl, m5⟩
    · rw [if_pos rfl, if_pos rfl]
      obtain ⟨τ', ν', z1, z2, z3, z4, z5⟩ := ih (p + 1) f1 f2 τ1 ν1 left tk (by omega) (by omega) (by omega) eW e6 hl (by rw [e41]; exact m5) eq1
      exact ⟨τ', ν', z1, z2, eF.tr z3, eC.tr z4, z5⟩
    · have hne : ¬ nI r = (-1 : Int32) := z_m1 (by omega)
      have hl1 : 1 ≤ left := by
        rcases r2 with ⟨z, -⟩ | ⟨s, -, -, z, -⟩
        · exact absurd z hne
        · exact z.2.1
      have e1 : nI left - (1 : Int32) = nI (left - 1) := z_sub (b := 1) (by omega)
      have e2 : nI left + (-1 : Int32) = nI (left - 1) := by rw [← e1, Int32.sub_eq_add_neg]
      rw [if_neg hne, if_neg hne, e1, e2]
      obtain ⟨τ', ν', z1, z2, z3, z4, z5⟩ := ih (p + 1) f1 f2 τ1 ν1 (left - 1) _ (by omega) (by omega) (by omega) eW e6 (by omega) (by rw [e41]; exact m5) eq1
      exact ⟨τ', ν', z1, z2, eF.tr z3, eC.tr z4, z5⟩
theorem rck_inv {own : Nat → Nat} {B K : Nat} {ρ : RS} {μ : MS} (h : InvO own B K ρ μ) {k : Nat} (h1 : k ≠ 800) (h2 : k ≠ 101) (g : Nat → Int32) : InvO own B K (rc ρ k g) μ := by
  have a : ∀ j, j ≠ k → rA (rc ρ k g) j = rA ρ j := fun j hj => by rw [rA_rc, if_neg hj]
  obtain ⟨hT, hB, hR, hP, hC, hM, hS⟩ := h
  exact ⟨hT.fr rfl (a _ (fun z => h1 z.symm)) rfl rfl, hB.fr rfl rfl (fun s _ => ag_sm rfl) rfl rfl rfl rfl rfl rfl, hR.fr rfl rfl (fun s _ _ => ag_sm rfl) rfl (fun _ _ _ => rfl), hP.fr rfl (fun s _ _ => ag_sm rfl) rfl rfl rfl rfl, hC.fr rfl (fun s _ _ => ag_sm rfl) rfl rfl, hM.fr rfl (ag_sm rfl) rfl rfl rfl, hS.fr rfl rfl rfl rfl (a _ (fun z => h2 z.symm)) rfl rfl rfl rfl rfl⟩
theorem cl_inv {own : Nat → Nat} {B K : Nat} {ρ ρ' : RS} {μ μ' : MS} (h : InvO own B K ρ μ) (hR' : frR ρ ρ') (hM' : frC μ μ') (hg : ∀ p, p < 10 → rA ρ' 101 p = μ'.2 43 p) : InvO own B K ρ' μ' := by
  obtain ⟨r1, r2, r3⟩ := hR'
  obtain ⟨m1, m2⟩ := hM'
  have hq : ∀ j, rQ ρ' j = rQ ρ j := fun j => by unfold rQ; rw [r3]
  have hv : ∀ j, rV ρ' j = rV ρ j := fun j => by unfold rV; rw [r3]
  have hp : ρ'.2.2.2.2 = ρ.2.2.2.2 := by rw [r3]
  obtain ⟨hT, hB, hR, hP, hC, hM, hS⟩ := h
  refine ⟨hT.fr (r1 _ (by decide)) (r2 _ (by decide) (by decide) (by decide) (by decide)) (by rw [m1]) (m2 _ (by decide)), hB.fr (r1 _ (by decide)) (hq _) (fun s _ => ag_sm hp) (by rw [m1]) (m2 _ (by decide)) (m2 _ (by decide)) (m2 _ (by decide)) (m2 _ (by decide)) (m2 _ (by decide)), hR.fr (r1 _ (by decide)) (hq _) (fun s _ _ => ag_sm hp) (by rw [m1]) (fun k _ _ => m2 k (by omega)), hP.fr (hq _) (fun s _ _ => ag_sm hp) (m2 _ (by decide)) (m2 _ (by decide)) (m2 _ (by decide)) (m2 _ (by decide)), hC.fr (hq _) (fun s _ _ => ag_sm hp) (m2 _ (by decide)) (m2 _ (by decide)), hM.fr (hv _) (ag_sm hp) (by rw [m1]) (by rw [m1]) (by rw [m1]), ?_⟩
  obtain ⟨⟨t, t1, t2, t3⟩, ⟨f, f1, f2, f3⟩, s3, -⟩ := hS
  refine ⟨⟨t, t1, (r1 _ (by decide)).trans t2, by rw [m1]; exact t3⟩, ⟨f, f1, (r1 _ (by decide)).trans f2, by rw [m1]; exact f3⟩, ?_, hg⟩
  rw [r1 911 (by decide), r1 912 (by decide), m1]
  exact s3
