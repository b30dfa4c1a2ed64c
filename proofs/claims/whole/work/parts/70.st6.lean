/-! clauses -/
def cv (sg : Nat) (v n : Int32) : Int32 := if sg = 0 then (if n ≤ v then 0 else 1) else if sg = 1 then (if v = n then 1 else 0) else (if v ≤ n then 0 else 1)
theorem cv_01 (sg : Nat) (v n : Int32) : cv sg v n = 0 ∨ cv sg v n = 1 := by
  unfold cv
  by_cases h : sg = 0
  · rw [if_pos h]; split
    · exact Or.inl rfl
    · exact Or.inr rfl
  · rw [if_neg h]
    by_cases h1 : sg = 1
    · rw [if_pos h1]; split
      · exact Or.inr rfl
      · exact Or.inl rfl
    · rw [if_neg h1]; split
      · exact Or.inl rfl
      · exact Or.inr rfl
def al (C : Nat → Int32) : Nat → Nat → Int32
  | 0, _ => 1
  | d + 1, t => if C t = 0 then 0 else al C d (t + 1)
theorem al_01 (C : Nat → Int32) : ∀ d t, al C d t = 0 ∨ al C d t = 1
  | 0, _ => Or.inr rfl
  | d + 1, t => by
    unfold al
    split
    · exact Or.inl rfl
    · exact al_01 C d (t + 1)
theorem holdsR {σ : RS} {w sg nn : Nat} (hw : w < 6) (hs : sg < 3) (hn : nn < 100) : FR_X5_holds σ (nI ((w * 3 + sg) * 100 + nn)) = some (cv sg (rA σ 916 w) (nI nn)) := by
  generalize hX : (w * 3 + sg) * 100 + nn = X
  have e1 : nI X / 300 = nI w := by
    rw [show nI X / 300 = nI (X / 300) from z_div (d := 300) (by omega) (by decide) (by decide)]
    congr 1
    omega
  have e2 : nI X / 100 = nI (w * 3 + sg) := by
    rw [show nI X / 100 = nI (X / 100) from z_div (d := 100) (by omega) (by decide) (by decide)]
    congr 1
    omega
  have e3 : nI (w * 3 + sg) / 3 = nI w := by
    rw [show nI (w * 3 + sg) / 3 = nI ((w * 3 + sg) / 3) from z_div (d := 3) (by omega) (by decide) (by decide)]
    congr 1
    omega
  have e4 : nI (w * 3 + sg) - nI w * 3 = nI sg := by
    rw [show nI w * 3 = nI (w * 3) from pk_mul w 3, z_sub (by omega)]
    congr 1
    omega
  have e5 : nI X - nI (w * 3 + sg) * 100 = nI nn := by
    rw [show nI (w * 3 + sg) * 100 = nI ((w * 3 + sg) * 100) from pk_mul _ 100, z_sub (by omega)]
    congr 1
    omega
  unfold FR_X5_holds cv
  have h1 : ¬ nI w < 0 := nI_pos (by omega)
  have h2 : nI w < 6 := nI_lt (b := 6) (by omega) (by decide)
  simp only [e1, e2, e3, e4, e5, if_neg h1, if_pos h2, inb_nI hw (show 6 < 2 ^ 31 by decide), gdt, nI_clamp (show w < 2 ^ 31 by omega)]
  rcases (show sg = 0 ∨ sg = 1 ∨ sg = 2 by omega) with rfl | rfl | rfl
  · simp only [show nI 0 = (0 : Int32) from rfl, ↓reduceIte]
    split <;> rfl
  · simp only [show (nI 1 = (0 : Int32)) = False from eq_false (by decide), show (nI 1 = (1 : Int32)) = True from eq_true rfl, show (1 = 0) = False from eq_false (by decide), ↓reduceIte]
    split <;> rfl
  · simp only [show (nI 2 = (0 : Int32)) = False from eq_false (by decide), show (nI 2 = (1 : Int32)) = False from eq_false (by decide), show (2 = 0) = False from eq_false (by decide), show (2 = 1) = False from eq_false (by decide), ↓reduceIte]
    split <;> rfl
theorem holdL {σ : RS} {u e m : Nat} {w sg nn : Nat → Nat} (hu : isK σ u 6 = true) (hm : pI σ u 1 = nI m) (he : pR σ u 0 = some e) (hk : isK σ e 11 = true) (hN : pN σ e = 6) (hm6 : m ≤ 6) (hc : ∀ t, t < m → w t < 6 ∧ sg t < 3 ∧ nn t < 100 ∧ pA σ e t = nI ((w t * 3 + sg t) * 100 + nn t)) : ∀ d t fuel, t + d = m → d < fuel →
    FR_X6_hold_2 σ u fuel (nI t) = some (al (fun t => cv (sg t) (rA σ 916 (w t)) (nI (nn t))) d t) := by
  intro d
  induction d with
  | zero =>
    intro t fuel htd hf
    obtain ⟨f', rfl⟩ : ∃ f, fuel = f + 1 := ⟨fuel - 1, by omega⟩
    rw [FR_X6_hold_2]
    have h1 : nI m ≤ nI t := nI_le (by omega) (by omega)
    simp only [hu, gdt, hm, if_pos h1]
    rfl
  | succ d ih =>
    intro t fuel htd hf
    obtain ⟨f', rfl⟩ : ∃ f, fuel = f + 1 := ⟨fuel - 1, by omega⟩
    rw [FR_X6_hold_2]
    have h1 : ¬ nI m ≤ nI t := nI_ge (by omega) (by omega)
    obtain ⟨c1, c2, c3, c4⟩ := hc t (by omega)
    simp only [hu, gdt, hm, if_neg h1, he, sb, hk, hN, inb_nI (show t < 6 by omega) (show 6 < 2 ^ 31 by decide), nI_clamp (show t < 2 ^ 31 by omega), c4, holdsR c1 c2 c3]
    unfold al
    by_cases h2 : cv (sg t) (rA σ 916 (w t)) (nI (nn t)) = 0
    · rw [if_pos h2, if_pos h2]
    · rw [if_neg h2, if_neg h2, nI_1]
      exact ih (t + 1) f' (by omega) (by omega)
theorem m127 {σ : MS} {K : Int32 → Option Int32} {x1 x2 x3 x4 v : Int32} {k t sg nn : Nat} (hk : k < 4) (ht : t < 6) (hs : sg < 3) (h1 : σ.2 29 (18 * k + 3 * t + 1) = nI (60 + sg)) (h2 : σ.2 29 (18 * k + 3 * t + 2) = nI nn) : FM_mayWear_127 σ K x1 x2 x3 x4 (nI t) (nI (18 * k + 3 * t)) v = if cv sg v (nI nn) = 0 then some 0 else K (nI (t + 1)) := by
  unfold FM_mayWear_127 FM_mayWear_220 cv
  have a1 : nI (18 * k + 3 * t) + 1 = nI (18 * k + 3 * t + 1) := nI_1 _
  have a2 : nI (18 * k + 3 * t) + 2 = nI (18 * k + 3 * t + 2) := nI_add _ 2
  simp only [a1, a2, inb_nI (show 18 * k + 3 * t + 1 < 72 by omega) (show 72 < 2 ^ 31 by decide), inb_nI (show 18 * k + 3 * t + 2 < 72 by omega) (show 72 < 2 ^ 31 by decide), gdt, nI_clamp (show 18 * k + 3 * t + 1 < 2 ^ 31 by omega), nI_clamp (show 18 * k + 3 * t + 2 < 2 ^ 31 by omega), h1, h2, nI_1]
  rcases (show sg = 0 ∨ sg = 1 ∨ sg = 2 by omega) with rfl | rfl | rfl
  · simp only [show nI (60 + 0) = (60 : Int32) from rfl, ↓reduceIte]
    by_cases c : nI nn ≤ v
    · simp only [if_pos c, ↓reduceIte]
    · simp only [if_neg c, i10, ↓reduceIte]
  · simp only [show (nI (60 + 1) = (60 : Int32)) = False from eq_false (by decide), show (nI (60 + 1) = (61 : Int32)) = True from eq_true rfl, show (1 = 0) = False from eq_false (by decide), ↓reduceIte]
    by_cases c : v = nI nn
    · simp only [if_pos c, i10, ↓reduceIte]
    · simp only [if_neg c, ↓reduceIte]
  · simp only [show (nI (60 + 2) = (60 : Int32)) = False from eq_false (by decide), show (nI (60 + 2) = (61 : Int32)) = False from eq_false (by decide), show (2 = 0) = False from eq_false (by decide), show (2 = 1) = False from eq_false (by decide), ↓reduceIte]
    by_cases c : v ≤ nI nn
    · simp only [if_pos c, ↓reduceIte]
    · simp only [if_neg c, i10, ↓reduceIte]
theorem som_if {α : Type} (c : Prop) [Decidable c] (x y : α) : (if c then some x else some y) = some (if c then x else y) := by split <;> rfl
/-- what clauses speak of, in the reference's words -/
def fvM (μ : MS) (j p : Nat) (s : Int32) (w : Nat) : Int32 := if w = 0 then s else if w = 1 then μ.2 26 p else if w = 2 then μ.2 27 p else if w = 3 then μ.2 8 j else if w = 4 then (if μ.2 15 j = 0 then 0 else 1) else μ.2 13 j
theorem mayL {μ : MS} {j p k m : Nat} {s : Int32} {w sg nn : Nat → Nat} (hj : j < 30) (hp : p < 10) (hk : k < 4) (hm : μ.2 28 k = nI m) (hm6 : m ≤ 6) (hc : ∀ t, t < m → w t < 6 ∧ sg t < 3 ∧ nn t < 100 ∧ μ.2 29 (18 * k + 3 * t) = nI (w t) ∧ μ.2 29 (18 * k + 3 * t + 1) = nI (60 + sg t) ∧ μ.2 29 (18 * k + 3 * t + 2) = nI (nn t)) : ∀ d t fuel, t + d = m → d < fuel →
    FM_mayWear_11 μ (nI j) (nI p) s (nI k) fuel (nI t) = some (al (fun t => cv (sg t) (fvM μ j p s (w t)) (nI (nn t))) d t) := by
  intro d
  induction d with
  | zero =>
    intro t fuel htd hf
    obtain ⟨f', rfl⟩ : ∃ f, fuel = f + 1 := ⟨fuel - 1, by omega⟩
    rw [FM_mayWear_11]
    have h1 : nI m ≤ nI t := nI_le (by omega) (by omega)
    simp only [inb_nI hk (show 4 < 2 ^ 31 by decide), gdt, nI_clamp (show k < 2 ^ 31 by omega), hm, if_pos h1]
    rfl
  | succ d ih =>
    intro t fuel htd hf
    obtain ⟨f', rfl⟩ : ∃ f, fuel = f + 1 := ⟨fuel - 1, by omega⟩
    rw [FM_mayWear_11]
    have h1 : ¬ nI m ≤ nI t := nI_ge (by omega) (by omega)
    obtain ⟨c1, c2, c3, c4, c5, c6⟩ := hc t (by omega)
    have a0 : (18 : Int32) * nI k + 3 * nI t = nI (18 * k + 3 * t) := by
      rw [show (18 : Int32) * nI k = nI (18 * k) from pk_mul 18 k, show (3 : Int32) * nI t = nI (3 * t) from pk_mul 3 t, nI_add]
    simp only [inb_nI hk (show 4 < 2 ^ 31 by decide), gdt, nI_clamp (show k < 2 ^ 31 by omega), hm, if_neg h1, a0, inb_nI (show 18 * k + 3 * t < 72 by omega) (show 72 < 2 ^ 31 by decide), nI_clamp (show 18 * k + 3 * t < 2 ^ 31 by omega), c4, inb_nI hp (show 10 < 2 ^ 31 by decide), inb_nI hj (show 30 < 2 ^ 31 by decide), nI_clamp (show p < 2 ^ 31 by omega), nI_clamp (show j < 2 ^ 31 by omega), m127 hk (show t < 6 by omega) c2 c5 c6]
    have e : al (fun t => cv (sg t) (fvM μ j p s (w t)) (nI (nn t))) (d + 1) t = if cv (sg t) (fvM μ j p s (w t)) (nI (nn t)) = 0 then 0 else al (fun t => cv (sg t) (fvM μ j p s (w t)) (nI (nn t))) d (t + 1) := rfl
    rw [e, ih (t + 1) f' (by omega) (by omega)]
    generalize al (fun t => cv (sg t) (fvM μ j p s (w t)) (nI (nn t))) d (t + 1) = Z
    unfold fvM
    rcases (show w t = 0 ∨ w t = 1 ∨ w t = 2 ∨ w t = 3 ∨ w t = 4 ∨ w t = 5 by omega) with h | h | h | h | h | h
    · simp only [h, show (nI 0 = (0 : Int32)) = True from eq_true rfl, ↓reduceIte]
      exact som_if _ _ _
    · simp only [h, show (nI 1 = (0 : Int32)) = False from eq_false (by decide), show (nI 1 = (1 : Int32)) = True from eq_true rfl, show (1 = 0) = False from eq_false (by decide), ↓reduceIte]
      exact som_if _ _ _
    · simp only [h, show (nI 2 = (0 : Int32)) = False from eq_false (by decide), show (nI 2 = (1 : Int32)) = False from eq_false (by decide), show (nI 2 = (2 : Int32)) = True from eq_true rfl, show (2 = 0) = False from eq_false (by decide), show (2 = 1) = False from eq_false (by decide), ↓reduceIte]
      exact som_if _ _ _
    · simp only [h, show (nI 3 = (0 : Int32)) = False from eq_false (by decide), show (nI 3 = (1 : Int32)) = False from eq_false (by decide), show (nI 3 = (2 : Int32)) = False from eq_false (by decide), show (nI 3 = (3 : Int32)) = True from eq_true rfl, show (3 = 0) = False from eq_false (by decide), show (3 = 1) = False from eq_false (by decide), show (3 = 2) = False from eq_false (by decide), ↓reduceIte]
      exact som_if _ _ _
    · simp only [h, show (nI 4 = (0 : Int32)) = False from eq_false (by decide), show (nI 4 = (1 : Int32)) = False from eq_false (by decide), show (nI 4 = (2 : Int32)) = False from eq_false (by decide), show (nI 4 = (3 : Int32)) = False from eq_false (by decide), show (nI 4 = (4 : Int32)) = True from eq_true rfl, show (4 = 0) = False from eq_false (by decide), show (4 = 1) = False from eq_false (by decide), show (4 = 2) = False from eq_false (by decide), show (4 = 3) = False from eq_false (by decide), ↓reduceIte]
      by_cases h9 : μ.2 15 j = 0
      · simp only [if_pos h9]; exact som_if _ _ _
      · simp only [if_neg h9]; exact som_if _ _ _
    · simp only [h, show (nI 5 = (0 : Int32)) = False from eq_false (by decide), show (nI 5 = (1 : Int32)) = False from eq_false (by decide), show (nI 5 = (2 : Int32)) = False from eq_false (by decide), show (nI 5 = (3 : Int32)) = False from eq_false (by decide), show (nI 5 = (4 : Int32)) = False from eq_false (by decide), show (5 = 0) = False from eq_false (by decide), show (5 = 1) = False from eq_false (by decide), show (5 = 2) = False from eq_false (by decide), show (5 = 3) = False from eq_false (by decide), show (5 = 4) = False from eq_false (by decide), ↓reduceIte]
      exact som_if _ _ _
theorem ChestV.fn {own : Nat → Nat} {ρ : RS} {μ : MS} {k u e m : Nat} (h : ChestV own ρ μ k u e m) : ∃ w sg nn : Nat → Nat, ∀ t, t < m → (w t < 6 ∧ sg t < 3 ∧ nn t < 100) ∧ pA ρ e t = nI ((w t * 3 + sg t) * 100 + nn t) ∧ μ.2 29 (18 * k + 3 * t) = nI (w t) ∧ μ.2 29 (18 * k + 3 * t + 1) = nI (60 + sg t) ∧ μ.2 29 (18 * k + 3 * t + 2) = nI (nn t) := by
  refine ⟨fun t => (μ.2 29 (18 * k + 3 * t)).toNatClampNeg, fun t => (μ.2 29 (18 * k + 3 * t + 1)).toNatClampNeg - 60, fun t => (μ.2 29 (18 * k + 3 * t + 2)).toNatClampNeg, fun t ht => ?_⟩
  obtain ⟨w, sg, nn, a1, a2, a3, a4, a5, a6, a7⟩ := h.2.2.2 t ht
  have b5 : (μ.2 29 (18 * k + 3 * t)).toNatClampNeg = w := by rw [a5, nI_clamp (by omega)]
  have b6 : (μ.2 29 (18 * k + 3 * t + 1)).toNatClampNeg - 60 = sg := by rw [a6, nI_clamp (by omega)]; omega
  have b7 : (μ.2 29 (18 * k + 3 * t + 2)).toNatClampNeg = nn := by rw [a7, nI_clamp (by omega)]
  simp only [b5, b6, b7]
  exact ⟨⟨a1, a2, a3⟩, a4, a5, a6, a7⟩
theorem al_cong {C C' : Nat → Int32} : ∀ d t, (∀ j, t ≤ j → j < t + d → C j = C' j) → al C d t = al C' d t
  | 0, _, _ => rfl
  | d + 1, t, h => by
    unfold al
    rw [h t (Nat.le_refl t) (by omega), al_cong d (t + 1) (fun j h1 h2 => h j (by omega) (by omega))]
/-- whether one may wear a robe that lies in a chest: both say the same -/
theorem canW {own : Nat → Nat} {B K : Nat} {ρ : RS} {μ : MS} (h : InvO own B K ρ μ) {j a c e b sl f l p pa k : Nat} (hj : j < 30) (hr : RobeL own ρ μ j a c e b sl f l) (hp : p < 10) (hpa : PersV own ρ μ K p pa) (ht : pI ρ pa 0 = 1) (hk : k < 4) (hk2 : μ.2 19 j = nI k) (s : Int32) : ∃ v G, (v = 0 ∨ v = 1) ∧ FR_X9_canWear ρ a pa s = some (v, rc ρ 916 G) ∧ FM_mayWear μ (nI j) (nI p) s = some v := by
  obtain ⟨⟨r1, r2, r3, r4, r5⟩, ⟨b1, b2, b3, b4⟩, ⟨c1, c2⟩, ⟨e1, e2⟩, hl, ⟨q1, q2⟩, ⟨u1, u2⟩⟩ := hr
  obtain ⟨⟨g1, g2, g3⟩, g4, g5⟩ := hpa
  obtain ⟨ge, gk, gg1, gg2, a4, a5, a6, a7⟩ : ∃ g k, g ≤ 99 ∧ k ≤ 9 ∧ μ.2 26 p = nI g ∧ pI ρ pa 1 = nI g ∧ μ.2 27 p = nI k ∧ pI ρ pa 2 = nI k := by
    rcases g4 with ⟨z, -⟩ | ⟨-, z⟩
    · rw [ht] at z; exact absurd z (by decide)
    · exact z
  obtain ⟨u, ue, m, hch⟩ := h.2.2.2.2.1 k hk
  obtain ⟨w, sg, nn, hc⟩ := hch.fn
  obtain ⟨⟨v1, v2, v3⟩, ⟨v4, v5, v6, v7⟩, ⟨v8, v9, v10⟩, -⟩ := hch
  have hwin : (0 : Int32) ≤ nI k ∧ nI k ≤ 3 := ⟨nI_pos' (by omega), nI_le (b := 3) (by omega) (by decide)⟩
  have q1k : pI ρ a 3 = nI k := q1.trans hk2
  have hA2 : pA ρ e (2 : Int32).toNatClampNeg = nI sl := e2.2.2.2.2.2.1
  have hM : FM_mayWear μ (nI j) (nI p) s = some (al (fun t => cv (sg t) (fvM μ j p s (w t)) (nI (nn t))) m 0) := by
    unfold FM_mayWear
    rw [gd_t (inb_nI hj (by decide)), nI_clamp (by omega), hk2]
    exact mayL hj hp hk v10 v8 (fun t ht => ⟨(hc t ht).1.1, (hc t ht).1.2.1, (hc t ht).1.2.2, (hc t ht).2.2⟩) m 0 fu (by omega) (by have := fu_pos; omega)
  have hH : ∀ lv : Int32, (lv = if μ.2 15 j = 0 then 0 else 1) → ∀ G : Nat → Int32, G 0 = s → G 1 = nI ge → G 2 = nI gk → G 3 = μ.2 8 j → G 4 = lv → G 5 = nI sl → FR_X6_hold (rc ρ 916 G) u = some (al (fun t => cv (sg t) (fvM μ j p s (w t)) (nI (nn t))) m 0) := fun lv hlv G z0 z1 z2 z3 z4 z5 => by
    unfold FR_X6_hold
    have := holdL (σ := rc ρ 916 G) (u := u) (e := ue) (m := m) (w := w) (sg := sg) (nn := nn) v2 v9 v4 v5 v7 v8 (fun t ht => ⟨(hc t ht).1.1, (hc t ht).1.2.1, (hc t ht).1.2.2, (hc t ht).2.1⟩) m 0 fu (by omega) (by have := fu_pos; omega)
    refine this.trans (congrArg some (al_cong m 0 (fun t _ ht => ?_)))
    have ht : t < m := by omega
    show cv (sg t) (rA (rc ρ 916 G) 916 (w t)) (nI (nn t)) = _
    rw [rA_rc, if_pos rfl]
    have hwt := (hc t ht).1.1
    have : G (w t) = fvM μ j p s (w t) := by
      unfold fvM
      rcases (show w t = 0 ∨ w t = 1 ∨ w t = 2 ∨ w t = 3 ∨ w t = 4 ∨ w t = 5 by omega) with h | h | h | h | h | h
      · rw [h, z0]; rfl
      · rw [h, z1]; exact a4.symm
      · rw [h, z2]; exact a6.symm
      · rw [h, z3]; rfl
      · rw [h, z4, hlv]; rfl
      · rw [h, z5]; exact b4.symm
    rw [this]
  have h01 := al_01 (fun t => cv (sg t) (fvM μ j p s (w t)) (nI (nn t))) m 0
  generalize al (fun t => cv (sg t) (fvM μ j p s (w t)) (nI (nn t))) m 0 = V at hM hH h01
  have hB : isB V = true := decide_eq_true h01
  have fin : ∀ lv : Int32, (lv = if μ.2 15 j = 0 then 0 else 1) → ∃ G, FR_X9_canWear_71 a (4 : Int32) lv (ra (ra (ra (ra ρ 916 (0 : Int32) s) 916 (1 : Int32) (nI ge)) 916 (2 : Int32) (nI gk)) 916 (3 : Int32) (μ.2 8 j)) = some (V, rc ρ 916 G) := fun lv hlv => by
    unfold FR_X9_canWear_71
    simp only [show inb (4 : Int32) 6 = true from rfl, show inb (5 : Int32) 6 = true from rfl, show inb (2 : Int32) 6 = true from rfl, gdt, qisK_ra, r2, qpR_ra, e1, sb, e2.1, qpN_ra, e2.2.2.1, qpA_ra, hA2, qpI_ra, q1k, inb_nI hk (show 4 < 2 ^ 31 by decide), qrQ_ra, nI_clamp (show k < 2 ^ 31 by omega), v1, v2]
    simp only [ra_rc, rc_rc, rA_rc, ↓reduceIte]
    refine ⟨(upd (upd (upd (upd (upd (upd (rA ρ 916) (0 : Int32).toNatClampNeg s) (1 : Int32).toNatClampNeg (nI ge)) (2 : Int32).toNatClampNeg (nI gk)) (3 : Int32).toNatClampNeg (μ.2 8 j)) (4 : Int32).toNatClampNeg lv) (5 : Int32).toNatClampNeg (nI sl)), ?_⟩
    rw [hH lv hlv (upd (upd (upd (upd (upd (upd (rA ρ 916) (0 : Int32).toNatClampNeg s) (1 : Int32).toNatClampNeg (nI ge)) (2 : Int32).toNatClampNeg (nI gk)) (3 : Int32).toNatClampNeg (μ.2 8 j)) (4 : Int32).toNatClampNeg lv) (5 : Int32).toNatClampNeg (nI sl)) rfl rfl rfl rfl rfl rfl, sb, hB, gdt]
  refine ⟨V, ?_⟩
  unfold FR_X9_canWear
  simp only [r2, gdt, q1k, w_in hwin, sb, i10, ↓reduceIte, show inb (0 : Int32) 6 = true from rfl, show inb (1 : Int32) 6 = true from rfl, show inb (2 : Int32) 6 = true from rfl, show inb (3 : Int32) 6 = true from rfl, qisK_ra, g2, qpI_ra, qpR_ra, c1, c2.1, c2.2.2.1, a5, a7]
  rcases hl with ⟨l1, l2⟩ | ⟨l1, d, l2, l3⟩
  · obtain ⟨G, hG⟩ := fin 0 (by rw [if_pos l2])
    exact ⟨G, h01, by rw [l1, ocn]; exact hG, hM⟩
  · obtain ⟨G, hG⟩ := fin 1 (by rw [if_neg (by rw [l1]; decide)])
    exact ⟨G, h01, by rw [l2, ocs]; exact hG, hM⟩
theorem rc_inv {own : Nat → Nat} {B K : Nat} {ρ : RS} {μ : MS} (h : InvO own B K ρ μ) {k : Nat} (h1 : k ≠ 800) (h2 : k ≠ 101) (G : Nat → Int32) : InvO own B K (rc ρ k G) μ := by
  obtain ⟨hT, hB, hR, hP, hC, hM, hS⟩ := h
  exact ⟨hT.fr rfl (if_neg (fun e => h1 e.symm)) rfl rfl, hB.fr rfl rfl (fun s _ => ag_rc) rfl rfl rfl rfl rfl rfl, hR.fr rfl rfl (fun s _ _ => ag_rc) rfl (fun k _ _ => rfl), hP.fr rfl (fun s _ _ => ag_rc) rfl rfl rfl rfl, hC.fr rfl (fun s _ _ => ag_rc) rfl rfl, hM.fr rfl ag_rc rfl rfl rfl, hS.fr rfl rfl rfl rfl (if_neg (fun e => h2 e.symm)) rfl rfl rfl rfl rfl⟩
/-- where a robe lies: at hand, or not -/
theorem hand_c {own : Nat → Nat} {ρ : RS} {μ : MS} {j a c e b sl f l : Nat} (hr : RobeL own ρ μ j a c e b sl f l) : (FR_X4_isAtHand ρ a = some 0 ∧ (μ.2 19 j = -1 ∨ (¬ μ.2 19 j = -1 ∧ ¬ μ.2 20 j = -1))) ∨ ∃ k, k < 4 ∧ μ.2 19 j = nI k ∧ μ.2 20 j = -1 ∧ FR_X4_isAtHand ρ a = some 1 := by
  obtain ⟨⟨r1, r2, r3, r4, r5⟩, -, -, -, -, ⟨q1, q2⟩, ⟨u1, u2⟩⟩ := hr
  unfold FR_X4_isAtHand
  rw [r2, gdt, q1, u1]
  rcases q2 with q2 | ⟨k, hk, q2⟩
  · exact Or.inl ⟨by rw [if_pos q2], Or.inl q2⟩
  · have n1 : ¬ μ.2 19 j = -1 := by rw [q2]; exact z_m1 (by omega)
    by_cases c1 : μ.2 20 j = -1
    · exact Or.inr ⟨k, hk, q2, c1, by rw [if_neg n1, if_pos c1]⟩
    · exact Or.inl ⟨by rw [if_neg n1, if_neg c1], Or.inr ⟨n1, c1⟩⟩
theorem im3 : ((-3 : Int32) = 0) = False := eq_false (by decide)
theorem im2 : ((-2 : Int32) = 0) = False := eq_false (by decide)
theorem im1 : ((-1 : Int32) = 0) = False := eq_false (by decide)
theorem st_may {ρ : RS} {μ : MS} (h : Inv ρ μ) (p1 : Int32) (p2 : Int32) (p3 : Int32) : ∃ q ρ', FR_X9_may ρ p1 p2 p3 = some (q, ρ') ∧ FM_may μ p1 p2 p3 = some q ∧ Inv ρ' μ := by
  obtain ⟨own, B, K, h⟩ := h
  unfold FR_X9_may FM_may FM_cannot
  rcases robe_c h p1 with ⟨e1, e2⟩ | ⟨i, a, c, e, b, sl, f, l, hi, hi2, rfl, hr, e1, e2⟩
  · rcases pers_c h p2 with ⟨e3, e4⟩ | ⟨p, pa, hp, rfl, hpa, ht, e3, e4⟩
    · simp only [e1, e2, e3, sb, ocn, im1, ↓reduceIte]
      exact ⟨_, _, rfl, rfl, own, B, K, h⟩
    · simp only [e1, e2, e3, sb, ocn, im1, ↓reduceIte]
      exact ⟨_, _, rfl, rfl, own, B, K, h⟩
  · rcases pers_c h p2 with ⟨e3, e4⟩ | ⟨p, pa, hp, rfl, hpa, ht, e3, e4⟩
    · simp only [e1, e2, e3, e4, sb, ocs, ocn, i10, im1, ↓reduceIte]
      exact ⟨_, _, rfl, rfl, own, B, K, h⟩
    · simp only [e1, e2, e3, e4, sb, ocs, i10, ↓reduceIte]
      by_cases hw : (0 : Int32) ≤ p3 ∧ p3 ≤ 3
      · simp only [w_in hw, m_in hw, sb, i10, ↓reduceIte, hr.1.2.1, gdt, inb_nI hi2 (show 30 < 2 ^ 31 by decide), nI_clamp (show i < 2 ^ 31 by omega)]
        rcases hand_c hr with ⟨x1, x2⟩ | ⟨k, hk, x1, x2, x3⟩
        · simp only [x1, sb, ↓reduceIte]
          rcases x2 with x2 | ⟨x2, x3⟩
          · simp only [if_pos x2, sb, im3, ↓reduceIte]
            exact ⟨_, _, rfl, rfl, own, B, K, h⟩
          · simp only [if_neg x2, if_neg x3, sb, im3, ↓reduceIte]
            exact ⟨_, _, rfl, rfl, own, B, K, h⟩
        · have n1 : ¬ μ.2 19 i = -1 := by rw [x1]; exact z_m1 (by omega)
          obtain ⟨v, G, hv, y1, y2⟩ := canW h hi2 hr hp hpa ht hk x1 p3
          simp only [x3, sb, i10, if_neg n1, if_pos x2, y1, y2, ↓reduceIte]
          rcases hv with rfl | rfl
          · simp only [↓reduceIte]
            exact ⟨_, _, rfl, rfl, own, B, K, rc_inv h (by decide) (by decide) G⟩
          · simp only [i10, ↓reduceIte]
            exact ⟨_, _, rfl, rfl, own, B, K, rc_inv h (by decide) (by decide) G⟩
      · simp only [w_out hw, m_out hw, sb, im2, ↓reduceIte]
        exact ⟨_, _, rfl, rfl, own, B, K, h⟩
