def sumN (g : Nat → Nat) : Nat → Nat
  | 0 => 0
  | k + 1 => sumN g k + g k
theorem sum_cg {g g' : Nat → Nat} : ∀ k, (∀ j, j < k → g j = g' j) → sumN g k = sumN g' k
  | 0, _ => rfl
  | k + 1, h => by
    show sumN g k + g k = sumN g' k + g' k
    rw [sum_cg k (fun j hj => h j (by omega)), h k (by omega)]
def shP (fo len : Nat) (g : Nat → Nat) : Nat := cntN (fun i => spt (g (fo + i))) (len - 2 * fo)
def shN (fo b sl f l : Nat) (y : Nat → Nat → Nat) : Nat := sumN (fun p => shP fo (lenP b sl f l p) (y p)) 6
theorem shown15 {σ : MS} {b sl f l thr fo p C : Nat} {y : Nat → Nat → Nat} (h : LookV σ b sl f l thr fo y) (hp : p < 6) {K : Int32 → Option Int32} : ∀ d i fuel, i + d = lenP b sl f l p - 2 * fo → d < fuel → FM_shown_15 σ K (nI p) fuel (nI (C + cntN (fun i => spt (y p (fo + i))) i)) (nI (fo + i)) = K (nI (C + shP fo (lenP b sl f l p) (y p))) := by
  obtain ⟨h32, h33, h34, -, h25, -, hfo, ho⟩ := h
  have hl := fl_le hp ho
  have h32p := h32 p hp
  have h33p := h33 p hp
  intro d
  induction d with
  | zero =>
    intro i fuel hi hf
    obtain ⟨f1, rfl⟩ : ∃ f, fuel = f + 1 := ⟨fuel - 1, by omega⟩
    have c : nI (lenP b sl f l p) - nI fo ≤ nI (fo + i) := by rw [sb_le (by omega) (by omega) (by omega)]; omega
    rw [FM_shown_15]
    simp only [inb_nI hp (show 6 < 2 ^ 31 by decide), gdt, nI_clamp (show p < 2 ^ 31 by omega), h32p, h25, if_pos c]
    unfold shP
    rw [show lenP b sl f l p - 2 * fo = i by omega]
  | succ d ih =>
    intro i fuel hi hf
    obtain ⟨f1, rfl⟩ : ∃ f, fuel = f + 1 := ⟨fuel - 1, by omega⟩
    have c : ¬ nI (lenP b sl f l p) - nI fo ≤ nI (fo + i) := by rw [sb_le (by omega) (by omega) (by omega)]; omega
    obtain ⟨x1, x2⟩ := h34 p (fo + i) hp (by omega)
    have u1 := x1.1
    have e1 : nI (y p (fo + i)) / 100 = nI (y p (fo + i) / 100) := z_div (d := 100) (by omega) (by decide) (by decide)
    have hc : cntN (fun i => spt (y p (fo + i))) (i + 1) = cntN (fun i => spt (y p (fo + i))) i + (if spt (y p (fo + i)) = true then 1 else 0) := rfl
    have nx := ih (i + 1) f1 (by omega) (by omega)
    rw [hc] at nx
    rw [FM_shown_15]
    unfold FM_shown_72
    simp only [inb_nI hp (show 6 < 2 ^ 31 by decide), gdt, nI_clamp (show p < 2 ^ 31 by omega), h32p, h33p, h25, if_neg c, nI_add, inb_nI (show froP b sl f l p + (fo + i) < 120 by omega) (show 120 < 2 ^ 31 by decide), nI_clamp (show froP b sl f l p + (fo + i) < 2 ^ 31 by omega), x2, told_1 (show y p (fo + i) < 2147483648 by omega), e1, nI_1, show (0 : Int32) = nI 0 from rfl]
    by_cases c1 : y p (fo + i) / 10 % 10 = 1
    · have s1 : spt (y p (fo + i)) = true := decide_eq_true (Or.inl c1)
      rw [if_pos s1] at nx
      rw [if_pos (show nI (y p (fo + i) / 10 % 10) = 1 by rw [c1]; rfl)]
      exact nx
    · rw [if_neg (show ¬ nI (y p (fo + i) / 10 % 10) = 1 from fun z => c1 ((nI_eq (b := 1) (by omega) (by decide)).mp z))]
      by_cases c2 : y p (fo + i) / 100 < 3
      · have s1 : ¬ spt (y p (fo + i)) = true := fun z => by have := of_decide_eq_true z; omega
        rw [if_neg s1] at nx
        rw [if_pos (show nI (y p (fo + i) / 100) < 3 from nI_lt (b := 3) c2 (by decide))]
        exact nx
      · have s1 : spt (y p (fo + i)) = true := decide_eq_true (Or.inr (by omega))
        rw [if_pos s1] at nx
        rw [if_neg (show ¬ nI (y p (fo + i) / 100) < 3 from nI_nlt (b := 3) (by omega) (by omega))]
        exact nx
theorem shown4 {σ : MS} {b sl f l thr fo : Nat} {y : Nat → Nat → Nat} (h : LookV σ b sl f l thr fo y) : ∀ d p fuel, p + d = 6 → d < fuel → FM_shown_4 σ fuel (nI (sumN (fun p => shP fo (lenP b sl f l p) (y p)) p)) (nI p) = some (nI (shN fo b sl f l y)) := by
  have hfu := fu_pos
  have h25 := h.2.2.2.2.1
  have ho := h.2.2.2.2.2.2.2
  intro d
  induction d with
  | zero =>
    intro p fuel hp hf
    obtain ⟨f1, rfl⟩ : ∃ f, fuel = f + 1 := ⟨fuel - 1, by omega⟩
    have e : p = 6 := by omega
    subst e
    rw [FM_shown_4, if_pos (show (6 : Int32) ≤ nI 6 from by decide)]
    rfl
  | succ d ih =>
    intro p fuel hp hf
    obtain ⟨f1, rfl⟩ : ∃ f, fuel = f + 1 := ⟨fuel - 1, by omega⟩
    have n1 : ¬ (6 : Int32) ≤ nI p := nI_ge (b := 6) (by omega) (by decide)
    have hl := fl_le (show p < 6 by omega) ho
    have w := shown15 (C := sumN (fun p => shP fo (lenP b sl f l p) (y p)) p) h (show p < 6 by omega) (K := fun x1_80 => FM_shown_80 σ (fun x1_4 x2_4 => FM_shown_4 σ f1 x1_4 x2_4) x1_80 (nI p)) (lenP b sl f l p - 2 * fo) 0 fu (by omega) (by omega)
    rw [FM_shown_4, if_neg n1, h25]
    refine Eq.trans w ?_
    unfold FM_shown_80
    simp only [nI_1]
    exact ih (p + 1) f1 (by omega) (by omega)
theorem shown_M {σ : MS} {b sl f l thr fo : Nat} {y : Nat → Nat → Nat} (h : LookV σ b sl f l thr fo y) : FM_shown σ = some (nI (shN fo b sl f l y)) := by
  have hfu := fu_pos
  unfold FM_shown
  exact shown4 h 6 0 fu (by omega) (by omega)
/-! the class's layout -/
def dirP (s len : Nat) (e : Bool) (i : Nat) : Nat := s + (if e = true then len - 1 - i else i)
def LayV (ρ : RS) (rb e n b sl f l : Nat) (s : Nat → Nat) (tw thr fo : Nat) (x : Nat → Nat) (v0 : Int32) : Prop :=
  (rV ρ 200 = some rb ∧ isK ρ rb 11 = true ∧ pN ρ rb = n ∧ ∀ j, j < n → okr (x j) ∧ pA ρ rb j = nI (enc (x j))) ∧ (rV ρ 201 = some e ∧ isK ρ e 11 = true ∧ pN ρ e = 6 ∧ ∀ p, p < 6 → pA ρ e p = nI (lenP b sl f l p)) ∧ (rI ρ 202 = nI thr ∧ rI ρ 203 = nI fo ∧ rI ρ 206 = nI tw ∧ ∀ k, k < 5 → rA ρ 207 k = nI (smR b sl f l k)) ∧ (∀ j, j ≤ n → rA ρ 204 j = v0 + nI (cntN (fun i => spt (x i)) j)) ∧ (∀ p, p < 6 → rA ρ 205 p = nI (s p) ∧ s p + lenP b sl f l p ≤ n) ∧ (n ≤ 120 ∧ tw < 64 ∧ thr ≤ 9 ∧ fo ≤ 9 ∧ okl b sl f l)
theorem shownOf_e {ρ : RS} {rb e n b sl f l tw thr fo : Nat} {s x : Nat → Nat} {v0 : Int32} (h : LayV ρ rb e n b sl f l s tw thr fo x v0) {p : Nat} (hp : p < 6) : FR_X2_shownOf ρ (nI p) = some (nI (cntN (fun i => spt (x (s p + fo + i))) (lenP b sl f l p - 2 * fo))) := by
  obtain ⟨-, ⟨g1, g2, g3, g4⟩, ⟨-, h203, -⟩, h204, h205, ⟨hn, -, -, hfo, ho⟩⟩ := h
  obtain ⟨s1, s2⟩ := h205 p hp
  have g4p := g4 p hp
  unfold FR_X2_shownOf
  simp only [inb_nI hp (show 6 < 2 ^ 31 by decide), gdt, g1, sb, g2, g3, nI_clamp (show p < 2 ^ 31 by omega), s1, g4p, h203, nI_add]
  have n0 : ¬ nI (s p + fo) < 0 := nI_nlt (b := 0) (by omega) (by omega)
  rw [if_neg n0]
  by_cases c : lenP b sl f l p ≤ 2 * fo
  · have c1 : nI (s p + lenP b sl f l p) - nI fo ≤ nI (s p + fo) := by rw [sb_le (by omega) (by omega) (by omega)]; omega
    rw [if_pos c1, show lenP b sl f l p - 2 * fo = 0 by omega]
    rfl
  · have c1 : ¬ nI (s p + lenP b sl f l p) - nI fo ≤ nI (s p + fo) := by rw [sb_le (by omega) (by omega) (by omega)]; omega
    rw [if_neg c1, z_sub (by omega), if_neg (show ¬ (120 : Int32) < nI (s p + lenP b sl f l p - fo) from nI_nlt (a := 120) (by omega) (by omega)), gd_t (inb_nI (by omega) (by decide)), gd_t (inb_nI (by omega) (by decide)), nI_clamp (by omega), nI_clamp (by omega), h204 _ (by omega), h204 _ (by omega), show s p + lenP b sl f l p - fo = s p + fo + (lenP b sl f l p - 2 * fo) by omega, cntN_add, ← nI_add, ← Int32.add_assoc, Int32.add_comm _ (nI (cntN (fun j => spt (x (s p + fo + j))) (lenP b sl f l p - 2 * fo))), Int32.add_sub_cancel]
theorem shownSum4 {ρ : RS} {rb e n b sl f l tw thr fo : Nat} {s x : Nat → Nat} {v0 : Int32} (h : LayV ρ rb e n b sl f l s tw thr fo x v0) : ∀ d p fuel, p + d = 6 → d < fuel → FR_X2_shownSum_4 ρ fuel (nI (sumN (fun p => cntN (fun i => spt (x (s p + fo + i))) (lenP b sl f l p - 2 * fo)) p)) (nI p) = some (nI (sumN (fun p => cntN (fun i => spt (x (s p + fo + i))) (lenP b sl f l p - 2 * fo)) 6)) := by
  intro d
  induction d with
  | zero =>
    intro p fuel hp hf
    obtain ⟨f1, rfl⟩ : ∃ f, fuel = f + 1 := ⟨fuel - 1, by omega⟩
    have e : p = 6 := by omega
    subst e
    rw [FR_X2_shownSum_4, if_pos (show (6 : Int32) ≤ nI 6 from by decide)]
  | succ d ih =>
    intro p fuel hp hf
    obtain ⟨f1, rfl⟩ : ∃ f, fuel = f + 1 := ⟨fuel - 1, by omega⟩
    have n1 : ¬ (6 : Int32) ≤ nI p := nI_ge (b := 6) (by omega) (by decide)
    rw [FR_X2_shownSum_4, if_neg n1, shownOf_e h (by omega), sb, nI_add, nI_1]
    exact ih (p + 1) f1 (by omega) (by omega)
theorem cnt_rev : ∀ m (P : Nat → Bool), cntN (fun i => P (m - 1 - i)) m = cntN P m
  | 0, _ => rfl
  | m + 1, P => by
    rw [show m + 1 = 1 + m by omega, cntN_add P 1 m, ← cnt_rev m (fun j => P (1 + j)), show 1 + m = m + 1 by omega]
    show cntN (fun i => P (m + 1 - 1 - i)) m + (if P (m + 1 - 1 - m) = true then 1 else 0) = (0 + (if P 0 = true then 1 else 0)) + _
    rw [cntN_cg m (P' := fun i => P (1 + (m - 1 - i))) (fun j hj => by rw [show m + 1 - 1 - j = 1 + (m - 1 - j) by omega]), show m + 1 - 1 - m = 0 by omega]
    omega
theorem sh_eq {fo len s : Nat} {x : Nat → Nat} (e : Bool) : cntN (fun i => spt (x (s + fo + i))) (len - 2 * fo) = shP fo len (fun i => x (dirP s len e i)) := by
  unfold shP
  cases e with
  | false => exact cntN_cg _ (fun j _ => by show spt (x (s + fo + j)) = spt (x (s + (fo + j))); rw [Nat.add_assoc])
  | true =>
    rw [← cnt_rev (len - 2 * fo) (fun i => spt (x (s + fo + i)))]
    refine cntN_cg _ (fun j hj => ?_)
    show spt (x (s + fo + (len - 2 * fo - 1 - j))) = spt (x (s + (len - 1 - (fo + j))))
    rw [show s + fo + (len - 2 * fo - 1 - j) = s + (len - 1 - (fo + j)) by omega]
def tnB (tw p : Nat) : Bool := decide (tw / 2 ^ p % 2 = 1)
/-- the row i of a laid piece -/
def yOf (s : Nat → Nat) (b sl f l tw : Nat) (x : Nat → Nat) (p i : Nat) : Nat := x (dirP (s p) (lenP b sl f l p) (tnB tw p) i)
theorem shown_R {ρ : RS} {rb e n b sl f l tw thr fo : Nat} {s x : Nat → Nat} {v0 : Int32} (h : LayV ρ rb e n b sl f l s tw thr fo x v0) : FR_X2_shownSum ρ = some (nI (shN fo b sl f l (yOf s b sl f l tw x))) := by
  have hfu := fu_pos
  unfold FR_X2_shownSum
  refine Eq.trans (shownSum4 h 6 0 fu (by omega) (by omega)) ?_
  unfold shN
  rw [sum_cg 6 (fun p _ => sh_eq (tnB tw p))]
  rfl
