/-! the least robe for each -/
def Lst (ok : Nat → Prop) (v : Int32) : Prop := (v = -1 ∧ ∀ r, r < 30 → ¬ ok r) ∨ ∃ r, r < 30 ∧ v = nI r ∧ ok r ∧ ∀ r', r' < r → ¬ ok r'
theorem Lst_u {ok : Nat → Prop} {v v' : Int32} (h : Lst ok v) (h' : Lst ok v') : v = v' := by
  rcases h with ⟨rfl, h1⟩ | ⟨r, r1, rfl, r2, r3⟩
  · rcases h' with ⟨rfl, -⟩ | ⟨r, r1, rfl, r2, r3⟩
    · rfl
    · exact absurd r2 (h1 r r1)
  · rcases h' with ⟨rfl, h1⟩ | ⟨s, s1, rfl, s2, s3⟩
    · exact absurd r2 (h1 r r1)
    · have e : r = s := by
        by_cases c : r < s
        · exact absurd r2 (s3 r c)
        · by_cases c' : s < r
          · exact absurd s2 (r3 s c')
          · omega
      rw [e]
theorem MaxM_le {A : Nat → Nat → Bool} {n : Nat} (h : MaxM A n) : n ≤ 30 := by
  obtain ⟨⟨t, -, h2⟩, -⟩ := h
  rw [← h2]
  exact cntN_le _ 30
def okT (w : Nat → Int32) (p : Nat) (tk : Int32) (left r : Nat) : Prop := (bI (w p) r && !bI tk r) = true ∧ 1 ≤ left ∧ MaxM (wA w (p + 1) (tk ||| ((1 : Int32) <<< (nI r &&& 31)))) (left - 1)
theorem least3 {σ : RS} {w : Nat → Int32} {p left : Nat} {tk : Int32} (hw : rA σ 100 = w) (hp : p < 10) (hl : left ≤ 30) : ∀ d i fuel X v, i + d = 30 → d < fuel → (∀ r, r < i → ¬ okT w p tk left r) → ∃ x X' v', FR_X1_leastRobeFor_3 (nI p) tk (nI left) fuel (nI i) (fz σ X v) = some (x, fz σ X' v') ∧ Lst (okT w p tk left) x := by
  intro d
  induction d with
  | zero =>
    intro i fuel X v hi hf hn
    obtain ⟨f1, rfl⟩ : ∃ f, fuel = f + 1 := ⟨fuel - 1, by omega⟩
    have e : i = 30 := by omega
    subst e
    rw [FR_X1_leastRobeFor_3, if_pos (show (30 : Int32) ≤ nI 30 by decide)]
    exact ⟨-1, X, v, rfl, Or.inl ⟨rfl, hn⟩⟩
  | succ d ih =>
    intro i fuel X v hi hf hn
    obtain ⟨f1, rfl⟩ : ∃ f, fuel = f + 1 := ⟨fuel - 1, by omega⟩
    have hi30 : i < 30 := by omega
    have h100 : rA (fz σ X v) 100 = w := by rw [fz_100]; exact hw
    have next : ∀ X v, ¬ okT w p tk left i → ∃ x X' v', FR_X1_leastRobeFor_3 (nI p) tk (nI left) f1 (nI (i + 1)) (fz σ X v) = some (x, fz σ X' v') ∧ Lst (okT w p tk left) x := fun X v hno => ih (i + 1) f1 X v (by omega) (by omega) (fun r hr => by
      by_cases c : r = i
      · subst c; exact hno
      · exact hn r (by omega))
    rw [FR_X1_leastRobeFor_3, if_neg (show ¬ (30 : Int32) ≤ nI i from nI_ge (b := 30) (by omega) (by decide))]
    by_cases c0 : left = 0
    · subst c0
      rw [if_pos (show nI 0 ≤ (0 : Int32) by decide)]
      exact ⟨-1, X, v, rfl, Or.inl ⟨rfl, fun r _ z => by have := z.2.1; omega⟩⟩
    · rw [if_neg (show ¬ nI left ≤ (0 : Int32) from nI_ge (a := 0) (by omega) (by omega)), gd_t (inb_nI hp (by decide)), h100, nI_clamp (show p < 2 ^ 31 by omega), nI_1, nI_1]
      by_cases c1 : (bI (w p) i && !bI tk i) = false
      · rw [if_pos ((bI_tst hi30).mpr c1)]
        exact next X v (fun z => by
          have z1 := z.1
          rw [c1] at z1
          cases z1)
      · rw [if_neg (fun z => c1 ((bI_tst hi30).mp z))]
        obtain ⟨m, X', v', z1, z2⟩ := mostFrom_e (first := p + 1) h100 (by omega) (tk ||| ((1 : Int32) <<< (nI i &&& 31)))
        have hm := MaxM_le z2
        have e1 : fz (fz σ X v) X' v' = fz σ X' v' := by
          unfold fz
          show ri (rc (ri (rc σ 102 X) 103 v) 102 X') 103 v' = _
          show ri (ri (rc (rc σ 102 X) 102 X') 103 v) 103 v' = _
          rw [rc_rc, ri_ri]
        rw [z1, sb, e1, show nI left - (1 : Int32) = nI (left - 1) from z_sub (b := 1) (by omega)]
        by_cases c2 : m = left - 1
        · rw [if_pos (by rw [c2])]
          refine ⟨nI i, X', v', rfl, Or.inr ⟨i, hi30, rfl, ⟨?_, by omega, by rw [← c2]; exact z2⟩, hn⟩⟩
          cases hz : (bI (w p) i && !bI tk i) with
          | true => rfl
          | false => exact absurd hz c1
        · rw [if_neg (fun z => c2 ((nI_eq (by omega) (by omega)).mp z))]
          exact next X' v' (fun z => c2 (MaxM_u z2 z.2.2))
/-! the reference's -/
def frQ (μ σ : MS) : Prop := σ.1 = μ.1 ∧ ∀ k, k ≠ 41 → k ≠ 42 → k ≠ 44 → k ≠ 45 → k ≠ 46 → k ≠ 47 → k ≠ 48 → σ.2 k = μ.2 k
theorem frQ.rf (μ : MS) : frQ μ μ := ⟨rfl, fun _ _ _ _ _ _ _ _ => rfl⟩
theorem frQ.tr {μ σ τ : MS} (h : frQ μ σ) (h' : frQ σ τ) : frQ μ τ := ⟨h'.1.trans h.1, fun k a b c d e f g => (h'.2 k a b c d e f g).trans (h.2 k a b c d e f g)⟩
theorem frM.q {μ σ : MS} (h : frM μ σ) : frQ μ σ := ⟨h.1, fun k _ b c d e f _ => h.2 k b c d e f⟩
theorem frQ.sa {μ σ : MS} (h : frQ μ σ) {j : Nat} (hj : j = 41 ∨ j = 48) (i v : Int32) : frQ μ (sa σ j i v) := ⟨h.1, fun k a b c d e f g => by
  rw [s2_sa_n (by omega)]
  exact h.2 k a b c d e f g⟩
theorem lf32 {w : Nat → Int32} {p r : Nat} {μ : MS} {KK : MS → Option (Int32 × MS)} {x2 x3 : Int32} (hp : p < 10) : ∀ d i fuel σ, i + d = 10 → d < fuel → frQ μ σ → (∀ q, q < i → σ.2 48 q = w q ∧ σ.2 41 q = if q = p then 0 else w q &&& (((1 : Int32) <<< (nI r &&& 31)) ^^^ (-1))) → (∀ q, i ≤ q → q < 10 → σ.2 41 q = w q) → ∃ σ', FM_leastFor_32 KK (nI p) x2 x3 (nI r) fuel (nI i) σ = KK σ' ∧ frQ μ σ' ∧ ∀ q, q < 10 → σ'.2 48 q = w q ∧ σ'.2 41 q = if q = p then 0 else w q &&& (((1 : Int32) <<< (nI r &&& 31)) ^^^ (-1)) := by
  intro d
  induction d with
  | zero =>
    intro i fuel σ hi hf hfr h1 h2
    obtain ⟨f1, rfl⟩ : ∃ f, fuel = f + 1 := ⟨fuel - 1, by omega⟩
    have e : i = 10 := by omega
    subst e
    exact ⟨σ, by rw [FM_leastFor_32, if_pos (show (10 : Int32) ≤ nI 10 by decide)], hfr, h1⟩
  | succ d ih =>
    intro i fuel σ hi hf hfr h1 h2
    obtain ⟨f1, rfl⟩ : ∃ f, fuel = f + 1 := ⟨fuel - 1, by omega⟩
    have g10 := inb_nI (show i < 10 by omega) (show 10 < 2 ^ 31 by decide)
    have ci := nI_clamp (show i < 2 ^ 31 by omega)
    have hwi := h2 i (Nat.le_refl _) (by omega)
    have step : ∀ V : Int32, V = (if i = p then 0 else w i &&& (((1 : Int32) <<< (nI r &&& 31)) ^^^ (-1))) → ∃ σ', FM_leastFor_83 (fun x5_32 σ_32 => FM_leastFor_32 KK (nI p) x2 x3 (nI r) f1 x5_32 σ_32) (nI p) x2 x3 (nI r) (nI i) (nI i) V (sa σ 48 (nI i) (w i)) = KK σ' ∧ frQ μ σ' ∧ ∀ q, q < 10 → σ'.2 48 q = w q ∧ σ'.2 41 q = if q = p then 0 else w q &&& (((1 : Int32) <<< (nI r &&& 31)) ^^^ (-1)) := fun V hV => by
      obtain ⟨σ', z1, z2⟩ := ih (i + 1) f1 (sa (sa σ 48 (nI i) (w i)) 41 (nI i) V) (by omega) (by omega) ((hfr.sa (Or.inr rfl) _ _).sa (Or.inl rfl) _ _) (fun q hq => by
        rw [s2_sa_n (show 48 ≠ 41 by decide), s2_sa_s, s2_sa_s, ci, s2_sa_n (show 41 ≠ 48 by decide)]
        by_cases c : q = i
        · subst c
          rw [upd_s, upd_s]
          exact ⟨rfl, hV⟩
        · rw [upd_n c, upd_n c]
          exact h1 q (by omega)) (fun q hq hq2 => by
        rw [s2_sa_s, ci, s2_sa_n (show 41 ≠ 48 by decide), upd_n (by omega)]
        exact h2 q (by omega) hq2)
      refine ⟨σ', ?_, z2⟩
      unfold FM_leastFor_83
      rw [g10, gdt, nI_1]
      exact z1
    rw [FM_leastFor_32, if_neg (show ¬ (10 : Int32) ≤ nI i from nI_ge (b := 10) (by omega) (by decide)), g10, gdt, gdt, gdt, ci, hwi]
    by_cases c : i = p
    · rw [if_pos (by rw [c])]
      exact step 0 (by rw [if_pos c])
    · rw [if_neg (fun z => c ((nI_eq (by omega) (by omega)).mp z))]
      exact step _ (by rw [if_neg c])
theorem lf106 {w : Nat → Int32} {μ : MS} {KK : MS → Option (Int32 × MS)} {x1 x2 x3 x4 : Int32} : ∀ d i fuel σ, i + d = 10 → d < fuel → frQ μ σ → (∀ q, q < 10 → σ.2 48 q = w q) → (∀ q, q < i → σ.2 41 q = w q) → ∃ σ', FM_leastFor_106 KK x1 x2 x3 x4 fuel (nI i) σ = KK σ' ∧ frQ μ σ' ∧ ∀ q, q < 10 → σ'.2 41 q = w q := by
  intro d
  induction d with
  | zero =>
    intro i fuel σ hi hf hfr h1 h2
    obtain ⟨f1, rfl⟩ : ∃ f, fuel = f + 1 := ⟨fuel - 1, by omega⟩
    have e : i = 10 := by omega
    subst e
    exact ⟨σ, by rw [FM_leastFor_106, if_pos (show (10 : Int32) ≤ nI 10 by decide)], hfr, h2⟩
  | succ d ih =>
    intro i fuel σ hi hf hfr h1 h2
    obtain ⟨f1, rfl⟩ : ∃ f, fuel = f + 1 := ⟨fuel - 1, by omega⟩
    have g10 := inb_nI (show i < 10 by omega) (show 10 < 2 ^ 31 by decide)
    have ci := nI_clamp (show i < 2 ^ 31 by omega)
    obtain ⟨σ', z1, z2⟩ := ih (i + 1) f1 (sa σ 41 (nI i) (w i)) (by omega) (by omega) (hfr.sa (Or.inl rfl) _ _) (fun q hq => by rw [s2_sa_n (by decide)]; exact h1 q hq) (fun q hq => by
      rw [s2_sa_s, ci]
      by_cases c : q = i
      · subst c; rw [upd_s]
      · rw [upd_n c]; exact h2 q (by omega))
    refine ⟨σ', ?_, z2⟩
    rw [FM_leastFor_106, if_neg (show ¬ (10 : Int32) ≤ nI i from nI_ge (b := 10) (by omega) (by decide)), g10, gdt, gdt, ci, h1 i (by omega), nI_1]
    exact z1
theorem gr_s {w W W' : Nat → Int32} {p r : Nat} {tk : Int32} (hr : r < 30) (hG : ∀ q s, q < 10 → s < 30 → mA W q s = wA w p tk q s) (hW' : ∀ q, q < 10 → W' q = if q = p then 0 else W q &&& (((1 : Int32) <<< (nI r &&& 31)) ^^^ (-1))) : ∀ q s, q < 10 → s < 30 → mA W' q s = wA w (p + 1) (tk ||| ((1 : Int32) <<< (nI r &&& 31))) q s := by
  intro q s hq hs
  have h0 := hG q s hq hs
  unfold mA wA at h0 ⊢
  rw [hW' q hq, bI_or hr]
  by_cases c : q = p
  · rw [if_pos c, bI_0, decide_eq_false (by omega)]
    rfl
  · rw [if_neg c, bI_clr hr (by omega), h0, show decide (p + 1 ≤ q) = decide (p ≤ q) from by
      by_cases c2 : p ≤ q
      · rw [decide_eq_true c2, decide_eq_true (by omega)]
      · rw [decide_eq_false c2, decide_eq_false (by omega)]]
    cases decide (p ≤ q) <;> cases bI (w q) s <;> cases bI tk s <;> cases decide (s = r) <;> rfl
theorem gr_n {w W W' : Nat → Int32} {p : Nat} {tk : Int32} (hG : ∀ q s, q < 10 → s < 30 → mA W q s = wA w p tk q s) (hW' : ∀ q, q < 10 → W' q = if q = p then 0 else W q) : ∀ q s, q < 10 → s < 30 → mA W' q s = wA w (p + 1) tk q s := by
  intro q s hq hs
  have h0 := hG q s hq hs
  unfold mA wA at h0 ⊢
  rw [hW' q hq]
  by_cases c : q = p
  · rw [if_pos c, bI_0, decide_eq_false (by omega)]
    rfl
  · rw [if_neg c, h0, show decide (p + 1 ≤ q) = decide (p ≤ q) from by
      by_cases c2 : p ≤ q
      · rw [decide_eq_true c2, decide_eq_true (by omega)]
      · rw [decide_eq_false c2, decide_eq_false (by omega)]]
theorem wA_K {w : Nat → Int32} {K p : Nat} {tk : Int32} (hwK : ∀ q r, q < 10 → r < 30 → bI (w q) r = true → r < K) : ∀ q r, q < 10 → r < 30 → wA w p tk q r = true → r < K := fun q r hq hr hA => by
  unfold wA at hA
  simp only [Bool.and_eq_true] at hA
  exact hwK q r hq hr hA.2.1
def lRes (w : Nat → Int32) (p : Nat) (tk : Int32) (W' : Nat → Int32) (v : Int32) : Prop := (v = -1 ∧ ∀ q s, q < 10 → s < 30 → mA W' q s = wA w (p + 1) tk q s) ∨ ∃ r, r < 30 ∧ v = nI r ∧ ∀ q s, q < 10 → s < 30 → mA W' q s = wA w (p + 1) (tk ||| ((1 : Int32) <<< (nI r &&& 31))) q s
theorem lf10 {w W : Nat → Int32} {K p left : Nat} {tk : Int32} {μ : MS} (h6 : μ.1 6 = nI K) (hK : K ≤ 30) (hwK : ∀ q r, q < 10 → r < 30 → bI (w q) r = true → r < K) (hp : p < 10) (hl : left ≤ 30) (hG : ∀ q s, q < 10 → s < 30 → mA W q s = wA w p tk q s) : ∀ d i fuel σ, i + d = K → d < fuel → frQ μ σ → (∀ q, q < 10 → σ.2 41 q = W q) → (∀ r, r < i → ¬ okT w p tk left r) → ∃ v σ', FM_leastFor_10 (fun σ_139 => FM_leastFor_139 (nI p) σ_139) (nI p) (nI left) (W p) fuel (nI i) σ = some (v, σ') ∧ frQ μ σ' ∧ Lst (okT w p tk left) v ∧ lRes w p tk (σ'.2 41) v := by
  have hfu := fu_pos
  intro d
  induction d with
  | zero =>
    intro i fuel σ hi hf hfr h41 hn
    obtain ⟨f1, rfl⟩ : ∃ f, fuel = f + 1 := ⟨fuel - 1, by omega⟩
    have e : i = K := by omega
    subst e
    refine ⟨-1, sa σ 41 (nI p) 0, ?_, hfr.sa (Or.inl rfl) _ _, Or.inl ⟨rfl, fun r hr z => ?_⟩, Or.inl ⟨rfl, gr_n hG (fun q hq => ?_)⟩⟩
    · rw [FM_leastFor_10, hfr.1, h6, if_pos (nI_le (Nat.le_refl _) (by omega))]
      unfold FM_leastFor_139
      rw [gd_t (inb_nI hp (by decide))]
    · by_cases c : r < i
      · exact hn r c z
      · have z1 := z.1
        simp only [Bool.and_eq_true] at z1
        exact c (hwK p r hp hr z1.1)
    · rw [s2_sa_s, nI_clamp (by omega)]
      by_cases c : q = p
      · subst c; rw [upd_s, if_pos rfl]
      · rw [upd_n c, if_neg c]; exact h41 q hq
  | succ d ih =>
    intro i fuel σ hi hf hfr h41 hn
    obtain ⟨f1, rfl⟩ : ∃ f, fuel = f + 1 := ⟨fuel - 1, by omega⟩
    have hi30 : i < 30 := by omega
    have hWp : bI (W p) i = (bI (w p) i && !bI tk i) := by
      have := hG p i hp hi30
      unfold mA wA at this
      rw [this, decide_eq_true (Nat.le_refl p), Bool.true_and]
    have next : ∀ σ, frQ μ σ → (∀ q, q < 10 → σ.2 41 q = W q) → ¬ okT w p tk left i → ∃ v σ', FM_leastFor_10 (fun σ_139 => FM_leastFor_139 (nI p) σ_139) (nI p) (nI left) (W p) f1 (nI (i + 1)) σ = some (v, σ') ∧ frQ μ σ' ∧ Lst (okT w p tk left) v ∧ lRes w p tk (σ'.2 41) v := fun σ a b hno => ih (i + 1) f1 σ (by omega) (by omega) a b (fun r hr => by
      by_cases c : r = i
      · subst c; exact hno
      · exact hn r (by omega))
    rw [FM_leastFor_10, hfr.1, h6, if_neg (nI_ge (by omega) (by omega))]
    by_cases cb : bI (W p) i = true
    · rw [if_pos ((bI_shr hi30).mpr cb)]
      obtain ⟨σ1, a1, a2, a3⟩ := lf32 (w := W) (r := i) (KK := fun σ_90 => FM_leastFor_90 (fun x4_10 σ_10 => FM_leastFor_10 (fun σ_139 => FM_leastFor_139 (nI p) σ_139) (nI p) (nI left) (W p) f1 x4_10 σ_10) (nI p) (nI left) (W p) (nI i) σ_90) (x2 := nI left) (x3 := W p) hp 10 0 fu σ (by omega) (by omega) hfr (fun q hq => absurd hq (Nat.not_lt_zero q)) (fun q _ hq => h41 q hq)
      rw [show nI 0 = (0 : Int32) from rfl] at a1
      rw [a1]
      unfold FM_leastFor_90
      have hgr := gr_s hi30 hG (fun q hq => (a3 q hq).2)
      obtain ⟨m, σ2, b1, b2, b3⟩ := most_e (w := σ1.2 41) (K := K) (μ := σ1) rfl (by rw [a2.1]; exact h6) hK (fun q r hq hr hA => by
        rw [hgr q r hq hr] at hA
        exact wA_K hwK q r hq hr hA)
      have b4 := MaxM_cg hgr b3
      have hm := MaxM_le b3
      have e41 : σ2.2 41 = σ1.2 41 := b2.2 41 (by decide) (by decide) (by decide) (by decide) (by decide)
      have e48 : σ2.2 48 = σ1.2 48 := b2.2 48 (by decide) (by decide) (by decide) (by decide) (by decide)
      rw [b1, sb]
      by_cases c2 : 1 ≤ left ∧ m = left - 1
      · rw [show nI left - (1 : Int32) = nI (left - 1) from z_sub (b := 1) (by omega), if_pos (show nI m = nI (left - 1) by rw [c2.2])]
        refine ⟨nI i, σ2, rfl, a2.tr b2.q, Or.inr ⟨i, hi30, rfl, ⟨by rw [← hWp]; exact cb, c2.1, by rw [← c2.2]; exact b4⟩, hn⟩, Or.inr ⟨i, hi30, rfl, ?_⟩⟩
        rw [e41]
        exact hgr
      · have hno : ¬ okT w p tk left i := fun z => c2 ⟨z.2.1, MaxM_u b4 z.2.2⟩
        have hne : ¬ nI m = nI left - 1 := fun z => by
          by_cases c0 : left = 0
          · subst c0
            rw [show nI 0 - 1 = (-1 : Int32) from by decide] at z
            exact z_m1 (by omega) z
          · rw [show nI left - (1 : Int32) = nI (left - 1) from z_sub (b := 1) (by omega)] at z
            exact c2 ⟨by omega, (nI_eq (by omega) (by omega)).mp z⟩
        rw [if_neg hne]
        obtain ⟨σ3, d1, d2, d3⟩ := lf106 (w := W) (KK := fun σ_133 => FM_leastFor_133 (fun x4_10 σ_10 => FM_leastFor_10 (fun σ_139 => FM_leastFor_139 (nI p) σ_139) (nI p) (nI left) (W p) f1 x4_10 σ_10) (nI p) (nI left) (W p) (nI i) σ_133) (x1 := nI p) (x2 := nI left) (x3 := W p) (x4 := nI i) 10 0 fu σ2 (by omega) (by omega) (a2.tr b2.q) (fun q hq => by rw [e48]; exact (a3 q hq).1) (fun q hq => absurd hq (Nat.not_lt_zero q))
        rw [show nI 0 = (0 : Int32) from rfl] at d1
        rw [d1]
        unfold FM_leastFor_133
        rw [nI_1]
        exact next σ3 d2 d3 hno
    · rw [if_neg (fun z => cb ((bI_shr hi30).mp z))]
      unfold FM_leastFor_133
      rw [nI_1]
      exact next σ hfr h41 (fun z => cb (by rw [hWp]; exact z.1))
theorem leastM {w : Nat → Int32} {K p left : Nat} {tk : Int32} {μ : MS} (h6 : μ.1 6 = nI K) (hK : K ≤ 30) (hwK : ∀ q r, q < 10 → r < 30 → bI (w q) r = true → r < K) (hp : p < 10) (hl : left ≤ 30) (hG : ∀ q s, q < 10 → s < 30 → mA (μ.2 41) q s = wA w p tk q s) : ∃ v σ', FM_leastFor μ (nI p) (nI left) = some (v, σ') ∧ frQ μ σ' ∧ Lst (okT w p tk left) v ∧ lRes w p tk (σ'.2 41) v := by
  have hfu := fu_pos
  unfold FM_leastFor
  rw [gd_t (inb_nI hp (by decide)), nI_clamp (by omega)]
  exact lf10 (W := μ.2 41) h6 hK hwK hp hl hG K 0 fu μ (by omega) (by omega) (frQ.rf μ) (fun _ _ => rfl) (fun r hr => absurd hr (Nat.not_lt_zero r))
