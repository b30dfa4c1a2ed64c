theorem LayV.nA {ρ : RS} {rb e n b sl f l tw thr fo : Nat} {s x : Nat → Nat} {v0 : Int32} (h : LayV ρ rb e n b sl f l s tw thr fo x v0) {M : Nat} (h1 : rb ≠ M) (h2 : e ≠ M) (m : Nat) (g : Nat → Int32) : LayV (nA ρ M m g) rb e n b sl f l s tw thr fo x v0 := by
  obtain ⟨⟨f1, f2, f3, f4⟩, ⟨g1, g2, g3, g4⟩, h3, h4, h5, h6⟩ := h
  refine ⟨⟨f1, ?_, ?_, fun j hj => ⟨(f4 j hj).1, ?_⟩⟩, ⟨g1, ?_, ?_, fun p hp => ?_⟩, h3, h4, h5, h6⟩
  · rw [qisK_nA h1]; exact f2
  · rw [qpN_nA, if_neg h1]; exact f3
  · rw [qpA_nA, if_neg h1]; exact (f4 j hj).2
  · rw [qisK_nA h2]; exact g2
  · rw [qpN_nA, if_neg h2]; exact g3
  · rw [qpA_nA, if_neg h2]; exact g4 p hp
theorem LayV.nO {ρ : RS} {rb e n b sl f l tw thr fo : Nat} {s x : Nat → Nat} {v0 : Int32} (h : LayV ρ rb e n b sl f l s tw thr fo x v0) {N kd : Nat} (h1 : rb ≠ N) (h2 : e ≠ N) : LayV (nO ρ N kd) rb e n b sl f l s tw thr fo x v0 := by
  obtain ⟨⟨f1, f2, f3, f4⟩, ⟨g1, g2, g3, g4⟩, h3, h4, h5, h6⟩ := h
  refine ⟨⟨f1, ?_, f3, f4⟩, ⟨g1, ?_, g3, g4⟩, h3, h4, h5, h6⟩
  · rw [qisK_nO h1]; exact f2
  · rw [qisK_nO h2]; exact g2
theorem placeOf_e {ρ : RS} {rb e n b sl f l tw thr fo p i : Nat} {s x : Nat → Nat} {v0 : Int32} (h : LayV ρ rb e n b sl f l s tw thr fo x v0) (hp : p < 6) (hi : i < lenP b sl f l p) : FR_X2_placeOf ρ (nI p) (nI i) = some (nI (dirP (s p) (lenP b sl f l p) (tnB tw p) i)) := by
  obtain ⟨-, ⟨g1, g2, g3, g4⟩, ⟨-, -, h206, -⟩, -, h205, ⟨hn, htw, -, -, ho⟩⟩ := h
  have hl := fl_le hp ho
  have g4p := g4 p hp
  have h5p := (h205 p hp).1
  unfold FR_X2_placeOf
  rw [turnOf_e h206 htw hp]
  unfold dirP
  cases tnB tw p with
  | false =>
    simp only [inb_nI hp (show 6 < 2 ^ 31 by decide), gdt, sb, nI_clamp (show p < 2 ^ 31 by omega), h5p, Bool.false_eq_true, ↓reduceIte, nI_add]
  | true =>
    have e1 : nI (lenP b sl f l p) - 1 - nI i = nI (lenP b sl f l p - 1 - i) := by rw [show nI (lenP b sl f l p) - 1 = nI (lenP b sl f l p - 1) from z_sub (b := 1) (by omega), z_sub (by omega)]
    simp only [inb_nI hp (show 6 < 2 ^ 31 by decide), gdt, sb, nI_clamp (show p < 2 ^ 31 by omega), h5p, ↓reduceIte, i10, g1, g2, g3, g4p, e1, nI_add]
theorem dir_lt {ρ : RS} {rb e n b sl f l tw thr fo p i : Nat} {s x : Nat → Nat} {v0 : Int32} (h : LayV ρ rb e n b sl f l s tw thr fo x v0) (hp : p < 6) (hi : i < lenP b sl f l p) (t : Bool) : dirP (s p) (lenP b sl f l p) t i < n := by
  have := (h.2.2.2.2.1 p hp).2
  unfold dirP
  split <;> omega
theorem onCloth_e {ρ : RS} {rb n u : Nat} (h0 : rV ρ 200 = some rb) (hk : isK ρ rb 11 = true) (hn : pN ρ rb = n) (hn2 : n ≤ 120) (hu : u < n) : FR_X2_isOnCloth ρ (nI u) = some 1 := by
  have oN : ∀ x, Int32.ofNat x = nI x := fun _ => rfl
  unfold FR_X2_isOnCloth
  simp only [if_neg (show ¬ nI u < 0 from nI_nlt (b := 0) (by omega) (by omega)), h0, sb, hk, gdt, hn, oN, if_neg (show ¬ nI n ≤ nI u from nI_ge (by omega) (by omega))]
theorem one_ne0 : ((1 : Int32) = 0) = False := by decide
theorem cut21 {σ : RS} {rb e n b sl f l tw thr fo N M p : Nat} {s x : Nat → Nat} {v0 : Int32} (h : LayV σ rb e n b sl f l s tw thr fo x v0) (h1 : rb ≠ M) (h2 : e ≠ M) (hn : 2 * b + 2 * sl + f + l = n) (hp : p < 6) {K : Int32 → RS → Option (Nat × RS)} : ∀ d i fuel g, i + d = lenP b sl f l p → d < fuel → ∃ g', (∀ u, i ≤ u → u < lenP b sl f l p → g' (froP b sl f l p + u) = nI (enc (yOf s b sl f l tw x p u))) ∧ (∀ j, (j < froP b sl f l p + i ∨ froP b sl f l p + lenP b sl f l p ≤ j) → g' j = g j) ∧ FR_X2_cutRows_21 N K M (nI p) fuel (nI (froP b sl f l p + i)) (nI i) (nA σ M n g) = K (nI (froP b sl f l (p + 1))) (nA σ M n g') := by
  have hfs := fro_s (b := b) (sl := sl) (f := f) (l := l) hp
  have hfl := fro_le (b := b) (sl := sl) (f := f) (l := l) (p := p + 1)
  have hn120 := h.2.2.2.2.2.1
  intro d
  induction d with
  | zero =>
    intro i fuel g hi hf
    obtain ⟨f1, rfl⟩ : ∃ f, fuel = f + 1 := ⟨fuel - 1, by omega⟩
    obtain ⟨-, ⟨g1, g2, g3, g4⟩, -⟩ := h.nA h1 h2 n g
    have g4p := g4 p hp
    refine ⟨g, fun u a b => absurd a (by omega), fun _ _ => rfl, ?_⟩
    rw [FR_X2_cutRows_21]
    simp only [g1, sb, g2, gdt, g3, inb_nI hp (show 6 < 2 ^ 31 by decide), nI_clamp (show p < 2 ^ 31 by omega), g4p, if_pos (show nI (lenP b sl f l p) ≤ nI i from nI_le (by omega) (by omega))]
    rw [show froP b sl f l p + i = froP b sl f l (p + 1) by omega]
  | succ d ih =>
    intro i fuel g hi hf
    obtain ⟨f1, rfl⟩ : ∃ f, fuel = f + 1 := ⟨fuel - 1, by omega⟩
    have hV := h.nA h1 h2 n g
    have hpl := placeOf_e hV hp (show i < lenP b sl f l p by omega)
    have hlt := dir_lt hV hp (show i < lenP b sl f l p by omega) (tnB tw p)
    obtain ⟨⟨k1, k2, k3, k4⟩, ⟨g1, g2, g3, g4⟩, -⟩ := hV
    have g4p := g4 p hp
    have kx := (k4 _ hlt).2
    have n1 : ¬ nI (lenP b sl f l p) ≤ nI i := nI_ge (by omega) (by omega)
    have kM : isK (nA σ M n g) M 11 = true := isK_newA
    have nM : pN (nA σ M n g) M = n := by rw [qpN_nA, if_pos rfl]
    have st : ∀ v, wa (nA σ M n g) M (nI (froP b sl f l p + i)) v = nA σ M n (upd g (froP b sl f l p + i) v) := fun v => by
      rw [wa_wc, wc_nA, qpA_nA, if_pos rfl, nI_clamp (by omega)]
    obtain ⟨g', s1, s2, s3⟩ := ih (i + 1) f1 (upd g (froP b sl f l p + i) (nI (enc (yOf s b sl f l tw x p i)))) (by omega) (by omega)
    refine ⟨g', fun u a c => ?_, fun j hj => (s2 j (by omega)).trans (upd_n (by omega)), ?_⟩
    · by_cases cu : u = i
      · subst cu
        rw [s2 _ (by omega), upd_s]
      · exact s1 u (by omega) c
    · rw [← s3, FR_X2_cutRows_21]
      simp only [g1, sb, g2, gdt, g3, inb_nI hp (show 6 < 2 ^ 31 by decide), nI_clamp (show p < 2 ^ 31 by omega), g4p, if_neg n1, hpl, onCloth_e k1 k2 k3 hn120 hlt, onCloth_e k1 k2 k3 hn120 (show froP b sl f l p + i < n by omega), one_ne0, ↓reduceIte, k1, k2, k3, inb_nI hlt (show n < 2 ^ 31 by omega), kM, nM, inb_nI (show froP b sl f l p + i < n by omega) (show n < 2 ^ 31 by omega), nI_clamp (show dirP (s p) (lenP b sl f l p) (tnB tw p) i < 2 ^ 31 by omega), kx, st, nI_1]
      rfl
theorem cut12 {σ : RS} {rb e n b sl f l tw thr fo N M : Nat} {s x : Nat → Nat} {v0 : Int32} (h : LayV σ rb e n b sl f l s tw thr fo x v0) (h1 : rb ≠ M) (h2 : e ≠ M) (hn : 2 * b + 2 * sl + f + l = n) : ∀ d p fuel g, p + d = 6 → d < fuel → (∀ q, q < p → ∀ u, u < lenP b sl f l q → g (froP b sl f l q + u) = nI (enc (yOf s b sl f l tw x q u))) → ∃ g', (∀ q, q < 6 → ∀ u, u < lenP b sl f l q → g' (froP b sl f l q + u) = nI (enc (yOf s b sl f l tw x q u))) ∧ FR_X2_cutRows_12 N M fuel (nI (froP b sl f l p)) (nI p) (nA σ M n g) = some (M, nA σ M n g') := by
  have hfu := fu_pos
  have ho := h.2.2.2.2.2.2.2.2.2
  intro d
  induction d with
  | zero =>
    intro p fuel g hp hf hg
    obtain ⟨f1, rfl⟩ : ∃ f, fuel = f + 1 := ⟨fuel - 1, by omega⟩
    have e : p = 6 := by omega
    subst e
    refine ⟨g, hg, ?_⟩
    rw [FR_X2_cutRows_12, if_pos (show (6 : Int32) ≤ nI 6 from by decide)]
  | succ d ih =>
    intro p fuel g hp hf hg
    obtain ⟨f1, rfl⟩ : ∃ f, fuel = f + 1 := ⟨fuel - 1, by omega⟩
    have n1 : ¬ (6 : Int32) ≤ nI p := nI_ge (b := 6) (by omega) (by decide)
    have hfl := fl_le (show p < 6 by omega) ho
    obtain ⟨g1, s1, s2, s3⟩ := cut21 (N := N) h h1 h2 hn (show p < 6 by omega) (K := fun x2_77 σ_77 => FR_X2_cutRows_77 N (fun x2_12 x3_12 σ_12 => FR_X2_cutRows_12 N M f1 x2_12 x3_12 σ_12) M x2_77 (nI p) σ_77) (lenP b sl f l p) 0 fu g (by omega) (by omega)
    obtain ⟨g', t1, t2⟩ := ih (p + 1) f1 g1 (by omega) (by omega) (fun q hq u hu => by
      by_cases c : q = p
      · subst c; exact s1 u (Nat.zero_le _) hu
      · rw [s2 _ (by have := fro_dis (show q < 6 by omega) (show p < 6 by omega) c hu; omega)]
        exact hg q (by omega) u hu)
    refine ⟨g', t1, ?_⟩
    rw [FR_X2_cutRows_12, if_neg n1]
    refine Eq.trans s3 ?_
    unfold FR_X2_cutRows_77
    rw [nI_1]
    exact t2
theorem cutRows_e {σ : RS} {rb e n b sl f l tw thr fo M : Nat} {s x : Nat → Nat} {v0 : Int32} (h : LayV σ rb e n b sl f l s tw thr fo x v0) (h1 : rb ≠ M) (h2 : e ≠ M) (hn : 2 * b + 2 * sl + f + l = n) : ∃ g, (∀ q, q < 6 → ∀ u, u < lenP b sl f l q → g (froP b sl f l q + u) = nI (enc (yOf s b sl f l tw x q u))) ∧ FR_X2_cutRows M σ = some (M, nA σ M n g) := by
  have hfu := fu_pos
  obtain ⟨g, c1, c2⟩ := cut12 (N := M) h h1 h2 hn 6 0 fu (fun _ => 0) (by omega) (by omega) (fun q hq => absurd hq (Nat.not_lt_zero q))
  have hn120 := h.2.2.2.2.2.1
  refine ⟨g, c1, ?_⟩
  have oN : Int32.ofNat n = nI n := rfl
  unfold FR_X2_cutRows
  rw [h.1.1, sb, h.1.2.1, gdt, h.1.2.2.1, oN, gd_t (inc_nI hn120 (by decide)), nI_clamp (by omega)]
  exact c2
