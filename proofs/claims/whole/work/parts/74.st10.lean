/-- a cloth goes to another owner -/
theorem ClothV.move {own : Nat → Nat} {ρ : RS} {s1 d n : Nat} {col way : Int32} {g : Nat → Int32} (h : ClothV own ρ s1 d n col way g) (s2 : Nat) : ∃ r, pR ρ d 0 = some r ∧ ClothV (va_up (va_up own d s2) r (s2 + 1)) ρ s2 d n col way g ∧ ∀ s, s ≠ s1 → s ≠ s1 + 1 → ag ρ ρ own (va_up (va_up own d s2) r (s2 + 1)) s := by
  obtain ⟨h1, h2, h3, h4, h5, h6, h7, h8, r, h9, h10, h11⟩ := h
  have hne : d ≠ r := fun e => by rw [← e, h2] at h10; omega
  have e1 : va_up (va_up own d s2) r (s2 + 1) d = s2 := by
    unfold va_up
    rw [if_neg hne, if_pos rfl]
  have e2 : va_up (va_up own d s2) r (s2 + 1) r = s2 + 1 := by
    unfold va_up
    rw [if_pos rfl]
  refine ⟨r, h9, ⟨h1, e1, h3, h4, h5, h6, h7, h8, r, h9, e2, h11⟩, fun s a b => (ag_own (by rw [h2]; exact a)).trans (ag_own ?_)⟩
  unfold va_up
  rw [if_neg (fun e => hne e.symm), h10]
  exact b
theorem unlL {μ : MS} {r n B : Nat} {K : MS → Option (Int32 × MS)} (hr : r < 30) (hB : B < 40) (hB2 : μ.1 0 = nI B) (hn : n ≤ 120) : ∀ d k fuel, k + d = n → d < fuel →
    FM_unline_42 K (nI r) (nI n) fuel (nI k) (mc μ 5 (hyb (120 * B) k (fun j => μ.2 18 (120 * r + j)) (μ.2 5))) = K (mc μ 5 (hyb (120 * B) n (fun j => μ.2 18 (120 * r + j)) (μ.2 5))) := by
  intro d
  induction d with
  | zero =>
    intro k fuel hk hf
    obtain ⟨f1, rfl⟩ : ∃ f, fuel = f + 1 := ⟨fuel - 1, by omega⟩
    have e : k = n := by omega
    subst e
    rw [FM_unline_42, if_pos (nI_le (Nat.le_refl _) (by omega))]
  | succ d ih =>
    intro k fuel hk hf
    obtain ⟨f1, rfl⟩ : ∃ f, fuel = f + 1 := ⟨fuel - 1, by omega⟩
    have n1 : ¬ nI n ≤ nI k := nI_ge (by omega) (by omega)
    have a1 : (120 : Int32) * nI r + nI k = nI (120 * r + k) := by rw [show (120 : Int32) * nI r = nI (120 * r) from pk_mul 120 r, nI_add]
    have a2 : (120 : Int32) * nI B + nI k = nI (120 * B + k) := by rw [show (120 : Int32) * nI B = nI (120 * B) from pk_mul 120 B, nI_add]
    have a3 : (mc μ 5 (hyb (120 * B) k (fun j => μ.2 18 (120 * r + j)) (μ.2 5))).1 0 = nI B := hB2
    have a4 : (mc μ 5 (hyb (120 * B) k (fun j => μ.2 18 (120 * r + j)) (μ.2 5))).2 18 = μ.2 18 := rfl
    rw [FM_unline_42, if_neg n1, a3, a1, a2, gd_t (inb_nI (show 120 * r + k < 3600 by omega) (by decide)), gd_t (inb_nI (show 120 * B + k < 4800 by omega) (by decide)), a4, nI_clamp (by omega), sa_mc, mc_mc, nI_clamp (by omega), m2_mc, if_pos rfl, hyb_s (120 * B) k (fun j => μ.2 18 (120 * r + j)) (μ.2 5), nI_1]
    exact ih (k + 1) f1 (by omega) (by omega)
theorem unl_K {μ : MS} {r n B : Nat} (hr : r < 30) (hB : μ.1 0 = nI B) (hB2 : B < 40) : FM_unline_78 (nI r) (nI n) μ = some (nI B, newM (sa μ 15 (nI r) 0) B (nI n) (μ.2 16 r) (μ.2 17 r)) := by
  unfold FM_unline_78
  rw [gd_t (inb_nI hr (by decide)), gd_t (inb_nI hr (by decide)), gd_t (inb_nI hr (by decide)), nI_clamp (by omega), comes_e (μ := sa μ 15 (nI r) 0) (B := B) hB hB2]
  rfl
theorem wr_ag {ρ : RS} {own own' : Nat → Nat} {a : Nat} {v : Option Nat} {s sa_ : Nat} (h : ag ρ ρ own own' s) (ha : own' a = sa_) (hs : s ≠ sa_) : ag ρ (wr ρ a 2 v) own own' s := h.trans (ag_wr (by rw [ha]; exact hs))
/-- the robe of a house that loses its lining: all but that robe stays -/
theorem unl_inv {own own' : Nat → Nat} {B K : Nat} {ρ : RS} {μ : MS} (h : InvO own B K ρ μ) (hB40 : B < 40) {i a c e b sl f l : Nat} (hi : i < K) (hr : RobeL own ρ μ i a c e b sl f l) (hown : own' a = 100 + i) (hm : ∀ s, s ≠ 400 + 2 * i → s ≠ 400 + 2 * i + 1 → ag ρ ρ own own' s) (G : Nat → Int32) (hG : ∀ j, (j < 120 * B ∨ 120 * B + 120 ≤ j) → G j = μ.2 5 j) : InvO own' B K (wr ρ a 2 none) (sa (mc μ 5 G) 15 (nI i) 0) := by
  obtain ⟨hT, hB, hR, hP, hC, hM, hS⟩ := h
  have hK := hR.1
  have hs : ∀ s, s ≠ 400 + 2 * i → s ≠ 400 + 2 * i + 1 → s ≠ 100 + i → ag ρ (wr ρ a 2 none) own own' s := fun s h1 h2 h3 => wr_ag (hm s h1 h2) hown h3
  have k5 : ∀ k, k ≠ 5 → k ≠ 15 → (sa (mc μ 5 G) 15 (nI i) 0).2 k = μ.2 k := fun k h1 h2 => by rw [s2_sa_n h2, m2_mc, if_neg h1]
  have k15 : ∀ j, j ≠ i → (sa (mc μ 5 G) 15 (nI i) 0).2 15 j = μ.2 15 j := fun j hj => by
    rw [s2_sa_s, nI_clamp (by omega), upd_n hj]
    rfl
  refine ⟨hT.fr rfl rfl rfl (k5 _ (by decide) (by decide)), hB.up B hB.1 hB.2.1 hB.2.2.1 B ?_ (fun j hj hjB => ⟨rfl, Iff.rfl, hs _ (by omega) (by omega) (by omega), hs _ (by omega) (by omega) (by omega), by rw [k5 _ (by decide) (by decide)], by rw [k5 _ (by decide) (by decide)], by rw [k5 _ (by decide) (by decide)], by rw [k5 _ (by decide) (by decide)], fun t ht => ?_⟩), hR.up K hR.1 hR.2.1 hR.2.2.1 i ?_ (fun j hj hji => ⟨rfl, Iff.rfl, ⟨hs _ (by omega) (by omega) (by omega), hs _ (by omega) (by omega) (by omega), hs _ (by omega) (by omega) (by omega), hs _ (by omega) (by omega) (by omega), hs _ (by omega) (by omega) (by omega), hs _ (by omega) (by omega) (by omega)⟩, ⟨by rw [k5 _ (by decide) (by decide)], by rw [k5 _ (by decide) (by decide)], by rw [k5 _ (by decide) (by decide)], by rw [k5 _ (by decide) (by decide)], by rw [k5 _ (by decide) (by decide)], by rw [k5 _ (by decide) (by decide)], by rw [k5 _ (by decide) (by decide)]⟩, ⟨k15 j hji, by rw [k5 _ (by decide) (by decide)], by rw [k5 _ (by decide) (by decide)], by rw [k5 _ (by decide) (by decide)], by rw [k5 _ (by decide) (by decide)]⟩, fun _ _ => by rw [k5 _ (by decide) (by decide)], fun _ _ => by rw [k5 _ (by decide) (by decide)]⟩), hP.fr rfl (fun s _ _ => hs s (by omega) (by omega) (by omega)) (k5 _ (by decide) (by decide)) (k5 _ (by decide) (by decide)) (k5 _ (by decide) (by decide)) (k5 _ (by decide) (by decide)), hC.fr rfl (fun s _ _ => hs s (by omega) (by omega) (by omega)) (k5 _ (by decide) (by decide)) (k5 _ (by decide) (by decide)), hM.fr rfl (hs _ (by omega) (by omega) (by omega)) rfl rfl rfl, hS.fr rfl rfl rfl rfl rfl rfl rfl rfl rfl (k5 _ (by decide) (by decide))⟩
  · rcases hB.2.2.2 B hB40 with z | ⟨z, -⟩
    · exact Or.inl ⟨z.1, fun y => absurd y (Nat.lt_irrefl B)⟩
    · exact absurd z (Nat.lt_irrefl B)
  · rw [s2_sa_n (by decide), m2_mc, if_pos rfl]
    exact hG _ (by omega)
  · obtain ⟨⟨r1, r2, r3, r4, r5⟩, ⟨b1, b2, b3, b4⟩, r7, r8, -, ⟨q1, q2⟩, ⟨u1, u2⟩⟩ := hr
    refine Or.inr ⟨hi, a, c, e, b, sl, f, l, ⟨r1, r2, hown, by rw [k5 _ (by decide) (by decide)]; exact r4, r5⟩, ⟨by rw [k5 _ (by decide) (by decide)]; exact b1, by rw [k5 _ (by decide) (by decide)]; exact b2, by rw [k5 _ (by decide) (by decide)]; exact b3, by rw [k5 _ (by decide) (by decide)]; exact b4⟩, ⟨?_, ?_⟩, ⟨?_, r8.2.fr (hs _ (by omega) (by omega) (by omega))⟩, Or.inl ⟨?_, ?_⟩, ⟨?_, ?_⟩, ⟨?_, ?_⟩⟩
    · rw [qpR_wr]; exact r7.1
    · rw [k5 _ (by decide) (by decide), k5 _ (by decide) (by decide)]
      exact r7.2.fr (hs _ (by omega) (by omega) (by omega)) (hs _ (by omega) (by omega) (by omega)) (fun _ _ => by rw [k5 _ (by decide) (by decide)])
    · rw [qpR_wr]; exact r8.1
    · rw [qpR_wr]; simp
    · rw [s2_sa_s, nI_clamp (by omega), upd_s]
    · rw [k5 _ (by decide) (by decide)]; exact q1
    · rw [k5 _ (by decide) (by decide)]; exact q2
    · rw [k5 _ (by decide) (by decide)]; exact u1
    · rw [k5 _ (by decide) (by decide)]; exact u2
theorem st_unline {ρ : RS} {μ : MS} (h : Inv ρ μ) (p1 : Int32) : ∃ q ρ' μ', FR_X9_unline ρ p1 = some (q, ρ') ∧ FM_unline μ p1 = some (q, μ') ∧ Inv ρ' μ' := by
  obtain ⟨own, B, K, h⟩ := h
  have hfu := fu_pos
  unfold FR_X9_unline FM_unline
  rcases robe_c h p1 with ⟨e1, e2⟩ | ⟨i, a, c, e, b, sl, f, l, hi, hi2, rfl, hr, e1, e2⟩
  · simp only [e1, e2, sb, ocn, ↓reduceIte]
    exact ⟨_, _, _, rfl, rfl, own, B, K, h⟩
  · have hB := h.2.1
    have hB40 := hB.1
    have hr0 := hr
    obtain ⟨⟨r1, r2, r3, r4, r5⟩, -, -, -, hl, -, -⟩ := hr
    simp only [e1, e2, sb, ocs, i10, ↓reduceIte, r2, gdt, inb_nI hi2 (show 30 < 2 ^ 31 by decide), nI_clamp (show i < 2 ^ 31 by omega), hB.2.1, hB.2.2.1]
    rcases hl with ⟨l1, l2⟩ | ⟨l1, d, l2, l3⟩
    · simp only [l1, ocn, if_pos l2]
      exact ⟨_, _, _, rfl, rfl, own, B, K, h⟩
    · simp only [l2, ocs, if_neg (show ¬ μ.2 15 i = 0 by rw [l1]; decide)]
      by_cases c0 : B = 40
      · subst c0
        rw [if_neg (show ¬ nI 40 < 40 from by decide), if_pos (show nI 40 = 40 from rfl)]
        exact ⟨_, _, _, rfl, rfl, own, 40, K, h⟩
      · have c1 : nI B < 40 := nI_lt (b := 40) (by omega) (by decide)
        have c2 : ¬ nI B = 40 := fun z => c0 ((nI_eq (b := 40) (by omega) (by decide)).mp z)
        rw [if_pos c1, if_neg c2, rowsOf_e hi2 hr0, sb]
        have hn := r5.2.2.2.2.2.2.2
        generalize hnn : 2 * b + 2 * sl + f + l = n at l3 hn
        have cp := unlL (μ := μ) (r := i) (n := n) (B := B) (K := fun σ_78 => FM_unline_78 (nI i) (nI n) σ_78) hi2 (by omega) hB.2.2.1 hn n 0 fu (by omega) (by omega)
        rw [hyb_0, mc_self, show nI 0 = (0 : Int32) from rfl] at cp
        rw [cp]
        generalize hG : hyb (120 * B) n (fun j => μ.2 18 (120 * i + j)) (μ.2 5) = G
        rw [unl_K (μ := mc μ 5 G) hi2 hB.2.2.1 (by omega)]
        obtain ⟨rr, m1, m2, m3⟩ := l3.move (2 * B)
        generalize va_up (va_up own d (2 * B)) rr (2 * B + 1) = own' at m2 m3
        have ha : own' a = 100 + i := (m3 (100 + i) (by omega) (by omega)).o r2 r3
        have hI := unl_inv h (by omega) hi hr0 ha m3 G (fun j hj => by rw [← hG]; exact hyb_out (by omega))
        have hV : ClothV own' (wr ρ a 2 none) (2 * B) d n (μ.2 16 i) (μ.2 17 i) (fun j => (sa (mc μ 5 G) 15 (nI i) 0).2 5 (120 * B + j)) := by
          refine m2.fr (ag_wr (by rw [ha]; omega)) (ag_wr (by rw [ha]; omega)) (fun j hj => ?_)
          rw [s2_sa_n (by decide), m2_mc, if_pos rfl, ← hG, hyb_in hj]
        rw [keep_e (ρ := wr ρ a 2 none) (B := B) hB.2.1 (by omega) hV.1]
        exact ⟨_, _, _, rfl, rfl, own', B + 1, K, add_bolt hI (by omega) hV⟩
