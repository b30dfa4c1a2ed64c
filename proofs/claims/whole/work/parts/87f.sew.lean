/-- a robe that is made: an object with its lengths next to it -/
def mkRb (ρ : RS) (M c m : Nat) (g : Nat → Int32) : RS := wr (wr (wi (wi (wr (nA (nO ρ M 4) (M + 1) m g) M 2 none) M 3 (-1)) M 4 (-1)) M 0 (some c)) M 1 (some (M + 1))
theorem mkRb_ag {ρ : RS} {own : Nat → Nat} {M c m sA sL : Nat} {g : Nat → Int32} (h : Low M ρ) {s : Nat} (hs : s ≠ sA) : ag ρ (mkRb ρ M c m g) own (va_up (va_up own M sA) (M + 1) sL) s := by
  have e1 : va_up (va_up own M sA) (M + 1) sL M = sA := by
    unfold va_up
    rw [if_neg (by omega), if_pos rfl]
  refine (ag_nO (kd := 4) (s' := sA) h).trans ((ag_nA (n := m) (g := g) (s' := sL) h.nO).trans ?_)
  exact (ag_wr (by rw [e1]; exact hs)).trans ((ag_wi (by rw [e1]; exact hs)).trans ((ag_wi (by rw [e1]; exact hs)).trans ((ag_wr (by rw [e1]; exact hs)).trans (ag_wr (by rw [e1]; exact hs)))))
theorem mkRb_fix (ρ : RS) (M c m : Nat) (g : Nat → Int32) : fixE ρ (mkRb ρ M c m g) := (fix_nO ρ M 4).trans ((fix_nA _ _ _ _).trans ((fix_wr _ _ _ _).trans ((fix_wi _ _ _ _).trans ((fix_wi _ _ _ _).trans ((fix_wr _ _ _ _).trans (fix_wr _ _ _ _))))))
theorem mkRb_V {ρ : RS} {M c m : Nat} {g : Nat → Int32} : isK (mkRb ρ M c m g) M 4 = true ∧ isK (mkRb ρ M c m g) (M + 1) 11 = true ∧ pR (mkRb ρ M c m g) M 0 = some c ∧ pR (mkRb ρ M c m g) M 1 = some (M + 1) ∧ pR (mkRb ρ M c m g) M 2 = none ∧ pI (mkRb ρ M c m g) M 3 = -1 ∧ pI (mkRb ρ M c m g) M 4 = -1 ∧ pN (mkRb ρ M c m g) (M + 1) = m ∧ pA (mkRb ρ M c m g) (M + 1) = g := by
  have k0 : isK (nA (nO ρ M 4) (M + 1) m g) M 4 = true := by
    rw [qisK_nA (by omega)]
    exact isK_new
  have k1 : isK (nA (nO ρ M 4) (M + 1) m g) (M + 1) 11 = true := isK_newA
  refine ⟨k0, k1, ?_, ?_, ?_, ?_, ?_, ?_, ?_⟩
  · unfold mkRb; simp only [qpR_wr, Nat.reduceEqDiff, ↓reduceIte]
  · unfold mkRb; simp only [qpR_wr, Nat.reduceEqDiff, ↓reduceIte]
  · unfold mkRb; simp only [qpR_wr, qpR_wi, Nat.reduceEqDiff, ↓reduceIte]
  · unfold mkRb; simp only [qpI_wr, qpI_wi, Nat.reduceEqDiff, ↓reduceIte]
  · unfold mkRb; simp only [qpI_wr, qpI_wi, Nat.reduceEqDiff, ↓reduceIte]
  · show pN (nA (nO ρ M 4) (M + 1) m g) (M + 1) = m
    rw [qpN_nA, if_pos rfl]
  · show pA (nA (nO ρ M 4) (M + 1) m g) (M + 1) = g
    rw [qpA_nA, if_pos rfl]
def sewQ (own own2 : Nat → Nat) (ρ1 ρ' : RS) (N n K t : Nat) (col way : Int32) (G gL : Nat → Int32) : Prop := (∀ s, s ≠ 200 + 2 * K → s ≠ 100 + K → ag ρ1 ρ' own own2 s) ∧ ClothV own2 ρ' (200 + 2 * K) N n col way (fun j => G (120 * K + j)) ∧ ((∀ k, k ≠ 905 → rI ρ' k = rI ρ1 k) ∧ rI ρ' 905 = nI (K + 1) ∧ (∀ k, rA ρ' k = rA ρ1 k) ∧ (∀ k, rV ρ' k = rV ρ1 k) ∧ (∀ k, k ≠ 902 → k ≠ 904 → rQ ρ' k = rQ ρ1 k) ∧ rQ ρ' 902 = va_up (rQ ρ1 902) t none ∧ rQ ρ' 904 = va_up (rQ ρ1 904) K (some (N + 2))) ∧ (isK ρ' (N + 2) 4 = true ∧ own2 (N + 2) = 100 + K ∧ pR ρ' (N + 2) 0 = some N ∧ pR ρ' (N + 2) 1 = some (N + 2 + 1) ∧ pR ρ' (N + 2) 2 = none ∧ pI ρ' (N + 2) 3 = -1 ∧ pI ρ' (N + 2) 4 = -1) ∧ isK ρ' (N + 2 + 1) 11 = true ∧ own2 (N + 2 + 1) = 300 + K ∧ pN ρ' (N + 2 + 1) = 6 ∧ pA ρ' (N + 2 + 1) = gL
theorem sew_A1 {own : Nat → Nat} {K N t n : Nat} {ρ1 : RS} {col way : Int32} {G g : Nat → Int32} (hN : Low N ρ1) (ht : t < 40) (c5 : ∃ k, k ≤ 9 ∧ col = nI k) (c6 : way = 0 ∨ way = 1) (c7 : 1 ≤ n) (c8 : n ≤ 120) (hg : ∀ j, j < n → ∃ x, okr x ∧ g j = nI (enc x) ∧ G (120 * K + j) = nI x) : ∃ own1, (∀ s, s ≠ 200 + 2 * K → ag ρ1 (rq (mkC ρ1 N n g col way) 902 (nI t) none) own own1 s) ∧ ClothV own1 (rq (mkC ρ1 N n g col way) 902 (nI t) none) (200 + 2 * K) N n col way (fun j => G (120 * K + j)) ∧ Low (N + 2) (rq (mkC ρ1 N n g col way) 902 (nI t) none) ∧ (∀ k, rI (rq (mkC ρ1 N n g col way) 902 (nI t) none) k = rI ρ1 k) ∧ (∀ k, rA (rq (mkC ρ1 N n g col way) 902 (nI t) none) k = rA ρ1 k) ∧ (∀ k, rV (rq (mkC ρ1 N n g col way) 902 (nI t) none) k = rV ρ1 k) ∧ (∀ k, k ≠ 902 → rQ (rq (mkC ρ1 N n g col way) 902 (nI t) none) k = rQ ρ1 k) ∧ rQ (rq (mkC ρ1 N n g col way) 902 (nI t) none) 902 = va_up (rQ ρ1 902) t none := by
  have v1 : ClothV (va_up (va_up own N (200 + 2 * K)) (N + 1) (200 + 2 * K + 1)) (mkC ρ1 N n g col way) (200 + 2 * K) N n col way (fun j => G (120 * K + j)) := mkC_V hN c5 c6 c7 c8 hg
  have g1 : ∀ s, s ≠ 200 + 2 * K → ag ρ1 (mkC ρ1 N n g col way) own (va_up (va_up own N (200 + 2 * K)) (N + 1) (200 + 2 * K + 1)) s := fun s hs => mkC_ag hN hs
  have f0 := mkC_fix ρ1 N n g col way
  have l2 : Low (N + 2) (mkC ρ1 N n g col way) := (hN.nO (kd := 0)).nA (n := n) (g := g)
  generalize mkC ρ1 N n g col way = ρ2 at v1 g1 f0 l2 ⊢
  refine ⟨_, fun s hs => (g1 s hs).trans (ag_sm rfl), v1.fr (ag_sm rfl) (ag_sm rfl) (fun _ _ => rfl), l2, fun k => f0.i k, fun k => f0.a k, fun k => f0.v k, fun k hk => ?_, ?_⟩
  · rw [qrQ_rq, if_neg hk, f0.q]
  · rw [qrQ_rq, if_pos rfl, nI_clamp (by omega), f0.q]
theorem sew_A2 {own1 : Nat → Nat} {K N : Nat} {ρ3 : RS} {gL : Nat → Int32} (l3 : Low (N + 2) ρ3) (hK : K < 30) : ∃ own2, (∀ s, s ≠ 100 + K → ag ρ3 (ri (rq (mkRb ρ3 (N + 2) N 6 gL) 904 (nI K) (some (N + 2))) 905 (nI (K + 1))) own1 own2 s) ∧ ((∀ k, k ≠ 905 → rI (ri (rq (mkRb ρ3 (N + 2) N 6 gL) 904 (nI K) (some (N + 2))) 905 (nI (K + 1))) k = rI ρ3 k) ∧ rI (ri (rq (mkRb ρ3 (N + 2) N 6 gL) 904 (nI K) (some (N + 2))) 905 (nI (K + 1))) 905 = nI (K + 1) ∧ (∀ k, rA (ri (rq (mkRb ρ3 (N + 2) N 6 gL) 904 (nI K) (some (N + 2))) 905 (nI (K + 1))) k = rA ρ3 k) ∧ (∀ k, rV (ri (rq (mkRb ρ3 (N + 2) N 6 gL) 904 (nI K) (some (N + 2))) 905 (nI (K + 1))) k = rV ρ3 k) ∧ (∀ k, k ≠ 904 → rQ (ri (rq (mkRb ρ3 (N + 2) N 6 gL) 904 (nI K) (some (N + 2))) 905 (nI (K + 1))) k = rQ ρ3 k) ∧ rQ (ri (rq (mkRb ρ3 (N + 2) N 6 gL) 904 (nI K) (some (N + 2))) 905 (nI (K + 1))) 904 = va_up (rQ ρ3 904) K (some (N + 2))) ∧ own2 (N + 2) = 100 + K ∧ own2 (N + 2 + 1) = 300 + K := by
  have g3 : ∀ s, s ≠ 100 + K → ag ρ3 (mkRb ρ3 (N + 2) N 6 gL) own1 (va_up (va_up own1 (N + 2) (100 + K)) (N + 2 + 1) (300 + K)) s := fun s hs => mkRb_ag l3 hs
  have f3 := mkRb_fix ρ3 (N + 2) N 6 gL
  generalize mkRb ρ3 (N + 2) N 6 gL = ρ4 at g3 f3 ⊢
  refine ⟨_, fun s hs => (g3 s hs).trans (ag_sm rfl), ⟨fun k hk => ?_, ?_, fun k => f3.a k, fun k => f3.v k, fun k hk => ?_, ?_⟩, ?_, ?_⟩
  · rw [qrI_ri, if_neg hk]
    exact f3.i k
  · rw [qrI_ri, if_pos rfl]
  · show rQ (rq ρ4 904 (nI K) (some (N + 2))) k = _
    rw [qrQ_rq, if_neg hk]
    exact f3.q k
  · show rQ (rq ρ4 904 (nI K) (some (N + 2))) 904 = _
    rw [qrQ_rq, if_pos rfl, nI_clamp (by omega), f3.q]
  · unfold va_up; rw [if_neg (by omega), if_pos rfl]
  · unfold va_up; rw [if_pos rfl]
theorem sew_A3 {ρ : RS} {M c K : Nat} {g : Nat → Int32} {i v : Int32} {o : Option Nat} : isK (ri (rq (mkRb ρ M c 6 g) 904 i o) 905 v) M 4 = true ∧ isK (ri (rq (mkRb ρ M c 6 g) 904 i o) 905 v) (M + 1) 11 = true ∧ pR (ri (rq (mkRb ρ M c 6 g) 904 i o) 905 v) M 0 = some c ∧ pR (ri (rq (mkRb ρ M c 6 g) 904 i o) 905 v) M 1 = some (M + 1) ∧ pR (ri (rq (mkRb ρ M c 6 g) 904 i o) 905 v) M 2 = none ∧ pI (ri (rq (mkRb ρ M c 6 g) 904 i o) 905 v) M 3 = -1 ∧ pI (ri (rq (mkRb ρ M c 6 g) 904 i o) 905 v) M 4 = -1 ∧ pN (ri (rq (mkRb ρ M c 6 g) 904 i o) 905 v) (M + 1) = 6 ∧ pA (ri (rq (mkRb ρ M c 6 g) 904 i o) 905 v) (M + 1) = g := by
  have h := mkRb_V (ρ := ρ) (M := M) (c := c) (m := 6) (g := g)
  generalize mkRb ρ M c 6 g = ρ4 at h ⊢
  exact h
theorem sew_A {own : Nat → Nat} {K N t n : Nat} {ρ1 : RS} {col way : Int32} {G g gL : Nat → Int32} (hN : Low N ρ1) (hK : K < 30) (ht : t < 40) (c5 : ∃ k, k ≤ 9 ∧ col = nI k) (c6 : way = 0 ∨ way = 1) (c7 : 1 ≤ n) (c8 : n ≤ 120) (hg : ∀ j, j < n → ∃ x, okr x ∧ g j = nI (enc x) ∧ G (120 * K + j) = nI x) : ∃ own2, sewQ own own2 ρ1 (ri (rq (mkRb (rq (mkC ρ1 N n g col way) 902 (nI t) none) (N + 2) N 6 gL) 904 (nI K) (some (N + 2))) 905 (nI (K + 1))) N n K t col way G gL := by
  obtain ⟨own1, a1, a2, a3, a4, a5, a6, a7, a8⟩ := sew_A1 (own := own) (K := K) hN ht c5 c6 c7 c8 hg
  generalize rq (mkC ρ1 N n g col way) 902 (nI t) none = ρ3 at a1 a2 a3 a4 a5 a6 a7 a8 ⊢
  obtain ⟨own2, b1, ⟨b2, b3, b4, b5, b6, b7⟩, b8, b9⟩ := sew_A2 (own1 := own1) (K := K) (N := N) (gL := gL) a3 hK
  obtain ⟨k4, k11, r0, r1, r2, i30, i40, n6, aL⟩ := sew_A3 (ρ := ρ3) (M := N + 2) (c := N) (K := K) (g := gL) (i := nI K) (v := nI (K + 1)) (o := some (N + 2))
  generalize ri (rq (mkRb ρ3 (N + 2) N 6 gL) 904 (nI K) (some (N + 2))) 905 (nI (K + 1)) = ρ' at b1 b2 b3 b4 b5 b6 b7 k4 k11 r0 r1 r2 i30 i40 n6 aL ⊢
  exact ⟨own2, fun s h1 h2 => (a1 s h1).trans (b1 s h2), a2.fr (b1 _ (by omega)) (b1 _ (by omega)) (fun _ _ => rfl), ⟨fun k hk => (b2 k hk).trans (a4 k), b3, fun k => (b4 k).trans (a5 k), fun k => (b5 k).trans (a6 k), fun k h1 h2 => (b6 k h2).trans (a7 k h1), (b6 902 (by decide)).trans a8, b7.trans (by rw [a7 904 (by decide)])⟩, ⟨k4, b8, r0, r1, r2, i30, i40⟩, k11, b9, n6, aL⟩
theorem sew_inv {own own2 : Nat → Nat} {B K N t n b sl f l : Nat} {ρ1 ρ' : RS} {μ1 μ' : MS} {G gL : Nat → Int32} (h : InvO own B K ρ1 μ1) (hK : K < 30) (ht : t < B) (hQ : sewQ own own2 ρ1 ρ' N n K t (μ1.2 3 t) (μ1.2 4 t) G gL) (hF : sewF μ1 μ' K t b sl f l (μ1.2 3 t) (μ1.2 4 t) G) (hG : ∀ j, (j < 120 * K ∨ 120 * K + 120 ≤ j) → G j = μ1.2 14 j) (ho : okl b sl f l) (hn : 2 * b + 2 * sl + f + l = n) (hL : ∀ p, p < 6 → gL p = nI (lenP b sl f l p)) : Inv ρ' μ' := by
  obtain ⟨hT, hB, hR, hP, hC, hM, hS⟩ := h
  have hB40 := hB.1
  obtain ⟨F1, F6, F2, F21, ⟨m7, m8, m9, m10, m11, m12, m13⟩, m14, m19, m20⟩ := hF
  obtain ⟨hs, v1, ⟨fI, fI5, fA, fV, fQ, fQ2, fQ4⟩, ⟨k4', oA, r0', r1', r2', i3', i4'⟩, k11', oL, n6', aL'⟩ := hQ
  have m15 : μ1.2 15 K = 0 := by
    rcases hR.2.2.2 K hK with z | ⟨z, -⟩
    · exact z.2.2 (Nat.le_refl _)
    · exact absurd z (Nat.lt_irrefl K)
  have ko : ∀ k, k ≠ 1 → (k < 7 ∨ 14 < k) → k ≠ 19 → k ≠ 20 → μ'.2 k = μ1.2 k := F2
  have hh : ∀ j p, p < 10 → (held μ' (K + 1) j p ↔ held μ1 K j p) := fun j p hp => by
    unfold held
    by_cases c : j = K
    · subst c
      rw [m20, upd_s]
      exact ⟨fun z => absurd z.2.2 (z_m1' (by omega)), fun z => absurd z.1 (Nat.lt_irrefl _)⟩
    · rw [m7, m20, upd_n c, upd_n c]
      exact ⟨fun z => ⟨by have := z.1; omega, z.2⟩, fun z => ⟨by have := z.1; omega, z.2⟩⟩
  refine ⟨own2, B, K + 1, hT.fr (fI _ (by decide)) (fA _) (F1 _ (by decide)) (ko _ (by decide) (by decide) (by decide) (by decide)), hB.up B hB.1 ((fI _ (by decide)).trans hB.2.1) ((F1 _ (by decide)).trans hB.2.2.1) t (Or.inl ⟨?_, fun _ => ?_⟩) (fun j hj hjt => ⟨?_, Iff.rfl, hs _ (by omega) (by omega), hs _ (by omega) (by omega), ?_, ?_, ?_, ?_, fun u hu => ?_⟩), hR.up (K + 1) (by omega) fI5 F6 K ?_ (fun j hj hjK => ⟨?_, by omega, ⟨hs _ (by omega) (by omega), hs _ (by omega) (by omega), hs _ (by omega) (by omega), hs _ (by omega) (by omega), hs _ (by omega) (by omega), hs _ (by omega) (by omega)⟩, ⟨by rw [m7, upd_n hjK], by rw [m8, upd_n hjK], by rw [m9, upd_n hjK], by rw [m10, upd_n hjK], by rw [m11, upd_n hjK], by rw [m12, upd_n hjK], by rw [m13, upd_n hjK]⟩, ⟨by rw [ko 15 (by decide) (by decide) (by decide) (by decide)], by rw [ko 16 (by decide) (by decide) (by decide) (by decide)], by rw [ko 17 (by decide) (by decide) (by decide) (by decide)], by rw [m19, upd_n hjK], by rw [m20, upd_n hjK]⟩, fun u hu => by rw [m14]; exact hG _ (by omega), fun u hu => by rw [ko 18 (by decide) (by decide) (by decide) (by decide)]⟩), ⟨fun p hp => ?_, fun p j j' hp a c => hP.2 p j j' hp ((hh j p hp).mp a) ((hh j' p hp).mp c)⟩, hC.fr (fQ _ (by decide) (by decide)) (fun s _ _ => hs s (by omega) (by omega)) (ko _ (by decide) (by decide) (by decide) (by decide)) (ko _ (by decide) (by decide) (by decide) (by decide)), hM.fr (fV _) (hs _ (by omega) (by omega)) (F1 _ (by decide)) (F1 _ (by decide)) (F1 _ (by decide)), hS.fr (fI _ (by decide)) (fI _ (by decide)) (fI _ (by decide)) (fI _ (by decide)) (fA _) (F1 _ (by decide)) (F1 _ (by decide)) (F1 _ (by decide)) (F1 _ (by decide)) (ko _ (by decide) (by decide) (by decide) (by decide))⟩
  · rw [fQ2]; unfold va_up; rw [if_pos rfl]
  · rw [F21, upd_s]
  · rw [fQ2]; unfold va_up; rw [if_neg hjt]
  · rw [F21, upd_n hjt]
  · rw [ko 2 (by decide) (by decide) (by decide) (by decide)]
  · rw [ko 3 (by decide) (by decide) (by decide) (by decide)]
  · rw [ko 4 (by decide) (by decide) (by decide) (by decide)]
  · rw [ko 5 (by decide) (by decide) (by decide) (by decide)]
  · refine Or.inr ⟨by omega, N + 2, N, N + 2 + 1, b, sl, f, l, ⟨?_, k4', oA, by rw [m7, upd_s], ho⟩, ⟨by rw [m10, upd_s], by rw [m11, upd_s], by rw [m12, upd_s], by rw [m13, upd_s]⟩, ⟨r0', ?_⟩, ⟨r1', k11', oL, n6', ?_, ?_, ?_, ?_, ?_, ?_⟩, Or.inl ⟨r2', ?_⟩, ⟨by rw [m19, upd_s]; exact i3', by rw [m19, upd_s]; exact Or.inl rfl⟩, ⟨by rw [m20, upd_s]; exact i4', by rw [m20, upd_s]; exact Or.inl rfl⟩⟩
    · rw [fQ4]; unfold va_up; rw [if_pos rfl]
    · rw [hn, m8, m9, upd_s, upd_s]
      exact v1.fr (ag_sm rfl) (ag_sm rfl) (fun j _ => by rw [m14])
    · rw [aL']; exact hL 0 (by omega)
    · rw [aL']; exact hL 1 (by omega)
    · rw [aL']; exact hL 2 (by omega)
    · rw [aL']; exact hL 3 (by omega)
    · rw [aL']; exact hL 4 (by omega)
    · rw [aL']; exact hL 5 (by omega)
    · rw [ko 15 (by decide) (by decide) (by decide) (by decide)]; exact m15
  · rw [fQ4]; unfold va_up; rw [if_neg hjK]
  · obtain ⟨a', ha'⟩ := hP.1 p hp
    exact ⟨a', ha'.fr (by rw [fQ 914 (by decide) (by decide)]) (hs _ (by omega) (by omega)) (by rw [ko 26 (by decide) (by decide) (by decide) (by decide)]) (by rw [ko 27 (by decide) (by decide) (by decide) (by decide)]) (fun j => hh j p hp)⟩
