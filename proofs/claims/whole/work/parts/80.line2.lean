theorem line_inv {own own' : Nat → Nat} {B K : Nat} {ρ ρ' : RS} {μ μ' : MS} {i a c e b sl f l t d m : Nat} {col way v : Int32} {G18 G5 : Nat → Int32} (h : InvO own B K ρ μ) (hi : i < K) (hr : RobeL own ρ μ i a c e b sl f l) (ht : t < B) (hF : linF μ μ' i t m col way v G18 G5)
    (hg1 : ∀ j, j < 2 * b + 2 * sl + f + l → G18 (120 * i + j) = μ.2 5 (120 * t + j)) (hg2 : ∀ j, (j < 120 * i ∨ 120 * i + 120 ≤ j) → G18 j = μ.2 18 j) (hg3 : ∀ j, (j < 120 * t ∨ 120 * t + 120 ≤ j) → G5 j = μ.2 5 j)
    (f1 : ∀ k, rI ρ' k = rI ρ k) (f2 : ∀ k, rA ρ' k = rA ρ k) (f3 : ∀ k, k ≠ 902 → rQ ρ' k = rQ ρ k) (f3' : ∀ j, j ≠ t → rQ ρ' 902 j = rQ ρ 902 j) (f4 : ∀ k, rV ρ' k = rV ρ k)
    (hs : ∀ s, s ≠ 100 + i → s ≠ 400 + 2 * i → s ≠ 400 + 2 * i + 1 → s ≠ 2 * t → s ≠ 2 * t + 1 → ag ρ ρ' own own' s)
    (a1 : isK ρ' a 4 = true) (a2 : own' a = 100 + i) (a3 : pR ρ' a 0 = pR ρ a 0) (a4 : pR ρ' a 1 = pR ρ a 1) (a5 : pR ρ' a 2 = some d) (a6 : ∀ k, pI ρ' a k = pI ρ a k)
    (hd : ClothV own' ρ' (400 + 2 * i) d (2 * b + 2 * sl + f + l) col way (fun j => μ.2 5 (120 * t + j)))
    (hb : BoltI own' ρ' μ' B t) : InvO own' B K ρ' μ' := by
  obtain ⟨hT, hB, hR, hP, hC, hM, hS⟩ := h
  have hK := hR.1
  have hB40 := hB.1
  obtain ⟨m0, mo, m1, m2, m5, m15, m16, m17, m18⟩ := hF
  have ko : ∀ k, (k = 3 ∨ k = 4 ∨ (7 ≤ k ∧ k < 15) ∨ 19 ≤ k) → μ'.2 k = μ.2 k := fun k hk => mo k (by omega) (by omega) (by omega) (by omega) (by omega) (by omega) (by omega)
  refine ⟨hT.fr (f1 _) (f2 _) (by rw [m0]) (ko _ (by omega)), hB.up B hB.1 ((f1 _).trans hB.2.1) (by rw [m0]; exact hB.2.2.1) t hb (fun j hj hjt => ⟨f3' j hjt, Iff.rfl, hs _ (by omega) (by omega) (by omega) (by omega) (by omega), hs _ (by omega) (by omega) (by omega) (by omega) (by omega), by rw [m1, upd_n hjt], by rw [m2, upd_n hjt], by rw [ko 3 (by omega)], by rw [ko 4 (by omega)], fun k hk => by rw [m5]; exact hg3 _ (by omega)⟩), hR.up K hR.1 ((f1 _).trans hR.2.1) (by rw [m0]; exact hR.2.2.1) i ?_ (fun j hj hji => ⟨by rw [f3 904 (by decide)], Iff.rfl, ⟨hs _ (by omega) (by omega) (by omega) (by omega) (by omega), hs _ (by omega) (by omega) (by omega) (by omega) (by omega), hs _ (by omega) (by omega) (by omega) (by omega) (by omega), hs _ (by omega) (by omega) (by omega) (by omega) (by omega), hs _ (by omega) (by omega) (by omega) (by omega) (by omega), hs _ (by omega) (by omega) (by omega) (by omega) (by omega)⟩, ⟨by rw [ko 7 (by omega)], by rw [ko 8 (by omega)], by rw [ko 9 (by omega)], by rw [ko 10 (by omega)], by rw [ko 11 (by omega)], by rw [ko 12 (by omega)], by rw [ko 13 (by omega)]⟩, ⟨by rw [m15, upd_n hji], by rw [m16, upd_n hji], by rw [m17, upd_n hji], by rw [ko 19 (by omega)], by rw [ko 20 (by omega)]⟩, fun _ _ => by rw [ko 14 (by omega)], fun k hk => by rw [m18]; exact hg2 _ (by omega)⟩), hP.fr (f3 _ (by decide)) (fun s _ _ => hs s (by omega) (by omega) (by omega) (by omega) (by omega)) (ko _ (by omega)) (ko _ (by omega)) (ko _ (by omega)) (ko _ (by omega)), hC.fr (f3 _ (by decide)) (fun s _ _ => hs s (by omega) (by omega) (by omega) (by omega) (by omega)) (ko _ (by omega)) (ko _ (by omega)), hM.fr (f4 _) (hs _ (by omega) (by omega) (by omega) (by omega) (by omega)) (by rw [m0]) (by rw [m0]) (by rw [m0]), hS.fr (f1 _) (f1 _) (f1 _) (f1 _) (f2 _) (by rw [m0]) (by rw [m0]) (by rw [m0]) (by rw [m0]) (ko _ (by omega))⟩
  obtain ⟨⟨r1, r2, r3, r4, r5⟩, ⟨b1, b2, b3, b4⟩, r7, r8, -, ⟨q1, q2⟩, ⟨u1, u2⟩⟩ := hr
  refine Or.inr ⟨hi, a, c, e, b, sl, f, l, ⟨by rw [f3 904 (by decide)]; exact r1, a1, a2, by rw [ko 7 (by omega)]; exact r4, r5⟩, ⟨by rw [ko 10 (by omega)]; exact b1, by rw [ko 11 (by omega)]; exact b2, by rw [ko 12 (by omega)]; exact b3, by rw [ko 13 (by omega)]; exact b4⟩, ⟨a3.trans r7.1, ?_⟩, ⟨a4.trans r8.1, r8.2.fr (hs _ (by omega) (by omega) (by omega) (by omega) (by omega))⟩, Or.inr ⟨by rw [m15, upd_s], d, a5, ?_⟩, ⟨?_, ?_⟩, ⟨?_, ?_⟩⟩
  · rw [ko 8 (by omega), ko 9 (by omega)]
    exact r7.2.fr (hs _ (by omega) (by omega) (by omega) (by omega) (by omega)) (hs _ (by omega) (by omega) (by omega) (by omega) (by omega)) (fun _ _ => by rw [ko 14 (by omega)])
  · rw [m16, m17, upd_s, upd_s]
    exact hd.fr (ag_sm rfl) (ag_sm rfl) (fun j hj => by rw [m18]; exact hg1 j hj)
  · rw [ko 19 (by omega), a6]; exact q1
  · rw [ko 19 (by omega)]; exact q2
  · rw [ko 20 (by omega), a6]; exact u1
  · rw [ko 20 (by omega)]; exact u2
/-- the whole bolt is used up -/
theorem line_0 {own : Nat → Nat} {B K : Nat} {ρ : RS} {μ μ' : MS} {i a c e b sl f l t cb : Nat} {G18 G5 : Nat → Int32} (h : InvO own B K ρ μ) (hi : i < K) (hr : RobeL own ρ μ i a c e b sl f l) (ht : t < B) (hb : BoltL own ρ μ t cb (2 * b + 2 * sl + f + l)) (hF : linF μ μ' i t 0 (μ.2 3 t) (μ.2 4 t) 0 G18 G5)
    (hg1 : ∀ j, j < 2 * b + 2 * sl + f + l → G18 (120 * i + j) = μ.2 5 (120 * t + j)) (hg2 : ∀ j, (j < 120 * i ∨ 120 * i + 120 ≤ j) → G18 j = μ.2 18 j) (hg3 : ∀ j, (j < 120 * t ∨ 120 * t + 120 ≤ j) → G5 j = μ.2 5 j) : Inv (rq (wr ρ a 2 (some cb)) 902 (nI t) none) μ' := by
  have hB40 := h.2.1.1
  have hK := h.2.2.1.1
  obtain ⟨rr, m1, m2, m3⟩ := hb.2.2.2.move (400 + 2 * i)
  generalize va_up (va_up own cb (400 + 2 * i)) rr (400 + 2 * i + 1) = own' at m2 m3
  have ha : own' a = 100 + i := (m3 (100 + i) (by omega) (by omega)).o hr.1.2.1 hr.1.2.2.1
  have et : (nI t).toNatClampNeg = t := nI_clamp (by omega)
  have hs : ∀ s, s ≠ 100 + i → s ≠ 2 * t → s ≠ 2 * t + 1 → ag ρ (rq (wr ρ a 2 (some cb)) 902 (nI t) none) own own' s := fun s h1 h2 h3 => (wr_ag (m3 s h2 h3) ha h1).trans (ag_sm rfl)
  have q0 : rQ (rq (wr ρ a 2 (some cb)) 902 (nI t) none) 902 = va_up (rQ ρ 902) t none := by
    rw [qrQ_rq, if_pos rfl, et]
    rfl
  refine ⟨own', B, K, line_inv (d := cb) h hi hr ht hF hg1 hg2 hg3 (fun _ => rfl) (fun _ => rfl) (fun k hk => ?_) (fun j hj => ?_) (fun _ => rfl) (fun s h1 _ _ h4 h5 => hs s h1 h4 h5) hr.1.2.1 ha ?_ ?_ ?_ (fun _ => rfl) (m2.fr ((ag_wr (by rw [ha]; omega)).trans (ag_sm rfl)) ((ag_wr (by rw [ha]; omega)).trans (ag_sm rfl)) (fun _ _ => rfl)) (Or.inl ⟨?_, fun _ => ?_⟩)⟩
  · rw [qrQ_rq, if_neg hk]
    rfl
  · rw [q0]
    unfold va_up
    rw [if_neg hj]
  · show pR (wr ρ a 2 (some cb)) a 0 = _
    rw [qpR_wr, if_neg (by decide)]
  · show pR (wr ρ a 2 (some cb)) a 1 = _
    rw [qpR_wr, if_neg (by decide)]
  · show pR (wr ρ a 2 (some cb)) a 2 = _
    rw [qpR_wr, if_pos rfl, if_pos rfl]
  · rw [q0]
    unfold va_up
    rw [if_pos rfl]
  · rw [hF.2.2.1, upd_s]
/-- some of the bolt stays -/
theorem line_1 {own : Nat → Nat} {B K N : Nat} {ρ : RS} {μ μ' : MS} {i a c e b sl f l t cb rb n2 m : Nat} {G18 G5 G G2 : Nat → Int32} (h : InvO own B K ρ μ) (hN : Low N ρ) (hi : i < K) (hr : RobeL own ρ μ i a c e b sl f l) (ht : t < B) (hb : BoltL own ρ μ t cb n2) (hrb : pR ρ cb 0 = some rb) (hm : n2 = 2 * b + 2 * sl + f + l + m) (hm1 : 1 ≤ m) (hF : linF μ μ' i t m (μ.2 3 t) (μ.2 4 t) 1 G18 G5)
    (hg1 : ∀ j, j < 2 * b + 2 * sl + f + l → G18 (120 * i + j) = μ.2 5 (120 * t + j)) (hg2 : ∀ j, (j < 120 * i ∨ 120 * i + 120 ≤ j) → G18 j = μ.2 18 j) (hg4 : ∀ j, j < m → G5 (120 * t + j) = μ.2 5 (120 * t + (2 * b + 2 * sl + f + l) + j)) (hg3 : ∀ j, (j < 120 * t ∨ 120 * t + 120 ≤ j) → G5 j = μ.2 5 j)
    (hG : ∀ j, j < 2 * b + 2 * sl + f + l → G j = pA ρ rb j) (hG2 : ∀ j, j < m → G2 j = pA ρ rb (2 * b + 2 * sl + f + l + j)) : Inv (wr (nA (wr (mkC ρ N (2 * b + 2 * sl + f + l) G (pI ρ cb 1) (pI ρ cb 2)) a 2 (some N)) (N + 2) m G2) cb 0 (some (N + 2))) μ' := by
  have hB40 := h.2.1.1
  have hK := h.2.2.1.1
  have ho := hr.1.2.2.2.2
  obtain ⟨b1, b2, b3, b4⟩ := hb
  obtain ⟨c1, c2, c3, c4, c5, c6, c7, c8, rr, c9, c10, c11, c12, c13⟩ := b4
  have err : rr = rb := by rw [hrb] at c9; injection c9 with z; exact z.symm
  subst err
  rw [c3, c4]
  generalize hn1 : 2 * b + 2 * sl + f + l = n1 at *
  have la : a < N := hN a (isK_L hr.1.2.1)
  have lc : cb < N := hN cb (isK_L c1)
  have hac : a ≠ cb := fun z => by have := hr.1.2.2.1; rw [z, c2] at this; omega
  generalize hs1 : 400 + 2 * i = s1 at *
  have v1 : ClothV (va_up (va_up own N s1) (N + 1) (s1 + 1)) (mkC ρ N n1 G (μ.2 3 t) (μ.2 4 t)) s1 N n1 (μ.2 3 t) (μ.2 4 t) (fun j => μ.2 5 (120 * t + j)) := mkC_V hN c5 c6 (by have := ho.1; omega) (by omega) (fun j hj => by
    obtain ⟨x, x1, x2, x3⟩ := c13 j (by omega)
    exact ⟨x, x1, by rw [hG j hj, x2], x3⟩)
  have g1 : ∀ s, s ≠ s1 → ag ρ (mkC ρ N n1 G (μ.2 3 t) (μ.2 4 t)) own (va_up (va_up own N s1) (N + 1) (s1 + 1)) s := fun s hs => mkC_ag hN hs
  have f0 := mkC_fix ρ N n1 G (μ.2 3 t) (μ.2 4 t)
  have l2 : Low (N + 2) (mkC ρ N n1 G (μ.2 3 t) (μ.2 4 t)) := (hN.nO (kd := 0)).nA (n := n1) (g := G)
  generalize mkC ρ N n1 G (μ.2 3 t) (μ.2 4 t) = ρ1 at *
  generalize va_up (va_up own N s1) (N + 1) (s1 + 1) = own1 at *
  have oa : own1 a = 100 + i := (g1 _ (by omega)).o hr.1.2.1 hr.1.2.2.1
  have oc_ : own1 cb = 2 * t := (g1 _ (by omega)).o c1 c2
  have l3 : Low (N + 2) (wr ρ1 a 2 (some N)) := l2
  have ea : va_up own1 (N + 2) (2 * t + 1) a = 100 + i := by unfold va_up; rw [if_neg (by omega)]; exact oa
  have ec : va_up own1 (N + 2) (2 * t + 1) cb = 2 * t := by unfold va_up; rw [if_neg (by omega)]; exact oc_
  have en : va_up own1 (N + 2) (2 * t + 1) (N + 2) = 2 * t + 1 := by unfold va_up; rw [if_pos rfl]
  have g2 : ∀ s, s ≠ 100 + i → s ≠ 2 * t → ag ρ1 (wr (nA (wr ρ1 a 2 (some N)) (N + 2) m G2) cb 0 (some (N + 2))) own1 (va_up own1 (N + 2) (2 * t + 1)) s := fun s h1 h2 => (ag_wr (by rw [oa]; exact h1)).trans ((ag_nA (s' := 2 * t + 1) l3).trans (ag_wr (by rw [ec]; exact h2)))
  have ka : isK ρ1 a 4 = true := (g1 _ (by omega)).k hr.1.2.1 hr.1.2.2.1
  have kc : isK ρ1 cb 0 = true := (g1 _ (by omega)).k c1 c2
  have ff : fixE ρ (wr (nA (wr ρ1 a 2 (some N)) (N + 2) m G2) cb 0 (some (N + 2))) := f0.trans ((fix_wr _ _ _ _).trans ((fix_nA _ _ _ _).trans (fix_wr _ _ _ _)))
  refine ⟨va_up own1 (N + 2) (2 * t + 1), B, K, line_inv (d := N) h hi hr ht hF (by rw [hn1]; exact hg1) hg2 hg3 ff.i ff.a (fun k _ => ff.q k) (fun j _ => by rw [ff.q]) ff.v (fun s h1 h2 h3 h4 h5 => (g1 s (by omega)).trans (g2 s h1 h4)) ?_ ea ?_ ?_ ?_ (fun k => ?_) ?_ (Or.inr ⟨ht, cb, m, ?_, ?_, ?_, ?_, ec, ?_, ?_, ?_, ?_, hm1, by omega, N + 2, ?_, en, ?_, ?_, fun j hj => ?_⟩)⟩
  · rw [qisK_wr, qisK_nA (by omega)]
    exact ka
  · rw [qpR_wr, if_pos rfl, if_neg hac, qpR_nA, qpR_wr, if_neg (by decide)]
    exact (g1 _ (by omega)).r hr.1.2.1 hr.1.2.2.1 0
  · rw [qpR_wr, if_neg (by decide), qpR_nA, qpR_wr, if_neg (by decide)]
    exact (g1 _ (by omega)).r hr.1.2.1 hr.1.2.2.1 1
  · rw [qpR_wr, if_neg (by decide), qpR_nA, qpR_wr, if_pos rfl, if_pos rfl]
  · exact (g1 _ (by omega)).i hr.1.2.1 hr.1.2.2.1 k
  · rw [hs1, hn1]
    exact v1.fr (g2 _ (by omega) (by omega)) (g2 _ (by omega) (by omega)) (fun _ _ => rfl)
  · rw [ff.q]; exact b1
  · rw [hF.2.2.1, upd_s]
  · rw [hF.2.2.2.1, upd_s]
  · rw [qisK_wr, qisK_nA (by omega)]
    exact kc
  · rw [hF.2.1 3 (by decide) (by decide) (by decide) (by decide) (by decide) (by decide) (by decide)]
    exact ((g1 _ (by omega)).i c1 c2 1).trans c3
  · rw [hF.2.1 4 (by decide) (by decide) (by decide) (by decide) (by decide) (by decide) (by decide)]
    exact ((g1 _ (by omega)).i c1 c2 2).trans c4
  · rw [hF.2.1 3 (by decide) (by decide) (by decide) (by decide) (by decide) (by decide) (by decide)]
    exact c5
  · rw [hF.2.1 4 (by decide) (by decide) (by decide) (by decide) (by decide) (by decide) (by decide)]
    exact c6
  · rw [qpR_wr, if_pos rfl, if_pos rfl]
  · rw [qisK_wr]
    exact isK_newA
  · show pN (nA (wr ρ1 a 2 (some N)) (N + 2) m G2) (N + 2) = m
    rw [qpN_nA, if_pos rfl]
  · obtain ⟨x, x1, x2, x3⟩ := c13 (n1 + j) (by omega)
    refine ⟨x, x1, ?_, ?_⟩
    · show pA (nA (wr ρ1 a 2 (some N)) (N + 2) m G2) (N + 2) j = _
      rw [qpA_nA, if_pos rfl, hG2 j hj, x2]
    · show μ'.2 5 (120 * t + j) = _
      rw [hF.2.2.2.2.1, hg4 j hj, ← x3, Nat.add_assoc]
theorem sub_neg {n1 n2 : Nat} (h : n2 < n1) (h1 : n1 ≤ 120) : ¬ (0 : Int32) ≤ nI n2 - nI n1 := by
  intro z
  have z2 : nI n2 - nI n1 = - nI (n1 - n2) := by rw [← z_sub (show n2 ≤ n1 by omega), Int32.neg_sub]
  have z1 := Int32.le_iff_toInt_le.mp z
  rw [z2, Int32.toInt_neg, nI_toInt (by omega), show (0 : Int32).toInt = 0 from rfl, Int.bmod_def] at z1
  split at z1 <;> omega
theorem st_line {ρ : RS} {μ : MS} (h : Inv ρ μ) {N : Nat} (hN : Low N ρ) (p1 : Int32) (p2 : Int32) : ∃ q ρ' μ', FR_X9_line N ρ p1 p2 = some (q, ρ') ∧ FM_line μ p1 p2 = some (q, μ') ∧ Inv ρ' μ' := by
  obtain ⟨own, B, K, h⟩ := h
  have hI0 : Inv ρ μ := ⟨own, B, K, h⟩
  unfold FR_X9_line FM_line
  rcases robe_c h p1 with ⟨e1, e2⟩ | ⟨i, a, c, e, b, sl, f, l, hi, hi2, rfl, hr, e1, e2⟩
  · rcases bolt_c h p2 with ⟨e3, e4⟩ | ⟨t, cb, n2, ht, ht2, rfl, hb, e3, e4⟩
    · simp only [e1, e2, e3, sb, ocn, ↓reduceIte]
      exact ⟨_, _, _, rfl, rfl, hI0⟩
    · simp only [e1, e2, e3, sb, ocn, ↓reduceIte]
      exact ⟨_, _, _, rfl, rfl, hI0⟩
  · rcases bolt_c h p2 with ⟨e3, e4⟩ | ⟨t, cb, n2, ht, ht2, rfl, hb, e3, e4⟩
    · simp only [e1, e2, e3, e4, sb, ocs, ocn, i10, ↓reduceIte]
      exact ⟨_, _, _, rfl, rfl, hI0⟩
    · have hro := rowsOf_e hi2 hr
      have hn := hr.1.2.2.2.2.2.2.2.2.2.2.2
      have hn1 : 1 ≤ 2 * b + 2 * sl + f + l := by have := hr.1.2.2.2.2.1; omega
      obtain ⟨y1, -, -, -, -, -, -, -, r1, y2, -, y3, y4, -⟩ := hr.2.2.1.2
      obtain ⟨w1, -, -, -, -, -, -, w8, rb, w2, -, w3, w4, -⟩ := hb.2.2.2
      have hl := hr.2.2.2.2.1
      have oN : ∀ x, Int32.ofNat x = nI x := fun _ => rfl
      simp only [e1, e2, e3, e4, sb, ocs, i10, ↓reduceIte, hr.1.2.1, gdt, hr.2.2.1.1, y1, y2, y3, y4, w1, w2, w3, w4, hro, inb_nI hi2 (show 30 < 2 ^ 31 by decide), inb_nI ht2 (show 40 < 2 ^ 31 by decide), nI_clamp (show i < 2 ^ 31 by omega), nI_clamp (show t < 2 ^ 31 by omega), hb.2.2.1, oN]
      rcases hl with ⟨l1, l2⟩ | ⟨l1, d, l2, l3⟩
      · simp only [l1, ocn, if_pos l2]
        by_cases c0 : 2 * b + 2 * sl + f + l ≤ n2
        · have c1 : nI (2 * b + 2 * sl + f + l) ≤ nI n2 := nI_le c0 (by omega)
          obtain ⟨μ', G18, G5, k1, k2, k3, k4, k5, k6⟩ := line_M (μ := μ) (i := i) (t := t) (n1 := 2 * b + 2 * sl + f + l) (n2 := n2) hi2 ht2 c0 w8 hb.2.2.1 (μ.2 3 t) (μ.2 4 t)
          simp only [z_sub c0, if_pos c1, if_pos (show (0 : Int32) ≤ nI (n2 - (2 * b + 2 * sl + f + l)) from nI_le (a := 0) (by omega) (by omega)), k6]
          by_cases c2 : n2 = 2 * b + 2 * sl + f + l
          · rw [show n2 - (2 * b + 2 * sl + f + l) = 0 by omega] at k1 ⊢
            rw [if_pos (show nI 0 = 0 from rfl)]
            rw [if_pos rfl] at k1
            rw [c2] at hb
            exact ⟨_, _, _, rfl, rfl, line_0 h hi hr ht hb k1 k2 k3 k5⟩
          · obtain ⟨G, G2, g1, g2, g3⟩ := line_R (n1 := 2 * b + 2 * sl + f + l) hN hr.1.2.1 w1 w2 w3 w4 hn1 (by omega) w8
            rw [if_neg (nI_ne0 (by omega) (by omega))]
            rw [if_neg (show ¬ n2 - (2 * b + 2 * sl + f + l) = 0 by omega)] at k1
            have e9 : nI (2 * b + 2 * sl + f + l) + nI (n2 - (2 * b + 2 * sl + f + l)) = nI n2 := by rw [nI_add]; congr 1; omega
            rw [e9]
            exact ⟨_, _, _, g3, rfl, line_1 h hN hi hr ht hb w2 (by omega) (by omega) k1 k2 k3 k4 k5 g1 g2⟩
        · have c1 : ¬ nI (2 * b + 2 * sl + f + l) ≤ nI n2 := nI_ge (by omega) (by omega)
          simp only [if_neg c1, if_neg (sub_neg (show n2 < 2 * b + 2 * sl + f + l by omega) hn)]
          exact ⟨_, _, _, rfl, rfl, hI0⟩
      · simp only [l2, ocs, if_neg (show ¬ μ.2 15 i = 0 by rw [l1]; decide)]
        exact ⟨_, _, _, rfl, rfl, hI0⟩
