theorem sew_fin {own : Nat → Nat} {B K N t cb rb e n b sl f l tw thr fo : Nat} {s x : Nat → Nat} {v0 : Int32} {ρ1 : RS} {μ μ1 : MS} {p2 p3 : Int32} {g : Nat → Int32} (h : InvO own B K ρ1 μ1) (hN : Low N ρ1) (hV : LayV ρ1 rb e n b sl f l s tw thr fo x v0) (hLk : LookV μ1 b sl f l thr fo (yOf s b sl f l tw x)) (hn : 2 * b + 2 * sl + f + l = n) (hK : K < 30) (ht : t < B) (hcb : BoltL own ρ1 μ1 t cb n) (hbad : FM_bad μ (nI t) p2 p3 = some (0, μ1)) (h21 : μ1.1 21 = nI b) (h22 : μ1.1 22 = nI f) (h23 : μ1.1 23 = nI l) (hg : ∀ q, q < 6 → ∀ u, u < lenP b sl f l q → g (froP b sl f l q + u) = nI (enc (yOf s b sl f l tw x q u))) : ∃ μ', FM_sew μ (nI t) p2 p3 = some (nI K, μ') ∧ Inv (ri (rq (mkRb (rq (mkC ρ1 N n g (pI ρ1 cb 1) (pI ρ1 cb 2)) 902 (nI t) none) (N + 2) N 6 (pA ρ1 e)) 904 (nI K) (some (N + 2))) 905 (nI (K + 1))) μ' := by
  have hB40 := h.2.1.1
  have hM6 : μ1.1 6 = nI K := h.2.2.1.2.2.1
  obtain ⟨-, -, h2, k0, -, cI1, cI2, c5, c6, c7, c8, -⟩ := hcb
  have h32 : μ1.2 32 2 = nI sl := hLk.1 2 (by omega)
  obtain ⟨μ', w1, w2⟩ := sew_M (t := t) (k := K) (n := n) (by omega) hK c8 hbad hM6 h2 h21 h22 h23 h32
  refine ⟨μ', w1, ?_⟩
  rw [cI1, cI2]
  obtain ⟨own2, hQ⟩ := sew_A (own := own) (K := K) (N := N) (t := t) (n := n) (G := hyb (120 * K) n (fun j => μ1.2 34 j) (μ1.2 14)) (g := g) (gL := pA ρ1 e) hN hK (by omega) c5 c6 c7 c8 (fun j hj => by
    obtain ⟨p, u, p1, p2, p3⟩ := fro_cov (hn ▸ hj)
    refine ⟨yOf s b sl f l tw x p u, (hLk.2.2.1 p u p1 p2).1, ?_, ?_⟩
    · rw [p3]; exact hg p p1 u p2
    · rw [hyb_in hj, p3]; exact (hLk.2.2.1 p u p1 p2).2)
  exact sew_inv h hK ht hQ w2 (fun j hj => hyb_out (by omega)) hV.2.2.2.2.2.2.2.2.2 hn (fun p hp => hV.2.1.2.2.2 p hp)
theorem st_sew {ρ : RS} {μ : MS} (h : Inv ρ μ) {N : Nat} (hN : Low N ρ) (p1 : Int32) (p2 : Int32) (p3 : Int32) : ∃ q ρ' μ', FR_X9_sew N ρ p1 p2 p3 = some (q, ρ') ∧ FM_sew μ p1 p2 p3 = some (q, μ') ∧ Inv ρ' μ' := by
  obtain ⟨own, B, K, h⟩ := h
  rcases bolt_c h p1 with ⟨e1, e2⟩ | ⟨t, cb, n, ht, ht2, rfl, hb, e1, e2⟩
  · have eb : FM_bad μ p1 p2 p3 = some (-1, μ) := by
      unfold FM_bad
      simp only [e2, sb, ↓reduceIte]
    unfold FR_X9_sew FM_sew
    simp only [e1, eb, sb, ocn, im1, ↓reduceIte]
    exact ⟨_, _, _, rfl, rfl, own, B, K, h⟩
  · have hcl := hb.2.2.2
    obtain ⟨rb, c9, -, c11⟩ := hcl.2.2.2.2.2.2.2.2
    have hn2 := hcl.2.2.2.2.2.2.2.1
    rcases lie_c hcl.1 hcl.2.2.2.1 hcl.2.2.2.2.2.1 p2 p3 μ with ⟨D, y1, y2⟩ | ⟨D, o, tw, ho6, htw, rfl, rfl, hm, hD, y1, y2⟩
    · have eb : FM_bad μ (nI t) p2 p3 = some (-2, mc μ 35 D) := by
        unfold FM_bad
        simp only [e2, sb, i10, ↓reduceIte, inb_nI ht2 (show 40 < 2 ^ 31 by decide), gdt, nI_clamp (show t < 2 ^ 31 by omega), y2]
      unfold FR_X9_sew FM_sew
      simp only [e1, eb, sb, ocs, hcl.1, gdt, y1, im2, ↓reduceIte]
      exact ⟨_, _, _, rfl, rfl, own, B, K, mc_inv h (by decide) (by decide) D⟩
    · obtain ⟨e, b, f, l, hM⟩ := h.2.2.2.2.2.1
      rcases fit_c hM hcl.1 c9 c11.1 c11.2.1 hn2 ht2 hb.2.2.1 with ⟨z1, z2⟩ | ⟨sl, s1, s2, z1, z2⟩
      · have z3 : FM_sleeveOf (mc μ 35 D) (nI t) = some (-3) := z2
        have eb : FM_bad μ (nI t) (nI o) (nI tw) = some (-3, mc μ 35 D) := by
          unfold FM_bad
          simp only [e2, sb, i10, ↓reduceIte, inb_nI ht2 (show 40 < 2 ^ 31 by decide), gdt, nI_clamp (show t < 2 ^ 31 by omega), y2, z3]
        unfold FR_X9_sew FM_sew
        simp only [e1, eb, sb, ocs, hcl.1, gdt, y1, i10, z1, im3, ↓reduceIte]
        exact ⟨_, _, _, rfl, rfl, own, B, K, mc_inv h (by decide) (by decide) D⟩
      · have ho := okl_e hM s1 s2 hn2
        obtain ⟨⟨thr, t1, t2, t3⟩, ⟨fo, f1, f2, f3⟩, -⟩ := h.2.2.2.2.2.2
        obtain ⟨rb', x, q, G, S, k1, k2, k3, k4, k5, k6, k7, k8, k9, k10⟩ := lay_bolt (tw := tw) h ht2 hb hM hm ho6 htw ho s2 t1 f1
        obtain ⟨μ1, v1, v2, v3, v4, v5⟩ := bad_D (p2 := nI o) (p3 := nI tw) k10 ht2 ⟨hM.1, hM.2.1, ⟨fit_len hM (p := 0) (by omega), fit_len hM (p := 1) (by omega), fit_len hM (p := 4) (by omega), fit_len hM (p := 5) (by omega)⟩, hM.2.2.2⟩ e2 y2 rfl htw hD hm z2 ho s2 hn2 (fun j hj => ⟨(k3 j hj).1, (k3 j hj).2.2⟩) t3 f3 t1 f1
        have i7 : rI (fitR ρ e sl) 907 = nI thr := t2
        have i8 : rI (fitR ρ e sl) 908 = nI fo := f2
        have K30 := h.2.2.1.1
        have r5 : rI (fitR ρ e sl) 905 = nI K := h.2.2.1.2.1
        have m6 : μ1.1 6 = nI K := by rw [v4]; exact h.2.2.1.2.2.1
        by_cases cK : K = 30
        · subst cK
          have n1 : ¬ nI 30 < (30 : Int32) := by decide
          have n2 : nI 30 = (30 : Int32) := by decide
          unfold FR_X9_sew FM_sew
          simp only [e1, v1, sb, ocs, hcl.1, gdt, y1, i10, z1, ↓reduceIte, r5, m6, n1, n2, if_neg n1]
          obtain ⟨μ2, u1, -, u3, -, -⟩ := bad_D (p2 := nI o) (p3 := nI tw) (fit_inv h hM.1.1 sl) ht2 ⟨hM.1, hM.2.1, ⟨fit_len hM (p := 0) (by omega), fit_len hM (p := 1) (by omega), fit_len hM (p := 4) (by omega), fit_len hM (p := 5) (by omega)⟩, hM.2.2.2⟩ e2 y2 rfl htw hD hm z2 ho s2 hn2 (fun j hj => ⟨(k3 j hj).1, (k3 j hj).2.2⟩) t3 f3 t1 f1
          rw [v1] at u1
          have u2 : μ1 = μ2 := congrArg Prod.snd (Option.some.inj u1)
          exact ⟨_, _, _, rfl, rfl, own, B, 30, u2 ▸ u3⟩
        · have hK : K < 30 := by omega
          have n1 : nI K < (30 : Int32) := nI_lt (b := 30) hK (by decide)
          have hbl : BoltL own (laS (fitR ρ e sl) rb' e (nI thr) (nI fo) G (nI tw) S) μ1 t cb n := by
            rcases v3.2.1.2.2.2 t ht2 with ⟨z, -⟩ | ⟨-, c', n', z⟩
            · rw [show rQ (laS (fitR ρ e sl) rb' e (nI thr) (nI fo) G (nI tw) S) 902 t = rQ ρ 902 t from rfl, hb.1] at z
              cases z
            · have z1 := z.1
              rw [show rQ (laS (fitR ρ e sl) rb' e (nI thr) (nI fo) G (nI tw) S) 902 t = rQ ρ 902 t from rfl, hb.1] at z1
              cases z1
              have z2 := z.2.2.1
              rw [v5 2 (by decide), hb.2.2.1] at z2
              have := (nI_eq (by omega) (by have := z.2.2.2.2.2.2.2.2.2.2.1; omega)).mp z2
              rw [this]
              exact z
          have hN1 : Low N (laS (fitR ρ e sl) rb' e (nI thr) (nI fo) G (nI tw) S) := hN.r rfl
          obtain ⟨g, cg, cR⟩ := sew_R (cb := cb) (t := t) hN1 k9 s2 hbl.2.2.2.1 k6 r5 hK ht2
          obtain ⟨μ', w1, w2⟩ := sew_fin v3 hN1 k9 v2 s2 hK ht hbl v1 (by rw [v4]; exact hM.2.2.2.1) (by rw [v4]; exact hM.2.2.2.2.1) (by rw [v4]; exact hM.2.2.2.2.2) cg
          refine ⟨_, _, μ', ?_, w1, w2⟩
          unfold FR_X9_sew
          rw [e1, sb, ocs, hcl.1, gdt, y1, sb, if_neg (show ¬ (1 : Int32) = 0 by decide), z1, sb, if_neg (show ¬ (1 : Int32) = 0 by decide), if_pos (by rw [r5]; exact n1), k4, gdt, k5, sb, k6, sb, i7, i8, k7, sb, k8, sb]
          exact cR
