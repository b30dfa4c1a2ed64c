/-- a bolt laid out in the class, once its sleeves fit -/
theorem lay_bolt {own : Nat → Nat} {B K : Nat} {ρ : RS} {μ : MS} {t cb n e b sl f l o tw thr fo : Nat} (h : InvO own B K ρ μ) (ht : t < 40) (hb : BoltL own ρ μ t cb n) (hM : MeasV own ρ μ e b f l) (hm : mR_ o 6 = 63) (ho6 : o < 46656) (htw : tw < 64) (ho : okl b sl f l) (hn : 2 * b + 2 * sl + f + l = n) (hthr : thr ≤ 9) (hfo : fo ≤ 9) :
    ∃ rb x q G S, pR ρ cb 0 = some rb ∧ own rb = 2 * t + 1 ∧ (∀ j, j < n → okr (x j) ∧ pA ρ rb j = nI (enc (x j)) ∧ μ.2 5 (120 * t + j) = nI (x j)) ∧ isK (fitR ρ e sl) cb 0 = true ∧ pR (fitR ρ e sl) cb 0 = some rb ∧ rV (fitR ρ e sl) 906 = some e ∧ FR_X2_spread (fitR ρ e sl) rb e (nI thr) (nI fo) = some q ∧ FR_X2_lay q (nI o) (nI tw) = some (laS (fitR ρ e sl) rb e (nI thr) (nI fo) G (nI tw) S) ∧ LayV (laS (fitR ρ e sl) rb e (nI thr) (nI fo) G (nI tw) S) rb e n b sl f l (sOf b sl f l o) tw thr fo x (rA (fitR ρ e sl) 204 0) ∧ InvO own B K (laS (fitR ρ e sl) rb e (nI thr) (nI fo) G (nI tw) S) μ := by
  obtain ⟨-, -, -, c1, -, -, -, -, -, -, c8, rb, c9, c10, c11⟩ := hb
  obtain ⟨x, hx⟩ := c11.xs
  have hne : rb ≠ e := fun z => by
    have := hM.1.2.2.1
    rw [← z, c10] at this
    omega
  have hA : pA (fitR ρ e sl) rb = pA ρ rb := by rw [fitR_wc, qpA_wc, if_neg hne]
  obtain ⟨q, G, S, l1, l2, l3⟩ := laid_e (ρ := fitR ρ e sl) (rb := rb) (e := e) (n := n) (b := b) (sl := sl) (f := f) (l := l) (o := o) (tw := tw) (thr := thr) (fo := fo) (x := x) (s := sOf b sl f l o) c11.1 c11.2.1 c8 (fun j hj => ⟨(hx j hj).1, by rw [hA]; exact (hx j hj).2.1⟩) hM.1.2.1 hM.1.2.2.2 (fun p hp => fit_len hM hp) (by omega) (inj_e hm) (fun p hp => by
    obtain ⟨j1, j2⟩ := jOf_e (surj_e hm hp)
    exact ⟨_, j1, j2, rfl⟩) (fun p hp => by rw [← hn]; exact sOf_le hm hp) htw hthr hfo ho
  exact ⟨rb, x, q, G, S, c9, c10, fun j hj => ⟨(hx j hj).1, (hx j hj).2.1, (hx j hj).2.2⟩, c1, c9, hM.1.1, l1, l2, l3, laS_inv (fit_inv h hM.1.1 sl) _ _ _ _ _ _ _⟩
theorem okl_e {own : Nat → Nat} {ρ : RS} {μ : MS} {e b f l sl n : Nat} (hM : MeasV own ρ μ e b f l) (h1 : 1 ≤ sl) (hn : 2 * b + 2 * sl + f + l = n) (hn2 : n ≤ 120) : okl b sl f l := by
  obtain ⟨-, ⟨b1, b2, b3, b4, b5, b6⟩, -⟩ := hM
  exact ⟨b1, b2, h1, b3, b4, b5, b6, by omega⟩
theorem st_ugly {ρ : RS} {μ : MS} (h : Inv ρ μ) (p1 : Int32) (p2 : Int32) (p3 : Int32) : ∃ q ρ' μ', FR_X9_ugly ρ p1 p2 p3 = some (q, ρ') ∧ FM_ugly μ p1 p2 p3 = some (q, μ') ∧ Inv ρ' μ' := by
  obtain ⟨own, B, K, h⟩ := h
  unfold FR_X9_ugly FM_ugly
  rcases bolt_c h p1 with ⟨e1, e2⟩ | ⟨t, cb, n, ht, ht2, rfl, hb, e1, e2⟩
  · have eb : FM_bad μ p1 p2 p3 = some (-1, μ) := by
      unfold FM_bad
      simp only [e2, sb, ↓reduceIte]
    simp only [e1, eb, sb, ocn, im1, ↓reduceIte]
    exact ⟨_, _, _, rfl, rfl, own, B, K, h⟩
  · have hcl := hb.2.2.2
    obtain ⟨rb, c9, -, c11⟩ := hcl.2.2.2.2.2.2.2.2
    have hn2 := hcl.2.2.2.2.2.2.2.1
    rcases lie_c hcl.1 hcl.2.2.2.1 hcl.2.2.2.2.2.1 p2 p3 μ with ⟨D, y1, y2⟩ | ⟨D, o, tw, ho6, htw, rfl, rfl, hm, hD, y1, y2⟩
    · have eb : FM_bad μ (nI t) p2 p3 = some (-2, mc μ 35 D) := by
        unfold FM_bad
        simp only [e2, sb, i10, ↓reduceIte, inb_nI ht2 (show 40 < 2 ^ 31 by decide), gdt, nI_clamp (show t < 2 ^ 31 by omega), y2]
      simp only [e1, eb, sb, ocs, hcl.1, gdt, y1, im2, ↓reduceIte]
      exact ⟨_, _, _, rfl, rfl, own, B, K, mc_inv h (by decide) (by decide) D⟩
    · obtain ⟨e, b, f, l, hM⟩ := h.2.2.2.2.2.1
      rcases fit_c hM hcl.1 c9 c11.1 c11.2.1 hn2 ht2 hb.2.2.1 with ⟨z1, z2⟩ | ⟨sl, s1, s2, z1, z2⟩
      · have z3 : FM_sleeveOf (mc μ 35 D) (nI t) = some (-3) := z2
        have eb : FM_bad μ (nI t) (nI o) (nI tw) = some (-3, mc μ 35 D) := by
          unfold FM_bad
          simp only [e2, sb, i10, ↓reduceIte, inb_nI ht2 (show 40 < 2 ^ 31 by decide), gdt, nI_clamp (show t < 2 ^ 31 by omega), y2, z3]
        simp only [e1, eb, sb, ocs, hcl.1, gdt, y1, i10, z1, im3, ↓reduceIte]
        exact ⟨_, _, _, rfl, rfl, own, B, K, mc_inv h (by decide) (by decide) D⟩
      · have ho := okl_e hM s1 s2 hn2
        obtain ⟨⟨thr, t1, t2, t3⟩, ⟨fo, f1, f2, f3⟩, -⟩ := h.2.2.2.2.2.2
        obtain ⟨rb', x, q, G, S, k1, k2, k3, k4, k5, k6, k7, k8, k9, k10⟩ := lay_bolt (tw := tw) h ht2 hb hM hm ho6 htw ho s2 t1 f1
        obtain ⟨μ', v1, v2, v3, -, -⟩ := bad_D (p2 := nI o) (p3 := nI tw) k10 ht2 ⟨hM.1, hM.2.1, ⟨fit_len hM (p := 0) (by omega), fit_len hM (p := 1) (by omega), fit_len hM (p := 4) (by omega), fit_len hM (p := 5) (by omega)⟩, hM.2.2.2⟩ e2 y2 rfl htw hD hm z2 ho s2 hn2 (fun j hj => ⟨(k3 j hj).1, (k3 j hj).2.2⟩) t3 f3 t1 f1
        have i7 : rI (fitR ρ e sl) 907 = nI thr := t2
        have i8 : rI (fitR ρ e sl) 908 = nI fo := f2
        simp only [e1, v1, sb, ocs, hcl.1, gdt, y1, i10, z1, ↓reduceIte, k4, k5, k6, i7, i8, k7, k8, ugly_R k9, ugly_M v2]
        exact ⟨_, _, _, rfl, rfl, own, B, K, v3⟩
