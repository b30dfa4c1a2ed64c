theorem bst_inv {own : Nat → Nat} {B K o tw : Nat} {ρ ρ' : RS} {μ μ' : MS} (h : InvO own B K ρ μ) (r : ∀ j, (j = 801 ∨ j = 903 ∨ j = 905 ∨ j = 907 ∨ j = 908) → rI ρ' j = rI ρ j) (ra8 : rA ρ' 800 = rA ρ 800) (ra1 : rA ρ' 101 = rA ρ 101) (rq : ∀ j, rQ ρ' j = rQ ρ j) (rv : rV ρ' 906 = rV ρ 906) (rp : ρ'.2.2.2.2 = ρ.2.2.2.2) (m1 : ∀ k, k ≠ 36 → k ≠ 37 → μ'.1 k = μ.1 k) (m2 : ∀ k, (k < 32 ∨ k = 43) → μ'.2 k = μ.2 k) (e1 : rI ρ' 911 = nI o) (e2 : rI ρ' 912 = nI tw) (e3 : μ'.1 36 = nI o) (e4 : μ'.1 37 = nI tw) (ho : o < 46656) : InvO own B K ρ' μ' := by
  obtain ⟨hT, hB, hR, hP, hC, hM, hS⟩ := h
  refine ⟨hT.fr (r _ (by omega)) ra8 (m1 _ (by decide) (by decide)) (m2 _ (by omega)), hB.fr (r _ (by omega)) (rq _) (fun s _ => ag_sm rp) (m1 _ (by decide) (by decide)) (m2 _ (by omega)) (m2 _ (by omega)) (m2 _ (by omega)) (m2 _ (by omega)) (m2 _ (by omega)), hR.fr (r _ (by omega)) (rq _) (fun s _ _ => ag_sm rp) (m1 _ (by decide) (by decide)) (fun k _ _ => m2 k (by omega)), hP.fr (rq _) (fun s _ _ => ag_sm rp) (m2 _ (by omega)) (m2 _ (by omega)) (m2 _ (by omega)) (m2 _ (by omega)), hC.fr (rq _) (fun s _ _ => ag_sm rp) (m2 _ (by omega)) (m2 _ (by omega)), hM.fr rv (ag_sm rp) (m1 _ (by decide) (by decide)) (m1 _ (by decide) (by decide)) (m1 _ (by decide) (by decide)), ?_⟩
  obtain ⟨⟨t, t1, t2, t3⟩, ⟨f, f1, f2, f3⟩, -, s4⟩ := hS
  refine ⟨⟨t, t1, (r _ (by omega)).trans t2, (m1 _ (by decide) (by decide)).trans t3⟩, ⟨f, f1, (r _ (by omega)).trans f2, (m1 _ (by decide) (by decide)).trans f3⟩, Or.inr ⟨?_, by rw [e1, e3], by rw [e2, e4]⟩, fun p hp => ?_⟩
  · rw [e3]
    exact z_m1 (by omega)
  · rw [ra1, m2 43 (by omega)]
    exact s4 p hp
theorem best63 {σ : RS} {rb e n b sl f l thr fo : Nat} {x : Nat → Nat} {v0 : Int32} (ow : Bool) (hS : SprV σ rb e n b sl f l thr fo x v0) : ∃ σ' q, FR_X9_best_63 (if ow = true then 1 else 0) σ = some (nI q.1, σ') ∧ (enum 6 0 0).foldl (stp (EO thr fo b sl f l x ow) (TO thr b sl f l x ow)) none = some q ∧ q.2.1 < 46656 ∧ rI σ' 911 = nI q.2.1 ∧ rI σ' 912 = nI q.2.2 ∧ (∀ j, (j = 801 ∨ j = 903 ∨ j = 905 ∨ j = 907 ∨ j = 908) → rI σ' j = rI σ j) ∧ (∀ j, (j = 800 ∨ j = 101) → rA σ' j = rA σ j) ∧ σ'.2.2 = σ.2.2 := by
  obtain ⟨σ1, q, z1, z2, z3, z4, z5, z6, z7, z8, z9⟩ := findB_e ow hS
  refine ⟨ri (ri σ1 911 (nI q.2.1)) 912 (nI q.2.2), q, ?_, z2, z3, ?_, ?_, fun j hj => ?_, fun j hj => ?_, z9⟩
  · unfold FR_X9_best_63
    rw [z1, sb, z5]
    have e9 : rI (ri σ1 911 (nI q.2.1)) 709 = nI q.2.2 := by rw [qrI_ri, if_neg (by decide)]; exact z6
    have e7 : rI (ri (ri σ1 911 (nI q.2.1)) 912 (nI q.2.2)) 707 = nI q.1 := by rw [qrI_ri, if_neg (by decide), qrI_ri, if_neg (by decide)]; exact z4
    rw [e9, e7]
  · rw [qrI_ri, if_neg (by decide), qrI_ri, if_pos rfl]
  · rw [qrI_ri, if_pos rfl]
  · rw [qrI_ri, if_neg (by omega), qrI_ri, if_neg (by omega)]
    exact z7 j (by omega) (by omega) (by omega) (by omega)
  · show rA σ1 j = _
    exact z8 j (by omega) (by omega) (by omega) (by omega) (by omega) (by omega)
theorem st_best {ρ : RS} {μ : MS} (h : Inv ρ μ) (p1 : Int32) : ∃ q ρ' μ', FR_X9_best ρ p1 = some (q, ρ') ∧ FM_best μ p1 = some (q, μ') ∧ Inv ρ' μ' := by
  obtain ⟨own, B, K, h⟩ := h
  rcases bolt_c h p1 with ⟨e1, e2⟩ | ⟨t, cb, n, ht, ht2, rfl, hb, e1, e2⟩
  · unfold FR_X9_best FM_best
    rw [e1, sb, ocn, e2, sb, if_pos rfl]
    exact ⟨_, _, _, rfl, rfl, own, B, K, h⟩
  · have hcl := hb.2.2.2
    obtain ⟨rb, c9, c10, c11⟩ := hcl.2.2.2.2.2.2.2.2
    have hn2 := hcl.2.2.2.2.2.2.2.1
    obtain ⟨e, b, f, l, hM⟩ := h.2.2.2.2.2.1
    rcases fit_c hM hcl.1 c9 c11.1 c11.2.1 hn2 ht2 hb.2.2.1 with ⟨z1, z2⟩ | ⟨sl, s1, s2, z1, z2⟩
    · unfold FR_X9_best FM_best
      rw [e1, sb, ocs, z1, sb, e2, sb, if_neg (show ¬ (1 : Int32) = 0 by decide), z2, sb]
      refine ⟨-3, ρ, μ, if_pos rfl, if_pos rfl, own, B, K, h⟩
    · have ho := okl_e hM s1 s2 hn2
      obtain ⟨⟨thr, t1, t2, t3⟩, ⟨fo, f1, f2, f3⟩, -⟩ := h.2.2.2.2.2.2
      obtain ⟨x, hx⟩ := c11.xs
      have hne : rb ≠ e := fun z => by
        have := hM.1.2.2.1
        rw [← z, c10] at this
        omega
      have hA : pA (fitR ρ e sl) rb = pA ρ rb := by rw [fitR_wc, qpA_wc, if_neg hne]
      obtain ⟨G, G1, G2⟩ := spread_e (ρ := fitR ρ e sl) (e := e) c11.1 c11.2.1 hn2 (fun j hj => ⟨(hx j hj).1, by rw [hA]; exact (hx j hj).2.1⟩) hM.1.2.1 hM.1.2.2.2 (nI thr) (nI fo)
      have hSp : SprV (rc (sprS (fitR ρ e sl) rb e (nI thr) (nI fo)) 204 G) rb e n b sl f l thr fo x (rA (fitR ρ e sl) 204 0) := ⟨⟨rfl, c11.1, c11.2.1, fun j hj => ⟨(hx j hj).1, by
        show pA (fitR ρ e sl) rb j = _
        rw [hA]
        exact (hx j hj).2.1⟩⟩, ⟨rfl, hM.1.2.1, hM.1.2.2.2, fun p hp => fit_len hM hp⟩, ⟨rfl, rfl, fun k hk => smZ_e (fun p hp => fit_len hM hp) ho hk⟩, G1, hn2, t1, f1, ho, s2⟩
      obtain ⟨ow, hway, hway2⟩ : ∃ ow : Bool, μ.2 4 t = (if ow = true then 1 else 0) ∧ (ow = true ↔ μ.2 4 t = 1) := by
        rcases hcl.2.2.2.2.2.1 with w | w
        · exact ⟨false, by rw [w]; rfl, by rw [w]; decide⟩
        · exact ⟨true, by rw [w]; rfl, by rw [w]; decide⟩
      obtain ⟨σ', q, y1, y2, y3, y4, y5, y6, y7, y8⟩ := best63 ow hSp
      obtain ⟨μ', w1, w2, w3, w4⟩ := best_M (ow := ow) (x := x) ht2 hn2 s2 ho (fun j hj => ⟨(hx j hj).1, (hx j hj).2.2⟩) t3 f3 t1 f1 hway e2 z2 hM.2.2.2.1 hM.2.2.2.2.1 hM.2.2.2.2.2
      rw [y2] at w1 w4
      obtain ⟨v1, v2, -⟩ := w4 q rfl
      have i7 : rI (fitR ρ e sl) 907 = nI thr := t2
      have i8 : rI (fitR ρ e sl) 908 = nI fo := f2
      have k4 : isK (fitR ρ e sl) cb 0 = true := hcl.1
      have k5 : pR (fitR ρ e sl) cb 0 = some rb := c9
      have k6 : rV (fitR ρ e sl) 906 = some e := hM.1.1
      have k7 : isK (rc (sprS (fitR ρ e sl) rb e (nI thr) (nI fo)) 204 G) cb 0 = true := hcl.1
      have k8 : pI (rc (sprS (fitR ρ e sl) rb e (nI thr) (nI fo)) 204 G) cb 2 = μ.2 4 t := hcl.2.2.2.1
      refine ⟨nI q.1, σ', μ', ?_, w1, own, B, K, bst_inv (fit_inv h hM.1.1 sl) (fun j hj => (y6 j hj).trans ?_) ((y7 800 (by omega)).trans ?_) ((y7 101 (by omega)).trans ?_) (fun j => ?_) ?_ ?_ w2 w3 y4 y5 v1 v2 y3⟩
      · unfold FR_X9_best
        rw [e1, sb, ocs, z1, sb, if_neg (show ¬ (1 : Int32) = 0 by decide), k4, gdt, k5, sb, k6, sb, i7, i8, G2, sb, k7, gdt, k8]
        by_cases c : μ.2 4 t = 1
        · rw [if_pos c]
          have := hway2.mpr c
          subst this
          exact y1
        · rw [if_neg c]
          have : ow = false := Bool.eq_false_iff.mpr (fun z => c (hway2.mp z))
          subst this
          exact y1
      · rcases hj with rfl | rfl | rfl | rfl | rfl <;> rfl
      · rfl
      · rfl
      · unfold rQ
        rw [y8]
        rfl
      · unfold rV
        rw [y8]
        rfl
      · rw [y8]
        rfl
