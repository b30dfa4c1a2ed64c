def laS (ρ : RS) (rb e : Nat) (thr fo : Int32) (G : Nat → Int32) (tw : Int32) (S : Nat → Int32) : RS := rc (ri (rc (sprS ρ rb e thr fo) 204 G) 206 tw) 205 S
theorem laS_inv {own : Nat → Nat} {B K : Nat} {ρ : RS} {μ : MS} (h : InvO own B K ρ μ) (rb e : Nat) (thr fo : Int32) (G : Nat → Int32) (tw : Int32) (S : Nat → Int32) : InvO own B K (laS ρ rb e thr fo G tw S) μ := by
  obtain ⟨hT, hB, hR, hP, hC, hM, hS⟩ := h
  exact ⟨hT.fr rfl rfl rfl rfl, hB.fr rfl rfl (fun s _ => ag_sm rfl) rfl rfl rfl rfl rfl rfl, hR.fr rfl rfl (fun s _ _ => ag_sm rfl) rfl (fun _ _ _ => rfl), hP.fr rfl (fun s _ _ => ag_sm rfl) rfl rfl rfl rfl, hC.fr rfl (fun s _ _ => ag_sm rfl) rfl rfl, hM.fr rfl (ag_sm rfl) rfl rfl rfl, hS.fr rfl rfl rfl rfl rfl rfl rfl rfl rfl rfl⟩
/-- rows and lengths laid out so: what the class knows then -/
theorem laid_e {ρ : RS} {rb e n b sl f l o tw thr fo : Nat} {x s : Nat → Nat} (hk : isK ρ rb 11 = true) (hn : pN ρ rb = n) (hn2 : n ≤ 120) (hx : ∀ j, j < n → okr (x j) ∧ pA ρ rb j = nI (enc (x j))) (g2 : isK ρ e 11 = true) (g3 : pN ρ e = 6) (g4 : ∀ p, p < 6 → pA ρ e p = nI (lenP b sl f l p)) (ho : o < 1000000) (hinj : ∀ i j, i < 6 → j < 6 → dgN o i = dgN o j → i = j) (hsur : ∀ p, p < 6 → ∃ j, j < 6 ∧ dgN o j = p ∧ s p = stN (lenP b sl f l) (dgN o) j) (hs : ∀ p, p < 6 → s p + lenP b sl f l p ≤ n) (htw : tw < 64) (hthr : thr ≤ 9) (hfo : fo ≤ 9) (hok : okl b sl f l) :
    ∃ q G S, FR_X2_spread ρ rb e (nI thr) (nI fo) = some q ∧ FR_X2_lay q (nI o) (nI tw) = some (laS ρ rb e (nI thr) (nI fo) G (nI tw) S) ∧ LayV (laS ρ rb e (nI thr) (nI fo) G (nI tw) S) rb e n b sl f l s tw thr fo x (rA ρ 204 0) := by
  obtain ⟨G, G1, G2⟩ := spread_e (e := e) hk hn hn2 hx g2 g3 (nI thr) (nI fo)
  obtain ⟨S, S1, S2⟩ := lay_e (σ := rc (sprS ρ rb e (nI thr) (nI fo)) 204 G) (e := e) (b := b) (sl := sl) (f := f) (l := l) (o := o) rfl g2 g3 g4 ho hinj (nI tw)
  refine ⟨_, G, S, G2, S2, ⟨rfl, hk, hn, hx⟩, ⟨rfl, g2, g3, g4⟩, ⟨rfl, rfl, rfl, fun k hk => smZ_e g4 hok hk⟩, G1, fun p hp => ⟨?_, hs p hp⟩, hn2, htw, hthr, hfo, hok⟩
  obtain ⟨j, j1, j2, j3⟩ := hsur p hp
  show S p = nI (s p)
  rw [j3, ← S1 j j1, j2]
theorem dg1865 : ∀ j, j < 6 → dgN 1865 j = j := by decide
theorem st_fro {b sl f l : Nat} {d : Nat → Nat} (h : ∀ j, j < 6 → d j = j) {k : Nat} (hk : k ≤ 6) : stN (lenP b sl f l) d k = froP b sl f l k := by
  induction k with
  | zero => rfl
  | succ k ih =>
    show stN (lenP b sl f l) d k + lenP b sl f l (d k) = _
    rw [ih (by omega), h k (by omega), fro_s (by omega)]
theorem tnB_0 (p : Nat) : tnB 0 p = false := by
  unfold tnB
  rw [Nat.zero_div]
  rfl
theorem spreadRobe_e {own : Nat → Nat} {B K : Nat} {ρ : RS} {μ : MS} {r a c e b sl f l thr fo : Nat} (h : InvO own B K ρ μ) (hr : RobeL own ρ μ r a c e b sl f l) (h1 : rI ρ 907 = nI thr) (h2 : rI ρ 908 = nI fo) (hthr : thr ≤ 9) (hfo : fo ≤ 9) : ∃ x ρ' rr v0, (∀ t, t < 2 * b + 2 * sl + f + l → okr (x t) ∧ μ.2 14 (120 * r + t) = nI (x t)) ∧ FR_X9_spreadRobe ρ a = some ρ' ∧ InvO own B K ρ' μ ∧ LayV ρ' rr e (2 * b + 2 * sl + f + l) b sl f l (froP b sl f l) 0 thr fo x v0 := by
  obtain ⟨⟨r1, r2, r3, r4, r5⟩, -, ⟨c1, c2⟩, ⟨e1, e2⟩, -⟩ := hr
  obtain ⟨d1, -, -, -, -, -, -, d8, rr, d9, -, d11⟩ := c2
  obtain ⟨x, hx⟩ := d11.xs
  obtain ⟨q, G, S, l1, l2, l3⟩ := laid_e (o := 1865) (tw := 0) (s := froP b sl f l) (x := x) d11.1 d11.2.1 d8 (fun j hj => ⟨(hx j hj).1, (hx j hj).2.1⟩) e2.1 e2.2.2.1 (fun p hp => lenP_A e2 hp) (by decide) (fun i j hi hj hij => by rw [dg1865 i hi, dg1865 j hj] at hij; exact hij) (fun p hp => ⟨p, hp, dg1865 p hp, (st_fro dg1865 (by omega)).symm⟩) (fun p hp => by rw [fro_s hp]; exact fro_le) (by decide) hthr hfo r5
  refine ⟨x, _, rr, _, fun t ht => ⟨(hx t ht).1, (hx t ht).2.2⟩, ?_, laS_inv h _ _ _ _ _ _ _, l3⟩
  have l2 : FR_X2_lay q 1865 0 = _ := l2
  unfold FR_X9_spreadRobe
  simp only [r2, gdt, c1, sb, d1, d9, e1, h1, h2, l1, l2]
theorem looksV {own : Nat → Nat} {ρ : RS} {μ : MS} {r a c e b sl f l thr fo : Nat} {L Fr Rw : Nat → Int32} {x : Nat → Nat} (hr : RobeL own ρ μ r a c e b sl f l) (x1 : ∀ p, p < 6 → L p = nI (lenP b sl f l p)) (x2 : ∀ p, p < 6 → Fr p = nI (froP b sl f l p)) (x3 : ∀ j, j < 2 * b + 2 * sl + f + l → Rw j = μ.2 14 (120 * r + j)) (hx : ∀ t, t < 2 * b + 2 * sl + f + l → okr (x t) ∧ μ.2 14 (120 * r + t) = nI (x t)) (h1 : μ.1 24 = nI thr) (h2 : μ.1 25 = nI fo) (hthr : thr ≤ 9) (hfo : fo ≤ 9) : LookV (look μ L Fr Rw) b sl f l thr fo (yOf (froP b sl f l) b sl f l 0 x) := by
  refine ⟨x1, x2, fun p i hp hi => ?_, h1, h2, hthr, hfo, hr.1.2.2.2.2⟩
  have hlt : froP b sl f l p + i < 2 * b + 2 * sl + f + l := by
    have h3 := fro_s (b := b) (sl := sl) (f := f) (l := l) hp
    have h4 := fro_le (b := b) (sl := sl) (f := f) (l := l) (p := p + 1)
    omega
  have hy : yOf (froP b sl f l) b sl f l 0 x p i = x (froP b sl f l p + i) := by
    unfold yOf
    rw [tnB_0]
    rfl
  rw [hy]
  refine ⟨(hx _ hlt).1, ?_⟩
  show Rw (froP b sl f l p + i) = _
  rw [x3 _ hlt, (hx _ hlt).2]
theorem st_miss {ρ : RS} {μ : MS} (h : Inv ρ μ) (p1 : Int32) (p2 : Int32) : ∃ q ρ' μ', FR_X9_miss ρ p1 p2 = some (q, ρ') ∧ FM_miss μ p1 p2 = some (q, μ') ∧ Inv ρ' μ' := by
  obtain ⟨own, B, K, h⟩ := h
  unfold FR_X9_miss FM_miss
  rcases robe_c h p1 with ⟨e1, e2⟩ | ⟨i, a, c, e, b, sl, f, l, hi, hi2, rfl, hr, e1, e2⟩
  · simp only [e1, e2, sb, ocn, ↓reduceIte]
    exact ⟨_, _, _, rfl, rfl, own, B, K, h⟩
  · simp only [e1, e2, sb, ocs, i10, ↓reduceIte]
    rcases in_c (a := 0) (b := 4) p2 0 4 rfl rfl (by decide) (by decide) with ⟨k, -, hk, rfl, hw⟩ | hw
    · obtain ⟨⟨thr, t1, t2, t3⟩, ⟨fo, f1, f2, f3⟩, -⟩ := h.2.2.2.2.2.2
      obtain ⟨x, ρ', rr, v0, y1, y2, y3, y4⟩ := spreadRobe_e h hr t2 f2 t1 f1
      obtain ⟨L, Fr, Rw, x1, x2, x3, x4⟩ := looks_e hi2 hr
      have hV := looksV hr x1 x2 x3 y1 t3 f3 t1 f1
      have hI := look_inv y3 L Fr Rw
      simp only [w_in hw, m_in hw, sb, i10, ↓reduceIte, y2, x4, missOf_e y4 (show k < 5 by omega), seam_M hV (show k < 5 by omega)]
      exact ⟨_, _, _, rfl, rfl, own, B, K, hI⟩
    · simp only [w_out hw, m_out hw, sb, ↓reduceIte]
      exact ⟨_, _, _, rfl, rfl, own, B, K, h⟩
theorem st_robe {ρ : RS} {μ : MS} (h : Inv ρ μ) (p1 : Int32) (p2 : Int32) : ∃ q ρ' μ', FR_X9_robe ρ p1 p2 = some (q, ρ') ∧ FM_robe μ p1 p2 = some (q, μ') ∧ Inv ρ' μ' := by
  obtain ⟨own, B, K, h⟩ := h
  unfold FR_X9_robe FM_robe
  rcases robe_c h p1 with ⟨e1, e2⟩ | ⟨i, a, c, e, b, sl, f, l, hi, hi2, rfl, hr, e1, e2⟩
  · simp only [e1, e2, sb, ocn, ↓reduceIte]
    exact ⟨_, _, _, rfl, rfl, own, B, K, h⟩
  · simp only [e1, e2, sb, ocs, i10, ↓reduceIte]
    have hr0 := hr
    obtain ⟨⟨r1, r2, r3, r4, r5⟩, ⟨b1, b2, b3, b4⟩, ⟨c1, c2⟩, ⟨g1, g2⟩, hl, q1, u1⟩ := hr
    obtain ⟨h1, h2, h3, a0, a1, a2, a3, a4, a5⟩ := g2
    have g30 := inb_nI hi2 (show 30 < 2 ^ 31 by decide)
    have gi := nI_clamp (show i < 2 ^ 31 by omega)
    by_cases k0 : p2 = 0
    · simp only [if_pos k0, r2, gdt, c1, sb, c2.1, c2.2.2.1, g30, gi]
      exact ⟨_, _, _, rfl, rfl, own, B, K, h⟩
    · simp only [if_neg k0]
      by_cases k1 : p2 = 1
      · simp only [if_pos k1, r2, gdt, g1, sb, h1, h3, show inb (2 : Int32) 6 = true from rfl, show (2 : Int32).toNatClampNeg = 2 from rfl, a2, b4, g30, gi]
        exact ⟨_, _, _, rfl, rfl, own, B, K, h⟩
      · simp only [if_neg k1]
        by_cases k2 : p2 = 2
        · simp only [if_pos k2, r2, gdt, g1, sb, h1, h3, show inb (0 : Int32) 6 = true from rfl, show (0 : Int32).toNatClampNeg = 0 from rfl, a0, b1, g30, gi]
          exact ⟨_, _, _, rfl, rfl, own, B, K, h⟩
        · simp only [if_neg k2]
          by_cases k3 : p2 = 3
          · simp only [if_pos k3, r2, gdt, g1, sb, h1, h3, show inb (4 : Int32) 6 = true from rfl, show (4 : Int32).toNatClampNeg = 4 from rfl, a4, b2, g30, gi]
            exact ⟨_, _, _, rfl, rfl, own, B, K, h⟩
          · simp only [if_neg k3]
            by_cases k4 : p2 = 4
            · simp only [if_pos k4, r2, gdt, g1, sb, h1, h3, show inb (5 : Int32) 6 = true from rfl, show (5 : Int32).toNatClampNeg = 5 from rfl, a5, b3, g30, gi]
              exact ⟨_, _, _, rfl, rfl, own, B, K, h⟩
            · simp only [if_neg k4]
              by_cases k5 : p2 = 5
              · simp only [if_pos k5, r2, gdt, g30, gi]
                rcases hl with ⟨l1, l2⟩ | ⟨l1, d, l2, l3⟩
                · simp only [l1, ocn, if_pos l2]
                  exact ⟨_, _, _, rfl, rfl, own, B, K, h⟩
                · simp only [l2, ocs, if_neg (show ¬ μ.2 15 i = 0 by rw [l1]; decide)]
                  exact ⟨_, _, _, rfl, rfl, own, B, K, h⟩
              · simp only [if_neg k5]
                by_cases k6 : p2 = 6
                · unfold FR_X4_liningRows
                  simp only [if_pos k6, r2, gdt, g30, gi]
                  rcases hl with ⟨l1, l2⟩ | ⟨l1, d, l2, l3⟩
                  · simp only [l1, ocn, if_pos l2, sb]
                    exact ⟨_, _, _, rfl, rfl, own, B, K, h⟩
                  · obtain ⟨d1, -, -, -, -, -, -, -, rr, d9, -, d11⟩ := l3
                    simp only [l2, ocs, if_neg (show ¬ μ.2 15 i = 0 by rw [l1]; decide), rowsOf_e hi2 hr0, sb, d1, gdt, d9, d11.1, d11.2.1]
                    exact ⟨_, _, _, rfl, rfl, own, B, K, h⟩
                · simp only [if_neg k6]
                  by_cases k7 : p2 = 7
                  · simp only [if_pos k7, r2, gdt, g30, gi, q1.1]
                    exact ⟨_, _, _, rfl, rfl, own, B, K, h⟩
                  · simp only [if_neg k7]
                    by_cases k8 : p2 = 8
                    · simp only [if_pos k8, r2, gdt, g30, gi, u1.1]
                      exact ⟨_, _, _, rfl, rfl, own, B, K, h⟩
                    · simp only [if_neg k8]
                      by_cases k9 : p2 = 9
                      · obtain ⟨⟨thr, t1, t2, t3⟩, ⟨fo, f1, f2, f3⟩, -⟩ := h.2.2.2.2.2.2
                        obtain ⟨x, ρ', rr, v0, y1, y2, y3, y4⟩ := spreadRobe_e h hr0 t2 f2 t1 f1
                        obtain ⟨L, Fr, Rw, x1, x2, x3, x4⟩ := looks_e hi2 hr0
                        have hV := looksV hr0 x1 x2 x3 y1 t3 f3 t1 f1
                        have hI := look_inv y3 L Fr Rw
                        simp only [if_pos k9, y2, x4, sb, shown_R y4, shown_M hV]
                        exact ⟨_, _, _, rfl, rfl, own, B, K, hI⟩
                      · simp only [if_neg k9]
                        exact ⟨_, _, _, rfl, rfl, own, B, K, h⟩
