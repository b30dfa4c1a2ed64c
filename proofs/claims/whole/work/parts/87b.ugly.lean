theorem fro_mono {b sl f l p : Nat} : ∀ d, p + d ≤ 6 → froP b sl f l p ≤ froP b sl f l (p + d)
  | 0, _ => Nat.le_refl _
  | d + 1, h => by
    have h1 := fro_mono (b := b) (sl := sl) (f := f) (l := l) (p := p) d (by omega)
    have h2 := fro_s (b := b) (sl := sl) (f := f) (l := l) (show p + d < 6 by omega)
    show froP b sl f l p ≤ froP b sl f l (p + d + 1)
    omega
theorem fro_dis {b sl f l p q u : Nat} (hp : p < 6) (hq : q < 6) (hne : p ≠ q) (hu : u < lenP b sl f l p) : froP b sl f l p + u < froP b sl f l q ∨ froP b sl f l q + lenP b sl f l q ≤ froP b sl f l p + u := by
  have h1 := fro_s (b := b) (sl := sl) (f := f) (l := l) hp
  have h2 := fro_s (b := b) (sl := sl) (f := f) (l := l) hq
  by_cases c : p < q
  · have h3 := fro_mono (b := b) (sl := sl) (f := f) (l := l) (p := p + 1) (q - (p + 1)) (by omega)
    rw [show p + 1 + (q - (p + 1)) = q by omega] at h3
    omega
  · have h3 := fro_mono (b := b) (sl := sl) (f := f) (l := l) (p := q + 1) (p - (q + 1)) (by omega)
    rw [show q + 1 + (p - (q + 1)) = p by omega] at h3
    omega
theorem lays36 {σ : MS} {t n b sl f l tw p st : Nat} {x : Nat → Nat} {x4 : Int32} (ht : t < 40) (hn : n ≤ 120) (hF : σ.2 33 p = nI (froP b sl f l p)) (hx : ∀ j, j < n → σ.2 5 (120 * t + j) = nI (x j)) (hp : p < 6) (htw : tw < 64) (hst : st + lenP b sl f l p ≤ n) (ho : okl b sl f l) {K : MS → Option MS} : ∀ d i fuel R, i + d = lenP b sl f l p → d < fuel → (∀ u, u < i → R (froP b sl f l p + u) = nI (x (dirP st (lenP b sl f l p) (tnB tw p) u))) → ∃ R', (∀ u, u < lenP b sl f l p → R' (froP b sl f l p + u) = nI (x (dirP st (lenP b sl f l p) (tnB tw p) u))) ∧ (∀ j, (j < froP b sl f l p ∨ froP b sl f l p + lenP b sl f l p ≤ j) → R' j = R j) ∧ FM_lays_36 K (nI tw) (nI (120 * t + st)) x4 (nI p) (nI (lenP b sl f l p)) fuel (nI i) (mc σ 34 R) = K (mc σ 34 R') := by
  intro d
  have hfl := fl_le hp ho
  have a33 : ∀ R, (mc σ 34 R).2 33 p = nI (froP b sl f l p) := fun R => hF
  have a5 : ∀ R, (mc σ 34 R).2 5 = σ.2 5 := fun R => rfl
  induction d with
  | zero =>
    intro i fuel R hi hf hR
    obtain ⟨f1, rfl⟩ : ∃ f, fuel = f + 1 := ⟨fuel - 1, by omega⟩
    refine ⟨R, fun u hu => hR u (by omega), fun _ _ => rfl, ?_⟩
    rw [FM_lays_36, if_pos (nI_le (by omega) (by omega))]
  | succ d ih =>
    intro i fuel R hi hf hR
    obtain ⟨f1, rfl⟩ : ∃ f, fuel = f + 1 := ⟨fuel - 1, by omega⟩
    have n1 : ¬ nI (lenP b sl f l p) ≤ nI i := nI_ge (by omega) (by omega)
    have hdir : dirP st (lenP b sl f l p) (tnB tw p) i < n := by unfold dirP; split <;> omega
    obtain ⟨R', r1, r2, r3⟩ := ih (i + 1) f1 (upd R (froP b sl f l p + i) (nI (x (dirP st (lenP b sl f l p) (tnB tw p) i)))) (by omega) (by omega) (fun u hu => by
      by_cases c : u = i
      · subst c; exact upd_s _ _ _
      · rw [upd_n (by omega)]; exact hR u (by omega))
    refine ⟨R', r1, fun j hj => (r2 j hj).trans (upd_n (by omega)), ?_⟩
    rw [← r3]
    have st2 : ∀ v, sa (mc σ 34 R) 34 (nI (froP b sl f l p + i)) v = mc σ 34 (upd R (froP b sl f l p + i) v) := fun v => by
      rw [sa_mc, mc_mc, nI_clamp (by omega)]
      rfl
    rw [FM_lays_36]
    unfold FM_lays_84
    have e1 : nI (lenP b sl f l p) - 1 - nI i = nI (lenP b sl f l p - 1 - i) := by rw [show nI (lenP b sl f l p) - 1 = nI (lenP b sl f l p - 1) from z_sub (b := 1) (by omega), z_sub (by omega)]
    simp only [if_neg n1, inb_nI hp (show 6 < 2 ^ 31 by decide), gdt, turn_t tw htw p hp, nI_clamp (show p < 2 ^ 31 by omega), a33, a5, nI_add, e1, nI_1, inb_nI (show froP b sl f l p + i < 120 by omega) (show 120 < 2 ^ 31 by decide), st2]
    by_cases c : tw / 2 ^ p % 2 = 1
    · have hd : dirP st (lenP b sl f l p) (tnB tw p) i = st + (lenP b sl f l p - 1 - i) := by unfold dirP tnB; rw [decide_eq_true c]; rfl
      rw [hd] at hdir ⊢
      rw [if_pos c, if_pos rfl, gd_t (inb_nI (show 120 * t + st + (lenP b sl f l p - 1 - i) < 4800 by omega) (by decide)), nI_clamp (by omega), Nat.add_assoc (120 * t), hx _ hdir]
    · have hd : dirP st (lenP b sl f l p) (tnB tw p) i = st + i := by unfold dirP tnB; rw [decide_eq_false c]; rfl
      rw [hd] at hdir ⊢
      rw [if_neg c, if_neg (show ¬ (0 : Int32) = 1 from by decide), gd_t (inb_nI (show 120 * t + st + i < 4800 by omega) (by decide)), nI_clamp (by omega), Nat.add_assoc (120 * t), hx _ hdir]
theorem lays8 {σ : MS} {t n b sl f l tw o : Nat} {x : Nat → Nat} (ht : t < 40) (hn : n ≤ 120) (hnn : 2 * b + 2 * sl + f + l ≤ n) (hL : ∀ p, p < 6 → σ.2 32 p = nI (lenP b sl f l p)) (hF : ∀ p, p < 6 → σ.2 33 p = nI (froP b sl f l p)) (hD : ∀ k, k < 6 → σ.2 35 k = nI (dgN o k)) (hx : ∀ j, j < n → σ.2 5 (120 * t + j) = nI (x j)) (htw : tw < 64) (ho : okl b sl f l) (hinj : ∀ i j, i < 6 → j < 6 → dgN o i = dgN o j → i = j) : ∀ d k fuel R, k + d = 6 → d < fuel → (∀ j, j < k → ∀ u, u < lenP b sl f l (dgN o j) → R (froP b sl f l (dgN o j) + u) = nI (x (dirP (stN (lenP b sl f l) (dgN o) j) (lenP b sl f l (dgN o j)) (tnB tw (dgN o j)) u))) → ∃ R', (∀ j, j < 6 → ∀ u, u < lenP b sl f l (dgN o j) → R' (froP b sl f l (dgN o j) + u) = nI (x (dirP (stN (lenP b sl f l) (dgN o) j) (lenP b sl f l (dgN o j)) (tnB tw (dgN o j)) u))) ∧ FM_lays_8 (nI tw) fuel (nI (120 * t + stN (lenP b sl f l) (dgN o) k)) (nI k) (mc σ 34 R) = some (mc σ 34 R') := by
  intro d
  have hfu := fu_pos
  have a35 : ∀ R k, k < 6 → (mc σ 34 R).2 35 k = nI (dgN o k) := fun R k hk => hD k hk
  have a32 : ∀ R p, p < 6 → (mc σ 34 R).2 32 p = nI (lenP b sl f l p) := fun R p hp => hL p hp
  induction d with
  | zero =>
    intro k fuel R hk hf hR
    obtain ⟨f1, rfl⟩ : ∃ f, fuel = f + 1 := ⟨fuel - 1, by omega⟩
    have e : k = 6 := by omega
    subst e
    refine ⟨R, hR, ?_⟩
    rw [FM_lays_8, if_pos (show (6 : Int32) ≤ nI 6 from by decide)]
  | succ d ih =>
    intro k fuel R hk hf hR
    obtain ⟨f1, rfl⟩ : ∃ f, fuel = f + 1 := ⟨fuel - 1, by omega⟩
    have n1 : ¬ (6 : Int32) ≤ nI k := nI_ge (b := 6) (by omega) (by decide)
    have hd6 := dg_lt o k
    have hst : stN (lenP b sl f l) (dgN o) k + lenP b sl f l (dgN o k) ≤ n := Nat.le_trans (stN_le hinj (k := k + 1) (by omega)) hnn
    have hfl := fl_le hd6 ho
    obtain ⟨R1, r1, r2, r3⟩ := lays36 (t := t) (n := n) (tw := tw) (p := dgN o k) (st := stN (lenP b sl f l) (dgN o) k) (x := x) (x4 := nI k) ht hn (hF _ hd6) hx hd6 htw hst ho (K := fun σ_93 => FM_lays_93 (fun x3_8 x4_8 σ_8 => FM_lays_8 (nI tw) f1 x3_8 x4_8 σ_8) (nI tw) (nI (120 * t + stN (lenP b sl f l) (dgN o) k)) (nI k) (nI (lenP b sl f l (dgN o k))) σ_93) (lenP b sl f l (dgN o k)) 0 fu R (by omega) (by omega) (fun u hu => absurd hu (Nat.not_lt_zero u))
    obtain ⟨R', s1, s2⟩ := ih (k + 1) f1 R1 (by omega) (by omega) (fun j hj u hu => by
      by_cases c : j = k
      · subst c; exact r1 u hu
      · have hne : dgN o j ≠ dgN o k := fun z => c (hinj j k (by omega) (by omega) z)
        rw [r2 _ (fro_dis (dg_lt o j) hd6 hne hu)]
        exact hR j (by omega) u hu)
    refine ⟨R', s1, ?_⟩
    rw [FM_lays_8]
    simp only [if_neg n1, inb_nI (show k < 6 by omega) (show 6 < 2 ^ 31 by decide), gdt, nI_clamp (show k < 2 ^ 31 by omega), a35 R k (by omega), inb_nI hd6 (show 6 < 2 ^ 31 by decide), nI_clamp (show dgN o k < 2 ^ 31 by omega), a32 R _ hd6]
    refine Eq.trans r3 ?_
    unfold FM_lays_93
    rw [nI_add, nI_1, Nat.add_assoc]
    exact s2
theorem scrM_inv {own : Nat → Nat} {B K : Nat} {ρ : RS} {μ μ' : MS} (h : InvO own B K ρ μ) (h1 : μ'.1 = μ.1) (h2 : ∀ k, k < 32 → μ'.2 k = μ.2 k) (h3 : μ'.2 43 = μ.2 43) : InvO own B K ρ μ' := by
  obtain ⟨hT, hB, hR, hP, hC, hM, hS⟩ := h
  exact ⟨hT.fr rfl rfl (by rw [h1]) (h2 _ (by omega)), hB.fr rfl rfl (fun s _ => ag_sm rfl) (by rw [h1]) (h2 _ (by omega)) (h2 _ (by omega)) (h2 _ (by omega)) (h2 _ (by omega)) (h2 _ (by omega)), hR.fr rfl rfl (fun s _ _ => ag_sm rfl) (by rw [h1]) (fun k _ _ => h2 k (by omega)), hP.fr rfl (fun s _ _ => ag_sm rfl) (h2 _ (by omega)) (h2 _ (by omega)) (h2 _ (by omega)) (h2 _ (by omega)), hC.fr rfl (fun s _ _ => ag_sm rfl) (h2 _ (by omega)) (h2 _ (by omega)), hM.fr rfl (ag_sm rfl) (by rw [h1]) (by rw [h1]) (by rw [h1]), hS.fr rfl rfl rfl rfl rfl (by rw [h1]) (by rw [h1]) (by rw [h1]) (by rw [h1]) h3⟩
theorem mc_inv {own : Nat → Nat} {B K : Nat} {ρ : RS} {μ : MS} (h : InvO own B K ρ μ) {k : Nat} (h1 : 32 ≤ k) (h2 : k ≠ 43) (g : Nat → Int32) : InvO own B K ρ (mc μ k g) := scrM_inv h rfl (fun j hj => by rw [m2_mc, if_neg (by omega)]) (by rw [m2_mc, if_neg (fun z => h2 z.symm)])
/-- all that the reference does before it takes a laying: refused, or laid -/
theorem bad_D {own : Nat → Nat} {B K : Nat} {ρ : RS} {μ : MS} {t n e b sl f l o tw thr fo : Nat} {D : Nat → Int32} {p2 p3 : Int32} {x : Nat → Nat} (h : InvO own B K ρ μ) (ht : t < 40) (hM : MeasV own ρ μ e b f l) (hth : FM_isThere μ (nI t) = some 1) (hl : FM_isLaying μ p2 p3 (μ.2 4 t) = some (1, mc μ 35 D)) (hp3 : p3 = nI tw) (htw : tw < 64) (hD : ∀ k, k < 6 → D k = nI (dgN o k)) (hm : mR_ o 6 = 63) (hsl : FM_sleeveOf μ (nI t) = some (nI sl)) (ho : okl b sl f l) (hn : 2 * b + 2 * sl + f + l = n) (hn2 : n ≤ 120) (hx : ∀ j, j < n → okr (x j) ∧ μ.2 5 (120 * t + j) = nI (x j)) (h24 : μ.1 24 = nI thr) (h25 : μ.1 25 = nI fo) (hthr : thr ≤ 9) (hfo : fo ≤ 9) : ∃ μ', FM_bad μ (nI t) p2 p3 = some (0, μ') ∧ LookV μ' b sl f l thr fo (yOf (sOf b sl f l o) b sl f l tw x) ∧ InvO own B K ρ μ' ∧ μ'.1 = μ.1 ∧ (∀ k, k < 32 → μ'.2 k = μ.2 k) := by
  have hfu := fu_pos
  obtain ⟨L, Fr, x1, x2, x3⟩ := lengths_e (mc μ 35 D) b sl f l
  obtain ⟨R, r1, r2⟩ := lays8 (σ := mc (mc (mc μ 35 D) 32 L) 33 Fr) (t := t) (n := n) (tw := tw) (o := o) (x := x) ht hn2 (by omega) x1 x2 hD (fun j hj => (hx j hj).2) htw ho (inj_e hm) 6 0 fu ((mc (mc (mc μ 35 D) 32 L) 33 Fr).2 34) (by omega) (by omega) (fun j hj => absurd hj (Nat.not_lt_zero j))
  rw [mc_self] at r2
  have e1 : FM_lays (mc (mc (mc μ 35 D) 32 L) 33 Fr) (nI t) (nI tw) = some (mc (mc (mc (mc μ 35 D) 32 L) 33 Fr) 34 R) := by
    unfold FM_lays
    rw [show (120 : Int32) * nI t = nI (120 * t) from pk_mul 120 t]
    exact r2
  have e2 : FM_sleeveOf (mc μ 35 D) (nI t) = some (nI sl) := hsl
  have m21 : (mc μ 35 D).1 21 = nI b := hM.2.2.2.1
  have m22 : (mc μ 35 D).1 22 = nI f := hM.2.2.2.2.1
  have m23 : (mc μ 35 D).1 23 = nI l := hM.2.2.2.2.2
  have hsl3 : ¬ nI sl = (-3 : Int32) := by
    intro z
    have z1 := congrArg Int32.toInt z
    rw [nI_toInt (by omega), show (-3 : Int32).toInt = -3 from by decide] at z1
    omega
  refine ⟨mc (mc (mc (mc μ 35 D) 32 L) 33 Fr) 34 R, ?_, ⟨x1, x2, fun p i hp hi => ?_, h24, h25, hthr, hfo, ho⟩, mc_inv (mc_inv (mc_inv (mc_inv h (by decide) (by decide) D) (by decide) (by decide) L) (by decide) (by decide) Fr) (by decide) (by decide) R, rfl, fun k hk => ?_⟩
  · unfold FM_bad
    simp only [hth, sb, i10, ↓reduceIte, inb_nI ht (show 40 < 2 ^ 31 by decide), gdt, nI_clamp (show t < 2 ^ 31 by omega), hl, e2, if_neg hsl3, m21, m22, m23, x3]
    rw [hp3, e1]
    rfl
  · obtain ⟨j1, j2⟩ := jOf_e (surj_e hm hp)
    have := r1 (jOf o p) j1 i (by rw [j2]; exact hi)
    rw [j2] at this
    have hle := sOf_le (b := b) (sl := sl) (f := f) (l := l) hm hp
    have hlt : dirP (sOf b sl f l o p) (lenP b sl f l p) (tnB tw p) i < n := by unfold dirP; split <;> omega
    exact ⟨(hx _ hlt).1, this⟩
  · rw [m2_mc, if_neg (by omega), m2_mc, if_neg (by omega), m2_mc, if_neg (by omega), m2_mc, if_neg (by omega)]
theorem fit_len {own : Nat → Nat} {ρ : RS} {μ : MS} {e b f l sl : Nat} (hM : MeasV own ρ μ e b f l) {p : Nat} (hp : p < 6) : pA (fitR ρ e sl) e p = nI (lenP b sl f l p) := by
  rw [fitR_wc, qpA_wc, if_pos rfl]
  obtain ⟨-, -, ⟨a0, a1, a4, a5⟩, -⟩ := hM
  rcases (show p = 0 ∨ p = 1 ∨ p = 2 ∨ p = 3 ∨ p = 4 ∨ p = 5 by omega) with rfl | rfl | rfl | rfl | rfl | rfl
  · exact a0
  · exact a1
  · rfl
  · rfl
  · exact a4
  · exact a5
