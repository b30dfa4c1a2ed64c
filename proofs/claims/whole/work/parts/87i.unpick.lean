/-! joining the pieces again: places on the new bolt -/
theorem st_mono {len d : Nat → Nat} : ∀ k j, j ≤ k → stN len d j ≤ stN len d k
  | 0, j, h => by rw [show j = 0 by omega]; exact Nat.le_refl _
  | k + 1, j, h => by
    by_cases c : j = k + 1
    · rw [c]; exact Nat.le_refl _
    · have := st_mono (len := len) (d := d) k j (by omega)
      have e : stN len d (k + 1) = stN len d k + len (d k) := rfl
      omega
theorem st_6 {o b sl f l : Nat} (h : mR_ o 6 = 63) : stN (lenP b sl f l) (dgN o) 6 = 2 * b + 2 * sl + f + l := by
  obtain ⟨H, h1, h2⟩ := stN_eq (lenP b sl f l) (inj_e h) 6 (Nat.le_refl _)
  rw [h2, ← lenS_6]
  refine sum_cg 6 (fun j hj => ?_)
  rw [if_pos ((h1 j).mpr (surj_e h hj))]
theorem st_cov {len d : Nat → Nat} : ∀ k j, j < stN len d k → ∃ i u, i < k ∧ u < len (d i) ∧ j = stN len d i + u
  | 0, j, h => absurd h (Nat.not_lt_zero _)
  | k + 1, j, h => by
    have e : stN len d (k + 1) = stN len d k + len (d k) := rfl
    by_cases c : j < stN len d k
    · obtain ⟨i, u, a1, a2, a3⟩ := st_cov k j c
      exact ⟨i, u, by omega, a2, a3⟩
    · exact ⟨k, j - stN len d k, by omega, by omega, by omega⟩
theorem sOf_dis {o b sl f l p q : Nat} (h : mR_ o 6 = 63) (hp : p < 6) (hq : q < 6) (hne : p ≠ q) : sOf b sl f l o p + lenP b sl f l p ≤ sOf b sl f l o q ∨ sOf b sl f l o q + lenP b sl f l q ≤ sOf b sl f l o p := by
  obtain ⟨j1, j2⟩ := jOf_e (surj_e h hp)
  obtain ⟨k1, k2⟩ := jOf_e (surj_e h hq)
  have hjk : jOf o p ≠ jOf o q := fun z => hne (by rw [← j2, ← k2, z])
  have e1 : stN (lenP b sl f l) (dgN o) (jOf o p + 1) = stN (lenP b sl f l) (dgN o) (jOf o p) + lenP b sl f l (dgN o (jOf o p)) := rfl
  have e2 : stN (lenP b sl f l) (dgN o) (jOf o q + 1) = stN (lenP b sl f l) (dgN o) (jOf o q) + lenP b sl f l (dgN o (jOf o q)) := rfl
  rw [j2] at e1
  rw [k2] at e2
  unfold sOf
  by_cases c : jOf o p < jOf o q
  · have := st_mono (len := lenP b sl f l) (d := dgN o) (jOf o q) (jOf o p + 1) (by omega)
    omega
  · have := st_mono (len := lenP b sl f l) (d := dgN o) (jOf o p) (jOf o q + 1) (by omega)
    omega
def dP (s : Nat → Nat) (b sl f l tw p u : Nat) : Nat := dirP (s p) (lenP b sl f l p) (tnB tw p) u
theorem dP_bd {s : Nat → Nat} {b sl f l tw p u : Nat} (hu : u < lenP b sl f l p) : s p ≤ dP s b sl f l tw p u ∧ dP s b sl f l tw p u < s p + lenP b sl f l p := by
  unfold dP dirP
  split <;> omega
theorem dP_inj {s : Nat → Nat} {b sl f l tw p u v : Nat} (hu : u < lenP b sl f l p) (hv : v < lenP b sl f l p) (h : dP s b sl f l tw p u = dP s b sl f l tw p v) : u = v := by
  unfold dP dirP at h
  split at h <;> omega
theorem dP_ap {o b sl f l tw p q u v : Nat} (h : mR_ o 6 = 63) (hp : p < 6) (hq : q < 6) (hne : p ≠ q) (hu : u < lenP b sl f l p) (hv : v < lenP b sl f l q) : dP (sOf b sl f l o) b sl f l tw p u ≠ dP (sOf b sl f l o) b sl f l tw q v := fun z => by
  have h1 := dP_bd (s := sOf b sl f l o) (tw := tw) hu
  have h2 := dP_bd (s := sOf b sl f l o) (tw := tw) hv
  have := sOf_dis (b := b) (sl := sl) (f := f) (l := l) h hp hq hne
  omega
theorem dP_cov {o b sl f l tw j : Nat} (h : mR_ o 6 = 63) (hj : j < 2 * b + 2 * sl + f + l) : ∃ p u, p < 6 ∧ u < lenP b sl f l p ∧ j = dP (sOf b sl f l o) b sl f l tw p u := by
  rw [← st_6 h] at hj
  obtain ⟨i, u, i1, i2, i3⟩ := st_cov 6 j hj
  rw [← sOf_dg h i1] at i3
  have hp := dg_lt o i
  generalize dgN o i = p at i2 i3 hp
  unfold dP dirP
  by_cases c : tnB tw p = true
  · exact ⟨p, lenP b sl f l p - 1 - u, hp, by omega, by rw [if_pos c]; omega⟩
  · exact ⟨p, u, hp, i2, by rw [if_neg c]; exact i3⟩
theorem fro_lt {b sl f l p i : Nat} (hp : p < 6) (hi : i < lenP b sl f l p) : froP b sl f l p + i < 2 * b + 2 * sl + f + l := by
  have h3 := fro_s (b := b) (sl := sl) (f := f) (l := l) hp
  have h4 := fro_le (b := b) (sl := sl) (f := f) (l := l) (p := p + 1)
  omega
theorem join21 {σ : RS} {rb e n b sl f l tw thr fo N M p : Nat} {s x : Nat → Nat} {v0 : Int32} (h : LayV σ rb e n b sl f l s tw thr fo x v0) (h1 : rb ≠ M) (h2 : e ≠ M) (hn : 2 * b + 2 * sl + f + l = n) (hp : p < 6) {K : Int32 → RS → Option (Nat × RS)} : ∀ d i fuel g, i + d = lenP b sl f l p → d < fuel → ∃ g', (∀ u, i ≤ u → u < lenP b sl f l p → g' (dP s b sl f l tw p u) = nI (enc (x (froP b sl f l p + u)))) ∧ (∀ j, (∀ u, i ≤ u → u < lenP b sl f l p → j ≠ dP s b sl f l tw p u) → g' j = g j) ∧ FR_X2_joinRows_21 N K M (nI p) fuel (nI (froP b sl f l p + i)) (nI i) (nA σ M n g) = K (nI (froP b sl f l (p + 1))) (nA σ M n g') := by
  have hfs := fro_s (b := b) (sl := sl) (f := f) (l := l) hp
  have hfl := fro_le (b := b) (sl := sl) (f := f) (l := l) (p := p + 1)
  have hn120 := h.2.2.2.2.2.1
  intro d
  induction d with
  | zero =>
    intro i fuel g hi hf
    obtain ⟨f1, rfl⟩ : ∃ f, fuel = f + 1 := ⟨fuel - 1, by omega⟩
    obtain ⟨-, ⟨g1, g2, g3, g4⟩, -⟩ := h.nA h1 h2 n g
    have g4p := g4 p hp
    refine ⟨g, fun u a b => absurd a (by omega), fun _ _ => rfl, ?_⟩
    rw [FR_X2_joinRows_21]
    simp only [g1, sb, g2, gdt, g3, inb_nI hp (show 6 < 2 ^ 31 by decide), nI_clamp (show p < 2 ^ 31 by omega), g4p, if_pos (show nI (lenP b sl f l p) ≤ nI i from nI_le (by omega) (by omega))]
    rw [show froP b sl f l p + i = froP b sl f l (p + 1) by omega]
  | succ d ih =>
    intro i fuel g hi hf
    obtain ⟨f1, rfl⟩ : ∃ f, fuel = f + 1 := ⟨fuel - 1, by omega⟩
    have hV := h.nA h1 h2 n g
    have hil : i < lenP b sl f l p := by omega
    have hpl := placeOf_e hV hp hil
    have hlt := dir_lt hV hp hil (tnB tw p)
    have hfi : froP b sl f l p + i < n := by omega
    obtain ⟨⟨k1, k2, k3, k4⟩, ⟨g1, g2, g3, g4⟩, -⟩ := hV
    have g4p := g4 p hp
    have kx := (k4 _ hfi).2
    have n1 : ¬ nI (lenP b sl f l p) ≤ nI i := nI_ge (by omega) (by omega)
    have kM : isK (nA σ M n g) M 11 = true := isK_newA
    have nM : pN (nA σ M n g) M = n := by rw [qpN_nA, if_pos rfl]
    have st : ∀ v, wa (nA σ M n g) M (nI (dirP (s p) (lenP b sl f l p) (tnB tw p) i)) v = nA σ M n (upd g (dP s b sl f l tw p i) v) := fun v => by
      rw [wa_wc, wc_nA, qpA_nA, if_pos rfl, nI_clamp (by omega)]
      rfl
    obtain ⟨g', s1, s2, s3⟩ := ih (i + 1) f1 (upd g (dP s b sl f l tw p i) (nI (enc (x (froP b sl f l p + i))))) (by omega) (by omega)
    refine ⟨g', fun u a c => ?_, fun j hj => (s2 j (fun u u1 u2 => hj u (by omega) u2)).trans (upd_n (hj i (Nat.le_refl _) hil)), ?_⟩
    · by_cases cu : u = i
      · subst cu
        rw [s2 _ (fun v v1 v2 z => by have := dP_inj c v2 z; omega), upd_s]
      · exact s1 u (by omega) c
    · rw [← s3, FR_X2_joinRows_21]
      simp only [g1, sb, g2, gdt, g3, inb_nI hp (show 6 < 2 ^ 31 by decide), nI_clamp (show p < 2 ^ 31 by omega), g4p, if_neg n1, hpl, onCloth_e k1 k2 k3 hn120 hlt, onCloth_e k1 k2 k3 hn120 hfi, one_ne0, ↓reduceIte, k1, k2, k3, inb_nI hlt (show n < 2 ^ 31 by omega), kM, nM, inb_nI hfi (show n < 2 ^ 31 by omega), nI_clamp (show froP b sl f l p + i < 2 ^ 31 by omega), kx, st, nI_1]
      rfl
theorem join12 {σ : RS} {rb e n b sl f l tw thr fo N M o : Nat} {x : Nat → Nat} {v0 : Int32} (h : LayV σ rb e n b sl f l (sOf b sl f l o) tw thr fo x v0) (hm : mR_ o 6 = 63) (h1 : rb ≠ M) (h2 : e ≠ M) (hn : 2 * b + 2 * sl + f + l = n) : ∀ d p fuel g, p + d = 6 → d < fuel → (∀ q, q < p → ∀ u, u < lenP b sl f l q → g (dP (sOf b sl f l o) b sl f l tw q u) = nI (enc (x (froP b sl f l q + u)))) → ∃ g', (∀ q, q < 6 → ∀ u, u < lenP b sl f l q → g' (dP (sOf b sl f l o) b sl f l tw q u) = nI (enc (x (froP b sl f l q + u)))) ∧ FR_X2_joinRows_12 N M fuel (nI (froP b sl f l p)) (nI p) (nA σ M n g) = some (M, nA σ M n g') := by
  have hfu := fu_pos
  have ho := h.2.2.2.2.2.2.2.2.2
  intro d
  induction d with
  | zero =>
    intro p fuel g hp hf hg
    obtain ⟨f1, rfl⟩ : ∃ f, fuel = f + 1 := ⟨fuel - 1, by omega⟩
    have e : p = 6 := by omega
    subst e
    refine ⟨g, hg, ?_⟩
    rw [FR_X2_joinRows_12, if_pos (show (6 : Int32) ≤ nI 6 from by decide)]
  | succ d ih =>
    intro p fuel g hp hf hg
    obtain ⟨f1, rfl⟩ : ∃ f, fuel = f + 1 := ⟨fuel - 1, by omega⟩
    have n1 : ¬ (6 : Int32) ≤ nI p := nI_ge (b := 6) (by omega) (by decide)
    have hfl := fl_le (show p < 6 by omega) ho
    obtain ⟨g1, s1, s2, s3⟩ := join21 (N := N) h h1 h2 hn (show p < 6 by omega) (K := fun x2_77 σ_77 => FR_X2_joinRows_77 N (fun x2_12 x3_12 σ_12 => FR_X2_joinRows_12 N M f1 x2_12 x3_12 σ_12) M x2_77 (nI p) σ_77) (lenP b sl f l p) 0 fu g (by omega) (by omega)
    obtain ⟨g', t1, t2⟩ := ih (p + 1) f1 g1 (by omega) (by omega) (fun q hq u hu => by
      by_cases c : q = p
      · subst c; exact s1 u (Nat.zero_le _) hu
      · rw [s2 _ (fun v _ hv => dP_ap hm (by omega) (by omega) c hu hv)]
        exact hg q (by omega) u hu)
    refine ⟨g', t1, ?_⟩
    rw [FR_X2_joinRows_12, if_neg n1]
    refine Eq.trans s3 ?_
    unfold FR_X2_joinRows_77
    rw [nI_1]
    exact t2
theorem joinRows_e {σ : RS} {rb e n b sl f l tw thr fo M o : Nat} {x : Nat → Nat} {v0 : Int32} (h : LayV σ rb e n b sl f l (sOf b sl f l o) tw thr fo x v0) (hm : mR_ o 6 = 63) (h1 : rb ≠ M) (h2 : e ≠ M) (hn : 2 * b + 2 * sl + f + l = n) : ∃ g, (∀ q, q < 6 → ∀ u, u < lenP b sl f l q → g (dP (sOf b sl f l o) b sl f l tw q u) = nI (enc (x (froP b sl f l q + u)))) ∧ FR_X2_joinRows M σ = some (M, nA σ M n g) := by
  have hfu := fu_pos
  obtain ⟨g, c1, c2⟩ := join12 (N := M) h hm h1 h2 hn 6 0 fu (fun _ => 0) (by omega) (by omega) (fun q hq => absurd hq (Nat.not_lt_zero q))
  have hn120 := h.2.2.2.2.2.1
  refine ⟨g, c1, ?_⟩
  have oN : Int32.ofNat n = nI n := rfl
  unfold FR_X2_joinRows
  rw [h.1.1, sb, h.1.2.1, gdt, h.1.2.2.1, oN, gd_t (inc_nI hn120 (by decide)), nI_clamp (by omega)]
  exact c2
/-! the reference unpicks -/
theorem unp107 {σ : MS} {B n b sl f l tw p st : Nat} {x : Nat → Nat} {x1 x5 : Int32} (hB : B < 40) (hn : n ≤ 120) (hF : σ.2 33 p = nI (froP b sl f l p)) (hx : ∀ u, u < lenP b sl f l p → σ.2 34 (froP b sl f l p + u) = nI (x (froP b sl f l p + u))) (hp : p < 6) (htw : tw < 64) (hst : st + lenP b sl f l p ≤ n) (ho : okl b sl f l) {K : MS → Option (Int32 × MS)} : ∀ d i fuel R, i + d = lenP b sl f l p → d < fuel → ∃ R', (∀ u, i ≤ u → u < lenP b sl f l p → R' (120 * B + dirP st (lenP b sl f l p) (tnB tw p) u) = nI (x (froP b sl f l p + u))) ∧ (∀ j, (∀ u, i ≤ u → u < lenP b sl f l p → j ≠ 120 * B + dirP st (lenP b sl f l p) (tnB tw p) u) → R' j = R j) ∧ FM_unpick_107 K x1 (nI tw) (nI (120 * B + st)) x5 (nI p) (nI (lenP b sl f l p)) fuel (nI i) (mc σ 5 R) = K (mc σ 5 R') := by
  intro d
  have hfl := fl_le hp ho
  have a33 : ∀ R, (mc σ 5 R).2 33 p = nI (froP b sl f l p) := fun R => hF
  have a34 : ∀ R u, u < lenP b sl f l p → (mc σ 5 R).2 34 (froP b sl f l p + u) = nI (x (froP b sl f l p + u)) := fun R => hx
  induction d with
  | zero =>
    intro i fuel R hi hf
    obtain ⟨f1, rfl⟩ : ∃ f, fuel = f + 1 := ⟨fuel - 1, by omega⟩
    refine ⟨R, fun u a hu => absurd a (by omega), fun _ _ => rfl, ?_⟩
    rw [FM_unpick_107, if_pos (nI_le (by omega) (by omega))]
  | succ d ih =>
    intro i fuel R hi hf
    obtain ⟨f1, rfl⟩ : ∃ f, fuel = f + 1 := ⟨fuel - 1, by omega⟩
    have n1 : ¬ nI (lenP b sl f l p) ≤ nI i := nI_ge (by omega) (by omega)
    have hil : i < lenP b sl f l p := by omega
    have hdir : dirP st (lenP b sl f l p) (tnB tw p) i < n := by unfold dirP; split <;> omega
    have x34 := a34 R i hil
    obtain ⟨R', r1, r2, r3⟩ := ih (i + 1) f1 (upd R (120 * B + dirP st (lenP b sl f l p) (tnB tw p) i) (nI (x (froP b sl f l p + i)))) (by omega) (by omega)
    refine ⟨R', fun u a c => ?_, fun j hj => (r2 j (fun u u1 u2 => hj u (by omega) u2)).trans (upd_n (hj i (Nat.le_refl _) hil)), ?_⟩
    · by_cases cu : u = i
      · subst cu
        rw [r2 _ (fun v v1 v2 z => by have := dP_inj (s := fun _ => st) (tw := tw) c v2 (Nat.add_left_cancel z); omega), upd_s]
      · exact r1 u (by omega) c
    rw [← r3]
    have st2 : ∀ v, sa (mc σ 5 R) 5 (nI (120 * B + dirP st (lenP b sl f l p) (tnB tw p) i)) v = mc σ 5 (upd R (120 * B + dirP st (lenP b sl f l p) (tnB tw p) i) v) := fun v => by
      rw [sa_mc, mc_mc, nI_clamp (by omega)]
      rfl
    rw [FM_unpick_107]
    unfold FM_unpick_142
    have e1 : nI (lenP b sl f l p) - 1 - nI i = nI (lenP b sl f l p - 1 - i) := by rw [show nI (lenP b sl f l p) - 1 = nI (lenP b sl f l p - 1) from z_sub (b := 1) (by omega), z_sub (by omega)]
    have g1 := inb_nI (show 120 * B + dirP st (lenP b sl f l p) (tnB tw p) i < 4800 by omega) (show 4800 < 2 ^ 31 by decide)
    simp only [if_neg n1, inb_nI hp (show 6 < 2 ^ 31 by decide), gdt, turn_t tw htw p hp, nI_clamp (show p < 2 ^ 31 by omega), a33, nI_add, e1, nI_1, inb_nI (show froP b sl f l p + i < 120 by omega) (show 120 < 2 ^ 31 by decide), nI_clamp (show froP b sl f l p + i < 2 ^ 31 by omega), x34]
    by_cases c : tw / 2 ^ p % 2 = 1
    · have hd : 120 * B + st + (lenP b sl f l p - 1 - i) = 120 * B + dirP st (lenP b sl f l p) (tnB tw p) i := by unfold dirP tnB; rw [decide_eq_true c, Nat.add_assoc]; rfl
      rw [if_pos c, if_pos rfl, hd, g1, gdt, st2]
    · have hd : 120 * B + st + i = 120 * B + dirP st (lenP b sl f l p) (tnB tw p) i := by unfold dirP tnB; rw [decide_eq_false c, Nat.add_assoc]; rfl
      rw [if_neg c, if_neg (show ¬ (0 : Int32) = 1 from by decide), hd, g1, gdt, st2]
theorem unp79 {σ : MS} {B n b sl f l tw o : Nat} {x : Nat → Nat} {x1 : Int32} (hB : B < 40) (hn2 : n ≤ 120) (hn : 2 * b + 2 * sl + f + l = n) (hL : ∀ p, p < 6 → σ.2 32 p = nI (lenP b sl f l p)) (hF : ∀ p, p < 6 → σ.2 33 p = nI (froP b sl f l p)) (hD : ∀ k, k < 6 → σ.2 35 k = nI (dgN o k)) (hx : ∀ j, j < n → σ.2 34 j = nI (x j)) (htw : tw < 64) (ho : okl b sl f l) (hm : mR_ o 6 = 63) {K : MS → Option (Int32 × MS)} : ∀ d k fuel R, k + d = 6 → d < fuel → (∀ j, j < k → ∀ u, u < lenP b sl f l (dgN o j) → R (120 * B + dP (sOf b sl f l o) b sl f l tw (dgN o j) u) = nI (x (froP b sl f l (dgN o j) + u))) → ∃ R', (∀ q, q < 6 → ∀ u, u < lenP b sl f l q → R' (120 * B + dP (sOf b sl f l o) b sl f l tw q u) = nI (x (froP b sl f l q + u))) ∧ (∀ j, (j < 120 * B ∨ 120 * B + 120 ≤ j) → R' j = R j) ∧ FM_unpick_79 K x1 (nI tw) fuel (nI (120 * B + stN (lenP b sl f l) (dgN o) k)) (nI k) (mc σ 5 R) = K (mc σ 5 R') := by
  intro d
  have hfu := fu_pos
  have a35 : ∀ R k, k < 6 → (mc σ 5 R).2 35 k = nI (dgN o k) := fun R k hk => hD k hk
  have a32 : ∀ R p, p < 6 → (mc σ 5 R).2 32 p = nI (lenP b sl f l p) := fun R p hp => hL p hp
  induction d with
  | zero =>
    intro k fuel R hk hf hR
    obtain ⟨f1, rfl⟩ : ∃ f, fuel = f + 1 := ⟨fuel - 1, by omega⟩
    have e : k = 6 := by omega
    subst e
    refine ⟨R, fun q hq u hu => ?_, fun _ _ => rfl, ?_⟩
    · obtain ⟨j, j1, j2⟩ := surj_e hm hq
      subst j2
      exact hR j j1 u hu
    · rw [FM_unpick_79, if_pos (show (6 : Int32) ≤ nI 6 from by decide)]
  | succ d ih =>
    intro k fuel R hk hf hR
    obtain ⟨f1, rfl⟩ : ∃ f, fuel = f + 1 := ⟨fuel - 1, by omega⟩
    have n1 : ¬ (6 : Int32) ≤ nI k := nI_ge (b := 6) (by omega) (by decide)
    have hd6 := dg_lt o k
    have hst : stN (lenP b sl f l) (dgN o) k + lenP b sl f l (dgN o k) ≤ n := hn ▸ (stN_le (inj_e hm) (k := k + 1) (by omega))
    have hfl := fl_le hd6 ho
    have esd := sOf_dg (b := b) (sl := sl) (f := f) (l := l) hm (show k < 6 by omega)
    obtain ⟨R1, r1, r2, r3⟩ := unp107 (B := B) (n := n) (tw := tw) (p := dgN o k) (st := stN (lenP b sl f l) (dgN o) k) (x := x) (x1 := x1) (x5 := nI k) hB hn2 (hF _ hd6) (fun u hu => hx _ (hn ▸ fro_lt hd6 hu)) hd6 htw hst ho (K := fun σ_165 => FM_unpick_165 (fun x4_79 x5_79 σ_79 => FM_unpick_79 K x1 (nI tw) f1 x4_79 x5_79 σ_79) x1 (nI tw) (nI (120 * B + stN (lenP b sl f l) (dgN o) k)) (nI k) (nI (lenP b sl f l (dgN o k))) σ_165) (lenP b sl f l (dgN o k)) 0 fu R (by omega) (by omega)
    have edp : ∀ u, dirP (stN (lenP b sl f l) (dgN o) k) (lenP b sl f l (dgN o k)) (tnB tw (dgN o k)) u = dP (sOf b sl f l o) b sl f l tw (dgN o k) u := fun u => by unfold dP; rw [esd]
    obtain ⟨R', s1, s2, s3⟩ := ih (k + 1) f1 R1 (by omega) (by omega) (fun j hj u hu => by
      by_cases c : j = k
      · subst c
        rw [← edp u]
        exact r1 u (Nat.zero_le _) hu
      · have hne : dgN o j ≠ dgN o k := fun z => c (inj_e hm j k (by omega) (by omega) z)
        rw [r2 _ (fun v _ hv z => by
          rw [edp v] at z
          exact dP_ap hm (dg_lt o j) hd6 hne hu hv (Nat.add_left_cancel z))]
        exact hR j (by omega) u hu)
    refine ⟨R', s1, fun j hj => (s2 j hj).trans (r2 j (fun u _ hu z => by
      have := dP_bd (s := sOf b sl f l o) (tw := tw) hu
      rw [edp u] at z
      rw [esd] at this
      omega)), ?_⟩
    rw [FM_unpick_79]
    simp only [if_neg n1, inb_nI (show k < 6 by omega) (show 6 < 2 ^ 31 by decide), gdt, nI_clamp (show k < 2 ^ 31 by omega), a35 R k (by omega), inb_nI hd6 (show 6 < 2 ^ 31 by decide), nI_clamp (show dgN o k < 2 ^ 31 by omega), a32 R _ hd6]
    refine Eq.trans r3 ?_
    unfold FM_unpick_165
    rw [nI_add, nI_1, Nat.add_assoc]
    exact s3
