/-! the class's search: misses of a seam, told by starts -/
def SprV (ρ : RS) (rb e n b sl f l thr fo : Nat) (x : Nat → Nat) (v0 : Int32) : Prop :=
  (rV ρ 200 = some rb ∧ isK ρ rb 11 = true ∧ pN ρ rb = n ∧ ∀ j, j < n → okr (x j) ∧ pA ρ rb j = nI (enc (x j))) ∧ (rV ρ 201 = some e ∧ isK ρ e 11 = true ∧ pN ρ e = 6 ∧ ∀ p, p < 6 → pA ρ e p = nI (lenP b sl f l p)) ∧ (rI ρ 202 = nI thr ∧ rI ρ 203 = nI fo ∧ ∀ k, k < 5 → rA ρ 207 k = nI (smR b sl f l k)) ∧ (∀ j, j ≤ n → rA ρ 204 j = v0 + nI (cntN (fun i => spt (x i)) j)) ∧ (n ≤ 120 ∧ thr ≤ 9 ∧ fo ≤ 9 ∧ okl b sl f l ∧ 2 * b + 2 * sl + f + l = n)
theorem lenP_le {b sl f l n p : Nat} (hp : p < 6) (h : 2 * b + 2 * sl + f + l = n) : lenP b sl f l p ≤ n := by
  have h1 := fro_s (b := b) (sl := sl) (f := f) (l := l) hp
  have h2 := fro_le (b := b) (sl := sl) (f := f) (l := l) (p := p + 1)
  omega
theorem SprV.lay {ρ : RS} {rb e n b sl f l thr fo : Nat} {x : Nat → Nat} {v0 : Int32} (h : SprV ρ rb e n b sl f l thr fo x v0) {s : Nat → Nat} (hs : ∀ p, p < 6 → s p + lenP b sl f l p ≤ n) : LayV (rc (ri ρ 206 (nI 0)) 205 (fun p => nI (s p))) rb e n b sl f l s 0 thr fo x v0 := by
  obtain ⟨h1, h2, ⟨h3, h4, h11⟩, h5, h6, h7, h8, h9, h10⟩ := h
  exact ⟨h1, h2, ⟨h3, h4, rfl, h11⟩, h5, fun p hp => ⟨rfl, hs p hp⟩, h6, by decide, h7, h8, h9⟩
theorem sq_lt {k : Nat} (hk : k < 5) : sqN k < k + 1 ∧ sqN k < 6 := by unfold sqN; split <;> (try split) <;> omega
theorem missF2 {ρ : RS} {e k : Nat} {b sl f l : Nat} {s : Nat → Nat} {F : Int32 → Int32 → Int32 → Int32 → Option Int32} {M : Option Int32} (hF : F = FR_X2_missTurned_132 ρ (nI k)) (hk : k < 5) (g1 : rV ρ 201 = some e) (g2 : isK ρ e 11 = true) (g3 : pN ρ e = 6) (g4 : ∀ p, p < 6 → pA ρ e p = nI (lenP b sl f l p)) (s1 : rA ρ 205 (k + 1) = nI (s (k + 1))) (s3 : rA ρ 205 (sqN k) = nI (s (sqN k))) (t1 t2 : Bool) (w : F (a0E (s (k + 1)) (lenP b sl f l (k + 1)) t1) (a0E (s (sqN k)) (lenP b sl f l (sqN k)) (t2 != decide (k = 3))) (stE t1) (stE (t2 != decide (k = 3))) = M) : FR_X2_missTurned ρ (nI k) (if t1 = true then 1 else 0) (if t2 = true then 1 else 0) = M := by
  have hq := (sq_lt hk).2
  have gp := g4 (k + 1) (by omega)
  have gq := g4 (sqN k) hq
  have e1 : nI k + 1 = nI (k + 1) := nI_1 k
  have e2 : tbW k = nI (sqN k) := by rcases (show k = 0 ∨ k = 1 ∨ k = 2 ∨ k = 3 ∨ k = 4 by omega) with rfl | rfl | rfl | rfl | rfl <;> rfl
  have e3 : (nI k = (3 : Int32)) = (k = 3) := z_eq (b := 3) (by omega) (by decide)
  unfold FR_X2_missTurned FR_X2_missTurned_22 FR_X2_missTurned_34 FR_X2_missTurned_44 FR_X2_missTurned_52 FR_X2_missTurned_79 FR_X2_missTurned_107 FR_X2_missTurned_120
  rw [← hF]
  clear hF
  simp only [inb_nI hk (show 5 < 2 ^ 31 by decide), gdt, nI_clamp (show k < 2 ^ 31 by omega), e1, e2, e3, inb_nI hq (show 6 < 2 ^ 31 by decide), inb_nI (show k + 1 < 6 by omega) (show 6 < 2 ^ 31 by decide), nI_clamp (show sqN k < 2 ^ 31 by omega), nI_clamp (show k + 1 < 2 ^ 31 by omega), s1, s3, g1, sb, g2, g3, gp, gq]
  unfold a0E stE at w
  by_cases c3 : k = 3
  · rw [decide_eq_true c3] at w
    simp only [eq_true c3, ↓reduceIte]
    cases t1 <;> cases t2 <;> simp at w ⊢ <;> exact w
  · rw [decide_eq_false c3] at w
    simp only [eq_false c3, ↓reduceIte]
    cases t1 <;> cases t2 <;> simp at w ⊢ <;> exact w
def msU (thr b sl f l : Nat) (x : Nat → Nat) (k u1 u2 : Nat) (t1 t2 : Bool) : Nat := msT thr b sl f l (fun p => if p = k + 1 then u1 else u2) x k t1 t2
theorem msU_T {thr b sl f l k : Nat} {x s : Nat → Nat} {t1 t2 : Bool} (hk : k < 5) : msU thr b sl f l x k (s (k + 1)) (s (sqN k)) t1 t2 = msT thr b sl f l s x k t1 t2 := by
  have h1 := (sq_lt hk).1
  unfold msU msT
  simp only [↓reduceIte, if_neg (show ¬ sqN k = k + 1 by omega)]
theorem missTurned_k {ρ : RS} {rb e n b sl f l thr fo k u1 u2 : Nat} {x : Nat → Nat} {v0 : Int32} (h : SprV ρ rb e n b sl f l thr fo x v0) (hk : k < 5) (s1 : rA ρ 205 (k + 1) = nI u1) (s3 : rA ρ 205 (sqN k) = nI u2) (b1 : u1 + lenP b sl f l (k + 1) ≤ n) (b2 : u2 + lenP b sl f l (sqN k) ≤ n) (t1 t2 : Bool) : FR_X2_missTurned ρ (nI k) (if t1 = true then 1 else 0) (if t2 = true then 1 else 0) = some (nI (msU thr b sl f l x k u1 u2 t1 t2)) := by
  have hsr := h.2.2.1.2.2 k hk
  have hfu := fu_pos
  obtain ⟨⟨f1, f2, f3, f4⟩, ⟨g1, g2, g3, g4⟩, ⟨h202, -⟩, -, hn, hthr, -, ho, -⟩ := h
  have hq := sq_lt hk
  have hml := smR_l (b := b) (sl := sl) (f := f) (l := l) hk
  have hm30 := smR_le (k := k) ho
  have e1 : (fun p => if p = k + 1 then u1 else u2) (k + 1) = u1 := if_pos rfl
  have e2 : (fun p => if p = k + 1 then u1 else u2) (sqN k) = u2 := if_neg (show ¬ sqN k = k + 1 by omega)
  unfold msU
  rw [← e1] at s1 b1
  rw [← e2] at s3 b2
  generalize (fun p => if p = k + 1 then u1 else u2) = s at s1 s3 b1 b2 ⊢
  have w := missL0 (m := smR b sl f l k) (a0 := a0E (s (k + 1)) (lenP b sl f l (k + 1)) t1) (s1 := stE t1) (c0 := a0E (s (sqN k)) (lenP b sl f l (sqN k)) (t2 != decide (k = 3))) (s2 := stE (t2 != decide (k = 3))) (P := dirP (s (k + 1)) (lenP b sl f l (k + 1)) t1) (Q := dirP (s (sqN k)) (lenP b sl f l (sqN k)) (t2 != decide (k = 3))) f1 f2 f3 hn f4 h202 hthr (fun i hi => ⟨seq_e t1 (by omega), by unfold dirP; split <;> omega⟩) (fun i hi => ⟨seq_e _ (by omega), by unfold dirP; split <;> omega⟩) (by omega) fu (by omega)
  have w2 := missF2 (s := s) rfl hk g1 g2 g3 g4 s1 s3 t1 t2 (miss132 hk hsr w)
  exact w2
def shp (fo b sl f l : Nat) (x : Nat → Nat) (p u : Nat) : Nat := cntN (fun i => spt (x (u + fo + i))) (lenP b sl f l p - 2 * fo)
theorem shownOf_k {ρ : RS} {rb e n b sl f l thr fo p u : Nat} {x : Nat → Nat} {v0 : Int32} (h : SprV ρ rb e n b sl f l thr fo x v0) (hp : p < 6) (s1 : rA ρ 205 p = nI u) (s2 : u + lenP b sl f l p ≤ n) : FR_X2_shownOf ρ (nI p) = some (nI (shp fo b sl f l x p u)) := by
  obtain ⟨-, ⟨g1, g2, g3, g4⟩, ⟨-, h203, -⟩, h204, hn, -, hfo, ho, -⟩ := h
  have g4p := g4 p hp
  unfold FR_X2_shownOf shp
  simp only [inb_nI hp (show 6 < 2 ^ 31 by decide), gdt, g1, sb, g2, g3, nI_clamp (show p < 2 ^ 31 by omega), s1, g4p, h203, nI_add]
  have n0 : ¬ nI (u + fo) < 0 := nI_nlt (b := 0) (by omega) (by omega)
  rw [if_neg n0]
  by_cases c : lenP b sl f l p ≤ 2 * fo
  · have c1 : nI (u + lenP b sl f l p) - nI fo ≤ nI (u + fo) := by rw [sb_le (by omega) (by omega) (by omega)]; omega
    rw [if_pos c1, show lenP b sl f l p - 2 * fo = 0 by omega]
    rfl
  · have c1 : ¬ nI (u + lenP b sl f l p) - nI fo ≤ nI (u + fo) := by rw [sb_le (by omega) (by omega) (by omega)]; omega
    rw [if_neg c1, z_sub (by omega), if_neg (show ¬ (120 : Int32) < nI (u + lenP b sl f l p - fo) from nI_nlt (a := 120) (by omega) (by omega)), gd_t (inb_nI (by omega) (by decide)), gd_t (inb_nI (by omega) (by decide)), nI_clamp (by omega), nI_clamp (by omega), h204 _ (by omega), h204 _ (by omega), show u + lenP b sl f l p - fo = u + fo + (lenP b sl f l p - 2 * fo) by omega, cntN_add, ← nI_add, ← Int32.add_assoc, Int32.add_comm _ (nI (cntN (fun j => spt (x (u + fo + j))) (lenP b sl f l p - 2 * fo))), Int32.add_sub_cancel]
/-! packed misses -/
def wayT (w : Nat) : Bool := decide (w % 2 = 1)
def wayS (w : Nat) : Bool := decide (w / 2 = 1)
def lstN (m : Nat → Nat) : Nat := min (min (min (min 63 (m 0)) (m 1)) (m 2)) (m 3)
def pkN (m : Nat → Nat) : Nat := lstN m * 2 ^ 24 + (m 0 + m 1 * 2 ^ 6 + m 2 * 2 ^ 12 + m 3 * 2 ^ 18)
theorem pkn_lt {m : Nat → Nat} (h : ∀ w, w < 4 → m w ≤ 30) : lstN m ≤ 30 ∧ pkN m < 2 ^ 30 ∧ pkN m / 2 ^ 24 = lstN m ∧ ∀ w, w < 4 → pkN m / 2 ^ (6 * w) % 64 = m w := by
  have h0 := h 0 (by decide)
  have h1 := h 1 (by decide)
  have h2 := h 2 (by decide)
  have h3 := h 3 (by decide)
  have hl : lstN m ≤ 30 := by unfold lstN; omega
  refine ⟨hl, by unfold pkN; omega, by unfold pkN; omega, fun w hw => ?_⟩
  unfold pkN
  rcases (show w = 0 ∨ w = 1 ∨ w = 2 ∨ w = 3 by omega) with rfl | rfl | rfl | rfl <;> simp <;> omega
theorem cm_step {σ : RS} {k w a lst v f : Nat} {K : Int32 → Int32 → Option Int32} (hw : w < 4) (ha : a < 2 ^ (6 * w)) (hv : v ≤ 30) (hl : lst ≤ 63) (hm : FR_X2_missTurned σ (nI k) (if wayT w = true then 1 else 0) (if wayS w = true then 1 else 0) = some (nI v)) : FR_X7_countMisses_8 σ K (nI k) (f + 1) (nI lst) (nI a) (nI w) = FR_X7_countMisses_8 σ K (nI k) f (nI (min lst v)) (nI (a + v * 2 ^ (6 * w))) (nI (w + 1)) := by
  have e1 : nI w &&& (1 : Int32) = (if wayT w = true then 1 else 0) := by
    rcases (show w = 0 ∨ w = 1 ∨ w = 2 ∨ w = 3 by omega) with rfl | rfl | rfl | rfl <;> decide
  have e2 : nI w >>> ((1 : Int32) &&& 31) = (if wayS w = true then 1 else 0) := by
    rcases (show w = 0 ∨ w = 1 ∨ w = 2 ∨ w = 3 by omega) with rfl | rfl | rfl | rfl <;> decide
  have e3 : (if nI v < nI lst then nI v else nI lst) = nI (min lst v) := by
    by_cases c : v < lst
    · rw [if_pos (nI_lt c (by omega)), show min lst v = v by omega]
    · rw [if_neg (nI_nlt (by omega) (by omega)), show min lst v = lst by omega]
  have hpw : 2 ^ (6 * w) ≤ 2 ^ 18 := Nat.pow_le_pow_right (by decide) (by omega)
  have hb : v * 2 ^ (6 * w) ≤ 30 * 2 ^ 18 := Nat.mul_le_mul hv hpw
  rw [FR_X7_countMisses_8, if_neg (show ¬ (4 : Int32) ≤ nI w from nI_ge (b := 4) (by omega) (by decide)), e1, e2, hm, sb, e3, show (6 : Int32) * nI w = nI (6 * w) from pk_mul 6 w, nI_shl (by omega) (by omega), nI_or, or_add ha, nI_1]
theorem countMisses_e {σ : RS} {k : Nat} {m : Nat → Nat} (hm : ∀ w, w < 4 → m w ≤ 30 ∧ FR_X2_missTurned σ (nI k) (if wayT w = true then 1 else 0) (if wayS w = true then 1 else 0) = some (nI (m w))) : FR_X7_countMisses σ (nI k) = some (nI (pkN m)) := by
  obtain ⟨g, hg⟩ : ∃ g, fu = g + 5 := ⟨fu - 5, by have := fu_pos; omega⟩
  have h0 := hm 0 (by decide)
  have h1 := hm 1 (by decide)
  have h2 := hm 2 (by decide)
  have h3 := hm 3 (by decide)
  have b0 := h0.1
  have b1 := h1.1
  have b2 := h2.1
  have b3 := h3.1
  unfold FR_X7_countMisses
  rw [hg, show (63 : Int32) = nI 63 from rfl, show (0 : Int32) = nI 0 from rfl, cm_step (w := 0) (by decide) (by decide) h0.1 (by decide) h0.2, cm_step (w := 1) (by decide) (by simp; omega) h1.1 (by omega) h1.2, cm_step (w := 2) (by decide) (by simp; omega) h2.1 (by omega) h2.2, cm_step (w := 3) (by decide) (by simp; omega) h3.1 (by omega) h3.2, FR_X7_countMisses_8, if_pos (show (4 : Int32) ≤ nI (3 + 1) by decide)]
  unfold FR_X7_countMisses_56
  have hl : lstN m ≤ 30 := by unfold lstN; omega
  have ea : 0 + m 0 * 2 ^ (6 * 0) + m 1 * 2 ^ (6 * 1) + m 2 * 2 ^ (6 * 2) + m 3 * 2 ^ (6 * 3) = m 0 + m 1 * 2 ^ 6 + m 2 * 2 ^ 12 + m 3 * 2 ^ 18 := by simp
  have el : min (min (min (min 63 (m 0)) (m 1)) (m 2)) (m 3) = lstN m := rfl
  rw [ea, el, show (24 : Int32) = nI 24 from rfl, nI_shl (by decide) (by omega), nI_or, Nat.or_comm, or_add (by omega), Nat.add_comm]
  rfl
