def seqA (a0 st : Int32) : Nat → Int32
  | 0 => a0
  | i + 1 => seqA a0 st i + st
theorem seq_up (s : Nat) : ∀ i, seqA (nI s + 0) 1 i = nI (s + i)
  | 0 => by show nI s + 0 = _; rw [Int32.add_zero]; rfl
  | i + 1 => by show seqA (nI s + 0) 1 i + 1 = _; rw [seq_up s i, nI_1]; rfl
theorem seq_dn {s len : Nat} : ∀ i, i < len → seqA (nI s + (nI len - 1)) (-1) i = nI (s + (len - 1 - i))
  | 0, h => by show nI s + (nI len - 1) = _; rw [show nI len - 1 = nI (len - 1) from z_sub (b := 1) (by omega), nI_add]; rfl
  | i + 1, h => by
    show seqA (nI s + (nI len - 1)) (-1) i + (-1) = _
    rw [seq_dn i (by omega), show s + (len - 1 - i) = s + (len - 1 - (i + 1)) + 1 by omega, pk_m1]
def a0E (s len : Nat) (e : Bool) : Int32 := nI s + (if e = true then nI len - 1 else 0)
def stE (e : Bool) : Int32 := if e = true then -1 else 1
theorem seq_e {s len : Nat} (e : Bool) {i : Nat} (h : i < len) : seqA (a0E s len e) (stE e) i = nI (dirP s len e i) := by
  cases e with
  | false => exact seq_up s i
  | true => exact seq_dn i h
theorem turn_t : ∀ tw, tw < 64 → ∀ p, p < 6 → (nI tw >>> (nI p &&& 31)) &&& 1 = if tw / 2 ^ p % 2 = 1 then 1 else 0 := by decide +kernel
theorem turnOf_e {ρ : RS} {tw p : Nat} (h : rI ρ 206 = nI tw) (ht : tw < 64) (hp : p < 6) : FR_X2_turnOf ρ (nI p) = some (if tnB tw p = true then 1 else 0) := by
  unfold FR_X2_turnOf
  rw [h, turn_t tw ht p hp]
  unfold tnB
  by_cases c : tw / 2 ^ p % 2 = 1
  · rw [if_pos c, decide_eq_true c]; rfl
  · rw [if_neg c, decide_eq_false c]; rfl
theorem patternAt_e {ρ : RS} {rb n u : Nat} {x : Nat → Nat} (h0 : rV ρ 200 = some rb) (hk : isK ρ rb 11 = true) (hn : pN ρ rb = n) (hn2 : n ≤ 120) (hx : ∀ j, j < n → okr (x j) ∧ pA ρ rb j = nI (enc (x j))) (hu : u < n) : FR_X2_patternAt ρ (nI u) = some (nI (x u % 10)) := by
  have oN : ∀ x, Int32.ofNat x = nI x := fun _ => rfl
  obtain ⟨x1, x2⟩ := hx u hu
  have n0 : ¬ nI u < 0 := nI_nlt (b := 0) (by omega) (by omega)
  have n1 : ¬ nI n ≤ nI u := nI_ge (by omega) (by omega)
  unfold FR_X2_patternAt
  simp only [if_neg n0, h0, sb, hk, gdt, hn, oN, if_neg n1, inb_nI hu (show n < 2 ^ 31 by omega), nI_clamp (show u < 2 ^ 31 by omega), x2, enc_0 x1]
theorem abs_v {u v : Nat} (hu : u < 10) (hv : v < 10) : (if (0 : Int32) ≤ nI u - nI v then nI u - nI v else 0 - (nI u - nI v)) = nI (absd u v) := by
  by_cases c : (0 : Int32) ≤ nI u - nI v
  · rw [if_pos c, (abs_t u hu v hv).1 c]
  · rw [if_neg c, Int32.zero_sub, (abs_t u hu v hv).2 c]
theorem missL {ρ : RS} {rb n thr m : Nat} {x P Q : Nat → Nat} {a0 c0 s1 s2 : Int32} (h0 : rV ρ 200 = some rb) (hk : isK ρ rb 11 = true) (hn : pN ρ rb = n) (hn2 : n ≤ 120) (hx : ∀ j, j < n → okr (x j) ∧ pA ρ rb j = nI (enc (x j))) (ht : rI ρ 202 = nI thr) (ht9 : thr ≤ 9) (hP : ∀ i, i < m → seqA a0 s1 i = nI (P i) ∧ P i < n) (hQ : ∀ i, i < m → seqA c0 s2 i = nI (Q i) ∧ Q i < n) : ∀ d i fuel, i + d = m → m ≤ 120 → d < fuel → FR_X2_missTurned_145 ρ s1 s2 fuel (seqA a0 s1 i) (seqA c0 s2 i) (nI (cntN (fun i => farB thr (x (P i) % 10) (x (Q i) % 10)) i)) (nI d) = some (nI (cntN (fun i => farB thr (x (P i) % 10) (x (Q i) % 10)) m)) := by
  intro d
  induction d with
  | zero =>
    intro i fuel hi hm hf
    obtain ⟨f1, rfl⟩ : ∃ f, fuel = f + 1 := ⟨fuel - 1, by omega⟩
    rw [FR_X2_missTurned_145, if_pos (show nI 0 ≤ 0 from by decide), show i = m by omega]
  | succ d ih =>
    intro i fuel hi hm hf
    obtain ⟨f1, rfl⟩ : ∃ f, fuel = f + 1 := ⟨fuel - 1, by omega⟩
    obtain ⟨p1, p2⟩ := hP i (by omega)
    obtain ⟨q1, q2⟩ := hQ i (by omega)
    obtain ⟨x1, x2⟩ := hx (P i) p2
    obtain ⟨y1, y2⟩ := hx (Q i) q2
    have n1 : ¬ nI (d + 1) ≤ 0 := nI_nle (by omega) (by omega)
    have nx := ih (i + 1) f1 (by omega) hm (by omega)
    have es : seqA a0 s1 (i + 1) = nI (P i) + s1 := by show seqA a0 s1 i + s1 = _; rw [p1]
    have ec : seqA c0 s2 (i + 1) = nI (Q i) + s2 := by show seqA c0 s2 i + s2 = _; rw [q1]
    have hc : cntN (fun i => farB thr (x (P i) % 10) (x (Q i) % 10)) (i + 1) = cntN (fun i => farB thr (x (P i) % 10) (x (Q i) % 10)) i + (if farB thr (x (P i) % 10) (x (Q i) % 10) = true then 1 else 0) := rfl
    rw [es, ec, hc] at nx
    have hd : absd (x (P i) % 10) (x (Q i) % 10) < 10 := absd_l (by omega) (by omega)
    rw [FR_X2_missTurned_145, p1, q1]
    simp only [if_neg n1, patternAt_e h0 hk hn hn2 hx p2, patternAt_e h0 hk hn hn2 hx q2, sb, abs_v (show x (P i) % 10 < 10 by omega) (show x (Q i) % 10 < 10 by omega)]
    unfold farB at nx
    generalize absd (x (P i) % 10) (x (Q i) % 10) = dd at hd nx
    unfold FR_X2_missTurned_192
    rw [ht, show (10 : Int32) - nI dd = nI (10 - dd) from z_sub (a := 10) (by omega), pk_m1]
    by_cases c : dd ≤ thr
    · rw [if_pos (nI_le c (by omega))]
      rw [decide_eq_false (by omega), if_neg (by decide)] at nx
      exact nx
    · rw [if_neg (nI_ge (by omega) (by omega))]
      by_cases c2 : 10 - dd ≤ thr
      · rw [if_pos (nI_le c2 (by omega))]
        rw [decide_eq_false (by omega), if_neg (by decide)] at nx
        exact nx
      · rw [if_neg (nI_ge (by omega) (by omega)), nI_1]
        rw [decide_eq_true (by omega), if_pos rfl] at nx
        exact nx
theorem missL0 {ρ : RS} {rb n thr m : Nat} {x P Q : Nat → Nat} {a0 c0 s1 s2 : Int32} (h0 : rV ρ 200 = some rb) (hk : isK ρ rb 11 = true) (hn : pN ρ rb = n) (hn2 : n ≤ 120) (hx : ∀ j, j < n → okr (x j) ∧ pA ρ rb j = nI (enc (x j))) (ht : rI ρ 202 = nI thr) (ht9 : thr ≤ 9) (hP : ∀ i, i < m → seqA a0 s1 i = nI (P i) ∧ P i < n) (hQ : ∀ i, i < m → seqA c0 s2 i = nI (Q i) ∧ Q i < n) (hm : m ≤ 120) (fuel : Nat) (hf : m < fuel) : FR_X2_missTurned_145 ρ s1 s2 fuel a0 c0 0 (nI m) = some (nI (cntN (fun i => farB thr (x (P i) % 10) (x (Q i) % 10)) m)) := missL h0 hk hn hn2 hx ht ht9 hP hQ m 0 fuel (by omega) hm hf
/-- the misses of a seam whose two pieces are turned so -/
def msT (thr b sl f l : Nat) (s x : Nat → Nat) (k : Nat) (t1 t2 : Bool) : Nat := cntN (fun i => farB thr (x (dirP (s (k + 1)) (lenP b sl f l (k + 1)) t1 i) % 10) (x (dirP (s (sqN k)) (lenP b sl f l (sqN k)) (t2 != decide (k = 3)) i) % 10)) (smR b sl f l k)
theorem smR_l {b sl f l k : Nat} (hk : k < 5) : smR b sl f l k ≤ lenP b sl f l (k + 1) ∧ smR b sl f l k ≤ lenP b sl f l (sqN k) := by
  rcases (show k = 0 ∨ k = 1 ∨ k = 2 ∨ k = 3 ∨ k = 4 by omega) with rfl | rfl | rfl | rfl | rfl <;> (simp [smR, lenP, sqN]; try omega)
theorem miss132 {ρ : RS} {k m : Nat} {x8 x9 x10 t0 : Int32} {M : Int32} (hk : k < 5) (hs : rA ρ 207 k = nI m) (w : FR_X2_missTurned_145 ρ x10 t0 fu x8 x9 0 (nI m) = some M) : FR_X2_missTurned_132 ρ (nI k) x8 x9 x10 t0 = some M := by
  unfold FR_X2_missTurned_132
  rw [gd_t (inb_nI hk (by decide)), nI_clamp (by omega), hs]
  exact w
theorem missF {ρ : RS} {e k : Nat} {b sl f l : Nat} {s : Nat → Nat} {F : Int32 → Int32 → Int32 → Int32 → Option Int32} {M : Option Int32} (hF : F = FR_X2_missTurned_132 ρ (nI k)) (hk : k < 5) (g1 : rV ρ 201 = some e) (g2 : isK ρ e 11 = true) (g3 : pN ρ e = 6) (g4 : ∀ p, p < 6 → pA ρ e p = nI (lenP b sl f l p)) (h205 : ∀ p, p < 6 → rA ρ 205 p = nI (s p)) (t1 t2 : Bool) (w : F (a0E (s (k + 1)) (lenP b sl f l (k + 1)) t1) (a0E (s (sqN k)) (lenP b sl f l (sqN k)) (t2 != decide (k = 3))) (stE t1) (stE (t2 != decide (k = 3))) = M) : FR_X2_missTurned ρ (nI k) (if t1 = true then 1 else 0) (if t2 = true then 1 else 0) = M := by
  have hq : sqN k < 6 := by unfold sqN; split <;> (try split) <;> omega
  have s1 := h205 (k + 1) (by omega)
  have s3 := h205 (sqN k) hq
  have gp := g4 (k + 1) (by omega)
  have gq := g4 (sqN k) hq
  have e1 : nI k + 1 = nI (k + 1) := nI_1 k
  have e2 : tbW k = nI (sqN k) := by rcases (show k = 0 ∨ k = 1 ∨ k = 2 ∨ k = 3 ∨ k = 4 by omega) with rfl | rfl | rfl | rfl | rfl <;> rfl
  have e3 : (nI k = (3 : Int32)) = (k = 3) := z_eq (b := 3) (by omega) (by decide)
  unfold FR_X2_missTurned FR_X2_missTurned_22 FR_X2_missTurned_34 FR_X2_missTurned_44 FR_X2_missTurned_52 FR_X2_missTurned_79 FR_X2_missTurned_107 FR_X2_missTurned_120
  rw [← hF]
  clear hF
  simp only [inb_nI hk (show 5 < 2 ^ 31 by decide), gdt, nI_clamp (show k < 2 ^ 31 by omega), e1, e2, e3, inb_nI hq (show 6 < 2 ^ 31 by decide), inb_nI (show k + 1 < 6 by omega) (show 6 < 2 ^ 31 by decide), nI_clamp (show sqN k < 2 ^ 31 by omega), nI_clamp (show k + 1 < 2 ^ 31 by omega), s1, s3, g1, sb, g2, g3, gp, gq]
  unfold a0E stE at w
  by_cases c3 : k = 3
  · rw [decide_eq_true c3] at w
    simp only [eq_true c3, ↓reduceIte]
    cases t1 <;> cases t2 <;> simp at w ⊢ <;> exact w
  · rw [decide_eq_false c3] at w
    simp only [eq_false c3, ↓reduceIte]
    cases t1 <;> cases t2 <;> simp at w ⊢ <;> exact w
theorem missTurned_e {ρ : RS} {rb e n b sl f l tw thr fo k : Nat} {s x : Nat → Nat} {v0 : Int32} (h : LayV ρ rb e n b sl f l s tw thr fo x v0) (hk : k < 5) (t1 t2 : Bool) : FR_X2_missTurned ρ (nI k) (if t1 = true then 1 else 0) (if t2 = true then 1 else 0) = some (nI (msT thr b sl f l s x k t1 t2)) := by
  have hsr := h.2.2.1.2.2.2 k hk
  have hfu := fu_pos
  obtain ⟨⟨f1, f2, f3, f4⟩, ⟨g1, g2, g3, g4⟩, ⟨h202, -, -⟩, -, h205, ⟨hn, -, hthr, -, ho⟩⟩ := h
  have hq : sqN k < 6 := by unfold sqN; split <;> (try split) <;> omega
  have hml := smR_l (b := b) (sl := sl) (f := f) (l := l) hk
  have hm30 := smR_le (k := k) ho
  have s2 := (h205 (k + 1) (by omega)).2
  have s4 := (h205 (sqN k) hq).2
  have w := missL0 (m := smR b sl f l k) (a0 := a0E (s (k + 1)) (lenP b sl f l (k + 1)) t1) (s1 := stE t1) (c0 := a0E (s (sqN k)) (lenP b sl f l (sqN k)) (t2 != decide (k = 3))) (s2 := stE (t2 != decide (k = 3))) (P := dirP (s (k + 1)) (lenP b sl f l (k + 1)) t1) (Q := dirP (s (sqN k)) (lenP b sl f l (sqN k)) (t2 != decide (k = 3))) f1 f2 f3 hn f4 h202 hthr (fun i hi => ⟨seq_e t1 (by omega), by unfold dirP; split <;> omega⟩) (fun i hi => ⟨seq_e _ (by omega), by unfold dirP; split <;> omega⟩) (by omega) fu (by omega)
  have w2 := missF (s := s) rfl hk g1 g2 g3 g4 (fun p hp => (h205 p hp).1) t1 t2 (miss132 hk hsr w)
  exact w2
