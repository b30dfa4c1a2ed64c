theorem msT_eq {thr b sl f l tw k : Nat} {s x : Nat → Nat} (hk : k < 5) : msT thr b sl f l s x k (tnB tw (k + 1)) (tnB tw (sqN k)) = msN thr b sl f l (yOf s b sl f l tw x) k := by
  unfold msT msN
  refine cntN_cg _ (fun i hi => ?_)
  unfold fmN yOf
  have hml := (smR_l (b := b) (sl := sl) (f := f) (l := l) hk).2
  have key : dirP (s (sqN k)) (lenP b sl f l (sqN k)) (tnB tw (sqN k) != decide (k = 3)) i = dirP (s (sqN k)) (lenP b sl f l (sqN k)) (tnB tw (sqN k)) (sjN b k i) := by
    by_cases c : k = 3
    · subst c
      have hb : i < b := Nat.lt_of_lt_of_le hi hml
      show dirP (s 0) b (tnB tw 0 != true) i = dirP (s 0) b (tnB tw 0) (b - 1 - i)
      cases tnB tw 0 with
      | false => rfl
      | true =>
        show s 0 + i = s 0 + (b - 1 - (b - 1 - i))
        omega
    · rw [decide_eq_false c, show sjN b k i = i from if_neg c]
      cases tnB tw (sqN k) <;> rfl
  rw [key]
theorem missOf_e {ρ : RS} {rb e n b sl f l tw thr fo k : Nat} {s x : Nat → Nat} {v0 : Int32} (h : LayV ρ rb e n b sl f l s tw thr fo x v0) (hk : k < 5) : FR_X2_missOf ρ (nI k) = some (nI (msN thr b sl f l (yOf s b sl f l tw x) k)) := by
  have hq : sqN k < 6 := by unfold sqN; split <;> (try split) <;> omega
  have h206 := h.2.2.1.2.2.1
  have htw := h.2.2.2.2.2.2.1
  have e2 : tbW k = nI (sqN k) := by rcases (show k = 0 ∨ k = 1 ∨ k = 2 ∨ k = 3 ∨ k = 4 by omega) with rfl | rfl | rfl | rfl | rfl <;> rfl
  have m := missTurned_e h hk (tnB tw (k + 1)) (tnB tw (sqN k))
  rw [msT_eq hk] at m
  unfold FR_X2_missOf
  rw [nI_1, turnOf_e h206 htw (show k + 1 < 6 by omega), sb, gd_t (inb_nI hk (by decide)), nI_clamp (by omega), e2, turnOf_e h206 htw hq, sb, m]
  rfl
def ugN (thr fo b sl f l : Nat) (y : Nat → Nat → Nat) : Nat := 5 * shN fo b sl f l y + sumN (msN thr b sl f l y) 5
theorem ugR9 {ρ : RS} {rb e n b sl f l tw thr fo C : Nat} {s x : Nat → Nat} {v0 : Int32} (h : LayV ρ rb e n b sl f l s tw thr fo x v0) : ∀ d k fuel, k + d = 5 → d < fuel → FR_X2_uglySum_9 ρ fuel (nI (C + sumN (msN thr b sl f l (yOf s b sl f l tw x)) k)) (nI k) = some (nI (C + sumN (msN thr b sl f l (yOf s b sl f l tw x)) 5)) := by
  intro d
  induction d with
  | zero =>
    intro k fuel hk hf
    obtain ⟨f1, rfl⟩ : ∃ f, fuel = f + 1 := ⟨fuel - 1, by omega⟩
    have e : k = 5 := by omega
    subst e
    rw [FR_X2_uglySum_9, if_pos (show (5 : Int32) ≤ nI 5 from by decide)]
  | succ d ih =>
    intro k fuel hk hf
    obtain ⟨f1, rfl⟩ : ∃ f, fuel = f + 1 := ⟨fuel - 1, by omega⟩
    have n1 : ¬ (5 : Int32) ≤ nI k := nI_ge (b := 5) (by omega) (by decide)
    rw [FR_X2_uglySum_9, if_neg n1, missOf_e h (by omega), sb, nI_add, nI_1, Nat.add_assoc]
    exact ih (k + 1) f1 (by omega) (by omega)
theorem ugM9 {σ : MS} {b sl f l thr fo C : Nat} {y : Nat → Nat → Nat} (h : LookV σ b sl f l thr fo y) : ∀ d k fuel, k + d = 5 → d < fuel → FM_uglyNow_9 σ fuel (nI (C + sumN (msN thr b sl f l y) k)) (nI k) = some (nI (C + sumN (msN thr b sl f l y) 5)) := by
  intro d
  induction d with
  | zero =>
    intro k fuel hk hf
    obtain ⟨f1, rfl⟩ : ∃ f, fuel = f + 1 := ⟨fuel - 1, by omega⟩
    have e : k = 5 := by omega
    subst e
    rw [FM_uglyNow_9, if_pos (show (5 : Int32) ≤ nI 5 from by decide)]
  | succ d ih =>
    intro k fuel hk hf
    obtain ⟨f1, rfl⟩ : ∃ f, fuel = f + 1 := ⟨fuel - 1, by omega⟩
    have n1 : ¬ (5 : Int32) ≤ nI k := nI_ge (b := 5) (by omega) (by decide)
    rw [FM_uglyNow_9, if_neg n1, seam_M h (by omega), sb, nI_add, nI_1, Nat.add_assoc]
    exact ih (k + 1) f1 (by omega) (by omega)
theorem ugly_R {ρ : RS} {rb e n b sl f l tw thr fo : Nat} {s x : Nat → Nat} {v0 : Int32} (h : LayV ρ rb e n b sl f l s tw thr fo x v0) : FR_X2_uglySum ρ = some (nI (ugN thr fo b sl f l (yOf s b sl f l tw x))) := by
  have hfu := fu_pos
  unfold FR_X2_uglySum
  rw [shown_R h, sb, show (5 : Int32) * nI (shN fo b sl f l (yOf s b sl f l tw x)) = nI (5 * shN fo b sl f l (yOf s b sl f l tw x)) from pk_mul 5 _]
  exact ugR9 h 5 0 fu (by omega) (by omega)
theorem ugly_M {σ : MS} {b sl f l thr fo : Nat} {y : Nat → Nat → Nat} (h : LookV σ b sl f l thr fo y) : FM_uglyNow σ = some (nI (ugN thr fo b sl f l y)) := by
  have hfu := fu_pos
  unfold FM_uglyNow
  rw [shown_M h, sb, show (5 : Int32) * nI (shN fo b sl f l y) = nI (5 * shN fo b sl f l y) from pk_mul 5 _]
  exact ugM9 h 5 0 fu (by omega) (by omega)
/-! spreading and laying -/
theorem enc_16 : ∀ x, x < 1000 → x / 10 % 10 ≤ 1 → (nI (enc x) &&& 16 = 0 ↔ x / 10 % 10 = 0) := by decide +kernel
theorem isSpot_e {x : Nat} (h : okr x) : FR_X2_isSpot (nI (enc x)) = some (if spt x = true then 1 else 0) := by
  unfold FR_X2_isSpot
  have h1 := h.1
  have h2 := h.2
  rw [enc_2 h]
  unfold spt
  by_cases c : x / 10 % 10 = 0
  · rw [if_pos ((enc_16 x h1 h2).mpr c)]
    by_cases c2 : x / 100 < 3
    · rw [if_pos (show nI (x / 100) < 3 from nI_lt (b := 3) c2 (by decide)), decide_eq_false (by omega)]; rfl
    · rw [if_neg (show ¬ nI (x / 100) < 3 from nI_nlt (b := 3) (by omega) (by omega)), decide_eq_true (by omega)]; rfl
  · rw [if_neg (fun z => c ((enc_16 x h1 h2).mp z)), decide_eq_true (by omega)]; rfl
theorem spread24 {σ : RS} {rb n : Nat} {x : Nat → Nat} {v0 : Int32} (h0 : rV σ 200 = some rb) (hk : isK σ rb 11 = true) (hn : pN σ rb = n) (hn2 : n ≤ 120) (hx : ∀ j, j < n → okr (x j) ∧ pA σ rb j = nI (enc (x j))) {Kc : RS → Option RS} : ∀ d k fuel G, k + d = n → d < fuel → (∀ j, j ≤ k → G j = v0 + nI (cntN (fun i => spt (x i)) j)) → ∃ G', (∀ j, j ≤ n → G' j = v0 + nI (cntN (fun i => spt (x i)) j)) ∧ FR_X2_spread_24 Kc fuel (nI k) (rc σ 204 G) = Kc (rc σ 204 G') := by
  intro d
  have oN : ∀ x, Int32.ofNat x = nI x := fun _ => rfl
  have r0 : ∀ G, rV (rc σ 204 G) 200 = some rb := fun G => h0
  have r1 : ∀ G, isK (rc σ 204 G) rb 11 = true := fun G => hk
  have r2 : ∀ G, pN (rc σ 204 G) rb = n := fun G => hn
  have r3 : ∀ G, pA (rc σ 204 G) rb = pA σ rb := fun G => rfl
  have r4 : ∀ G, rA (rc σ 204 G) 204 = G := fun G => rfl
  induction d with
  | zero =>
    intro k fuel G hk hf hG
    obtain ⟨f1, rfl⟩ : ∃ f, fuel = f + 1 := ⟨fuel - 1, by omega⟩
    refine ⟨G, fun j hj => hG j (by omega), ?_⟩
    rw [FR_X2_spread_24]
    simp only [r0, sb, r1, gdt, r2, oN, if_pos (show nI n ≤ nI k from nI_le (by omega) (by omega))]
  | succ d ih =>
    intro k fuel G hk' hf hG
    obtain ⟨f1, rfl⟩ : ∃ f, fuel = f + 1 := ⟨fuel - 1, by omega⟩
    obtain ⟨x1, x2⟩ := hx k (by omega)
    have n1 : ¬ nI n ≤ nI k := nI_ge (by omega) (by omega)
    have n2 : ¬ (120 : Int32) ≤ nI k := nI_ge (b := 120) (by omega) (by decide)
    have st : ∀ (w : Nat) (hw : w = if spt (x k) = true then 1 else 0), ra (rc σ 204 G) 204 (nI (k + 1)) (G k + nI w) = rc σ 204 (upd G (k + 1) (G k + nI w)) := fun w _ => by
      rw [ra_rc, rc_rc, nI_clamp (by omega)]
      rfl
    have key : ∀ (w : Nat), w = (if spt (x k) = true then 1 else 0) → ∀ j, j ≤ k + 1 → upd G (k + 1) (G k + nI w) j = v0 + nI (cntN (fun i => spt (x i)) j) := fun w hw j hj => by
      by_cases c : j = k + 1
      · subst c
        rw [upd_s, hG k (Nat.le_refl _), hw, Int32.add_assoc, nI_add]
        rfl
      · rw [upd_n c]
        exact hG j (by omega)
    rw [FR_X2_spread_24]
    unfold FR_X2_spread_74
    simp only [r0, sb, r1, gdt, r2, r3, r4, oN, if_neg n1, if_neg n2, inb_nI (show k < 121 by omega) (show 121 < 2 ^ 31 by decide), inb_nI (show k < n by omega) (show n < 2 ^ 31 by omega), nI_clamp (show k < 2 ^ 31 by omega), x2, isSpot_e x1, nI_1, inb_nI (show k + 1 < 121 by omega) (show 121 < 2 ^ 31 by decide)]
    by_cases c : spt (x k) = true
    · rw [if_pos c, if_neg (show ¬ (1 : Int32) = 0 from by decide), show (1 : Int32) = nI 1 from rfl, st 1 (by rw [if_pos c])]
      exact ih (k + 1) f1 _ (by omega) (by omega) (key 1 (by rw [if_pos c]))
    · rw [if_neg c, if_pos rfl, show (0 : Int32) = nI 0 from rfl, st 0 (by rw [if_neg c])]
      exact ih (k + 1) f1 _ (by omega) (by omega) (key 0 (by rw [if_neg c]))
/-- how many rows of each seam meet, as the class keeps them -/
def smZ (ρ : RS) (e : Nat) : Nat → Int32 := upd (upd (upd (upd (upd (rA ρ 207) 0 (pA ρ e 0)) 1 (if pA ρ e 2 < pA ρ e 0 / 2 then pA ρ e 2 else pA ρ e 0 / 2)) 2 (if pA ρ e 2 < pA ρ e 0 / 2 then pA ρ e 2 else pA ρ e 0 / 2)) 3 (if pA ρ e 0 < pA ρ e 4 then pA ρ e 0 else pA ρ e 4)) 4 (if pA ρ e 4 < pA ρ e 5 then pA ρ e 4 else pA ρ e 5)
theorem smZ_e {ρ : RS} {e b sl f l k : Nat} (g4 : ∀ p, p < 6 → pA ρ e p = nI (lenP b sl f l p)) (ho : okl b sl f l) (hk : k < 5) : smZ ρ e k = nI (smR b sl f l k) := by
  obtain ⟨o1, o2, o3, o4, o5, o6, o7, o8⟩ := ho
  have l0 : pA ρ e 0 = nI b := g4 0 (by omega)
  have l2 : pA ρ e 2 = nI sl := g4 2 (by omega)
  have l4 : pA ρ e 4 = nI f := g4 4 (by omega)
  have l5 : pA ρ e 5 = nI l := g4 5 (by omega)
  have hd2 : nI b / 2 = nI (b / 2) := z_div (d := 2) (by omega) (by decide) (by decide)
  have mn : ∀ u v, u < 1000 → v < 1000 → (if nI u < nI v then nI u else nI v) = nI (min v u) := fun u v hu hv => by
    by_cases c : u < v
    · rw [if_pos (nI_lt c (by omega)), show min v u = u by omega]
    · rw [if_neg (nI_nlt (by omega) (by omega)), show min v u = v by omega]
  unfold smZ
  rw [l0, l2, l4, l5, hd2, mn sl (b / 2) (by omega) (by omega), mn b f (by omega) (by omega), mn f l (by omega) (by omega)]
  rcases (show k = 0 ∨ k = 1 ∨ k = 2 ∨ k = 3 ∨ k = 4 by omega) with rfl | rfl | rfl | rfl | rfl
  · rw [upd_n (by omega), upd_n (by omega), upd_n (by omega), upd_n (by omega), upd_s]; rfl
  · rw [upd_n (by omega), upd_n (by omega), upd_n (by omega), upd_s]; rfl
  · rw [upd_n (by omega), upd_n (by omega), upd_s]; rfl
  · rw [upd_n (by omega), upd_s]; rfl
  · rw [upd_s]; rfl
theorem rc_com (σ : RS) {j k : Nat} (h : j ≠ k) (g g' : Nat → Int32) : rc (rc σ j g) k g' = rc (rc σ k g') j g := by
  unfold rc
  refine congrArg (fun z => (σ.1, z, σ.2.2)) (funext fun i => ?_)
  show va_up (va_up σ.2.1 j g) k g' i = va_up (va_up σ.2.1 k g') j g i
  unfold va_up
  by_cases c1 : i = k
  · by_cases c2 : i = j
    · exact absurd (c2.symm.trans c1) h
    · simp [c1, show ¬ k = j from fun z => h z.symm]
  · by_cases c2 : i = j <;> simp [c1, c2, h]
theorem rA_ra7 (σ : RS) (i v : Int32) : rA (ra σ 207 i v) 207 = upd (rA σ 207) i.toNatClampNeg v := rfl
theorem rc_ra7 (σ : RS) (i v : Int32) (g : Nat → Int32) : rc (ra σ 207 i v) 207 g = rc σ 207 g := by rw [ra_rc, rc_rc]
theorem meet_e {σ : RS} {e : Nat} (g1 : rV σ 201 = some e) (g2 : isK σ e 11 = true) (g3 : pN σ e = 6) : FR_X2_meetAtSeams σ = some (rc σ 207 (smZ σ e)) := by
  have t0 : (0 : Int32).toNatClampNeg = 0 := rfl
  have t1 : (1 : Int32).toNatClampNeg = 1 := rfl
  have t2 : (2 : Int32).toNatClampNeg = 2 := rfl
  have t3 : (3 : Int32).toNatClampNeg = 3 := rfl
  have t4 : (4 : Int32).toNatClampNeg = 4 := rfl
  have t5 : (5 : Int32).toNatClampNeg = 5 := rfl
  unfold FR_X2_meetAtSeams smZ
  simp only [g1, sb, g2, gdt, g3, qrV_ra, qisK_ra, qpN_ra, qpA_ra, show inb (0 : Int32) 6 = true from rfl, show inb (2 : Int32) 6 = true from rfl, show inb (4 : Int32) 6 = true from rfl, show inb (5 : Int32) 6 = true from rfl, show inb (0 : Int32) 5 = true from rfl, show inb (1 : Int32) 5 = true from rfl, show inb (2 : Int32) 5 = true from rfl, show inb (3 : Int32) 5 = true from rfl, show inb (4 : Int32) 5 = true from rfl, t0, t1, t2, t3, t4, t5]
  generalize pA σ e 0 = v0
  generalize pA σ e 2 = v2
  generalize pA σ e 4 = v4
  generalize pA σ e 5 = v5
  generalize (if v2 < v0 / 2 then v2 else v0 / 2) = m1
  generalize (if v0 < v4 then v0 else v4) = m2
  generalize (if v4 < v5 then v4 else v5) = m3
  rw [ra_rc, rc_ra7, rA_ra7, rc_ra7, rA_ra7, rc_ra7, rA_ra7, rc_ra7, rA_ra7, t0, t1, t2, t3, t4]
def sprS (ρ : RS) (rb e : Nat) (thr fo : Int32) : RS := rc (ri (ri (rv (rv ρ 200 (some rb)) 201 (some e)) 202 thr) 203 fo) 207 (smZ ρ e)
theorem spread_e {ρ : RS} {rb e n : Nat} {x : Nat → Nat} (hk : isK ρ rb 11 = true) (hn : pN ρ rb = n) (hn2 : n ≤ 120) (hx : ∀ j, j < n → okr (x j) ∧ pA ρ rb j = nI (enc (x j))) (g2 : isK ρ e 11 = true) (g3 : pN ρ e = 6) (thr fo : Int32) : ∃ G, (∀ j, j ≤ n → G j = rA ρ 204 0 + nI (cntN (fun i => spt (x i)) j)) ∧ FR_X2_spread ρ rb e thr fo = some (rc (sprS ρ rb e thr fo) 204 G) := by
  have hfu := fu_pos
  obtain ⟨σ, hσ⟩ : ∃ σ, σ = ri (ri (rv (rv ρ 200 (some rb)) 201 (some e)) 202 thr) 203 fo := ⟨_, rfl⟩
  have a1 : rV σ 200 = some rb := by rw [hσ]; rfl
  have a2 : rV σ 201 = some e := by rw [hσ]; rfl
  have a3 : isK σ rb 11 = true := by rw [hσ]; exact hk
  have a4 : isK σ e 11 = true := by rw [hσ]; exact g2
  have a5 : pN σ = pN ρ := by rw [hσ]; rfl
  have a6 : pA σ = pA ρ := by rw [hσ]; rfl
  have a7 : rA σ = rA ρ := by rw [hσ]; rfl
  obtain ⟨G, g1, g5⟩ := spread24 (σ := σ) (rb := rb) (n := n) (x := x) (v0 := rA ρ 204 0) (Kc := fun σ_82 => FR_X2_spread_82 σ_82) a1 a3 (by rw [a5]; exact hn) hn2 (by rw [a6]; exact hx) n 0 fu (rA σ 204) (by omega) (by omega) (fun j hj => by
    have : j = 0 := by omega
    subst this
    rw [a7]
    show rA ρ 204 0 = rA ρ 204 0 + 0
    rw [Int32.add_zero])
  rw [rc_self] at g5
  have z : smZ (rc σ 204 G) e = smZ ρ e := by
    unfold smZ
    rw [show rA (rc σ 204 G) 207 = rA σ 207 from rfl, show pA (rc σ 204 G) e = pA σ e from rfl, a6, a7]
  refine ⟨G, g1, ?_⟩
  unfold FR_X2_spread
  rw [← hσ]
  refine Eq.trans g5 ?_
  unfold FR_X2_spread_82 sprS
  rw [meet_e (σ := rc σ 204 G) (e := e) a2 a4 (by show pN σ e = 6; rw [a5]; exact g3), sb, z, rc_com σ (by decide), ← hσ]
def unN (k : Nat) : Nat := if k = 0 then 7776 else if k = 1 then 1296 else if k = 2 then 216 else if k = 3 then 36 else if k = 4 then 6 else 1
def dgN (o k : Nat) : Nat := o / unN k % 6
def stN (len d : Nat → Nat) (k : Nat) : Nat := sumN (fun j => len (d j)) k
theorem dg_lt (o k : Nat) : dgN o k < 6 := Nat.mod_lt _ (by decide)
theorem xor6 {a : Nat} (h : a < 2 ^ 31) : (0 : Int32) ≤ nI a ^^^ 6 := by
  have h1 : (nI a).toBitVec.msb = false := by
    rw [BitVec.msb_eq_toInt]
    refine decide_eq_false ?_
    show ¬ (nI a).toInt < 0
    rw [nI_toInt h]
    omega
  have h2 : ((nI a ^^^ 6).toBitVec).msb = false := by
    rw [Int32.toBitVec_xor, BitVec.msb_xor, h1]
    rfl
  rw [BitVec.msb_eq_toInt] at h2
  have h3 := of_decide_eq_false h2
  refine Int32.le_iff_toInt_le.mpr ?_
  show (0 : Int) ≤ ((nI a ^^^ 6).toBitVec).toInt
  omega
theorem nI_dc {k : Nat} (h : 0 < k) : nI k + (-1 : Int32) = nI (k - 1) := by
  rw [← Int32.sub_eq_add_neg]
  exact z_sub (b := 1) h
theorem pieceL {σ : RS} {KR : Int32 → Option Int32} {k : Nat} (hk : k < 6) : ∀ d j fuel x, k + d = j → j < 6 → d < fuel → x < 2 ^ 31 → FR_X9_pieceAt_4 σ KR (nI k) fuel (nI x) (nI j) = KR (nI (x / 6 ^ d)) := by
  intro d
  induction d with
  | zero =>
    intro j fuel x hj hj6 hf hx
    obtain ⟨f1, rfl⟩ : ∃ f, fuel = f + 1 := ⟨fuel - 1, by omega⟩
    rw [FR_X9_pieceAt_4, if_pos (nI_le (by omega) (by omega)), Nat.pow_zero, Nat.div_one]
  | succ d ih =>
    intro j fuel x hj hj6 hf hx
    obtain ⟨f1, rfl⟩ : ∃ f, fuel = f + 1 := ⟨fuel - 1, by omega⟩
    have h6 : x / 6 ≤ x := Nat.div_le_self _ _
    rw [FR_X9_pieceAt_4, if_neg (nI_ge (by omega) (by omega)), nI_dc (show 0 < j by omega), show nI x / (6 : Int32) = nI (x / 6) from z_div (d := 6) (by omega) (by decide) (by decide), ih (j - 1) f1 (x / 6) (by omega) (by omega) (by omega) (by omega), Nat.div_div_eq_div_mul, Nat.pow_succ, Nat.mul_comm 6 (6 ^ d)]
theorem unN_e {k : Nat} (hk : k < 6) : 6 ^ (5 - k) = unN k := by
  rcases (show k = 0 ∨ k = 1 ∨ k = 2 ∨ k = 3 ∨ k = 4 ∨ k = 5 by omega) with rfl | rfl | rfl | rfl | rfl | rfl <;> rfl
theorem pieceAt_e {σ : RS} {o k : Nat} (ho : o < 1000000) (hk : k < 6) : FR_X9_pieceAt σ (nI o) (nI k) = some (nI (dgN o k)) := by
  have hfu := fu_pos
  have hle : o / unN k ≤ o := Nat.div_le_self _ _
  have n3 : (0 : Int32) ≤ nI (o / unN k) ^^^ 6 := xor6 (by omega)
  unfold FR_X9_pieceAt
  rw [show (5 : Int32) = nI 5 from rfl, pieceL hk (5 - k) 5 fu o (by omega) (by decide) (by omega) (by omega), unN_e hk]
  unfold FR_X9_pieceAt_20 FR_floorMod
  rw [show decide (¬ (6 : Int32) = 0) = true from rfl, gdt, if_pos n3, show nI (o / unN k) - nI (o / unN k) / 6 * 6 = nI (dgN o k) from z_rem (d := 6) (by omega) (by decide) (by decide), sb]
theorem lay10 {σ : RS} {e b sl f l o : Nat} (g1 : rV σ 201 = some e) (g2 : isK σ e 11 = true) (g3 : pN σ e = 6) (g4 : ∀ p, p < 6 → pA σ e p = nI (lenP b sl f l p)) (ho : o < 1000000) (hinj : ∀ i j, i < 6 → j < 6 → dgN o i = dgN o j → i = j) : ∀ d k fuel S, k + d = 6 → d < fuel → (∀ j, j < k → S (dgN o j) = nI (stN (lenP b sl f l) (dgN o) j)) → ∃ S', (∀ j, j < 6 → S' (dgN o j) = nI (stN (lenP b sl f l) (dgN o) j)) ∧ FR_X2_lay_10 (nI o) fuel (nI (stN (lenP b sl f l) (dgN o) k)) (nI k) (rc σ 205 S) = some (rc σ 205 S') := by
  intro d
  have r1 : ∀ S, rV (rc σ 205 S) 201 = some e := fun S => g1
  have r2 : ∀ S, isK (rc σ 205 S) e 11 = true := fun S => g2
  have r3 : ∀ S, pN (rc σ 205 S) e = 6 := fun S => g3
  have r4 : ∀ S, pA (rc σ 205 S) e = pA σ e := fun S => rfl
  induction d with
  | zero =>
    intro k fuel S hk hf hS
    obtain ⟨f1, rfl⟩ : ∃ f, fuel = f + 1 := ⟨fuel - 1, by omega⟩
    have e6 : k = 6 := by omega
    subst e6
    refine ⟨S, hS, ?_⟩
    rw [FR_X2_lay_10, if_pos (show (6 : Int32) ≤ nI 6 from by decide)]
  | succ d ih =>
    intro k fuel S hk hf hS
    obtain ⟨f1, rfl⟩ : ∃ f, fuel = f + 1 := ⟨fuel - 1, by omega⟩
    have n1 : ¬ (6 : Int32) ≤ nI k := nI_ge (b := 6) (by omega) (by decide)
    have hd := dg_lt o k
    have st : ra (rc σ 205 S) 205 (nI (dgN o k)) (nI (stN (lenP b sl f l) (dgN o) k)) = rc σ 205 (upd S (dgN o k) (nI (stN (lenP b sl f l) (dgN o) k))) := by
      rw [ra_rc, rc_rc, nI_clamp (by omega)]
      rfl
    rw [FR_X2_lay_10]
    simp only [if_neg n1, pieceAt_e ho (show k < 6 by omega), gdt, inb_nI hd (show 6 < 2 ^ 31 by decide), st, r1, sb, r2, r3, r4, nI_clamp (show dgN o k < 2 ^ 31 by omega), g4 _ hd, nI_add, nI_1]
    refine ih (k + 1) f1 _ (by omega) (by omega) (fun j hj => ?_)
    by_cases c : j = k
    · subst c
      exact upd_s _ _ _
    · rw [upd_n (fun z => c (hinj j k (by omega) (by omega) z))]
      exact hS j (by omega)
theorem lay_e {σ : RS} {e b sl f l o : Nat} (g1 : rV σ 201 = some e) (g2 : isK σ e 11 = true) (g3 : pN σ e = 6) (g4 : ∀ p, p < 6 → pA σ e p = nI (lenP b sl f l p)) (ho : o < 1000000) (hinj : ∀ i j, i < 6 → j < 6 → dgN o i = dgN o j → i = j) (tw : Int32) : ∃ S, (∀ j, j < 6 → S (dgN o j) = nI (stN (lenP b sl f l) (dgN o) j)) ∧ FR_X2_lay σ (nI o) tw = some (rc (ri σ 206 tw) 205 S) := by
  have hfu := fu_pos
  obtain ⟨S, s1, s2⟩ := lay10 (σ := ri σ 206 tw) g1 g2 g3 g4 ho hinj 6 0 fu (rA (ri σ 206 tw) 205) (by omega) (by omega) (fun j hj => absurd hj (Nat.not_lt_zero j))
  rw [rc_self] at s2
  refine ⟨S, s1, ?_⟩
  unfold FR_X2_lay
  exact s2
