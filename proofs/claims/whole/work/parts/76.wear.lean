def wnB (b sl f l t : Nat) : Bool := decide (t = b / 2 ∨ t = b + b / 2 ∨ (2 * b ≤ t ∧ t < 2 * b + 3 ∧ t < 2 * b + sl) ∨ (2 * b + sl ≤ t ∧ t < 2 * b + sl + 3 ∧ t < 2 * b + 2 * sl) ∨ (2 * b + 2 * sl + f ≤ t ∧ t < 2 * b + 2 * sl + f + l))
def bp (Q : Nat → Bool) (x : Nat → Nat) (t : Nat) : Nat := if Q t = true ∧ x t < 900 then x t + 100 else x t
def ctQ (Q : Nat → Bool) (x : Nat → Nat) (t : Nat) : Bool := Q t && decide (x t < 900)
def lt9 (x : Nat → Nat) (t : Nat) : Bool := decide (x t < 900)
theorem enc_w : ∀ x, x < 900 → x / 10 % 10 ≤ 1 → nI (enc x) + 32 = nI (enc (x + 100)) := by decide +kernel
theorem bp_ok {Q : Nat → Bool} {x : Nat → Nat} {t : Nat} (h : okr (x t)) : okr (bp Q x t) := by
  unfold bp okr at *
  split <;> omega
theorem cntN_add (P : Nat → Bool) (a : Nat) : ∀ k, cntN P (a + k) = cntN P a + cntN (fun j => P (a + j)) k
  | 0 => rfl
  | k + 1 => by
    show cntN P (a + k) + (if P (a + k) = true then 1 else 0) = cntN P a + (cntN (fun j => P (a + j)) k + (if P (a + k) = true then 1 else 0))
    rw [cntN_add P a k]
    omega
theorem cntN_0 {P : Nat → Bool} : ∀ k, (∀ j, j < k → P j = false) → cntN P k = 0
  | 0, _ => rfl
  | k + 1, h => by
    rw [cntN_n (by rw [h k (by omega)]; decide)]
    exact cntN_0 k (fun j hj => h j (by omega))
theorem cntN_cg {P P' : Nat → Bool} : ∀ k, (∀ j, j < k → P j = P' j) → cntN P k = cntN P' k
  | 0, _ => rfl
  | k + 1, h => by
    unfold cntN
    rw [cntN_cg k (fun j hj => h j (by omega)), h k (by omega)]
theorem cntN_cut {P P' : Nat → Bool} {m k : Nat} (hm : m ≤ k) (h1 : ∀ j, j < m → P j = P' j) (h2 : ∀ j, m ≤ j → j < k → P j = false) : cntN P k = cntN P' m := by
  obtain ⟨d, rfl⟩ : ∃ d, k = m + d := ⟨k - m, by omega⟩
  rw [cntN_add, cntN_cg m h1, cntN_0 d (fun j hj => h2 (m + j) (by omega) (by omega))]
  rfl
theorem cntN_pt {P : Nat → Bool} {m k : Nat} {q : Bool} (hm : m < k) (h1 : P m = q) (h2 : ∀ j, j < k → j ≠ m → P j = false) : cntN P k = if q = true then 1 else 0 := by
  obtain ⟨d, rfl⟩ : ∃ d, k = m + 1 + d := ⟨k - (m + 1), by omega⟩
  rw [cntN_add, cntN_0 d (fun j hj => h2 (m + 1 + j) (by omega) (by omega))]
  show cntN P m + (if P m = true then 1 else 0) + 0 = _
  rw [cntN_0 m (fun j hj => h2 j (by omega) (by omega)), h1]
  omega
/-- how many rows become more worn: by the places, and as the reference adds them up -/
theorem wear_sum {b sl f l : Nat} {x : Nat → Nat} (hb : 1 ≤ b) (hm : Nat) (hm1 : hm ≤ 3) (hm2 : hm ≤ sl) (hm3 : hm = 3 ∨ hm = sl) : cntN (ctQ (wnB b sl f l) x) (2 * b + 2 * sl + f + l) = cntN (fun i => lt9 x (2 * b + i)) hm + cntN (fun i => lt9 x (2 * b + sl + i)) hm + cntN (fun i => lt9 x (2 * b + 2 * sl + f + i)) l + (if lt9 x (b / 2) = true then 1 else 0) + (if lt9 x (b + b / 2) = true then 1 else 0) := by
  have F : ∀ t, ¬ (t = b / 2 ∨ t = b + b / 2 ∨ (2 * b ≤ t ∧ t < 2 * b + 3 ∧ t < 2 * b + sl) ∨ (2 * b + sl ≤ t ∧ t < 2 * b + sl + 3 ∧ t < 2 * b + 2 * sl) ∨ (2 * b + 2 * sl + f ≤ t ∧ t < 2 * b + 2 * sl + f + l)) → ctQ (wnB b sl f l) x t = false := fun t h => by
    unfold ctQ wnB
    rw [decide_eq_false h]
    rfl
  have G : ∀ t, (t = b / 2 ∨ t = b + b / 2 ∨ (2 * b ≤ t ∧ t < 2 * b + 3 ∧ t < 2 * b + sl) ∨ (2 * b + sl ≤ t ∧ t < 2 * b + sl + 3 ∧ t < 2 * b + 2 * sl) ∨ (2 * b + 2 * sl + f ≤ t ∧ t < 2 * b + 2 * sl + f + l)) → ctQ (wnB b sl f l) x t = lt9 x t := fun t h => by
    unfold ctQ wnB lt9
    rw [decide_eq_true h]
    rfl
  rw [show 2 * b + 2 * sl + f + l = b + (b + (sl + (sl + (f + l)))) by omega, cntN_add, cntN_add, cntN_add, cntN_add, cntN_add]
  have e1 : cntN (ctQ (wnB b sl f l) x) b = if lt9 x (b / 2) = true then 1 else 0 := cntN_pt (m := b / 2) (by omega) (G _ (by omega)) (fun j hj hne => F j (by omega))
  have e2 : cntN (fun j => ctQ (wnB b sl f l) x (b + j)) b = if lt9 x (b + b / 2) = true then 1 else 0 := cntN_pt (m := b / 2) (by omega) (G _ (by omega)) (fun j hj hne => F (b + j) (by omega))
  have e3 : cntN (fun j => (fun j => ctQ (wnB b sl f l) x (b + j)) (b + j)) sl = cntN (fun i => lt9 x (2 * b + i)) hm := cntN_cut hm2 (fun j hj => by show ctQ _ x (b + (b + j)) = _; rw [G _ (by omega)]; congr 1; omega) (fun j h1 h2 => F (b + (b + j)) (by omega))
  have e4 : cntN (fun j => (fun j => (fun j => ctQ (wnB b sl f l) x (b + j)) (b + j)) (sl + j)) sl = cntN (fun i => lt9 x (2 * b + sl + i)) hm := cntN_cut hm2 (fun j hj => by show ctQ _ x (b + (b + (sl + j))) = _; rw [G _ (by omega)]; congr 1; omega) (fun j h1 h2 => F (b + (b + (sl + j))) (by omega))
  have e5 : cntN (fun j => (fun j => (fun j => (fun j => ctQ (wnB b sl f l) x (b + j)) (b + j)) (sl + j)) (sl + j)) f = 0 := cntN_0 f (fun j hj => F (b + (b + (sl + (sl + j)))) (by omega))
  have e6 : cntN (fun j => (fun j => (fun j => (fun j => (fun j => ctQ (wnB b sl f l) x (b + j)) (b + j)) (sl + j)) (sl + j)) (f + j)) l = cntN (fun i => lt9 x (2 * b + 2 * sl + f + i)) l := cntN_cg l (fun j hj => by show ctQ _ x (b + (b + (sl + (sl + (f + j))))) = _; rw [G _ (by omega)]; congr 1; omega)
  rw [e1, e2, e3, e4, e5, e6]
  omega
theorem lenP_A {own : Nat → Nat} {ρ : RS} {s e b sl f l : Nat} (g2 : LenV own ρ s e b sl f l) {p : Nat} (hp : p < 6) : pA ρ e p = nI (lenP b sl f l p) := by
  obtain ⟨-, -, -, a0, a1, a2, a3, a4, a5⟩ := g2
  rcases (show p = 0 ∨ p = 1 ∨ p = 2 ∨ p = 3 ∨ p = 4 ∨ p = 5 by omega) with rfl | rfl | rfl | rfl | rfl | rfl
  · exact a0
  · exact a1
  · exact a2
  · exact a3
  · exact a4
  · exact a5
theorem wearsAt_e {σ : RS} {a e b sl f l p i : Nat} (hk : isK σ a 4 = true) (he : pR σ a 1 = some e) (hek : isK σ e 11 = true) (hN : pN σ e = 6) (h0 : pA σ e 0 = nI b) (h1 : pA σ e 1 = nI b) (ho : okl b sl f l) (hp : p < 6) (hi : i < lenP b sl f l p) : FR_X4_wearsAt σ a (nI p) (nI i) = some (if wnB b sl f l (froP b sl f l p + i) = true then 1 else 0) := by
  obtain ⟨o1, o2, o3, o4, o5, o6, o7, o8⟩ := ho
  unfold FR_X4_wearsAt FR_X4_wearsAt_40 FR_X4_wearsAt_58
  have hd : nI b / 2 = nI (b / 2) := z_div (d := 2) (by omega) (by decide) (by decide)
  have dec : ∀ (P : Prop) [Decidable P], (wnB b sl f l (froP b sl f l p + i) = true ↔ P) → ∀ (x y : Option Int32), (if wnB b sl f l (froP b sl f l p + i) = true then x else y) = if P then x else y := fun P _ h x y => by
    by_cases c : P
    · rw [if_pos (h.mpr c), if_pos c]
    · rw [if_neg (fun z => c (h.mp z)), if_neg c]
  rw [← som_if]
  rcases (show p = 0 ∨ p = 1 ∨ p = 2 ∨ p = 3 ∨ p = 4 ∨ p = 5 by omega) with rfl | rfl | rfl | rfl | rfl | rfl
  · have hi : i < b := hi
    simp only [show (nI 0 = (0 : Int32)) = True from eq_true rfl, ↓reduceIte, hk, gdt, he, sb, hek, hN, show inb (nI 0) 6 = true from rfl, show (nI 0).toNatClampNeg = 0 from rfl, h0, hd]
    rw [dec (i = b / 2) (by show decide _ = true ↔ _; rw [decide_eq_true_iff]; show _ ∨ _ ↔ _; simp only [froP, ↓reduceIte]; omega)]
    by_cases c : i = b / 2
    · rw [if_pos c, if_pos (by rw [c])]
    · rw [if_neg c, if_neg (fun z => c ((nI_eq (by omega) (by omega)).mp z))]
  · have hi : i < b := hi
    simp only [show (nI 1 = (0 : Int32)) = False from eq_false (by decide), show (nI 1 = (1 : Int32)) = True from eq_true rfl, ↓reduceIte, hk, gdt, he, sb, hek, hN, show inb (nI 1) 6 = true from rfl, show (nI 1).toNatClampNeg = 1 from rfl, h1, hd]
    rw [dec (i = b / 2) (by show decide _ = true ↔ _; rw [decide_eq_true_iff]; simp only [froP, ↓reduceIte, show (1 = 0) = False from eq_false (by decide)]; omega)]
    by_cases c : i = b / 2
    · rw [if_pos c, if_pos (by rw [c])]
    · rw [if_neg c, if_neg (fun z => c ((nI_eq (by omega) (by omega)).mp z))]
  · have hi : i < sl := hi
    simp only [show (nI 2 = (0 : Int32)) = False from eq_false (by decide), show (nI 2 = (1 : Int32)) = False from eq_false (by decide), show (nI 2 = (2 : Int32)) = True from eq_true rfl, ↓reduceIte]
    rw [dec (i < 3) (by show decide _ = true ↔ _; rw [decide_eq_true_iff]; simp only [froP, ↓reduceIte, show (2 = 0) = False from eq_false (by decide), show (2 = 1) = False from eq_false (by decide)]; omega)]
    by_cases c : i < 3
    · rw [if_pos c, if_neg (show ¬ (3 : Int32) ≤ nI i from nI_ge (b := 3) c (by decide))]
    · rw [if_neg c, if_pos (show (3 : Int32) ≤ nI i from nI_le (a := 3) (by omega) (by omega))]
  · have hi : i < sl := hi
    simp only [show (nI 3 = (0 : Int32)) = False from eq_false (by decide), show (nI 3 = (1 : Int32)) = False from eq_false (by decide), show (nI 3 = (2 : Int32)) = False from eq_false (by decide), show (nI 3 = (3 : Int32)) = True from eq_true rfl, ↓reduceIte]
    rw [dec (i < 3) (by show decide _ = true ↔ _; rw [decide_eq_true_iff]; simp only [froP, ↓reduceIte, show (3 = 0) = False from eq_false (by decide), show (3 = 1) = False from eq_false (by decide), show (3 = 2) = False from eq_false (by decide)]; omega)]
    by_cases c : i < 3
    · rw [if_pos c, if_neg (show ¬ (3 : Int32) ≤ nI i from nI_ge (b := 3) c (by decide))]
    · rw [if_neg c, if_pos (show (3 : Int32) ≤ nI i from nI_le (a := 3) (by omega) (by omega))]
  · have hi : i < f := hi
    simp only [show (nI 4 = (0 : Int32)) = False from eq_false (by decide), show (nI 4 = (1 : Int32)) = False from eq_false (by decide), show (nI 4 = (2 : Int32)) = False from eq_false (by decide), show (nI 4 = (3 : Int32)) = False from eq_false (by decide), show (nI 4 = (4 : Int32)) = True from eq_true rfl, ↓reduceIte]
    rw [dec False (by show decide _ = true ↔ _; rw [decide_eq_true_iff]; simp only [froP, ↓reduceIte, show (4 = 0) = False from eq_false (by decide), show (4 = 1) = False from eq_false (by decide), show (4 = 2) = False from eq_false (by decide), show (4 = 3) = False from eq_false (by decide)]; exact iff_of_false (by omega) id), if_neg (fun z => z)]
  · have hi : i < l := hi
    simp only [show (nI 5 = (0 : Int32)) = False from eq_false (by decide), show (nI 5 = (1 : Int32)) = False from eq_false (by decide), show (nI 5 = (2 : Int32)) = False from eq_false (by decide), show (nI 5 = (3 : Int32)) = False from eq_false (by decide), show (nI 5 = (4 : Int32)) = False from eq_false (by decide), show (nI 5 = (5 : Int32)) = True from eq_true rfl, ↓reduceIte]
    rw [dec True (by show decide _ = true ↔ _; rw [decide_eq_true_iff]; simp only [froP, ↓reduceIte, show (5 = 0) = False from eq_false (by decide), show (5 = 1) = False from eq_false (by decide), show (5 = 2) = False from eq_false (by decide), show (5 = 3) = False from eq_false (by decide), show (5 = 4) = False from eq_false (by decide)]; exact iff_of_true (by omega) trivial), if_pos trivial]
theorem wearR {own : Nat → Nat} {ρ : RS} {μ : MS} {r0 a c e b sl f l rr : Nat} {x : Nat → Nat} (hr : RobeL own ρ μ r0 a c e b sl f l) (hrr : pR ρ c 0 = some rr) (hrk : isK ρ rr 11 = true) (hrn : pN ρ rr = 2 * b + 2 * sl + f + l) (hne : e ≠ rr) (hx : ∀ t, t < 2 * b + 2 * sl + f + l → okr (x t) ∧ pA ρ rr t = nI (enc (x t))) {p : Nat} (hp : p < 6) {K : Int32 → Int32 → RS → Option (Int32 × RS)} : ∀ d i fuel, i + d = lenP b sl f l p → d < fuel →
    FR_X4_wearOnce_15 K a (nI p) fuel (nI (cntN (ctQ (wnB b sl f l) x) (froP b sl f l p + i))) (nI (froP b sl f l p + i)) (nI i) (wc ρ rr (hyb 0 (froP b sl f l p + i) (fun t => nI (enc (bp (wnB b sl f l) x t))) (pA ρ rr))) = K (nI (cntN (ctQ (wnB b sl f l) x) (froP b sl f l (p + 1)))) (nI (froP b sl f l (p + 1))) (wc ρ rr (hyb 0 (froP b sl f l (p + 1)) (fun t => nI (enc (bp (wnB b sl f l) x t))) (pA ρ rr))) := by
  obtain ⟨⟨r1, r2, r3, r4, r5⟩, -, ⟨c1, c2⟩, ⟨g1, g2⟩, -⟩ := hr
  have hn := r5.2.2.2.2.2.2.2
  have hfl : froP b sl f l p + lenP b sl f l p ≤ 2 * b + 2 * sl + f + l := by rw [fro_s hp]; exact fro_le
  have hA : ∀ (g : Nat → Int32) (q : Nat), q < 6 → pA (wc ρ rr g) e q = nI (lenP b sl f l q) := fun g q hq => by
    rw [qpA_wc, if_neg hne]
    exact lenP_A g2 hq
  intro d
  induction d with
  | zero =>
    intro i fuel hi hf
    obtain ⟨f1, rfl⟩ : ∃ f, fuel = f + 1 := ⟨fuel - 1, by omega⟩
    have ei : froP b sl f l p + i = froP b sl f l (p + 1) := by rw [← fro_s hp]; omega
    rw [FR_X4_wearOnce_15, ei]
    simp only [qisK_wc, r2, gdt, qpR_wc, g1, sb, g2.1, qpN_wc, g2.2.2.1, inb_nI hp (show 6 < 2 ^ 31 by decide), nI_clamp (show p < 2 ^ 31 by omega), hA _ p hp, if_pos (show nI (lenP b sl f l p) ≤ nI i from nI_le (by omega) (by omega))]
  | succ d ih =>
    intro i fuel hi hf
    obtain ⟨f1, rfl⟩ : ∃ f, fuel = f + 1 := ⟨fuel - 1, by omega⟩
    have n1 : ¬ nI (lenP b sl f l p) ≤ nI i := nI_ge (by omega) (by omega)
    have n2 : ¬ Int32.ofNat (2 * b + 2 * sl + f + l) ≤ nI (froP b sl f l p + i) := nI_ge (b := 2 * b + 2 * sl + f + l) (by omega) (by omega)
    obtain ⟨x1, x2⟩ := hx (froP b sl f l p + i) (by omega)
    have ew : ∀ g, FR_X4_wearsAt (wc ρ rr g) a (nI p) (nI i) = some (if wnB b sl f l (froP b sl f l p + i) = true then 1 else 0) := fun g => wearsAt_e r2 g1 g2.1 g2.2.2.1 (hA g 0 (by omega)) (hA g 1 (by omega)) r5 hp (by omega)
    have nx := ih (i + 1) f1 (by omega) (by omega)
    generalize ht : froP b sl f l p + i = t at *
    have ht1 : froP b sl f l p + (i + 1) = t + 1 := by omega
    rw [ht1] at nx
    have h2 : hyb 0 t (fun t => nI (enc (bp (wnB b sl f l) x t))) (pA ρ rr) t = nI (enc (x t)) := by rw [hyb_out (by omega), x2]
    have hA0 := lenP_A g2 hp
    rw [FR_X4_wearOnce_15]
    simp only [qisK_wc, r2, gdt, qpR_wc, g1, sb, g2.1, qpN_wc, g2.2.2.1, inb_nI hp (show 6 < 2 ^ 31 by decide), nI_clamp (show p < 2 ^ 31 by omega), show (e = rr) = False from eq_false hne, hA0, if_neg n1, c1, c2.1, hrr, hrk, hrn, if_neg n2, ew, inb_nI (show t < 2 * b + 2 * sl + f + l by omega) (show 2 * b + 2 * sl + f + l < 2 ^ 31 by omega), qpA_wc, ↓reduceIte, nI_clamp (show t < 2 ^ 31 by omega), h2, enc_2 x1, nI_1]
    by_cases cw : wnB b sl f l t = true
    · rw [if_pos cw, if_neg (show ¬ (1 : Int32) = 0 from by decide)]
      by_cases c9 : x t < 900
      · have n3 : ¬ (9 : Int32) ≤ nI (x t / 100) := nI_ge (b := 9) (by omega) (by decide)
        have hb : bp (wnB b sl f l) x t = x t + 100 := if_pos ⟨cw, c9⟩
        rw [if_neg n3, wa_wc, wc_wc, nI_clamp (by omega), qpA_wc, if_pos rfl, enc_w _ c9 x1.2]
        have h4 := hyb_s 0 t (fun t => nI (enc (bp (wnB b sl f l) x t))) (pA ρ rr)
        rw [Nat.zero_add, hb] at h4
        rw [h4, ← cntN_y (P := ctQ (wnB b sl f l) x) (by unfold ctQ; rw [cw, decide_eq_true c9]; rfl)]
        exact nx
      · have n3 : (9 : Int32) ≤ nI (x t / 100) := nI_le (a := 9) (by omega) (by have := x1.1; omega)
        have hb : bp (wnB b sl f l) x t = x t := if_neg (fun z => c9 z.2)
        rw [if_pos n3]
        have h4 := hyb_id (off := 0) (k := t) (f := fun t => nI (enc (bp (wnB b sl f l) x t))) (g := pA ρ rr) (by rw [Nat.zero_add, x2]; show nI (enc (bp _ x t)) = _; rw [hb])
        rw [← h4, ← cntN_n (P := ctQ (wnB b sl f l) x) (k := t) (by unfold ctQ; rw [decide_eq_false c9, Bool.and_false]; decide)]
        exact nx
    · have hb : bp (wnB b sl f l) x t = x t := if_neg (fun z => cw z.1)
      rw [if_neg cw, if_pos rfl]
      have h4 := hyb_id (off := 0) (k := t) (f := fun t => nI (enc (bp (wnB b sl f l) x t))) (g := pA ρ rr) (by rw [Nat.zero_add, x2]; show nI (enc (bp _ x t)) = _; rw [hb])
      rw [← h4, ← cntN_n (P := ctQ (wnB b sl f l) x) (k := t) (by unfold ctQ; simp only [Bool.not_eq_true] at cw; rw [cw, Bool.false_and]; decide)]
      exact nx
