/-! the class's search: what a begun order knows -/
def cA (u : Nat) : Nat := u % 2 + u / 2 % 2
def cB (u : Nat) : Nat := u / 4 % 2 + u / 8 % 2
def cF (u : Nat) : Nat := u / 16 % 2
def cL (u : Nat) : Nat := u / 32 % 2
def stU (b sl f l u : Nat) : Nat := b * cA u + sl * cB u + f * cF u + l * cL u
def scd (u : Nat) : Nat := cA u + 3 * cB u + 9 * (u / 16)
theorem scd_e : ∀ u, u < 64 → FR_X7_startCodeOf (nI u) = some (nI (scd u)) := by decide +kernel
theorem scd_lt {u : Nat} (h : u < 64) : scd u < 36 := by
  unfold scd cA cB
  omega
theorem scd_st {b sl f l u u' : Nat} (h : u < 64) (h' : u' < 64) (e : scd u = scd u') : stU b sl f l u = stU b sl f l u' := by
  unfold scd at e
  have a1 : cA u ≤ 2 := by unfold cA; omega
  have a2 : cA u' ≤ 2 := by unfold cA; omega
  have a3 : cB u ≤ 2 := by unfold cB; omega
  have a4 : cB u' ≤ 2 := by unfold cB; omega
  have e1 : cA u = cA u' := by omega
  have e2 : cB u = cB u' := by omega
  have e3 : u / 16 = u' / 16 := by omega
  have e4 : cF u = cF u' := by unfold cF; rw [e3]
  have e5 : cL u = cL u' := by unfold cL; omega
  unfold stU
  rw [e1, e2, e4, e5]
theorem st_add {b sl f l u p : Nat} (h : u < 64) (hp : p < 6) (hb : u.testBit p = false) : stU b sl f l (u ||| 2 ^ p) = stU b sl f l u + lenP b sl f l p := by
  have key : ∀ u, u < 64 → ∀ p, p < 6 → u.testBit p = false → cA (u ||| 2 ^ p) = cA u + (if p < 2 then 1 else 0) ∧ cB (u ||| 2 ^ p) = cB u + (if p = 2 ∨ p = 3 then 1 else 0) ∧ cF (u ||| 2 ^ p) = cF u + (if p = 4 then 1 else 0) ∧ cL (u ||| 2 ^ p) = cL u + (if p = 5 then 1 else 0) := by decide +kernel
  obtain ⟨k1, k2, k3, k4⟩ := key u h p hp hb
  unfold stU
  rw [k1, k2, k3, k4]
  rcases (show p = 0 ∨ p = 1 ∨ p = 2 ∨ p = 3 ∨ p = 4 ∨ p = 5 by omega) with rfl | rfl | rfl | rfl | rfl | rfl <;> simp [lenP, Nat.mul_add] <;> omega
theorem us_add : ∀ u, u < 64 → ∀ p, p < 6 → u.testBit p = false → u ||| 2 ^ p < 64 ∧ pcN (u ||| 2 ^ p) = pcN u + 1 := by decide +kernel
theorem us_bit {u p q : Nat} : (u ||| 2 ^ p).testBit q = (u.testBit q || decide (q = p)) := by
  rw [Nat.testBit_or, Nat.testBit_two_pow]
  congr 1
  by_cases c : q = p
  · subst c; simp
  · rw [decide_eq_false c, @decide_eq_false (p = q) _ (fun z => c z.symm)]
theorem st_le {b sl f l u : Nat} : stU b sl f l u ≤ 2 * b + 2 * sl + f + l := by
  have a1 : cA u ≤ 2 := by unfold cA; omega
  have a2 : cB u ≤ 2 := by unfold cB; omega
  have a3 : cF u ≤ 1 := by unfold cF; omega
  have a4 : cL u ≤ 1 := by unfold cL; omega
  have m1 := Nat.mul_le_mul_left b a1
  have m2 := Nat.mul_le_mul_left sl a2
  have m3 := Nat.mul_le_mul_left f a3
  have m4 := Nat.mul_le_mul_left l a4
  unfold stU
  omega
theorem mR_cg {o o' : Nat} : ∀ j, (∀ i, i < j → dgN o i = dgN o' i) → mR_ o j = mR_ o' j
  | 0, _ => rfl
  | j + 1, h => by
    show mR_ o j ||| 2 ^ dgN o j = mR_ o' j ||| 2 ^ dgN o' j
    rw [mR_cg j (fun i hi => h i (by omega)), h j (by omega)]
theorem mR_st {b sl f l o : Nat} (hinj : ∀ i j, i < 6 → j < 6 → dgN o i = dgN o j → i = j) : ∀ j, j ≤ 6 → stU b sl f l (mR_ o j) = stN (lenP b sl f l) (dgN o) j
  | 0, _ => by
    show stU b sl f l 0 = 0
    unfold stU
    rw [show cA 0 = 0 from rfl, show cB 0 = 0 from rfl, show cF 0 = 0 from rfl, show cL 0 = 0 from rfl]
    omega
  | j + 1, h => by
    have hb : (mR_ o j).testBit (dgN o j) = false := Bool.eq_false_iff.mpr (fun z => by
      obtain ⟨i, i1, i2⟩ := mR_bit o _ j z
      have := hinj i j (by omega) (by omega) i2
      omega)
    show stU b sl f l (mR_ o j ||| 2 ^ dgN o j) = stN (lenP b sl f l) (dgN o) j + lenP b sl f l (dgN o j)
    rw [st_add (mR_lt o j) (dg_lt o j) hb, mR_st hinj j (by omega)]
theorem dg_pad {o p d j : Nat} (hd : d < 6) (hp : p < 6) (hj : j < d) : dgN ((o * 6 + p) * 6 ^ (5 - d)) j = dgN (o * 6 ^ (6 - d)) j := by
  unfold dgN unN
  rcases (show d = 1 ∨ d = 2 ∨ d = 3 ∨ d = 4 ∨ d = 5 by omega) with rfl | rfl | rfl | rfl | rfl
  · rcases (show j = 0 by omega) with rfl
    simp; omega
  · rcases (show j = 0 ∨ j = 1 by omega) with rfl | rfl <;> simp <;> omega
  · rcases (show j = 0 ∨ j = 1 ∨ j = 2 by omega) with rfl | rfl | rfl <;> simp <;> omega
  · rcases (show j = 0 ∨ j = 1 ∨ j = 2 ∨ j = 3 by omega) with rfl | rfl | rfl | rfl <;> simp <;> omega
  · rcases (show j = 0 ∨ j = 1 ∨ j = 2 ∨ j = 3 ∨ j = 4 by omega) with rfl | rfl | rfl | rfl | rfl <;> simp <;> omega
theorem dg_new {o p d : Nat} (hd : d < 6) (hp : p < 6) : dgN ((o * 6 + p) * 6 ^ (5 - d)) d = p := by
  unfold dgN unN
  rcases (show d = 0 ∨ d = 1 ∨ d = 2 ∨ d = 3 ∨ d = 4 ∨ d = 5 by omega) with rfl | rfl | rfl | rfl | rfl | rfl <;> simp <;> omega
theorem mR_in {o : Nat} : ∀ {k j : Nat}, j < k → (mR_ o k).testBit (dgN o j) = true
  | 0, j, h => absurd h (Nat.not_lt_zero j)
  | k + 1, j, h => by
    show (mR_ o k ||| 2 ^ dgN o k).testBit (dgN o j) = true
    rw [us_bit]
    by_cases c : j = k
    · subst c; simp
    · rw [mR_in (show j < k by omega), Bool.true_or]
def PU (b sl f l d us o : Nat) (up : Nat → Nat) : Prop := (us < 64 ∧ pcN us = d ∧ o < 6 ^ d) ∧ us = mR_ (o * 6 ^ (6 - d)) d ∧ (∀ j, j < d → up (dgN (o * 6 ^ (6 - d)) j) = mR_ (o * 6 ^ (6 - d)) j) ∧ ∀ p, p < 6 → us.testBit p = true → up p < 64 ∧ stU b sl f l (up p) + lenP b sl f l p ≤ stU b sl f l us
theorem PU_0 (b sl f l : Nat) (up : Nat → Nat) : PU b sl f l 0 0 0 up := ⟨⟨by decide, rfl, by decide⟩, rfl, fun j hj => absurd hj (Nat.not_lt_zero j), fun p _ h => by rw [Nat.zero_testBit] at h; cases h⟩
theorem PU_s {b sl f l d us o p : Nat} {up : Nat → Nat} (h : PU b sl f l d us o up) (hd : d < 6) (hp : p < 6) (hb : us.testBit p = false) : PU b sl f l (d + 1) (us ||| 2 ^ p) (o * 6 + p) (nu up p us) := by
  obtain ⟨⟨h1, h2, h3⟩, h4, h5, h6⟩ := h
  obtain ⟨u1, u2⟩ := us_add us h1 p hp hb
  have e65 : 6 - (d + 1) = 5 - d := by omega
  have hO : ∀ i, i < d → dgN ((o * 6 + p) * 6 ^ (5 - d)) i = dgN (o * 6 ^ (6 - d)) i := fun i hi => dg_pad hd hp hi
  have hm : ∀ j, j ≤ d → mR_ ((o * 6 + p) * 6 ^ (5 - d)) j = mR_ (o * 6 ^ (6 - d)) j := fun j hj => mR_cg j (fun i hi => hO i (by omega))
  have hus : mR_ ((o * 6 + p) * 6 ^ (5 - d)) d = us := by rw [hm d (Nat.le_refl _), h4]
  refine ⟨⟨u1, by rw [u2, h2], ?_⟩, ?_, fun j hj => ?_, fun q hq hbq => ?_⟩
  · have e1 : 6 ^ (d + 1) = 6 ^ d * 6 := Nat.pow_succ 6 d
    have := Nat.mul_le_mul_right 6 (show o + 1 ≤ 6 ^ d from h3)
    rw [e1]
    omega
  · rw [e65]
    show us ||| 2 ^ p = mR_ ((o * 6 + p) * 6 ^ (5 - d)) d ||| 2 ^ dgN ((o * 6 + p) * 6 ^ (5 - d)) d
    rw [hus, dg_new hd hp]
  · rw [e65]
    by_cases c : j = d
    · subst c
      rw [dg_new hd hp, nu_s, hus]
    · have hne : dgN (o * 6 ^ (6 - d)) j ≠ p := fun z => by
        have : us.testBit p = true := by
          rw [h4, ← z]
          exact mR_in (show j < d by omega)
        rw [hb] at this
        cases this
      rw [hO j (by omega), nu_n hne, hm j (by omega)]
      exact h5 j (by omega)
  · rw [us_bit] at hbq
    rw [st_add h1 hp hb]
    by_cases c : q = p
    · subst c
      rw [nu_s]
      exact ⟨h1, Nat.le_refl _⟩
    · rw [decide_eq_false c, Bool.or_false] at hbq
      rw [nu_n c]
      obtain ⟨z1, z2⟩ := h6 q hq hbq
      exact ⟨z1, by omega⟩
theorem PU_6 {b sl f l us o : Nat} {up : Nat → Nat} (h : PU b sl f l 6 us o up) : us = 63 ∧ o < 46656 ∧ mR_ o 6 = 63 ∧ ∀ p, p < 6 → stU b sl f l (up p) = sOf b sl f l o p := by
  obtain ⟨⟨h1, h2, h3⟩, h4, h5, h6⟩ := h
  have e1 : o * 6 ^ (6 - 6) = o := by simp
  rw [e1] at h4 h5
  have hu : us = 63 := (pc_le us h1).2.2.mp h2
  have hm : mR_ o 6 = 63 := by rw [← h4]; exact hu
  refine ⟨hu, h3, hm, fun p hp => ?_⟩
  obtain ⟨j, j1, j2⟩ := surj_e hm hp
  subst j2
  rw [h5 j j1, mR_st (inj_e hm) j (by omega), sOf_dg hm j1]
