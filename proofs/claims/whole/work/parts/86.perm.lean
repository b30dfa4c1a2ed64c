/-! orders of the six pieces -/
def mM (o : Nat) : Nat → Nat
  | 0 => 0
  | c + 1 => mM o c ||| 2 ^ dgN o (5 - c)
def mR_ (o : Nat) : Nat → Nat
  | 0 => 0
  | k + 1 => mR_ o k ||| 2 ^ dgN o k
theorem or_t : ∀ m, m < 64 → ∀ d, d < 6 → nI m ||| ((1 : Int32) <<< (nI d &&& 31)) = nI (m ||| 2 ^ d) ∧ m ||| 2 ^ d < 64 := by decide +kernel
theorem mM_lt (o : Nat) : ∀ c, mM o c < 64
  | 0 => by show 0 < 64; decide
  | c + 1 => (or_t _ (mM_lt o c) _ (dg_lt o _)).2
theorem mR_lt (o : Nat) : ∀ c, mR_ o c < 64
  | 0 => by show 0 < 64; decide
  | c + 1 => (or_t _ (mR_lt o c) _ (dg_lt o _)).2
theorem or6 : ∀ b0 b1 b2 b3 b4 b5 : Bool, (((((b5 || b4) || b3) || b2) || b1) || b0) = (((((b0 || b1) || b2) || b3) || b4) || b5) := by decide
theorem mM_R (o : Nat) : mM o 6 = mR_ o 6 := by
  refine Nat.eq_of_testBit_eq (fun i => ?_)
  show (((((((0 ||| 2 ^ dgN o 5) ||| 2 ^ dgN o 4) ||| 2 ^ dgN o 3) ||| 2 ^ dgN o 2) ||| 2 ^ dgN o 1) ||| 2 ^ dgN o 0)).testBit i = (((((((0 ||| 2 ^ dgN o 0) ||| 2 ^ dgN o 1) ||| 2 ^ dgN o 2) ||| 2 ^ dgN o 3) ||| 2 ^ dgN o 4) ||| 2 ^ dgN o 5)).testBit i
  simp only [Nat.testBit_or, Nat.zero_testBit, Bool.false_or]
  exact or6 _ _ _ _ _ _
theorem mR_bit (o i : Nat) : ∀ k, (mR_ o k).testBit i = true → ∃ j, j < k ∧ dgN o j = i
  | 0, h => by
    rw [show mR_ o 0 = 0 from rfl, Nat.zero_testBit] at h
    exact absurd h (by decide)
  | k + 1, h => by
    rw [show mR_ o (k + 1) = mR_ o k ||| 2 ^ dgN o k from rfl, Nat.testBit_or, Bool.or_eq_true] at h
    rcases h with h | h
    · obtain ⟨j, h1, h2⟩ := mR_bit o i k h
      exact ⟨j, by omega, h2⟩
    · rw [Nat.testBit_two_pow] at h
      exact ⟨k, by omega, of_decide_eq_true h⟩
theorem surj_e {o : Nat} (h : mR_ o 6 = 63) {p : Nat} (hp : p < 6) : ∃ j, j < 6 ∧ dgN o j = p := by
  refine mR_bit o p 6 ?_
  rw [h]
  rcases (show p = 0 ∨ p = 1 ∨ p = 2 ∨ p = 3 ∨ p = 4 ∨ p = 5 by omega) with rfl | rfl | rfl | rfl | rfl | rfl <;> decide
theorem cnt_mono {P P' : Nat → Bool} : ∀ n, (∀ j, j < n → P j = true → P' j = true) → cntN P n ≤ cntN P' n
  | 0, _ => Nat.le_refl _
  | n + 1, h => by
    show cntN P n + (if P n = true then 1 else 0) ≤ cntN P' n + (if P' n = true then 1 else 0)
    have h1 := cnt_mono n (fun j hj => h j (by omega))
    by_cases c : P n = true
    · rw [if_pos c, if_pos (h n (by omega) c)]; omega
    · rw [if_neg c]; omega
theorem cnt_step {P P' : Nat → Bool} {t : Nat} : ∀ n, t < n → (∀ j, j < n → P j = true → P' j = true) → P t = false → P' t = true → cntN P n + 1 ≤ cntN P' n
  | 0, h, _, _, _ => absurd h (Nat.not_lt_zero _)
  | n + 1, h, hm, h1, h2 => by
    show cntN P n + (if P n = true then 1 else 0) + 1 ≤ cntN P' n + (if P' n = true then 1 else 0)
    by_cases c : t = n
    · subst c
      have := cnt_mono t (fun j hj => hm j (by omega))
      rw [h1, h2]
      simp
      omega
    · have := cnt_step n (by omega) (fun j hj => hm j (by omega)) h1 h2
      by_cases c2 : P n = true
      · rw [if_pos c2, if_pos (hm n (by omega) c2)]; omega
      · rw [if_neg c2]; omega
theorem inj_e {o : Nat} (h : mR_ o 6 = 63) : ∀ i j, i < 6 → j < 6 → dgN o i = dgN o j → i = j := by
  intro i j hi hj hij
  refine Decidable.byContradiction (fun hne => ?_)
  have key : ∀ m, m ≤ 6 → m ≤ cntN (fun t => decide (dgN o t < m ∧ t ≠ j)) 6 := by
    intro m
    induction m with
    | zero => intro _; exact Nat.zero_le _
    | succ m ih =>
      intro hm
      have ih := ih (by omega)
      obtain ⟨t, t1, t2, t3⟩ : ∃ t, t < 6 ∧ dgN o t = m ∧ t ≠ j := by
        obtain ⟨t, t1, t2⟩ := surj_e h (p := m) (by omega)
        by_cases c : t = j
        · subst c
          exact ⟨i, hi, hij.trans t2, hne⟩
        · exact ⟨t, t1, t2, c⟩
      have := cnt_step (P := fun t => decide (dgN o t < m ∧ t ≠ j)) (P' := fun t => decide (dgN o t < m + 1 ∧ t ≠ j)) (t := t) 6 t1 (fun u _ hu => decide_eq_true (by have := of_decide_eq_true hu; omega)) (decide_eq_false (by omega)) (decide_eq_true (by omega))
      omega
  have h6 := key 6 (Nat.le_refl _)
  have := cnt_step (P := fun t => decide (dgN o t < 6 ∧ t ≠ j)) (P' := fun _ => true) (t := j) 6 hj (fun _ _ _ => rfl) (decide_eq_false (by omega)) rfl
  have := cntN_le (fun _ => true) 6
  omega
def jOf (o p : Nat) : Nat := if dgN o 0 = p then 0 else if dgN o 1 = p then 1 else if dgN o 2 = p then 2 else if dgN o 3 = p then 3 else if dgN o 4 = p then 4 else 5
theorem jOf_e {o p : Nat} (h : ∃ j, j < 6 ∧ dgN o j = p) : jOf o p < 6 ∧ dgN o (jOf o p) = p := by
  obtain ⟨j, h1, h2⟩ := h
  unfold jOf
  by_cases c0 : dgN o 0 = p
  · rw [if_pos c0]; exact ⟨by decide, c0⟩
  · rw [if_neg c0]
    by_cases c1 : dgN o 1 = p
    · rw [if_pos c1]; exact ⟨by decide, c1⟩
    · rw [if_neg c1]
      by_cases c2 : dgN o 2 = p
      · rw [if_pos c2]; exact ⟨by decide, c2⟩
      · rw [if_neg c2]
        by_cases c3 : dgN o 3 = p
        · rw [if_pos c3]; exact ⟨by decide, c3⟩
        · rw [if_neg c3]
          by_cases c4 : dgN o 4 = p
          · rw [if_pos c4]; exact ⟨by decide, c4⟩
          · rw [if_neg c4]
            refine ⟨by decide, ?_⟩
            rcases (show j = 0 ∨ j = 1 ∨ j = 2 ∨ j = 3 ∨ j = 4 ∨ j = 5 by omega) with rfl | rfl | rfl | rfl | rfl | rfl
            · exact absurd h2 c0
            · exact absurd h2 c1
            · exact absurd h2 c2
            · exact absurd h2 c3
            · exact absurd h2 c4
            · exact h2
theorem sum_le {g g' : Nat → Nat} : ∀ n, (∀ j, j < n → g j ≤ g' j) → sumN g n ≤ sumN g' n
  | 0, _ => Nat.le_refl _
  | n + 1, h => by
    show sumN g n + g n ≤ sumN g' n + g' n
    have := sum_le n (fun j hj => h j (by omega))
    have := h n (by omega)
    omega
theorem sum_pt {g g' : Nat → Nat} {t v : Nat} : ∀ n, t < n → (∀ j, j < n → j ≠ t → g' j = g j) → g' t = g t + v → sumN g' n = sumN g n + v
  | 0, h, _, _ => absurd h (Nat.not_lt_zero _)
  | n + 1, h, h1, h2 => by
    show sumN g' n + g' n = sumN g n + g n + v
    by_cases c : t = n
    · subst c
      rw [sum_cg t (fun j hj => h1 j (by omega) (by omega)), h2]
      omega
    · rw [sum_pt n (by omega) (fun j hj => h1 j (by omega)) h2, h1 n (by omega) (fun z => c z.symm)]
      omega
theorem lenS_6 (b sl f l : Nat) : sumN (lenP b sl f l) 6 = 2 * b + 2 * sl + f + l := by
  show 0 + b + b + sl + sl + f + l = _
  omega
theorem stN_eq {o : Nat} (len : Nat → Nat) (hinj : ∀ i j, i < 6 → j < 6 → dgN o i = dgN o j → i = j) : ∀ k, k ≤ 6 → ∃ H : Nat → Bool, (∀ p, H p = true ↔ ∃ j, j < k ∧ dgN o j = p) ∧ stN len (dgN o) k = sumN (fun p => if H p = true then len p else 0) 6 := by
  intro k
  induction k with
  | zero =>
    intro _
    refine ⟨fun _ => false, fun p => ⟨fun h => Bool.noConfusion h, fun ⟨j, h, _⟩ => absurd h (Nat.not_lt_zero _)⟩, ?_⟩
    rfl
  | succ k ih =>
    intro hk
    obtain ⟨H, h1, h2⟩ := ih (by omega)
    refine ⟨fun p => H p || decide (p = dgN o k), fun p => ?_, ?_⟩
    · simp only [Bool.or_eq_true, decide_eq_true_iff, h1]
      constructor
      · rintro (⟨j, j1, j2⟩ | rfl)
        · exact ⟨j, by omega, j2⟩
        · exact ⟨k, by omega, rfl⟩
      · rintro ⟨j, j1, j2⟩
        by_cases c : j = k
        · subst c; exact Or.inr j2.symm
        · exact Or.inl ⟨j, by omega, j2⟩
    · show stN len (dgN o) k + len (dgN o k) = _
      rw [h2]
      have hno : H (dgN o k) = false := by
        refine Bool.eq_false_iff.mpr (fun z => ?_)
        obtain ⟨j, j1, j2⟩ := (h1 _).mp z
        have := hinj j k (by omega) (by omega) j2
        omega
      refine (sum_pt (t := dgN o k) 6 (dg_lt o k) (fun j _ hj => ?_) ?_).symm
      · show (if (H j || decide (j = dgN o k)) = true then len j else 0) = _
        rw [decide_eq_false hj, Bool.or_false]
      · show (if (H (dgN o k) || decide (dgN o k = dgN o k)) = true then len (dgN o k) else 0) = _
        rw [hno, decide_eq_true (rfl : dgN o k = dgN o k)]
        simp
theorem stN_le {o b sl f l : Nat} (hinj : ∀ i j, i < 6 → j < 6 → dgN o i = dgN o j → i = j) {k : Nat} (hk : k ≤ 6) : stN (lenP b sl f l) (dgN o) k ≤ 2 * b + 2 * sl + f + l := by
  obtain ⟨H, -, h2⟩ := stN_eq (lenP b sl f l) hinj k hk
  rw [h2, ← lenS_6]
  refine sum_le 6 (fun j _ => ?_)
  split <;> omega
/-- where each piece begins -/
def sOf (b sl f l o p : Nat) : Nat := stN (lenP b sl f l) (dgN o) (jOf o p)
theorem sOf_le {o b sl f l p : Nat} (h : mR_ o 6 = 63) (hp : p < 6) : sOf b sl f l o p + lenP b sl f l p ≤ 2 * b + 2 * sl + f + l := by
  obtain ⟨j1, j2⟩ := jOf_e (surj_e h hp)
  have := stN_le (b := b) (sl := sl) (f := f) (l := l) (inj_e h) (k := jOf o p + 1) (by omega)
  have e : stN (lenP b sl f l) (dgN o) (jOf o p + 1) = stN (lenP b sl f l) (dgN o) (jOf o p) + lenP b sl f l (dgN o (jOf o p)) := rfl
  rw [e, j2] at this
  exact this
theorem sOf_dg {o b sl f l j : Nat} (h : mR_ o 6 = 63) (hj : j < 6) : sOf b sl f l o (dgN o j) = stN (lenP b sl f l) (dgN o) j := by
  obtain ⟨j1, j2⟩ := jOf_e (surj_e h (dg_lt o j))
  unfold sOf
  rw [inj_e h _ _ j1 hj j2]
