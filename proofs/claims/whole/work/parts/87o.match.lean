/-! sharing: robes and people, as many as can be -/
theorem inj_cnt {f : Nat → Nat} : ∀ n m (P Q : Nat → Bool), (∀ r, r < n → P r = true → f r < m ∧ Q (f r) = true) → (∀ r r', r < n → r' < n → P r = true → P r' = true → f r = f r' → r = r') → cntN P n ≤ cntN Q m
  | 0, _, _, _, _, _ => Nat.zero_le _
  | n + 1, m, P, Q, h, hi => by
    show cntN P n + (if P n = true then 1 else 0) ≤ cntN Q m
    by_cases c : P n = true
    · rw [if_pos c]
      obtain ⟨h1, h2⟩ := h n (by omega) c
      have ih := inj_cnt (f := f) n m P (fun q => Q q && decide (q ≠ f n)) (fun r hr hP => ⟨(h r (by omega) hP).1, by
        simp only [Bool.and_eq_true, decide_eq_true_iff]
        refine ⟨(h r (by omega) hP).2, fun z => ?_⟩
        have := hi r n (by omega) (by omega) hP c z
        omega⟩) (fun r r' hr hr' hP hP' => hi r r' (by omega) (by omega) hP hP')
      have := cnt_step (P := fun q => Q q && decide (q ≠ f n)) (P' := Q) (t := f n) m h1 (fun j _ hj => by
        simp only [Bool.and_eq_true] at hj
        exact hj.1) (by simp) h2
      omega
    · rw [if_neg c]
      exact inj_cnt n m P Q (fun r hr hP => h r (by omega) hP) (fun r r' hr hr' hP hP' => hi r r' (by omega) (by omega) hP hP')
theorem cnt_split (P T : Nat → Bool) : ∀ n, cntN P n ≤ cntN T n + cntN (fun r => P r && !T r) n
  | 0 => Nat.le_refl _
  | n + 1 => by
    show cntN P n + (if P n = true then 1 else 0) ≤ cntN T n + (if T n = true then 1 else 0) + (cntN (fun r => P r && !T r) n + (if (P n && !T n) = true then 1 else 0))
    have := cnt_split P T n
    cases hP : P n <;> cases hT : T n <;> simp <;> omega
theorem cnt_add (P T : Nat → Bool) : ∀ n, (∀ r, r < n → T r = true → P r = true) → cntN T n + cntN (fun r => P r && !T r) n ≤ cntN P n
  | 0, _ => Nat.le_refl _
  | n + 1, h => by
    show cntN T n + (if T n = true then 1 else 0) + (cntN (fun r => P r && !T r) n + (if (P n && !T n) = true then 1 else 0)) ≤ cntN P n + (if P n = true then 1 else 0)
    have := cnt_add P T n (fun r hr => h r (by omega))
    have h1 := h n (by omega)
    cases hP : P n <;> cases hT : T n <;> simp_all <;> omega
def mat (A : Nat → Nat → Bool) (t : Nat → Option Nat) : Prop := (∀ r q, t r = some q → r < 30 ∧ q < 10 ∧ A q r = true) ∧ ∀ r r' q, t r = some q → t r' = some q → r = r'
def clo (A : Nat → Nat → Bool) (t : Nat → Option Nat) (T U : Nat → Prop) : Prop := (∀ q r, q < 10 → r < 30 → U q → A q r = true → T r) ∧ ∀ r, r < 30 → T r → ∃ q, t r = some q ∧ U q
def matC (t : Nat → Option Nat) : Nat := cntN (fun r => (t r).isSome) 30
def MaxM (A : Nat → Nat → Bool) (n : Nat) : Prop := (∃ t, mat A t ∧ matC t = n) ∧ ∃ T U : Nat → Bool, (∀ q r, q < 10 → r < 30 → U q = true → A q r = true → T r = true) ∧ cntN T 30 + cntN (fun q => !U q) 10 ≤ n
theorem dual_le {A : Nat → Nat → Bool} {t : Nat → Option Nat} {T U : Nat → Bool} (h : mat A t) (hc : ∀ q r, q < 10 → r < 30 → U q = true → A q r = true → T r = true) : matC t ≤ cntN T 30 + cntN (fun q => !U q) 10 := by
  have h1 := cnt_split (fun r => (t r).isSome) T 30
  have h2 := inj_cnt (f := fun r => (t r).getD 0) 30 10 (fun r => (t r).isSome && !T r) (fun q => !U q) (fun r hr hP => by
    simp only [Bool.and_eq_true, Bool.not_eq_true'] at hP
    obtain ⟨q, hq⟩ := Option.isSome_iff_exists.mp hP.1
    rw [hq]
    obtain ⟨-, b2, b3⟩ := h.1 r q hq
    refine ⟨b2, ?_⟩
    cases hU : U q with
    | false => simp [hU]
    | true =>
      have := hc q r b2 hr hU b3
      rw [hP.2] at this
      cases this) (fun r r' hr hr' hP hP' he => by
    simp only [Bool.and_eq_true, Bool.not_eq_true'] at hP hP'
    obtain ⟨q, hq⟩ := Option.isSome_iff_exists.mp hP.1
    obtain ⟨q', hq'⟩ := Option.isSome_iff_exists.mp hP'.1
    rw [hq, hq'] at he
    have e : q = q' := he
    subst e
    exact h.2 r r' q hq hq')
  unfold matC
  omega
theorem MaxM_u {A : Nat → Nat → Bool} {n m : Nat} (h : MaxM A n) (h' : MaxM A m) : n = m := by
  obtain ⟨⟨t, t1, t2⟩, T, U, c1, c2⟩ := h
  obtain ⟨⟨t', t1', t2'⟩, T', U', c1', c2'⟩ := h'
  have := dual_le t1 c1'
  have := dual_le t1' c1
  omega
theorem mat_cg {A A' : Nat → Nat → Bool} {t : Nat → Option Nat} (h : ∀ q r, q < 10 → r < 30 → A q r = A' q r) (hm : mat A t) : mat A' t := ⟨fun r q hq => by
  obtain ⟨a, b, c⟩ := hm.1 r q hq
  exact ⟨a, b, by rw [← h q r b a]; exact c⟩, hm.2⟩
theorem MaxM_cg {A A' : Nat → Nat → Bool} {n : Nat} (h : ∀ q r, q < 10 → r < 30 → A q r = A' q r) (hm : MaxM A n) : MaxM A' n := by
  obtain ⟨⟨t, t1, t2⟩, T, U, c1, c2⟩ := hm
  exact ⟨⟨t, mat_cg h t1, t2⟩, T, U, fun q r hq hr hU hA => c1 q r hq hr hU (by rw [h q r hq hr]; exact hA), c2⟩
def INV (A : Nat → Nat → Bool) (t : Nat → Option Nat) (k n : Nat) : Prop := mat A t ∧ (∃ T U : Nat → Prop, clo A t T U ∧ ∀ q, q < k → U q ∨ ∃ r, t r = some q) ∧ (∀ r q, t r = some q → q < k) ∧ matC t = n
theorem INV_0 {A : Nat → Nat → Bool} {k : Nat} (h : ∀ q r, q < k → r < 30 → A q r = false) : INV A (fun _ => none) k 0 := by
  refine ⟨⟨fun r q z => (by cases z), fun r r' q z => (by cases z)⟩, ⟨fun _ => False, fun q => q < k, ⟨fun q r _ hr hU hA => ?_, fun r _ z => z.elim⟩, fun q hq => Or.inl hq⟩, fun r q z => (by cases z), ?_⟩
  · rw [h q r hU hr] at hA
    cases hA
  · unfold matC
    decide
theorem INV_f {A : Nat → Nat → Bool} {t : Nat → Option Nat} {k n : Nat} (h : INV A t k n) {T' U' : Nat → Prop} (hc : clo A t T' U') (hk : U' k) : INV A t (k + 1) n := by
  obtain ⟨h1, ⟨T, U, h2, h3⟩, h4, h5⟩ := h
  refine ⟨h1, ⟨fun r => T r ∨ T' r, fun q => U q ∨ U' q, ⟨fun q r hq hr hU hA => ?_, fun r hr hT => ?_⟩, fun q hq => ?_⟩, fun r q z => Nat.lt_succ_of_lt (h4 r q z), h5⟩
  · rcases hU with z | z
    · exact Or.inl (h2.1 q r hq hr z hA)
    · exact Or.inr (hc.1 q r hq hr z hA)
  · rcases hT with z | z
    · obtain ⟨q, a, b⟩ := h2.2 r hr z
      exact ⟨q, a, Or.inl b⟩
    · obtain ⟨q, a, b⟩ := hc.2 r hr z
      exact ⟨q, a, Or.inr b⟩
  · by_cases c : q = k
    · subst c
      exact Or.inl (Or.inr hk)
    · rcases h3 q (by omega) with z | z
      · exact Or.inl (Or.inl z)
      · exact Or.inr z
def aug (A : Nat → Nat → Bool) (t t' : Nat → Option Nat) (p : Nat) : Prop := mat A t' ∧ (∀ q, (∃ r, t r = some q) → ∃ r, t' r = some q) ∧ (∃ r, t' r = some p) ∧ (∀ r q, t' r = some q → q = p ∨ ∃ r', t r' = some q) ∧ (∃ r0, r0 < 30 ∧ t r0 = none ∧ (t' r0).isSome = true ∧ ∀ r, r ≠ r0 → (t' r).isSome = (t r).isSome) ∧ ∀ T U, clo A t T U → ∀ r, r < 30 → T r → t' r = t r
theorem cnt_pt {P P' : Nat → Bool} {t : Nat} : ∀ n, t < n → (∀ j, j < n → j ≠ t → P' j = P j) → P t = false → P' t = true → cntN P' n = cntN P n + 1
  | 0, h, _, _, _ => absurd h (Nat.not_lt_zero _)
  | n + 1, h, h1, h2, h3 => by
    show cntN P' n + (if P' n = true then 1 else 0) = cntN P n + (if P n = true then 1 else 0) + 1
    by_cases c : t = n
    · subst c
      rw [cntN_cg t (fun j hj => h1 j (by omega) (by omega)), h2, h3]
      simp
    · rw [cnt_pt n (by omega) (fun j hj => h1 j (by omega)) h2 h3, h1 n (by omega) (fun z => c z.symm)]
      omega
theorem INV_s {A : Nat → Nat → Bool} {t t' : Nat → Option Nat} {k n : Nat} (h : INV A t k n) (ha : aug A t t' k) : INV A t' (k + 1) (n + 1) := by
  obtain ⟨h1, ⟨T, U, h2, h3⟩, h4, h5⟩ := h
  obtain ⟨a1, a2, a3, a4, ⟨r0, r1, r2, r3, r4⟩, a6⟩ := ha
  refine ⟨a1, ⟨T, U, ⟨h2.1, fun r hr hT => ?_⟩, fun q hq => ?_⟩, fun r q z => ?_, ?_⟩
  · rw [a6 T U h2 r hr hT]
    exact h2.2 r hr hT
  · by_cases c : q = k
    · subst c
      exact Or.inr a3
    · rcases h3 q (by omega) with z | z
      · exact Or.inl z
      · exact Or.inr (a2 q z)
  · rcases a4 r q z with rfl | ⟨r', z'⟩
    · omega
    · have := h4 r' q z'
      omega
  · unfold matC at h5 ⊢
    rw [cnt_pt (P := fun r => (t r).isSome) (t := r0) 30 r1 (fun j _ hj => r4 j hj) (by show (t r0).isSome = false; rw [r2]; rfl) r3, h5]
theorem INV_e {A : Nat → Nat → Bool} {t : Nat → Option Nat} {n : Nat} (h : INV A t 10 n) : MaxM A n := by
  obtain ⟨h1, ⟨T, U, h2, h3⟩, h4, h5⟩ := h
  refine ⟨⟨t, h1, h5⟩, fun r => @decide (T r) (Classical.propDecidable _), fun q => @decide (U q) (Classical.propDecidable _), fun q r hq hr hU hA => ?_, ?_⟩
  · exact @decide_eq_true _ (Classical.propDecidable _) (h2.1 q r hq hr (@of_decide_eq_true _ (Classical.propDecidable _) hU) hA)
  · have e1 := cnt_add (fun r => (t r).isSome) (fun r => @decide (T r) (Classical.propDecidable _)) 30 (fun r hr hT => by
      obtain ⟨q, hq, -⟩ := h2.2 r hr (@of_decide_eq_true _ (Classical.propDecidable _) hT)
      rw [hq]
      rfl)
    have hex : ∀ q, ∃ r, q < 10 → ¬ U q → t r = some q := fun q => by
      by_cases c : q < 10
      · rcases h3 q c with z | ⟨r, z⟩
        · exact ⟨0, fun _ n => absurd z n⟩
        · exact ⟨r, fun _ _ => z⟩
      · exact ⟨0, fun z => absurd z c⟩
    have e2 := inj_cnt (f := fun q => Classical.choose (hex q)) 10 30 (fun q => !@decide (U q) (Classical.propDecidable _)) (fun r => (t r).isSome && !@decide (T r) (Classical.propDecidable _)) (fun q hq hP => by
      have hU : ¬ U q := fun z => by
        rw [show @decide (U q) (Classical.propDecidable _) = true from @decide_eq_true _ (Classical.propDecidable _) z] at hP
        cases hP
      have hc := Classical.choose_spec (hex q) hq hU
      obtain ⟨b1, -, -⟩ := h1.1 _ q hc
      refine ⟨b1, ?_⟩
      show ((t (Classical.choose (hex q))).isSome && !@decide (T (Classical.choose (hex q))) (Classical.propDecidable _)) = true
      rw [show @decide (T (Classical.choose (hex q))) (Classical.propDecidable _) = false from @decide_eq_false _ (Classical.propDecidable _) (fun z => by
        obtain ⟨q', z1, z2⟩ := h2.2 _ b1 z
        rw [hc] at z1
        cases z1
        exact hU z2), hc]
      rfl) (fun q q' hq hq' hP hP' he => by
      have hU : ¬ U q := fun z => by
        rw [show @decide (U q) (Classical.propDecidable _) = true from @decide_eq_true _ (Classical.propDecidable _) z] at hP
        cases hP
      have hU' : ¬ U q' := fun z => by
        rw [show @decide (U q') (Classical.propDecidable _) = true from @decide_eq_true _ (Classical.propDecidable _) z] at hP'
        cases hP'
      have hc := Classical.choose_spec (hex q) hq hU
      have hc' := Classical.choose_spec (hex q') hq' hU'
      have he : Classical.choose (hex q) = Classical.choose (hex q') := he
      rw [he, hc'] at hc
      cases hc
      rfl)
    unfold matC at h5
    have e3 : cntN (fun q => !@decide (U q) (Classical.propDecidable _)) 10 ≤ cntN (fun r => (t r).isSome && !@decide (T r) (Classical.propDecidable _)) 30 := e2
    show cntN (fun r => @decide (T r) (Classical.propDecidable _)) 30 + cntN (fun q => !@decide (U q) (Classical.propDecidable _)) 10 ≤ n
    omega
/-! bits -/
def bI (x : Int32) (r : Nat) : Bool := x.toBitVec.getLsbD r
theorem shl_1 : ∀ r, r < 30 → ((1 : Int32) <<< (nI r &&& 31)).toBitVec = BitVec.twoPow 32 r := by decide +kernel
theorem shm : ∀ r, r < 30 → (nI r &&& 31).toBitVec.smod 32 = BitVec.ofNat 32 r := by decide +kernel
theorem bI_or {x : Int32} {r s : Nat} (hr : r < 30) : bI (x ||| ((1 : Int32) <<< (nI r &&& 31))) s = (bI x s || decide (s = r)) := by
  unfold bI
  rw [Int32.toBitVec_or, shl_1 r hr, BitVec.getLsbD_or, BitVec.getLsbD_twoPow]
  congr 1
  by_cases c : s = r
  · subst c; simp; omega
  · rw [decide_eq_false c, @decide_eq_false (r = s) _ (fun z => c z.symm), Bool.and_false]
theorem bI_m1 {r : Nat} (hr : r < 32) : bI (-1) r = true := by
  unfold bI
  rw [show (-1 : Int32).toBitVec = BitVec.allOnes 32 from by decide, BitVec.getLsbD_allOnes, decide_eq_true hr]
theorem bI_not {x : Int32} {r : Nat} (hr : r < 32) : bI (x ^^^ (-1)) r = !bI x r := by
  have h := bI_m1 hr
  unfold bI at h ⊢
  rw [Int32.toBitVec_xor, BitVec.getLsbD_xor, h, Bool.xor_true]
theorem bI_and {x y : Int32} {r : Nat} : bI (x &&& y) r = (bI x r && bI y r) := by
  unfold bI
  rw [Int32.toBitVec_and, BitVec.getLsbD_and]
theorem bI_sh {r s : Nat} (hr : r < 30) : bI ((1 : Int32) <<< (nI r &&& 31)) s = decide (s = r) := by
  unfold bI
  rw [shl_1 r hr, BitVec.getLsbD_twoPow]
  by_cases c : s = r
  · subst c; simp; omega
  · rw [decide_eq_false c, @decide_eq_false (r = s) _ (fun z => c z.symm), Bool.and_false]
theorem bI_0 (r : Nat) : bI 0 r = false := by
  unfold bI
  rw [show (0 : Int32).toBitVec = 0#32 from rfl, BitVec.getLsbD_zero]
theorem bI_ext {x y : Int32} (h : ∀ r, r < 32 → bI x r = bI y r) : x = y := by
  apply Int32.toBitVec_inj.mp
  apply BitVec.eq_of_getLsbD_eq
  intro i hi
  exact h i hi
theorem bI_clr {x : Int32} {r s : Nat} (hr : r < 30) (hs : s < 32) : bI (x &&& (((1 : Int32) <<< (nI r &&& 31)) ^^^ (-1))) s = (bI x s && !decide (s = r)) := by
  rw [bI_and, bI_not hs, bI_sh hr]
theorem bI_tst {x y : Int32} {r : Nat} (hr : r < 30) : ((x &&& (y ^^^ (-1))) &&& ((1 : Int32) <<< (nI r &&& 31)) = 0) ↔ (bI x r && !bI y r) = false := by
  constructor
  · intro h
    have h1 := congrArg (fun z => bI z r) h
    simp only [bI_and, bI_sh hr, bI_0, bI_not (show r < 32 by omega), decide_true, Bool.and_true] at h1
    exact h1
  · intro h
    refine bI_ext (fun s hs => ?_)
    rw [bI_and, bI_and, bI_sh hr, bI_0, bI_not hs]
    by_cases c : s = r
    · subst c; rw [h, Bool.false_and]
    · rw [decide_eq_false c, Bool.and_false]
theorem bI_shr {x : Int32} {r : Nat} (hr : r < 30) : ((x >>> (nI r &&& 31)) &&& (1 : Int32) = 1) ↔ bI x r = true := by
  have e0 : bI (x >>> (nI r &&& 31)) 0 = bI x r := by
    unfold bI
    rw [Int32.toBitVec_shiftRight, shm r hr, BitVec.sshiftRight_eq', BitVec.getLsbD_sshiftRight]
    rw [show (BitVec.ofNat 32 r).toNat = r from by rw [BitVec.toNat_ofNat]; exact Nat.mod_eq_of_lt (by omega)]
    simp
    omega
  have b1 : ∀ s, bI 1 s = decide (s = 0) := fun s => by
    unfold bI
    rw [show (1 : Int32).toBitVec = BitVec.twoPow 32 0 from by decide, BitVec.getLsbD_twoPow]
    by_cases c : s = 0
    · subst c; rfl
    · rw [decide_eq_false c, @decide_eq_false (0 = s) _ (fun z => c z.symm), Bool.and_false]
  constructor
  · intro h
    have h1 := congrArg (fun z => bI z 0) h
    simp only [bI_and, b1, e0, decide_true, Bool.and_true] at h1
    exact h1
  · intro h
    refine bI_ext (fun s hs => ?_)
    rw [bI_and, b1]
    by_cases c : s = 0
    · subst c; rw [e0, h]; rfl
    · rw [decide_eq_false c, Bool.and_false]
