theorem fill_l {σ : RS} {g : Nat → Int32} {v : Int32} : ∀ d i fuel, i + d = 30 → d < fuel → FR_fill_102_5 v 30 fuel (nI i) (rc σ 102 (hyb 0 i (fun _ => v) g)) = some (rc σ 102 (hyb 0 30 (fun _ => v) g)) := by
  intro d
  induction d with
  | zero =>
    intro i fuel hi hf
    obtain ⟨f1, rfl⟩ : ∃ f, fuel = f + 1 := ⟨fuel - 1, by omega⟩
    have e : i = 30 := by omega
    subst e
    rw [FR_fill_102_5, if_pos (show (30 : Int32) ≤ nI 30 by decide)]
  | succ d ih =>
    intro i fuel hi hf
    obtain ⟨f1, rfl⟩ : ∃ f, fuel = f + 1 := ⟨fuel - 1, by omega⟩
    rw [FR_fill_102_5, if_neg (show ¬ (30 : Int32) ≤ nI i from nI_ge (b := 30) (by omega) (by decide)), gd_t (inb_nI (show i < 30 by omega) (by decide)), ra_rc, rc_rc, rA_rc, if_pos rfl, nI_clamp (by omega), nI_1]
    have := hyb_s 0 i (fun _ => v) g
    rw [Nat.zero_add] at this
    rw [this]
    exact ih (i + 1) f1 (by omega) (by omega)
theorem fill_e (σ : RS) (v : Int32) : ∃ G, (∀ r, r < 30 → G r = v) ∧ FR_fill_102 σ v = some (rc σ 102 G) := by
  have hfu := fu_pos
  have h := fill_l (σ := σ) (g := rA σ 102) (v := v) 30 0 fu (by omega) (by omega)
  rw [hyb_0, rc_self] at h
  exact ⟨_, fun r hr => hyb_in0 hr, h⟩
theorem matC_le {A : Nat → Nat → Bool} {t : Nat → Option Nat} {k n : Nat} (h : INV A t k n) : matC t ≤ k := by
  obtain ⟨h1, -, h4, -⟩ := h
  have := inj_cnt (f := fun r => (t r).getD 0) 30 k (fun r => (t r).isSome) (fun _ => true) (fun r hr hP => by
    obtain ⟨q, hq⟩ := Option.isSome_iff_exists.mp hP
    rw [hq]
    exact ⟨h4 r q hq, rfl⟩) (fun r r' hr hr' hP hP' he => by
    obtain ⟨q, hq⟩ := Option.isSome_iff_exists.mp hP
    obtain ⟨q', hq'⟩ := Option.isSome_iff_exists.mp hP'
    rw [hq, hq'] at he
    have e : q = q' := he
    subst e
    exact h1.2 r r' q hq hq')
  have h2 := cntN_le (fun _ => true) k
  unfold matC
  omega
theorem FF_clo {w : Nat → Int32} {t : Nat → Option Nat} {first k : Nat} {tk v' : Int32} (h : FF (wA w first tk) t k tk v') : ∃ T U : Nat → Prop, clo (wA w first tk) t T U ∧ U k := by
  obtain ⟨a1, a2, a3⟩ := h
  have hAt : ∀ q r, wA w first tk q r = true → bI tk r = false := fun q r hA => by
    unfold wA at hA
    simp only [Bool.and_eq_true, Bool.not_eq_true'] at hA
    exact hA.2.2
  refine ⟨fun r => bI v' r = true ∧ bI tk r = false, fun q => q = k ∨ ∃ r, r < 30 ∧ bI v' r = true ∧ bI tk r = false ∧ t r = some q, ⟨fun q r hq hr hU hA => ⟨?_, hAt q r hA⟩, fun r hr hT => ?_⟩, Or.inl rfl⟩
  · rcases hU with rfl | ⟨s, s1, s2, s3, s4⟩
    · exact a2 r hr hA
    · obtain ⟨q', z1, z2⟩ := a3 s s1 s2 s3
      rw [s4] at z1
      cases z1
      exact z2 r hr hA
  · obtain ⟨q, z1, z2⟩ := a3 r hr hT.1 hT.2
    exact ⟨q, z1, Or.inr ⟨r, hr, hT.1, hT.2, z1⟩⟩
theorem FS_aug {w : Nat → Int32} {t t' : Nat → Option Nat} {first k : Nat} {tk : Int32} (h : FS (wA w first tk) t t' k tk) : aug (wA w first tk) t t' k := by
  obtain ⟨a1, a2, a3, a4, ⟨r1, r2, r3⟩, a6, a7, a8⟩ := h
  have hAt : ∀ q r, wA w first tk q r = true → bI tk r = false := fun q r hA => by
    unfold wA at hA
    simp only [Bool.and_eq_true, Bool.not_eq_true'] at hA
    exact hA.2.2
  exact ⟨⟨a2, fun r r' q z z' => a3 r r' q (fun _ => ⟨hAt q r (a2 r q z).2.2, hAt q r' (a2 r' q z').2.2⟩) z z'⟩, a4, ⟨r1, r3⟩, a6, a7, fun T U hc => (a8 T U hc).2⟩
theorem most13 {σ : RS} {w : Nat → Int32} {first : Nat} {tk : Int32} (hw : rA σ 100 = w) : ∀ d k fuel X v t n, k + d = 10 → d < fuel → first ≤ k → INV (wA w first tk) t k n → (∀ r, r < 30 → X r = oI (t r)) → ∃ m X' v', FR_X1_mostFrom_13 tk fuel (nI n) (nI k) (fz σ X v) = some (nI m, fz σ X' v') ∧ MaxM (wA w first tk) m := by
  intro d
  induction d with
  | zero =>
    intro k fuel X v t n hk hf hfk hI hX
    obtain ⟨f1, rfl⟩ : ∃ f, fuel = f + 1 := ⟨fuel - 1, by omega⟩
    have e : k = 10 := by omega
    subst e
    rw [FR_X1_mostFrom_13, if_pos (show (10 : Int32) ≤ nI 10 by decide)]
    exact ⟨n, X, v, rfl, INV_e hI⟩
  | succ d ih =>
    intro k fuel X v t n hk hf hfk hI hX
    obtain ⟨f1, rfl⟩ : ∃ f, fuel = f + 1 := ⟨fuel - 1, by omega⟩
    have hS := find_e (X := X) hw hI.1 hX 12 0 k tk (by omega) (by omega) hfk (fun r _ z => by have := hI.2.2.1 r k z; omega) (fun _ h => h) (by
      have h1 := matC_le hI
      have h2 : fCnt t tk ≤ matC t := cnt_mono 30 (fun r _ hr => by
        simp only [Bool.and_eq_true] at hr
        exact hr.2)
      omega)
    rw [FR_X1_mostFrom_13, if_neg (show ¬ (10 : Int32) ≤ nI k from nI_ge (b := 10) (by omega) (by decide)), fz_ri]
    rw [show nI 0 = (0 : Int32) from rfl] at hS
    generalize FR_X1_findRobe 12 (fz σ X tk) (nI k) 0 = Y at hS ⊢
    rcases hS with ⟨v', rfl, hFF⟩ | ⟨X', t', v', rfl, hX', hFS⟩
    · rw [sb, if_pos rfl, nI_1]
      obtain ⟨T, U, hc, hU⟩ := FF_clo hFF
      exact ih (k + 1) f1 X v' t n (by omega) (by omega) (by omega) (INV_f hI hc hU) hX
    · rw [sb, if_neg (show ¬ (1 : Int32) = 0 by decide), nI_1, nI_1]
      exact ih (k + 1) f1 X' v' t' (n + 1) (by omega) (by omega) (by omega) (INV_s hI (FS_aug hFS)) hX'
theorem mostFrom_e {σ : RS} {w : Nat → Int32} {first : Nat} (hw : rA σ 100 = w) (hf : first ≤ 10) (tk : Int32) : ∃ m X' v', FR_X1_mostFrom σ (nI first) tk = some (nI m, fz σ X' v') ∧ MaxM (wA w first tk) m := by
  have hfu := fu_pos
  obtain ⟨G, g1, g2⟩ := fill_e σ (-1)
  have e0 : rc σ 102 G = fz σ G (rI (rc σ 102 G) 103) := (ri_self rfl).symm
  unfold FR_X1_mostFrom
  rw [g2, sb, e0]
  exact most13 hw (10 - first) first fu G _ (fun _ => none) 0 (by omega) (by omega) (Nat.le_refl _) (INV_0 (fun q r hq _ => by
    unfold wA
    rw [decide_eq_false (by omega)]
    rfl)) (fun r hr => g1 r hr)
