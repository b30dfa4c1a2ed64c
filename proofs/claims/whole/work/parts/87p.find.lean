/-! the class's search for a robe -/
def oI : Option Nat → Int32
  | none => -1
  | some q => nI q
def fz (σ : RS) (X : Nat → Int32) (v : Int32) : RS := ri (rc σ 102 X) 103 v
theorem fz_100 (σ : RS) (X : Nat → Int32) (v : Int32) : rA (fz σ X v) 100 = rA σ 100 := by
  show rA (rc σ 102 X) 100 = _
  rw [rA_rc, if_neg (by decide)]
theorem fz_102 (σ : RS) (X : Nat → Int32) (v : Int32) : rA (fz σ X v) 102 = X := by
  show rA (rc σ 102 X) 102 = _
  rw [rA_rc, if_pos rfl]
theorem fz_103 (σ : RS) (X : Nat → Int32) (v : Int32) : rI (fz σ X v) 103 = v := by
  unfold fz
  rw [qrI_ri, if_pos rfl]
theorem fz_ri (σ : RS) (X : Nat → Int32) (v v' : Int32) : ri (fz σ X v) 103 v' = fz σ X v' := ri_ri _ _ _ _
theorem fz_ra (σ : RS) (X : Nat → Int32) (v : Int32) {r : Nat} (hr : r < 30) (u : Int32) : ra (fz σ X v) 102 (nI r) u = fz σ (upd X r u) v := by
  rw [ra_rc, fz_102, nI_clamp (by omega)]
  show ri (rc (rc σ 102 X) 102 _) 103 v = _
  rw [rc_rc]
  rfl
def wA (w : Nat → Int32) (first : Nat) (tk : Int32) (q r : Nat) : Bool := decide (first ≤ q) && (bI (w q) r && !bI tk r)
def FF (A : Nat → Nat → Bool) (t : Nat → Option Nat) (p : Nat) (v v' : Int32) : Prop := (∀ r, bI v r = true → bI v' r = true) ∧ (∀ r, r < 30 → A p r = true → bI v' r = true) ∧ ∀ r, r < 30 → bI v' r = true → bI v r = false → ∃ q, t r = some q ∧ ∀ r', r' < 30 → A q r' = true → bI v' r' = true
def FS (A : Nat → Nat → Bool) (t t' : Nat → Option Nat) (p : Nat) (v : Int32) : Prop := (∀ r, bI v r = true → t' r = t r) ∧ (∀ r q, t' r = some q → r < 30 ∧ q < 10 ∧ A q r = true) ∧ (∀ r r' q, (q = p → bI v r = false ∧ bI v r' = false) → t' r = some q → t' r' = some q → r = r') ∧ (∀ q, (∃ r, t r = some q) → ∃ r, t' r = some q) ∧ (∃ r, bI v r = false ∧ t' r = some p) ∧ (∀ r q, t' r = some q → q = p ∨ ∃ r', t r' = some q) ∧ (∃ r0, r0 < 30 ∧ t r0 = none ∧ (t' r0).isSome = true ∧ ∀ r, r ≠ r0 → (t' r).isSome = (t r).isSome) ∧ ∀ T U, clo A t T U → ¬ U p ∧ ∀ r, r < 30 → T r → t' r = t r
theorem FS_lift {A : Nat → Nat → Bool} {t t' : Nat → Option Nat} {p : Nat} {v v' : Int32} (h : FS A t t' p v') (hv : ∀ r, bI v r = true → bI v' r = true) (h3 : ∀ r, bI v r = false → t r ≠ some p) : FS A t t' p v := by
  obtain ⟨a1, a2, a3, a4, ⟨r1, r2, r3⟩, a6, a7, a8⟩ := h
  have hf : ∀ r, t' r = some p → bI v r = false → bI v' r = false := fun r hr hb => by
    refine Bool.eq_false_iff.mpr (fun z => ?_)
    rw [a1 r z] at hr
    exact h3 r hb hr
  refine ⟨fun r hr => a1 r (hv r hr), a2, fun r r' q hq z z' => a3 r r' q (fun e => ?_) z z', a4, ⟨r1, ?_, r3⟩, a6, a7, a8⟩
  · subst e
    exact ⟨hf r z (hq rfl).1, hf r' z' (hq rfl).2⟩
  · refine Bool.eq_false_iff.mpr (fun z => ?_)
    rw [hv r1 z] at r2
    cases r2
theorem up_s {f : Nat → Option Nat} {k : Nat} {v : Option Nat} : va_up f k v k = v := by unfold va_up; rw [if_pos rfl]
theorem up_n {f : Nat → Option Nat} {k j : Nat} {v : Option Nat} (h : j ≠ k) : va_up f k v j = f j := by unfold va_up; rw [if_neg h]
theorem FS_free {A : Nat → Nat → Bool} {t : Nat → Option Nat} {p r : Nat} {v : Int32} (hm : mat A t) (h3 : ∀ s, bI v s = false → t s ≠ some p) (hr : r < 30) (hp : p < 10) (hv : bI v r = false) (hA : A p r = true) (ht : t r = none) : FS A t (va_up t r (some p)) p v := by
  refine ⟨fun s hs => up_n (fun z => ?_), fun s q hq => ?_, fun s s' q hq z z' => ?_, fun q ⟨s, hs⟩ => ⟨s, ?_⟩, ⟨r, hv, up_s⟩, fun s q hq => ?_, ⟨r, hr, ht, by rw [up_s]; rfl, fun s hs => by rw [up_n hs]⟩, fun T U hc => ⟨fun z => ?_, fun s hs hT => up_n (fun z => ?_)⟩⟩
  · subst z
    rw [hv] at hs
    cases hs
  · by_cases c : s = r
    · subst c
      rw [up_s] at hq
      cases hq
      exact ⟨hr, hp, hA⟩
    · rw [up_n c] at hq
      exact hm.1 s q hq
  · by_cases c : s = r
    · by_cases c' : s' = r
      · omega
      · subst c
        rw [up_s] at z
        cases z
        rw [up_n c'] at z'
        exact absurd z' (h3 s' (hq rfl).2)
    · rw [up_n c] at z
      by_cases c' : s' = r
      · subst c'
        rw [up_s] at z'
        cases z'
        exact absurd z (h3 s (hq rfl).1)
      · rw [up_n c'] at z'
        exact hm.2 s s' q z z'
  · rw [up_n (fun z => by rw [z, ht] at hs; cases hs)]
    exact hs
  · by_cases c : s = r
    · subst c
      rw [up_s] at hq
      cases hq
      exact Or.inl rfl
    · rw [up_n c] at hq
      exact Or.inr ⟨s, hq⟩
  · have := hc.1 p r hp hr z hA
    obtain ⟨q, z1, -⟩ := hc.2 r hr this
    rw [ht] at z1
    cases z1
  · subst z
    obtain ⟨q, z1, -⟩ := hc.2 s hs hT
    rw [ht] at z1
    cases z1
theorem FS_rec {A : Nat → Nat → Bool} {t t2 : Nat → Option Nat} {p q r : Nat} {v v1 : Int32} (hm : mat A t) (h3 : ∀ s, bI v s = false → t s ≠ some p) (hr : r < 30) (hp : p < 10) (hv : bI v r = false) (hA : A p r = true) (ht : t r = some q) (h1 : ∀ s, bI v1 s = (bI v s || decide (s = r))) (h : FS A t t2 q v1) : FS A t (va_up t2 r (some p)) p v := by
  obtain ⟨a1, a2, a3, a4, ⟨r1, r2, r3⟩, a6, ⟨r0, b1, b2, b3, b4⟩, a8⟩ := h
  have hpq : p ≠ q := fun z => by
    subst z
    exact h3 r hv ht
  have v1r : bI v1 r = true := by rw [h1, decide_eq_true rfl, Bool.or_true]
  have v1v : ∀ s, bI v s = true → bI v1 s = true := fun s hs => by rw [h1, hs, Bool.true_or]
  have t2r : t2 r = some q := by rw [a1 r v1r]; exact ht
  -- nobody untried holds p
  have key : ∀ s, s ≠ r → bI v s = false → t2 s ≠ some p := fun s hs hb z => by
    rcases a6 s p z with e | ⟨r', hr'⟩
    · exact hpq e
    · have hb' : bI v r' = true := by
        cases hb2 : bI v r' with
        | true => rfl
        | false => exact absurd hr' (h3 r' hb2)
      have := a3 s r' p (fun e => absurd e hpq) z (by rw [a1 r' (v1v r' hb')]; exact hr')
      subst this
      rw [hb] at hb'
      cases hb'
  have q1 : ∀ s, s ≠ r → t2 s = some q → bI v1 s = false := fun s hs z => by
    refine Bool.eq_false_iff.mpr (fun e => ?_)
    rw [a1 s e] at z
    exact hs (hm.2 s r q z ht)
  refine ⟨fun s hs => ?_, fun s x hx => ?_, fun s s' x hx z z' => ?_, fun x hx => ?_, ⟨r, hv, up_s⟩, fun s x hx => ?_, ⟨r0, b1, b2, ?_, fun s hs => ?_⟩, fun T U hc => ?_⟩
  · have hsr : s ≠ r := fun z => by
      subst z
      rw [hv] at hs
      cases hs
    rw [up_n hsr]
    exact a1 s (v1v s hs)
  · by_cases c : s = r
    · subst c
      rw [up_s] at hx
      cases hx
      exact ⟨hr, hp, hA⟩
    · rw [up_n c] at hx
      exact a2 s x hx
  · by_cases c : s = r
    · by_cases c' : s' = r
      · omega
      · subst c
        rw [up_s] at z
        cases z
        rw [up_n c'] at z'
        exact absurd z' (key s' c' (hx rfl).2)
    · rw [up_n c] at z
      by_cases c' : s' = r
      · subst c'
        rw [up_s] at z'
        cases z'
        exact absurd z (key s c (hx rfl).1)
      · rw [up_n c'] at z'
        exact a3 s s' x (fun e => by subst e; exact ⟨q1 s c z, q1 s' c' z'⟩) z z'
  · obtain ⟨s, hs⟩ := a4 x hx
    by_cases c : s = r
    · subst c
      rw [t2r] at hs
      cases hs
      refine ⟨r1, ?_⟩
      rw [up_n (fun z => by subst z; rw [v1r] at r2; cases r2)]
      exact r3
    · exact ⟨s, by rw [up_n c]; exact hs⟩
  · by_cases c : s = r
    · subst c
      rw [up_s] at hx
      cases hx
      exact Or.inl rfl
    · rw [up_n c] at hx
      rcases a6 s x hx with e | e
      · subst e
        exact Or.inr ⟨r, ht⟩
      · exact Or.inr e
  · rw [up_n (fun z => by subst z; rw [ht] at b2; cases b2)]
    exact b3
  · by_cases c : s = r
    · subst c
      rw [up_s, ht]
      rfl
    · rw [up_n c]
      exact b4 s hs
  · obtain ⟨c1, c2⟩ := a8 T U hc
    have hT : ¬ T r := fun z => by
      obtain ⟨q', z1, z2⟩ := hc.2 r hr z
      rw [ht] at z1
      cases z1
      exact c1 z2
    refine ⟨fun z => hT (hc.1 p r hp hr z hA), fun s hs hTs => ?_⟩
    rw [up_n (fun z => by subst z; exact hT hTs)]
    exact c2 s hs hTs
theorem FF_rec {A : Nat → Nat → Bool} {t : Nat → Option Nat} {p q r : Nat} {v v1 v2 v3 : Int32} (hr : r < 30) (ht : t r = some q) (h1 : ∀ s, bI v1 s = (bI v s || decide (s = r))) (h : FF A t q v1 v2) (h2 : FF A t p v2 v3) : FF A t p v v3 := by
  obtain ⟨a1, a2, a3⟩ := h
  obtain ⟨b1, b2, b3⟩ := h2
  have v1v : ∀ s, bI v s = true → bI v1 s = true := fun s hs => by rw [h1, hs, Bool.true_or]
  refine ⟨fun s hs => b1 s (a1 s (v1v s hs)), b2, fun s hs hs3 hs0 => ?_⟩
  cases h2 : bI v2 s with
  | false => exact b3 s hs hs3 h2
  | true =>
    cases hv1 : bI v1 s with
    | false =>
      obtain ⟨x, x1, x2⟩ := a3 s hs h2 hv1
      exact ⟨x, x1, fun r' hr' hA => b1 r' (x2 r' hr' hA)⟩
    | true =>
      have e : s = r := by
        rw [h1, hs0, Bool.false_or] at hv1
        exact of_decide_eq_true hv1
      subst e
      exact ⟨q, ht, fun r' hr' hA => b1 r' (a2 r' hr' hA)⟩
def fCnt (t : Nat → Option Nat) (v : Int32) : Nat := cntN (fun r => !bI v r && (t r).isSome) 30
theorem fCnt_le {t : Nat → Option Nat} {v v' : Int32} (h : ∀ r, bI v r = true → bI v' r = true) : fCnt t v' ≤ fCnt t v := by
  refine cnt_mono 30 (fun r _ hr => ?_)
  simp only [Bool.and_eq_true, Bool.not_eq_true'] at hr ⊢
  refine ⟨Bool.eq_false_iff.mpr (fun z => ?_), hr.2⟩
  rw [h r z] at hr
  cases hr.1
theorem fCnt_s {t : Nat → Option Nat} {v v1 : Int32} {r q : Nat} (hr : r < 30) (hv : bI v r = false) (ht : t r = some q) (h1 : ∀ s, bI v1 s = (bI v s || decide (s = r))) : fCnt t v1 + 1 ≤ fCnt t v := by
  refine cnt_step (t := r) 30 hr (fun j _ hj => ?_) ?_ ?_
  · simp only [Bool.and_eq_true, Bool.not_eq_true'] at hj ⊢
    refine ⟨?_, hj.2⟩
    have := hj.1
    rw [h1] at this
    exact (Bool.or_eq_false_iff.mp this).1
  · show (!bI v1 r && (t r).isSome) = false
    rw [h1, decide_eq_true rfl, Bool.or_true]
    rfl
  · show (!bI v r && (t r).isSome) = true
    rw [hv, ht]
    rfl
def fSpec (σ : RS) (A : Nat → Nat → Bool) (X : Nat → Int32) (t : Nat → Option Nat) (p : Nat) (v : Int32) (Y : Option (Int32 × RS)) : Prop := (∃ v', Y = some (0, fz σ X v') ∧ FF A t p v v') ∨ ∃ X' t' v', Y = some (1, fz σ X' v') ∧ (∀ r, r < 30 → X' r = oI (t' r)) ∧ FS A t t' p v
theorem find10 {σ : RS} {w X : Nat → Int32} {t : Nat → Option Nat} {first p δ : Nat} {tk : Int32} {rcf : RS → Int32 → Int32 → Option (Int32 × RS)} (hw : rA σ 100 = w) (hm : mat (wA w first tk) t) (hX : ∀ r, r < 30 → X r = oI (t r)) (hp : p < 10) (hfp : first ≤ p)
    (IH : ∀ q v, q < 10 → first ≤ q → (∀ r, bI v r = false → t r ≠ some q) → (∀ r, bI tk r = true → bI v r = true) → δ + 1 + fCnt t v ≤ 9 → fSpec σ (wA w first tk) X t q v (rcf (fz σ X v) (nI q) (nI (δ + 1)))) :
    ∀ d i fuel v, i + d = 30 → d < fuel → (∀ r, bI v r = false → t r ≠ some p) → (∀ r, bI tk r = true → bI v r = true) → δ + fCnt t v ≤ 9 → (∀ r, r < i → wA w first tk p r = true → bI v r = true) → fSpec σ (wA w first tk) X t p v (FR_X1_findRobe_20 rcf (fun x3_87 σ_87 => FR_X1_findRobe_87 rcf (nI p) x3_87 σ_87) (nI p) (nI δ) fuel (nI i) (fz σ X v)) := by
  intro d
  induction d with
  | zero =>
    intro i fuel v hi hf h3 h4 h5 h6
    obtain ⟨f1, rfl⟩ : ∃ f, fuel = f + 1 := ⟨fuel - 1, by omega⟩
    have e : i = 30 := by omega
    subst e
    rw [FR_X1_findRobe_20, if_pos (show (30 : Int32) ≤ nI 30 by decide)]
    exact Or.inl ⟨v, rfl, fun _ h => h, h6, fun r _ a b => by rw [a] at b; cases b⟩
  | succ d ih =>
    intro i fuel v hi hf h3 h4 h5 h6
    obtain ⟨f1, rfl⟩ : ∃ f, fuel = f + 1 := ⟨fuel - 1, by omega⟩
    have hi30 : i < 30 := by omega
    have n1 : ¬ (30 : Int32) ≤ nI i := nI_ge (b := 30) (by omega) (by decide)
    have gp := inb_nI hp (show 10 < 2 ^ 31 by decide)
    have gi := inb_nI hi30 (show 30 < 2 ^ 31 by decide)
    rw [FR_X1_findRobe_20, if_neg n1, gp, gdt, fz_100, fz_103, hw, nI_clamp (show p < 2 ^ 31 by omega), gi, gdt, gdt, fz_ri, fz_102, nI_clamp (show i < 2 ^ 31 by omega)]
    by_cases c : (bI (w p) i && !bI v i) = false
    · rw [if_pos ((bI_tst hi30).mpr c), nI_1]
      refine ih (i + 1) f1 v (by omega) (by omega) h3 h4 h5 (fun r hr hA => ?_)
      by_cases cr : r = i
      · subst cr
        unfold wA at hA
        simp only [Bool.and_eq_true] at hA
        rw [hA.2.1, Bool.true_and] at c
        cases hb : bI v r with
        | true => rfl
        | false => rw [hb] at c; cases c
      · exact h6 r (by omega) hA
    · rw [if_neg (fun z => c ((bI_tst hi30).mp z))]
      have c' : (bI (w p) i && !bI v i) = true := by
        cases hz : (bI (w p) i && !bI v i) with
        | true => rfl
        | false => exact absurd hz c
      simp only [Bool.and_eq_true, Bool.not_eq_true'] at c'
      obtain ⟨cw, cv⟩ := c'
      have ctk : bI tk i = false := Bool.eq_false_iff.mpr (fun z => by rw [h4 i z] at cv; cases cv)
      have hA : wA w first tk p i = true := by
        unfold wA
        rw [cw, ctk, decide_eq_true hfp]
        rfl
      have h1 : ∀ s, bI (v ||| ((1 : Int32) <<< (nI i &&& 31))) s = (bI v s || decide (s = i)) := fun s => bI_or hi30
      generalize v ||| ((1 : Int32) <<< (nI i &&& 31)) = v1 at h1 ⊢
      have v1v : ∀ s, bI v s = true → bI v1 s = true := fun s hs => by rw [h1, hs, Bool.true_or]
      have e77 : ∀ X' v', FR_X1_findRobe_87 rcf (nI p) (nI i) (fz σ X' v') = some (1, fz σ (upd X' i (nI p)) v') := fun X' v' => by
        unfold FR_X1_findRobe_87
        rw [gi, gdt, fz_ra _ _ _ hi30]
      cases ht : t i with
      | none =>
        rw [hX i hi30, ht, if_pos (show oI none = -1 from rfl), e77]
        refine Or.inr ⟨_, va_up t i (some p), _, rfl, fun r hr => ?_, FS_free hm h3 hi30 hp cv hA ht⟩
        by_cases cr : r = i
        · subst cr
          rw [upd_s, up_s]
          rfl
        · rw [upd_n cr, up_n cr]
          exact hX r hr
      | some q =>
        obtain ⟨-, q10, qA⟩ := hm.1 i q ht
        have hfq : first ≤ q := by
          unfold wA at qA
          simp only [Bool.and_eq_true, decide_eq_true_iff] at qA
          exact qA.1
        have hXi : X i = nI q := by rw [hX i hi30, ht]; rfl
        have hcnt := fCnt_s hi30 cv ht h1
        rw [hXi, if_neg (fun z => z_m1' (a := q) (by omega) z.symm), nI_1]
        have hI := IH q v1 q10 hfq (fun r hr z => by
          have := hm.2 r i q z ht
          subst this
          rw [h1, decide_eq_true rfl, Bool.or_true] at hr
          cases hr) (fun r hr => v1v r (h4 r hr)) (by omega)
        generalize rcf (fz σ X v1) (nI q) (nI (δ + 1)) = Y at hI ⊢
        rcases hI with ⟨v2, rfl, hFF⟩ | ⟨X', t2, v2, rfl, hX2, hFS⟩
        · rw [sb, if_pos rfl, nI_1]
          have v2v : ∀ s, bI v s = true → bI v2 s = true := fun s hs => hFF.1 s (v1v s hs)
          have h3' : ∀ r, bI v2 r = false → t r ≠ some p := fun r hr => h3 r (Bool.eq_false_iff.mpr (fun z => by rw [v2v r z] at hr; cases hr))
          have hL := ih (i + 1) f1 v2 (by omega) (by omega) h3' (fun r hr => v2v r (h4 r hr)) (by have := fCnt_le (t := t) v2v; omega) (fun r hr hA => by
            by_cases cr : r = i
            · subst cr
              refine hFF.1 r ?_
              rw [h1, decide_eq_true rfl, Bool.or_true]
            · exact v2v r (h6 r (by omega) hA))
          rcases hL with ⟨v3, z1, z2⟩ | ⟨X', t', v3, z1, z2, z3⟩
          · exact Or.inl ⟨v3, z1, FF_rec hi30 ht h1 hFF z2⟩
          · exact Or.inr ⟨X', t', v3, z1, z2, FS_lift z3 v2v h3⟩
        · rw [sb, if_neg (show ¬ (1 : Int32) = 0 by decide)]
          refine Or.inr ⟨_, va_up t2 i (some p), v2, e77 X' v2, fun r hr => ?_, FS_rec hm h3 hi30 hp cv hA ht h1 hFS⟩
          by_cases cr : r = i
          · subst cr
            rw [upd_s, up_s]
            rfl
          · rw [upd_n cr, up_n cr]
            exact hX2 r hr
theorem find_e {σ : RS} {w X : Nat → Int32} {t : Nat → Option Nat} {first : Nat} {tk : Int32} (hw : rA σ 100 = w) (hm : mat (wA w first tk) t) (hX : ∀ r, r < 30 → X r = oI (t r)) : ∀ d δ q v, d + δ = 12 → q < 10 → first ≤ q → (∀ r, bI v r = false → t r ≠ some q) → (∀ r, bI tk r = true → bI v r = true) → δ + fCnt t v ≤ 9 → fSpec σ (wA w first tk) X t q v (FR_X1_findRobe d (fz σ X v) (nI q) (nI δ)) := by
  have hfu := fu_pos
  intro d
  induction d with
  | zero =>
    intro δ q v hd hq hf h3 h4 h5
    omega
  | succ d ih =>
    intro δ q v hd hq hf h3 h4 h5
    rw [FR_X1_findRobe, if_neg (show ¬ (10 : Int32) ≤ nI δ from nI_ge (b := 10) (by omega) (by decide)), if_neg (show ¬ nI q < 0 from nI_pos (by omega)), if_pos (show nI q < 10 from nI_lt (b := 10) hq (by decide))]
    exact find10 (rcf := FR_X1_findRobe d) hw hm hX hq hf (fun q' v' a b c e f => ih (δ + 1) q' v' (by omega) a b c e f) 30 0 fu v (by omega) (by omega) h3 h4 h5 (fun r hr => absurd hr (Nat.not_lt_zero r))
