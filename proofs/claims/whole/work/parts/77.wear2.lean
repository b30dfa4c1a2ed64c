/-! a robe worn once: the class's rounds over the pieces, and the reference's -/
theorem wearO {own : Nat → Nat} {ρ : RS} {μ : MS} {r0 a c e b sl f l rr : Nat} {x : Nat → Nat} (hr : RobeL own ρ μ r0 a c e b sl f l) (hrr : pR ρ c 0 = some rr) (hrk : isK ρ rr 11 = true) (hrn : pN ρ rr = 2 * b + 2 * sl + f + l) (hne : e ≠ rr) (hx : ∀ t, t < 2 * b + 2 * sl + f + l → okr (x t) ∧ pA ρ rr t = nI (enc (x t))) : ∀ d p fuel, p + d = 6 → d < fuel →
    FR_X4_wearOnce_6 a fuel (nI (cntN (ctQ (wnB b sl f l) x) (froP b sl f l p))) (nI (froP b sl f l p)) (nI p) (wc ρ rr (hyb 0 (froP b sl f l p) (fun t => nI (enc (bp (wnB b sl f l) x t))) (pA ρ rr))) = some (nI (cntN (ctQ (wnB b sl f l) x) (2 * b + 2 * sl + f + l)), wc ρ rr (hyb 0 (2 * b + 2 * sl + f + l) (fun t => nI (enc (bp (wnB b sl f l) x t))) (pA ρ rr))) := by
  have hfu := fu_pos
  have hn := hr.1.2.2.2.2.2.2.2.2.2.2.2
  intro d
  induction d with
  | zero =>
    intro p fuel hp hf
    obtain ⟨f1, rfl⟩ : ∃ f, fuel = f + 1 := ⟨fuel - 1, by omega⟩
    have e6 : p = 6 := by omega
    subst e6
    rw [FR_X4_wearOnce_6, if_pos (show (6 : Int32) ≤ nI 6 from by decide)]
    rfl
  | succ d ih =>
    intro p fuel hp hf
    obtain ⟨f1, rfl⟩ : ∃ f, fuel = f + 1 := ⟨fuel - 1, by omega⟩
    have n1 : ¬ (6 : Int32) ≤ nI p := nI_ge (b := 6) (by omega) (by decide)
    have hl : lenP b sl f l p < fu := by
      have h1 := fro_s (b := b) (sl := sl) (f := f) (l := l) (show p < 6 by omega)
      have h2 := fro_le (b := b) (sl := sl) (f := f) (l := l) (p := p + 1)
      omega
    have w := wearR hr hrr hrk hrn hne hx (show p < 6 by omega) (K := fun x1_90 x2_90 σ_90 => FR_X4_wearOnce_90 (fun x1_6 x2_6 x3_6 σ_6 => FR_X4_wearOnce_6 a f1 x1_6 x2_6 x3_6 σ_6) a x1_90 x2_90 (nI p) σ_90) (lenP b sl f l p) 0 fu (by omega) hl
    rw [Nat.add_zero] at w
    rw [FR_X4_wearOnce_6, if_neg n1]
    refine Eq.trans w ?_
    unfold FR_X4_wearOnce_90
    simp only [nI_1]
    exact ih (p + 1) f1 (by omega) (by omega)
def Qadd (Q : Nat → Bool) (t : Nat) : Nat → Bool := fun u => Q u || decide (u = t)
def wst (μ : MS) (L Fr Rw : Nat → Int32) (r n : Nat) (Q : Nat → Bool) (x : Nat → Nat) : MS := mc (look μ L Fr Rw) 14 (hyb (120 * r) n (fun t => nI (bp Q x t)) (μ.2 14))
theorem bp_n {Q : Nat → Bool} {x : Nat → Nat} {t : Nat} (h : Q t = false) : bp Q x t = x t := by
  unfold bp
  rw [if_neg (by rw [h]; exact fun z => absurd z.1 (by decide))]
theorem bp_add {Q : Nat → Bool} {x : Nat → Nat} {t u : Nat} (h : Q t = false) : bp (Qadd Q t) x u = if u = t then (if x t < 900 then x t + 100 else x t) else bp Q x u := by
  by_cases e : u = t
  · subst e
    rw [if_pos rfl]
    unfold bp Qadd
    rw [decide_eq_true (rfl : u = u), Bool.or_true]
    simp
  · rw [if_neg e]
    unfold bp Qadd
    rw [decide_eq_false e, Bool.or_false]
theorem upd_id (g : Nat → Int32) (k : Nat) : upd g k (g k) = g := by
  funext j
  by_cases e : j = k
  · subst e; exact upd_s _ _ _
  · exact upd_n e
theorem wearsM {μ : MS} {L Fr Rw : Nat → Int32} {r n b sl f l : Nat} {Q : Nat → Bool} {x : Nat → Nat} (hFr : ∀ p, p < 6 → Fr p = nI (froP b sl f l p)) (hr : r < 30) (hn : n ≤ 120) (hx : ∀ t, t < n → okr (x t)) {p i t : Nat} (hp : p < 6) (ht : froP b sl f l p + i = t) (htn : t < n) (hQ : Q t = false) : FM_wears (wst μ L Fr Rw r n Q x) (nI r) (nI p) (nI i) = some (nI (if lt9 x t = true then 1 else 0), wst μ L Fr Rw r n (Qadd Q t) x) := by
  have a33 : (wst μ L Fr Rw r n Q x).2 33 = Fr := rfl
  have a14 : (wst μ L Fr Rw r n Q x).2 14 = hyb (120 * r) n (fun t => nI (bp Q x t)) (μ.2 14) := rfl
  have ad : (120 : Int32) * nI r + nI (froP b sl f l p) + nI i = nI (120 * r + t) := by rw [show (120 : Int32) * nI r = nI (120 * r) from pk_mul 120 r, nI_add, nI_add, ← ht]; congr 1; omega
  have hin : hyb (120 * r) n (fun t => nI (bp Q x t)) (μ.2 14) (120 * r + t) = nI (x t) := by rw [hyb_in htn, bp_n hQ]
  have x1 := (hx t htn).1
  have hup : upd (hyb (120 * r) n (fun u => nI (bp Q x u)) (μ.2 14)) (120 * r + t) (nI (if x t < 900 then x t + 100 else x t)) = hyb (120 * r) n (fun u => nI (bp (Qadd Q t) x u)) (μ.2 14) := by
    funext j
    by_cases e : j = 120 * r + t
    · subst e
      rw [upd_s, hyb_in htn, bp_add hQ, if_pos rfl]
    · rw [upd_n e]
      unfold hyb
      by_cases c : 120 * r ≤ j ∧ j < 120 * r + n
      · rw [if_pos c, if_pos c]
        show nI (bp Q x (j - 120 * r)) = nI (bp (Qadd Q t) x (j - 120 * r))
        rw [bp_add hQ, if_neg (by omega)]
      · rw [if_neg c, if_neg c]
  unfold FM_wears
  simp only [inb_nI hp (show 6 < 2 ^ 31 by decide), gdt, nI_clamp (show p < 2 ^ 31 by omega), a33, hFr p hp, ad, inb_nI (show 120 * r + t < 3600 by omega) (show 3600 < 2 ^ 31 by decide), nI_clamp (show 120 * r + t < 2 ^ 31 by omega), a14, hin]
  by_cases c : x t < 900
  · have c1 : nI (x t) < (900 : Int32) := (nI_ltI (b := 900) (by omega) (by decide)).mpr c
    have c2 : lt9 x t = true := decide_eq_true c
    rw [if_pos c] at hup
    have e1 : nI (x t) + (100 : Int32) = nI (x t + 100) := nI_add (x t) 100
    rw [if_pos c1, if_pos c2, e1]
    unfold wst
    rw [sa_mc, mc_mc, nI_clamp (by omega)]
    refine congrArg some (Prod.ext rfl ?_)
    show mc (look μ L Fr Rw) 14 (upd (hyb (120 * r) n (fun u => nI (bp Q x u)) (μ.2 14)) (120 * r + t) (nI (x t + 100))) = _
    rw [hup]
  · have c1 : ¬ nI (x t) < (900 : Int32) := fun z => c ((nI_ltI (b := 900) (by omega) (by decide)).mp z)
    have c2 : ¬ lt9 x t = true := fun z => c (of_decide_eq_true z)
    rw [if_neg c] at hup
    rw [if_neg c1, if_neg c2]
    refine congrArg some (Prod.ext rfl ?_)
    show wst μ L Fr Rw r n Q x = _
    unfold wst
    rw [← hup, ← hin, upd_id]
def Q2 (b sl k : Nat) : Nat → Bool := fun t => decide ((2 * b ≤ t ∧ t < 2 * b + k) ∨ (2 * b + sl ≤ t ∧ t < 2 * b + sl + k))
def Q5 (b sl f h k : Nat) : Nat → Bool := fun t => decide ((2 * b ≤ t ∧ t < 2 * b + h) ∨ (2 * b + sl ≤ t ∧ t < 2 * b + sl + h) ∨ (2 * b + 2 * sl + f ≤ t ∧ t < 2 * b + 2 * sl + f + k))
theorem worn9 {μ : MS} {L Fr Rw : Nat → Int32} {r b sl f l hm : Nat} {x : Nat → Nat} (hL : ∀ p, p < 6 → L p = nI (lenP b sl f l p)) (hFr : ∀ p, p < 6 → Fr p = nI (froP b sl f l p)) (hr : r < 30) (ho : okl b sl f l) (hx : ∀ t, t < 2 * b + 2 * sl + f + l → okr (x t)) (hm1 : hm ≤ 3) (hm2 : hm ≤ sl) (hm3 : hm = 3 ∨ hm = sl) {K : Int32 → MS → Option (Int32 × MS)} : ∀ d k fuel, k + d = hm → d < fuel →
    FM_wornOnce_9 K (nI r) fuel (nI (cntN (fun i => lt9 x (2 * b + i)) k + cntN (fun i => lt9 x (2 * b + sl + i)) k)) (nI k) (wst μ L Fr Rw r (2 * b + 2 * sl + f + l) (Q2 b sl k) x) = K (nI (cntN (fun i => lt9 x (2 * b + i)) hm + cntN (fun i => lt9 x (2 * b + sl + i)) hm)) (wst μ L Fr Rw r (2 * b + 2 * sl + f + l) (Q2 b sl hm) x) := by
  obtain ⟨o1, o2, o3, o4, o5, o6, o7, o8⟩ := ho
  have l2 : ∀ Q, (wst μ L Fr Rw r (2 * b + 2 * sl + f + l) Q x).2 32 2 = nI sl := fun Q => hL 2 (by omega)
  intro d
  induction d with
  | zero =>
    intro k fuel hk hf
    obtain ⟨f1, rfl⟩ : ∃ f, fuel = f + 1 := ⟨fuel - 1, by omega⟩
    have e : k = hm := by omega
    subst e
    rw [FM_wornOnce_9]
    by_cases c : (3 : Int32) ≤ nI k
    · rw [if_pos c]
    · have hk3 : k = sl := by
        rcases hm3 with h | h
        · exact absurd (show (3 : Int32) ≤ nI k from by rw [h]; decide) c
        · exact h
      simp only [if_neg c, show inb (2 : Int32) 6 = true from rfl, gdt, show (2 : Int32).toNatClampNeg = 2 from rfl, l2, if_pos (show nI sl ≤ nI k from nI_le (by omega) (by omega))]
  | succ d ih =>
    intro k fuel hk hf
    obtain ⟨f1, rfl⟩ : ∃ f, fuel = f + 1 := ⟨fuel - 1, by omega⟩
    have n1 : ¬ (3 : Int32) ≤ nI k := nI_ge (b := 3) (by omega) (by decide)
    have n2 : ¬ nI sl ≤ nI k := nI_ge (by omega) (by omega)
    have w1 : FM_wears (wst μ L Fr Rw r (2 * b + 2 * sl + f + l) (Q2 b sl k) x) (nI r) 2 (nI k) = _ := wearsM (μ := μ) (L := L) (Rw := Rw) hFr hr o8 hx (Q := Q2 b sl k) (p := 2) (i := k) (t := 2 * b + k) (by omega) rfl (by omega) (decide_eq_false (by omega))
    have w2 : FM_wears (wst μ L Fr Rw r (2 * b + 2 * sl + f + l) (Qadd (Q2 b sl k) (2 * b + k)) x) (nI r) 3 (nI k) = _ := wearsM (μ := μ) (L := L) (Rw := Rw) hFr hr o8 hx (Q := Qadd (Q2 b sl k) (2 * b + k)) (p := 3) (i := k) (t := 2 * b + sl + k) (by omega) rfl (by omega) (by unfold Qadd Q2; rw [decide_eq_false (by omega), decide_eq_false (by omega)]; rfl)
    have eQ : Qadd (Qadd (Q2 b sl k) (2 * b + k)) (2 * b + sl + k) = Q2 b sl (k + 1) := by
      funext u
      refine Bool.eq_iff_iff.mpr ?_
      unfold Qadd Q2
      simp only [Bool.or_eq_true, decide_eq_true_iff]
      omega
    rw [eQ] at w2
    rw [FM_wornOnce_9]
    simp only [if_neg n1, show inb (2 : Int32) 6 = true from rfl, gdt, show (2 : Int32).toNatClampNeg = 2 from rfl, l2, if_neg n2, w1, w2, sb, nI_add, nI_1]
    have h1 : cntN (fun i => lt9 x (2 * b + i)) (k + 1) = cntN (fun i => lt9 x (2 * b + i)) k + (if lt9 x (2 * b + k) = true then 1 else 0) := rfl
    have h2 : cntN (fun i => lt9 x (2 * b + sl + i)) (k + 1) = cntN (fun i => lt9 x (2 * b + sl + i)) k + (if lt9 x (2 * b + sl + k) = true then 1 else 0) := rfl
    have := ih (k + 1) f1 (by omega) (by omega)
    rw [h1, h2] at this
    refine Eq.trans ?_ this
    exact congrArg (fun z => FM_wornOnce_9 K (nI r) f1 (nI z) (nI (k + 1)) (wst μ L Fr Rw r (2 * b + 2 * sl + f + l) (Q2 b sl (k + 1)) x)) (by omega)
theorem worn50 {μ : MS} {L Fr Rw : Nat → Int32} {r b sl f l hm : Nat} {x : Nat → Nat} (hL : ∀ p, p < 6 → L p = nI (lenP b sl f l p)) (hFr : ∀ p, p < 6 → Fr p = nI (froP b sl f l p)) (hr : r < 30) (ho : okl b sl f l) (hx : ∀ t, t < 2 * b + 2 * sl + f + l → okr (x t)) (hm2 : hm ≤ sl) {C : Nat} {K : Int32 → MS → Option (Int32 × MS)} : ∀ d k fuel, k + d = l → d < fuel →
    FM_wornOnce_50 K (nI r) fuel (nI (C + cntN (fun i => lt9 x (2 * b + 2 * sl + f + i)) k)) (nI k) (wst μ L Fr Rw r (2 * b + 2 * sl + f + l) (Q5 b sl f hm k) x) = K (nI (C + cntN (fun i => lt9 x (2 * b + 2 * sl + f + i)) l)) (wst μ L Fr Rw r (2 * b + 2 * sl + f + l) (Q5 b sl f hm l) x) := by
  obtain ⟨o1, o2, o3, o4, o5, o6, o7, o8⟩ := ho
  have l2 : ∀ Q, (wst μ L Fr Rw r (2 * b + 2 * sl + f + l) Q x).2 32 5 = nI l := fun Q => hL 5 (by omega)
  intro d
  induction d with
  | zero =>
    intro k fuel hk hf
    obtain ⟨f1, rfl⟩ : ∃ f, fuel = f + 1 := ⟨fuel - 1, by omega⟩
    have e : k = l := by omega
    subst e
    rw [FM_wornOnce_50]
    simp only [show inb (5 : Int32) 6 = true from rfl, gdt, show (5 : Int32).toNatClampNeg = 5 from rfl, l2, if_pos (show nI k ≤ nI k from nI_le (by omega) (by omega))]
  | succ d ih =>
    intro k fuel hk hf
    obtain ⟨f1, rfl⟩ : ∃ f, fuel = f + 1 := ⟨fuel - 1, by omega⟩
    have n2 : ¬ nI l ≤ nI k := nI_ge (by omega) (by omega)
    have w1 : FM_wears (wst μ L Fr Rw r (2 * b + 2 * sl + f + l) (Q5 b sl f hm k) x) (nI r) 5 (nI k) = _ := wearsM (μ := μ) (L := L) (Rw := Rw) hFr hr o8 hx (Q := Q5 b sl f hm k) (p := 5) (i := k) (t := 2 * b + 2 * sl + f + k) (by omega) rfl (by omega) (decide_eq_false (by omega))
    have eQ : Qadd (Q5 b sl f hm k) (2 * b + 2 * sl + f + k) = Q5 b sl f hm (k + 1) := by
      funext u
      refine Bool.eq_iff_iff.mpr ?_
      unfold Qadd Q5
      simp only [Bool.or_eq_true, decide_eq_true_iff]
      omega
    rw [eQ] at w1
    rw [FM_wornOnce_50]
    simp only [show inb (5 : Int32) 6 = true from rfl, gdt, show (5 : Int32).toNatClampNeg = 5 from rfl, l2, if_neg n2, w1, sb, nI_add, nI_1]
    have h1 : cntN (fun i => lt9 x (2 * b + 2 * sl + f + i)) (k + 1) = cntN (fun i => lt9 x (2 * b + 2 * sl + f + i)) k + (if lt9 x (2 * b + 2 * sl + f + k) = true then 1 else 0) := rfl
    have := ih (k + 1) f1 (by omega) (by omega)
    rw [h1] at this
    refine Eq.trans ?_ this
    exact congrArg (fun z => FM_wornOnce_50 K (nI r) f1 (nI z) (nI (k + 1)) (wst μ L Fr Rw r (2 * b + 2 * sl + f + l) (Q5 b sl f hm (k + 1)) x)) (by omega)
theorem worn76 {μ : MS} {L Fr Rw : Nat → Int32} {r b sl f l hm C : Nat} {x : Nat → Nat} (hL : ∀ p, p < 6 → L p = nI (lenP b sl f l p)) (hFr : ∀ p, p < 6 → Fr p = nI (froP b sl f l p)) (hr : r < 30) (ho : okl b sl f l) (hx : ∀ t, t < 2 * b + 2 * sl + f + l → okr (x t)) (hm1 : hm ≤ 3) (hm2 : hm ≤ sl) (hm3 : hm = 3 ∨ hm = sl) :
    FM_wornOnce_76 (nI r) (nI C) (wst μ L Fr Rw r (2 * b + 2 * sl + f + l) (Q5 b sl f hm l) x) = some (nI (C + (if lt9 x (b / 2) = true then 1 else 0) + (if lt9 x (b + b / 2) = true then 1 else 0)), wst μ L Fr Rw r (2 * b + 2 * sl + f + l) (wnB b sl f l) x) := by
  obtain ⟨o1, o2, o3, o4, o5, o6, o7, o8⟩ := ho
  have l2 : ∀ Q, (wst μ L Fr Rw r (2 * b + 2 * sl + f + l) Q x).2 32 0 = nI b := fun Q => hL 0 (by omega)
  have hd : nI b / 2 = nI (b / 2) := z_div (d := 2) (by omega) (by decide) (by decide)
  have w1 : FM_wears (wst μ L Fr Rw r (2 * b + 2 * sl + f + l) (Q5 b sl f hm l) x) (nI r) 0 (nI (b / 2)) = _ := wearsM (μ := μ) (L := L) (Rw := Rw) hFr hr o8 hx (Q := Q5 b sl f hm l) (p := 0) (i := b / 2) (t := b / 2) (by omega) (Nat.zero_add _) (by omega) (decide_eq_false (by omega))
  have w2 : FM_wears (wst μ L Fr Rw r (2 * b + 2 * sl + f + l) (Qadd (Q5 b sl f hm l) (b / 2)) x) (nI r) 1 (nI (b / 2)) = _ := wearsM (μ := μ) (L := L) (Rw := Rw) hFr hr o8 hx (Q := Qadd (Q5 b sl f hm l) (b / 2)) (p := 1) (i := b / 2) (t := b + b / 2) (by omega) rfl (by omega) (by unfold Qadd Q5; rw [decide_eq_false (by omega), decide_eq_false (by omega)]; rfl)
  have eQ : Qadd (Qadd (Q5 b sl f hm l) (b / 2)) (b + b / 2) = wnB b sl f l := by
    funext u
    refine Bool.eq_iff_iff.mpr ?_
    unfold Qadd Q5 wnB
    simp only [Bool.or_eq_true, decide_eq_true_iff]
    omega
  rw [eQ] at w2
  unfold FM_wornOnce_76
  simp only [show inb (0 : Int32) 6 = true from rfl, gdt, show (0 : Int32).toNatClampNeg = 0 from rfl, l2, hd, w1, w2, sb, nI_add]
