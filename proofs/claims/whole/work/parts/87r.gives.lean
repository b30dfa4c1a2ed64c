/-! the reference's search for a robe -/
def frM (μ σ : MS) : Prop := σ.1 = μ.1 ∧ ∀ k, k ≠ 42 → k ≠ 44 → k ≠ 45 → k ≠ 46 → k ≠ 47 → σ.2 k = μ.2 k
theorem frM.rf (μ : MS) : frM μ μ := ⟨rfl, fun _ _ _ _ _ _ => rfl⟩
theorem frM.sa {μ σ : MS} (h : frM μ σ) {j : Nat} (hj : j = 42 ∨ j = 44 ∨ j = 45 ∨ j = 46 ∨ j = 47) (i v : Int32) : frM μ (sa σ j i v) := ⟨h.1, fun k h1 h2 h3 h4 h5 => by
  rw [s2_sa_n (by omega)]
  exact h.2 k h1 h2 h3 h4 h5⟩
def mtM (σ : MS) (t h : Nat → Option Nat) : Prop := (∀ r, r < 30 → σ.2 42 r = oI (t r)) ∧ ∀ q, q < 10 → σ.2 47 q = oI (h q)
def PG (A : Nat → Nat → Bool) (by_ : Nat → Int32) (qs : Nat → Nat) (p i r : Nat) (t h : Nat → Option Nat) : Prop := (r < 30 ∧ by_ r = nI (qs i) ∧ A (qs i) r = true) ∧ ((∀ r' q, r' ≠ r → (t r' = some q ↔ h q = some r')) ∧ ∀ q, h q ≠ some r) ∧ (∀ j, 1 ≤ j → j ≤ i → ∃ r' i', h (qs j) = some r' ∧ r' < 30 ∧ by_ r' = nI (qs i') ∧ i' < j ∧ A (qs i') r' = true) ∧ (h p = none ∧ qs 0 = p ∧ (∀ a b, a ≤ i → b ≤ i → qs a = qs b → a = b) ∧ ∀ a, a ≤ i → qs a < 10) ∧ ∀ r' q, t r' = some q → r' < 30 ∧ q < 10 ∧ A q r' = true
def PO (A : Nat → Nat → Bool) (p r : Nat) (t h t' h' : Nat → Option Nat) : Prop := (∀ r' q, t' r' = some q ↔ h' q = some r') ∧ (∀ r' q, t' r' = some q → r' < 30 ∧ q < 10 ∧ A q r' = true) ∧ (∀ q, h q ≠ none → h' q ≠ none) ∧ h' p ≠ none ∧ (∀ q, h' q ≠ none → q = p ∨ h q ≠ none) ∧ ((t' r).isSome = true ∧ ∀ r', r' ≠ r → (t' r').isSome = (t r').isSome) ∧ ∀ T U, clo A t T U → ¬ T r → ∀ r', r' < 30 → T r' → t' r' = t r'
theorem PG_0 {A : Nat → Nat → Bool} {by_ : Nat → Int32} {qs : Nat → Nat} {p r : Nat} {t h : Nat → Option Nat} (hP : PG A by_ qs p 0 r t h) : PO A p r t h (va_up t r (some p)) (va_up h p (some r)) := by
  obtain ⟨⟨a1, a2, a3⟩, ⟨b1, b2⟩, -, ⟨c1, c2, c3, c4⟩, d1⟩ := hP
  have hp10 := c4 0 (Nat.le_refl _)
  rw [c2] at hp10 a3
  refine ⟨fun r' q => ?_, fun r' q z => ?_, fun q hq => ?_, ?_, fun q hq => ?_, ⟨?_, fun r' hr' => ?_⟩, fun T U hc hT r' hr' hTr => ?_⟩
  · by_cases cr : r' = r
    · subst cr
      rw [up_s]
      by_cases cq : q = p
      · subst cq
        rw [up_s]
        exact ⟨fun _ => rfl, fun _ => rfl⟩
      · rw [up_n cq]
        exact ⟨fun z => absurd (Option.some.inj z).symm cq, fun z => absurd z (b2 q)⟩
    · rw [up_n cr]
      by_cases cq : q = p
      · subst cq
        rw [up_s]
        refine ⟨fun z => ?_, fun z => absurd (Option.some.inj z).symm cr⟩
        have := (b1 r' q cr).mp z
        rw [c1] at this
        cases this
      · rw [up_n cq]
        exact b1 r' q cr
  · by_cases cr : r' = r
    · subst cr
      rw [up_s] at z
      cases z
      exact ⟨a1, hp10, a3⟩
    · rw [up_n cr] at z
      exact d1 r' q z
  · by_cases cq : q = p
    · rw [cq, c1] at hq
      exact absurd rfl hq
    · rw [up_n cq]
      exact hq
  · rw [up_s]
    exact fun z => by cases z
  · by_cases cq : q = p
    · exact Or.inl cq
    · rw [up_n cq] at hq
      exact Or.inr hq
  · rw [up_s]
    rfl
  · rw [up_n hr']
  · exact up_n (fun z => hT (z ▸ hTr))
theorem PG_s {A : Nat → Nat → Bool} {by_ : Nat → Int32} {qs : Nat → Nat} {p i r : Nat} {t h : Nat → Option Nat} (hP : PG A by_ qs p i r t h) (hi : 1 ≤ i) : ∃ r1 i1, h (qs i) = some r1 ∧ i1 < i ∧ PG A by_ qs p i1 r1 (va_up t r (some (qs i))) (va_up h (qs i) (some r)) ∧ ∀ t' h', PO A p r1 (va_up t r (some (qs i))) (va_up h (qs i) (some r)) t' h' → PO A p r t h t' h' := by
  obtain ⟨⟨a1, a2, a3⟩, ⟨b1, b2⟩, e1, ⟨c1, c2, c3, c4⟩, d1⟩ := hP
  obtain ⟨r1, i1, k1, k2, k3, k4, k5⟩ := e1 i hi (Nat.le_refl _)
  have hr1 : r1 ≠ r := fun z => b2 (qs i) (by rw [k1, z])
  have t1 : t r1 = some (qs i) := (b1 r1 (qs i) hr1).mpr k1
  have hqp : qs i ≠ p := fun z => by
    rw [z, c1] at k1
    cases k1
  refine ⟨r1, i1, k1, k4, ⟨⟨k2, k3, k5⟩, ⟨fun r' q hr' => ?_, fun q => ?_⟩, fun j hj hj1 => ?_, ⟨?_, c2, fun a b ha hb => c3 a b (by omega) (by omega), fun a ha => c4 a (by omega)⟩, fun r' q z => ?_⟩, fun t' h' hO => ?_⟩
  · by_cases cr : r' = r
    · subst cr
      rw [up_s]
      by_cases cq : q = qs i
      · subst cq
        rw [up_s]
        exact ⟨fun _ => rfl, fun _ => rfl⟩
      · rw [up_n cq]
        exact ⟨fun z => absurd (Option.some.inj z).symm cq, fun z => absurd z (b2 q)⟩
    · rw [up_n cr]
      by_cases cq : q = qs i
      · subst cq
        rw [up_s]
        refine ⟨fun z => ?_, fun z => absurd (Option.some.inj z).symm cr⟩
        have := (b1 r' _ cr).mp z
        rw [k1] at this
        exact absurd (Option.some.inj this).symm hr'
      · rw [up_n cq]
        exact b1 r' q cr
  · by_cases cq : q = qs i
    · subst cq
      rw [up_s]
      exact fun z => hr1 (Option.some.inj z).symm
    · rw [up_n cq]
      intro z
      have := (b1 r1 q hr1).mpr z
      rw [t1] at this
      exact cq (Option.some.inj this).symm
  · obtain ⟨r', i', z1, z2, z3, z4, z5⟩ := e1 j hj (by omega)
    refine ⟨r', i', ?_, z2, z3, z4, z5⟩
    rw [up_n (fun z => by have := c3 j i (by omega) (Nat.le_refl _) z; omega)]
    exact z1
  · rw [up_n (fun z => hqp z.symm)]
    exact c1
  · by_cases cr : r' = r
    · subst cr
      rw [up_s] at z
      cases z
      exact ⟨a1, c4 i (Nat.le_refl _), a3⟩
    · rw [up_n cr] at z
      exact d1 r' q z
  · obtain ⟨o1, o2, o3, o4, o5, ⟨o6, o7⟩, o8⟩ := hO
    refine ⟨o1, o2, fun q hq => o3 q ?_, o4, fun q hq => ?_, ⟨?_, fun r' hr' => ?_⟩, fun T U hc hT r' hr' hTr => ?_⟩
    · by_cases cq : q = qs i
      · subst cq
        rw [up_s]
        exact fun z => by cases z
      · rw [up_n cq]
        exact hq
    · rcases o5 q hq with z | z
      · exact Or.inl z
      · by_cases cq : q = qs i
        · subst cq
          refine Or.inr ?_
          rw [k1]
          exact fun z => by cases z
        · rw [up_n cq] at z
          exact Or.inr z
    · rw [o7 r (fun z => hr1 z.symm), up_s]
      rfl
    · by_cases cr : r' = r1
      · subst cr
        rw [o6, t1]
        rfl
      · rw [o7 r' cr, up_n hr']
    · have hU : ¬ U (qs i) := fun z => hT (hc.1 (qs i) r (c4 i (Nat.le_refl _)) a1 z a3)
      have hT1 : ¬ T r1 := fun z => by
        obtain ⟨q, z1, z2⟩ := hc.2 r1 k2 z
        rw [t1] at z1
        cases z1
        exact hU z2
      have hne : r' ≠ r := fun z => hT (z ▸ hTr)
      rw [o8 T U ⟨hc.1, fun s hs hTs => by
        rw [up_n (show s ≠ r from fun z => hT (z ▸ hTs))]
        exact hc.2 s hs hTs⟩ hT1 r' hr' hTr, up_n hne]
theorem mtM_s {σ : MS} {t h : Nat → Option Nat} {r q : Nat} (hm : mtM σ t h) (hr : r < 30) (hq : q < 10) : mtM (sa (sa σ 42 (nI r) (nI q)) 47 (nI q) (nI r)) (va_up t r (some q)) (va_up h q (some r)) := by
  refine ⟨fun r' hr' => ?_, fun q' hq' => ?_⟩
  · rw [s2_sa_n (by decide), s2_sa_s, nI_clamp (by omega)]
    by_cases c : r' = r
    · subst c
      rw [upd_s, up_s]
      rfl
    · rw [upd_n c, up_n c]
      exact hm.1 r' hr'
  · rw [s2_sa_s, nI_clamp (by omega), s2_sa_n (by decide)]
    by_cases c : q' = q
    · subst c
      rw [upd_s, up_s]
      rfl
    · rw [upd_n c, up_n c]
      exact hm.2 q' hq'
theorem gives5 {A : Nat → Nat → Bool} {qs : Nat → Nat} {p : Nat} {μ : MS} {by_ : Nat → Int32} (hp : p < 10) : ∀ n i fuel r σ t h, i ≤ n → n + 1 < fuel → frM μ σ → σ.2 44 = by_ → mtM σ t h → PG A by_ qs p i r t h → ∃ σ' t' h', FM_gives_5 (nI p) fuel (nI r) 1 σ = some σ' ∧ frM μ σ' ∧ mtM σ' t' h' ∧ PO A p r t h t' h' := by
  intro n
  induction n with
  | zero =>
    intro i fuel r σ t h hi hf hfr h44 hmt hP
    obtain ⟨f1, rfl⟩ : ∃ f, fuel = f + 1 := ⟨fuel - 1, by omega⟩
    obtain ⟨f2, rfl⟩ : ∃ f, f1 = f + 1 := ⟨f1 - 1, by omega⟩
    have e : i = 0 := by omega
    subst e
    have hPO := PG_0 hP
    obtain ⟨⟨a1, a2, a3⟩, -, -, ⟨c1, c2, c3, c4⟩, d1⟩ := hP
    rw [c2] at a2
    have gr := inb_nI a1 (show 30 < 2 ^ 31 by decide)
    have gp := inb_nI hp (show 10 < 2 ^ 31 by decide)
    have h4 : σ.2 44 r = nI p := by rw [h44]; exact a2
    refine ⟨sa (sa σ 42 (nI r) (nI p)) 47 (nI p) (nI r), _, _, ?_, (hfr.sa (Or.inl rfl) _ _).sa (Or.inr (Or.inr (Or.inr (Or.inr rfl)))) _ _, mtM_s hmt a1 hp, hPO⟩
    rw [FM_gives_5, if_neg (show ¬ (1 : Int32) = 0 by decide), gr, gdt, nI_clamp (show r < 2 ^ 31 by omega), h4, gp, gdt, gdt, gdt, if_pos rfl]
    unfold FM_gives_54
    show FM_gives_5 (nI p) (f2 + 1) _ 0 _ = _
    rw [FM_gives_5, if_pos rfl]
  | succ n ih =>
    intro i fuel r σ t h hi hf hfr h44 hmt hP
    obtain ⟨f1, rfl⟩ : ∃ f, fuel = f + 1 := ⟨fuel - 1, by omega⟩
    by_cases ci : i = 0
    · exact ih i (f1 + 1) r σ t h (by omega) (by omega) hfr h44 hmt hP
    · obtain ⟨r1, i1, k1, k2, k3, k4⟩ := PG_s hP (by omega)
      obtain ⟨⟨a1, a2, a3⟩, -, -, ⟨c1, c2, c3, c4⟩, d1⟩ := hP
      have q10 := c4 i (Nat.le_refl _)
      have hqp : ¬ nI (qs i) = nI p := fun z => by
        have := (nI_eq (by omega) (by omega)).mp z
        rw [← c2] at this
        have := c3 i 0 (Nat.le_refl _) (by omega) this
        omega
      have gr := inb_nI a1 (show 30 < 2 ^ 31 by decide)
      have gq := inb_nI q10 (show 10 < 2 ^ 31 by decide)
      have h4 : σ.2 44 r = nI (qs i) := by rw [h44]; exact a2
      have h47 : σ.2 47 (qs i) = nI r1 := by rw [hmt.2 _ q10, k1]; rfl
      obtain ⟨σ', t', h', z1, z2, z3, z4⟩ := ih i1 f1 r1 (sa (sa σ 42 (nI r) (nI (qs i))) 47 (nI (qs i)) (nI r)) _ _ (by omega) (by omega) ((hfr.sa (Or.inl rfl) _ _).sa (Or.inr (Or.inr (Or.inr (Or.inr rfl)))) _ _) (by rw [s2_sa_n (by decide), s2_sa_n (by decide)]; exact h44) (mtM_s hmt a1 q10) k3
      refine ⟨σ', t', h', ?_, z2, z3, k4 t' h' z4⟩
      rw [FM_gives_5, if_neg (show ¬ (1 : Int32) = 0 by decide), gr, gdt, nI_clamp (show r < 2 ^ 31 by omega), h4, gq, gdt, gdt, gdt, if_neg hqp, nI_clamp (show qs i < 2 ^ 31 by omega), h47]
      exact z1
