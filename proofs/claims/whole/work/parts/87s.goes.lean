def mA (w : Nat → Int32) (q r : Nat) : Bool := bI (w q) r
theorem cnt_true : ∀ n, cntN (fun _ => true) n = n
  | 0 => rfl
  | n + 1 => by
    show cntN (fun _ => true) n + (if true = true then 1 else 0) = n + 1
    rw [cnt_true n]
    rfl
def BF (A : Nat → Nat → Bool) (K : Nat) (μ σ : MS) (t h : Nat → Option Nat) (p tail : Nat) (qs bi : Nat → Nat) (sn : Nat → Bool) : Prop := (frM μ σ ∧ mtM σ t h) ∧ (qs 0 = p ∧ 1 ≤ tail ∧ (∀ j, j < tail → qs j < 10 ∧ σ.2 45 j = nI (qs j)) ∧ ∀ a b, a < tail → b < tail → qs a = qs b → a = b) ∧ ((∀ r, sn r = true → r < K) ∧ ∀ r, r < K → σ.2 46 r = if sn r = true then 1 else 0) ∧ (∀ r, sn r = true → bi r < tail ∧ σ.2 44 r = nI (qs (bi r)) ∧ A (qs (bi r)) r = true ∧ ∃ j, j < tail ∧ bi r < j ∧ t r = some (qs j)) ∧ ∀ j, 1 ≤ j → j < tail → ∃ r, sn r = true ∧ t r = some (qs j) ∧ bi r < j
theorem BF_10 {A : Nat → Nat → Bool} {K : Nat} {μ σ : MS} {t h : Nat → Option Nat} {p tail : Nat} {qs bi : Nat → Nat} {sn : Nat → Bool} (hb : BF A K μ σ t h p tail qs bi sn) : tail ≤ 10 := by
  have := inj_cnt (f := qs) tail 10 (fun _ => true) (fun _ => true) (fun r hr _ => ⟨(hb.2.1.2.2.1 r hr).1, rfl⟩) (fun r r' hr hr' _ _ he => hb.2.1.2.2.2 r r' hr hr' he)
  rw [cnt_true] at this
  have h2 := cntN_le (fun _ => true) 10
  omega
def nu (f : Nat → Nat) (k v : Nat) : Nat → Nat := fun j => if j = k then v else f j
theorem nu_s {f : Nat → Nat} {k v : Nat} : nu f k v k = v := if_pos rfl
theorem nu_n {f : Nat → Nat} {k v j : Nat} (h : j ≠ k) : nu f k v j = f j := if_neg h
theorem BF_new {A : Nat → Nat → Bool} {K : Nat} {μ σ : MS} {t h : Nat → Option Nat} {p tail c i q : Nat} {qs bi : Nat → Nat} {sn : Nat → Bool} (hb : BF A K μ σ t h p tail qs bi sn) (hth : ∀ r q, t r = some q ↔ h q = some r) (hp : h p = none) (hK : K ≤ 30) (hi : i < K) (hc : c < tail) (hs : sn i = false) (hA : A (qs c) i = true) (ht : t i = some q) (hq : q < 10) : BF A K μ (sa (sa (sa σ 46 (nI i) 1) 44 (nI i) (nI (qs c))) 45 (nI tail) (nI q)) t h p (tail + 1) (nu qs tail q) (nu bi i c) (fun r => sn r || decide (r = i)) := by
  have h10 := BF_10 hb
  obtain ⟨⟨f1, f2⟩, ⟨a1, a2, a3, a4⟩, ⟨b1, b2⟩, c1, d1⟩ := hb
  have k45 : (sa (sa (sa σ 46 (nI i) 1) 44 (nI i) (nI (qs c))) 45 (nI tail) (nI q)).2 45 = upd (σ.2 45) tail (nI q) := by rw [s2_sa_s, nI_clamp (by omega), s2_sa_n (by decide), s2_sa_n (by decide)]
  have k44 : (sa (sa (sa σ 46 (nI i) 1) 44 (nI i) (nI (qs c))) 45 (nI tail) (nI q)).2 44 = upd (σ.2 44) i (nI (qs c)) := by rw [s2_sa_n (by decide), s2_sa_s, nI_clamp (by omega), s2_sa_n (by decide)]
  have k46 : (sa (sa (sa σ 46 (nI i) 1) 44 (nI i) (nI (qs c))) 45 (nI tail) (nI q)).2 46 = upd (σ.2 46) i 1 := by rw [s2_sa_n (by decide), s2_sa_n (by decide), s2_sa_s, nI_clamp (by omega)]
  have k42 : (sa (sa (sa σ 46 (nI i) 1) 44 (nI i) (nI (qs c))) 45 (nI tail) (nI q)).2 42 = σ.2 42 := by rw [s2_sa_n (by decide), s2_sa_n (by decide), s2_sa_n (by decide)]
  have k47 : (sa (sa (sa σ 46 (nI i) 1) 44 (nI i) (nI (qs c))) 45 (nI tail) (nI q)).2 47 = σ.2 47 := by rw [s2_sa_n (by decide), s2_sa_n (by decide), s2_sa_n (by decide)]
  have fr : frM μ (sa (sa (sa σ 46 (nI i) 1) 44 (nI i) (nI (qs c))) 45 (nI tail) (nI q)) := ((f1.sa (by omega) _ _).sa (by omega) _ _).sa (by omega) _ _
  generalize sa (sa (sa σ 46 (nI i) 1) 44 (nI i) (nI (qs c))) 45 (nI tail) (nI q) = σ' at k45 k44 k46 k42 k47 fr ⊢
  have new : ∀ j, j < tail → qs j ≠ q := fun j hj z => by
    by_cases cj : j = 0
    · subst cj
      rw [a1] at z
      subst z
      have := (hth i p).mp ht
      rw [hp] at this
      cases this
    · obtain ⟨r, r1, r2, -⟩ := d1 j (by omega) hj
      rw [z] at r2
      have e1 := (hth r q).mp r2
      have e2 := (hth i q).mp ht
      rw [e1] at e2
      cases e2
      rw [hs] at r1
      cases r1
  refine ⟨⟨fr, ⟨fun r hr => by rw [k42]; exact f2.1 r hr, fun x hx => by rw [k47]; exact f2.2 x hx⟩⟩, ⟨by rw [nu_n (by omega)]; exact a1, by omega, fun j hj => ?_, fun a b ha hb z => ?_⟩, ⟨fun r hr => ?_, fun r hr => ?_⟩, fun r hr => ?_, fun j hj hjt => ?_⟩
  · by_cases cj : j = tail
    · subst cj
      rw [nu_s, k45, upd_s]
      exact ⟨hq, rfl⟩
    · rw [nu_n cj, k45, upd_n cj]
      exact a3 j (by omega)
  · by_cases ca : a = tail
    · by_cases cb : b = tail
      · omega
      · subst ca
        rw [nu_s, nu_n cb] at z
        exact absurd z.symm (new b (by omega))
    · rw [nu_n ca] at z
      by_cases cb : b = tail
      · subst cb
        rw [nu_s] at z
        exact absurd z (new a (by omega))
      · rw [nu_n cb] at z
        exact a4 a b (by omega) (by omega) z
  · simp only [Bool.or_eq_true, decide_eq_true_iff] at hr
    rcases hr with z | z
    · exact b1 r z
    · omega
  · rw [k46]
    by_cases cr : r = i
    · subst cr
      rw [upd_s]
      simp
    · rw [upd_n cr, b2 r hr]
      simp [cr]
  · simp only [Bool.or_eq_true, decide_eq_true_iff] at hr
    by_cases cr : r = i
    · subst cr
      rw [nu_s, k44, upd_s, nu_n (by omega)]
      refine ⟨by omega, rfl, hA, tail, by omega, hc, by rw [nu_s]; exact ht⟩
    · obtain ⟨z1, z2, z3, j, z4, z5, z6⟩ := c1 r (hr.resolve_right cr)
      rw [nu_n cr, k44, upd_n cr, nu_n (by omega)]
      exact ⟨by omega, z2, z3, j, by omega, z5, by rw [nu_n (by omega)]; exact z6⟩
  · by_cases cj : j = tail
    · subst cj
      refine ⟨i, by simp, by rw [nu_s]; exact ht, by rw [nu_s]; exact hc⟩
    · obtain ⟨r, z1, z2, z3⟩ := d1 j hj (by omega)
      have cr : r ≠ i := fun z => by
        rw [z, hs] at z1
        cases z1
      refine ⟨r, by simp [z1], by rw [nu_n cj]; exact z2, by rw [nu_n cr]; exact z3⟩
theorem BF_free {A : Nat → Nat → Bool} {K : Nat} {μ σ : MS} {t h : Nat → Option Nat} {p tail c i : Nat} {qs bi : Nat → Nat} {sn : Nat → Bool} (hb : BF A K μ σ t h p tail qs bi sn) (hm : mat A t) (hth : ∀ r q, t r = some q ↔ h q = some r) (hp : h p = none) (hK : K ≤ 30) (hi : i < K) (hc : c < tail) (hs : sn i = false) (hA : A (qs c) i = true) (ht : t i = none) : frM μ (sa (sa σ 46 (nI i) 1) 44 (nI i) (nI (qs c))) ∧ mtM (sa (sa σ 46 (nI i) 1) 44 (nI i) (nI (qs c))) t h ∧ PG A ((sa (sa σ 46 (nI i) 1) 44 (nI i) (nI (qs c))).2 44) qs p c i t h := by
  obtain ⟨⟨f1, f2⟩, ⟨a1, a2, a3, a4⟩, ⟨b1, b2⟩, c1, d1⟩ := hb
  have k44 : (sa (sa σ 46 (nI i) 1) 44 (nI i) (nI (qs c))).2 44 = upd (σ.2 44) i (nI (qs c)) := by rw [s2_sa_s, nI_clamp (by omega), s2_sa_n (by decide)]
  have k42 : (sa (sa σ 46 (nI i) 1) 44 (nI i) (nI (qs c))).2 42 = σ.2 42 := by rw [s2_sa_n (by decide), s2_sa_n (by decide)]
  have k47 : (sa (sa σ 46 (nI i) 1) 44 (nI i) (nI (qs c))).2 47 = σ.2 47 := by rw [s2_sa_n (by decide), s2_sa_n (by decide)]
  have fr : frM μ (sa (sa σ 46 (nI i) 1) 44 (nI i) (nI (qs c))) := (f1.sa (by omega) _ _).sa (by omega) _ _
  generalize sa (sa σ 46 (nI i) 1) 44 (nI i) (nI (qs c)) = σ' at k44 k42 k47 fr ⊢
  refine ⟨fr, ⟨fun r hr => by rw [k42]; exact f2.1 r hr, fun x hx => by rw [k47]; exact f2.2 x hx⟩, ⟨by omega, by rw [k44, upd_s], hA⟩, ⟨fun r' q _ => hth r' q, fun q z => ?_⟩, fun j hj hjc => ?_, ⟨hp, a1, fun a b ha hb => a4 a b (by omega) (by omega), fun a ha => (a3 a (by omega)).1⟩, hm.1⟩
  · have := (hth i q).mpr z
    rw [ht] at this
    cases this
  · obtain ⟨r, z1, z2, z3⟩ := d1 j hj (by omega)
    obtain ⟨y1, y2, y3, -⟩ := c1 r z1
    have cr : r ≠ i := fun z => by
      rw [z, hs] at z1
      cases z1
    exact ⟨r, bi r, (hth r _).mp z2, (hm.1 r _ z2).1, by rw [k44, upd_n cr]; exact y2, z3, y3⟩
theorem goes53 {w : Nat → Int32} {K p c : Nat} {μ : MS} {t h : Nat → Option Nat} {K147 K116 : Int32 → MS → Option (Int32 × MS)} {x1 x2 : Int32} (hw : μ.2 41 = w) (h6 : μ.1 6 = nI K) (hK : K ≤ 30) (hm : mat (mA w) t) (hth : ∀ r q, t r = some q ↔ h q = some r) (hp : h p = none) :
    ∀ d i fuel σ tail qs bi sn, i + d = K → d < fuel → BF (mA w) K μ σ t h p tail qs bi sn → c < tail → (∀ j, j < c → ∀ r, r < K → mA w (qs j) r = true → sn r = true) → (∀ r, r < i → mA w (qs c) r = true → sn r = true) →
    (∃ σ' tail' qs' bi' sn', FM_goesTo_53 K147 K116 x1 x2 (nI (qs c)) fuel (nI tail) (nI i) σ = K147 (nI tail') σ' ∧ BF (mA w) K μ σ' t h p tail' qs' bi' sn' ∧ c < tail' ∧ ∀ j, j ≤ c → ∀ r, r < K → mA w (qs' j) r = true → sn' r = true) ∨
    (∃ r0 σ' qs' c', FM_goesTo_53 K147 K116 x1 x2 (nI (qs c)) fuel (nI tail) (nI i) σ = K116 (nI r0) σ' ∧ frM μ σ' ∧ mtM σ' t h ∧ r0 < 30 ∧ t r0 = none ∧ c' < 10 ∧ PG (mA w) (σ'.2 44) qs' p c' r0 t h) := by
  intro d
  induction d with
  | zero =>
    intro i fuel σ tail qs bi sn hi hf hb hc h1 h2
    obtain ⟨f1, rfl⟩ : ∃ f, fuel = f + 1 := ⟨fuel - 1, by omega⟩
    have e : i = K := by omega
    subst e
    left
    refine ⟨σ, tail, qs, bi, sn, ?_, hb, hc, fun j hj r hr hA => ?_⟩
    · rw [FM_goesTo_53, hb.1.1.1, h6, if_pos (nI_le (Nat.le_refl _) (by omega))]
    · by_cases cj : j = c
      · subst cj; exact h2 r hr hA
      · exact h1 j (by omega) r hr hA
  | succ d ih =>
    intro i fuel σ tail qs bi sn hi hf hb hc h1 h2
    obtain ⟨f1, rfl⟩ : ∃ f, fuel = f + 1 := ⟨fuel - 1, by omega⟩
    have hiK : i < K := by omega
    have hqc := (hb.2.1.2.2.1 c hc).1
    have h10 := BF_10 hb
    have e6 : σ.1 6 = nI K := by rw [hb.1.1.1]; exact h6
    have e41 : σ.2 41 = w := by rw [hb.1.1.2 41 (by decide) (by decide) (by decide) (by decide) (by decide)]; exact hw
    have g30 := inb_nI (show i < 30 by omega) (show 30 < 2 ^ 31 by decide)
    have ci := nI_clamp (show i < 2 ^ 31 by omega)
    rw [FM_goesTo_53, e6, if_neg (nI_ge hiK (by omega)), gd_t (inb_nI hqc (by decide)), e41, nI_clamp (show qs c < 2 ^ 31 by omega), g30, gdt, ci, gdt, gdt, gdt, gdt, nI_1, nI_1]
    by_cases cb : bI (w (qs c)) i = true
    · rw [if_pos ((bI_shr (show i < 30 by omega)).mpr cb), hb.2.2.1.2 i hiK]
      cases hs : sn i with
      | true =>
        rw [if_pos rfl, if_neg (show ¬ (1 : Int32) = 0 by decide)]
        refine ih (i + 1) f1 σ tail qs bi sn (by omega) (by omega) hb hc h1 (fun r hr hA => ?_)
        by_cases cr : r = i
        · subst cr; exact hs
        · exact h2 r (by omega) hA
      | false =>
        rw [if_neg (show ¬ false = true by decide), if_pos rfl, hb.1.2.1 i (by omega)]
        cases ht : t i with
        | none =>
          rw [if_pos (show oI none = -1 from rfl)]
          obtain ⟨z1, z2, z3⟩ := BF_free hb hm hth hp hK hiK hc hs cb ht
          exact Or.inr ⟨i, _, qs, c, rfl, z1, z2, by omega, ht, by omega, z3⟩
        | some q =>
          have hq := (hm.1 i q ht).2.1
          have e : oI (some q) = nI q := rfl
          rw [e, if_neg (fun z => z_m1' (a := q) (by omega) z.symm), gd_t (inb_nI (show tail < 11 by omega) (by decide))]
          have hb' := BF_new hb hth hp hK hiK hc hs cb ht hq
          have hqc' : nu qs tail q c = qs c := nu_n (by omega)
          have := ih (i + 1) f1 _ (tail + 1) (nu qs tail q) (nu bi i c) (fun r => sn r || decide (r = i)) (by omega) (by omega) hb' (by omega) (fun j hj r hr hA => by
            rw [nu_n (by omega)] at hA
            rw [h1 j hj r hr hA, Bool.true_or]) (fun r hr hA => by
            rw [hqc'] at hA
            by_cases cr : r = i
            · simp [cr]
            · rw [h2 r (by omega) hA, Bool.true_or])
          rw [hqc'] at this
          exact this
    · rw [if_neg (fun z => cb ((bI_shr (show i < 30 by omega)).mp z))]
      refine ih (i + 1) f1 σ tail qs bi sn (by omega) (by omega) hb hc h1 (fun r hr hA => ?_)
      by_cases cr : r = i
      · subst cr; exact absurd hA cb
      · exact h2 r (by omega) hA
theorem goes34 {w : Nat → Int32} {K p : Nat} {μ : MS} {t h : Nat → Option Nat} {K116 : Int32 → MS → Option (Int32 × MS)} {x1 : Int32} (hw : μ.2 41 = w) (h6 : μ.1 6 = nI K) (hK : K ≤ 30) (hwK : ∀ q r, q < 10 → r < 30 → mA w q r = true → r < K) (hm : mat (mA w) t) (hth : ∀ r q, t r = some q ↔ h q = some r) (hp : h p = none) :
    ∀ d head fuel σ tail qs bi sn, head + d = 11 → d < fuel → BF (mA w) K μ σ t h p tail qs bi sn → head ≤ tail → (∀ j, j < head → ∀ r, r < K → mA w (qs j) r = true → sn r = true) →
    (∃ σ', FM_goesTo_34 K116 x1 fuel (nI head) (nI tail) σ = some (0, σ') ∧ frM μ σ' ∧ mtM σ' t h ∧ ∃ T U : Nat → Prop, clo (mA w) t T U ∧ U p) ∨
    (∃ r0 σ' qs' c', FM_goesTo_34 K116 x1 fuel (nI head) (nI tail) σ = K116 (nI r0) σ' ∧ frM μ σ' ∧ mtM σ' t h ∧ r0 < 30 ∧ t r0 = none ∧ c' < 10 ∧ PG (mA w) (σ'.2 44) qs' p c' r0 t h) := by
  have hfu := fu_pos
  intro d
  induction d with
  | zero =>
    intro head fuel σ tail qs bi sn hd hf hb hht h1
    have := BF_10 hb
    omega
  | succ d ih =>
    intro head fuel σ tail qs bi sn hd hf hb hht h1
    obtain ⟨f1, rfl⟩ : ∃ f, fuel = f + 1 := ⟨fuel - 1, by omega⟩
    have h10 := BF_10 hb
    by_cases ce : head = tail
    · subst ce
      left
      refine ⟨σ, ?_, hb.1.1, hb.1.2, fun r => sn r = true, fun q => ∃ j, j < head ∧ q = qs j, ⟨fun q r hq hr hU hA => ?_, fun r hr hT => ?_⟩, ⟨0, hb.2.1.2.1, hb.2.1.1.symm⟩⟩
      · rw [FM_goesTo_34, if_pos (nI_le (Nat.le_refl _) (by omega))]
      · obtain ⟨j, j1, rfl⟩ := hU
        exact h1 j j1 r (hwK _ r hq hr hA) hA
      · obtain ⟨-, -, -, j, z4, -, z6⟩ := hb.2.2.2.1 r hT
        exact ⟨qs j, z6, j, z4, rfl⟩
    · have e45 := (hb.2.1.2.2.1 head (by omega)).2
      rw [FM_goesTo_34, if_neg (nI_ge (by omega) (by omega)), gd_t (inb_nI (show head < 11 by omega) (by decide)), nI_clamp (show head < 2 ^ 31 by omega), e45, nI_1]
      rcases goes53 (c := head) (K147 := fun x3_147 σ_147 => FM_goesTo_147 (fun x2_34 x3_34 σ_34 => FM_goesTo_34 K116 x1 f1 x2_34 x3_34 σ_34) x1 (nI (head + 1)) x3_147 σ_147) (K116 := K116) (x1 := x1) (x2 := nI (head + 1)) hw h6 hK hm hth hp K 0 fu σ tail qs bi sn (by omega) (by omega) hb (by omega) h1 (fun r hr => absurd hr (Nat.not_lt_zero r)) with ⟨σ', tail', qs', bi', sn', z1, z2, z3, z4⟩ | ⟨r0, σ', qs', c', z1, z2⟩
      · rw [show nI 0 = (0 : Int32) from rfl] at z1
        rw [z1]
        exact ih (head + 1) f1 σ' tail' qs' bi' sn' (by omega) (by omega) z2 (by omega) (fun j hj => z4 j (by omega))
      · rw [show nI 0 = (0 : Int32) from rfl] at z1
        rw [z1]
        exact Or.inr ⟨r0, σ', qs', c', rfl, z2⟩
theorem goes2 {K : Nat} {μ : MS} {KK : MS → Option (Int32 × MS)} {x1 : Int32} {t h : Nat → Option Nat} (h6 : μ.1 6 = nI K) (hK : K ≤ 30) : ∀ d i fuel σ, i + d = K → d < fuel → frM μ σ → mtM σ t h → (∀ r, r < i → σ.2 46 r = 0) → ∃ σ', FM_goesTo_2 KK x1 fuel (nI i) σ = KK σ' ∧ frM μ σ' ∧ mtM σ' t h ∧ ∀ r, r < K → σ'.2 46 r = 0 := by
  intro d
  induction d with
  | zero =>
    intro i fuel σ hi hf hfr hm hs
    obtain ⟨f1, rfl⟩ : ∃ f, fuel = f + 1 := ⟨fuel - 1, by omega⟩
    have e : i = K := by omega
    subst e
    exact ⟨σ, by rw [FM_goesTo_2, hfr.1, h6, if_pos (nI_le (Nat.le_refl _) (by omega))], hfr, hm, hs⟩
  | succ d ih =>
    intro i fuel σ hi hf hfr hm hs
    obtain ⟨f1, rfl⟩ : ∃ f, fuel = f + 1 := ⟨fuel - 1, by omega⟩
    obtain ⟨σ', z1, z2⟩ := ih (i + 1) f1 (sa σ 46 (nI i) 0) (by omega) (by omega) (hfr.sa (by omega) _ _) ⟨fun r hr => by rw [s2_sa_n (by decide)]; exact hm.1 r hr, fun q hq => by rw [s2_sa_n (by decide)]; exact hm.2 q hq⟩ (fun r hr => by
      rw [s2_sa_s, nI_clamp (by omega)]
      by_cases c : r = i
      · subst c; rw [upd_s]
      · rw [upd_n c]; exact hs r (by omega))
    refine ⟨σ', ?_, z2⟩
    rw [FM_goesTo_2, hfr.1, h6, if_neg (nI_ge (by omega) (by omega)), gd_t (inb_nI (show i < 30 by omega) (by decide)), nI_1]
    exact z1
theorem PO_aug {A : Nat → Nat → Bool} {p r : Nat} {t h t' h' : Nat → Option Nat} (hth : ∀ r q, t r = some q ↔ h q = some r) (hr : r < 30) (ht : t r = none) (hO : PO A p r t h t' h') : aug A t t' p := by
  obtain ⟨o1, o2, o3, o4, o5, ⟨o6, o7⟩, o8⟩ := hO
  refine ⟨⟨o2, fun a b q za zb => ?_⟩, fun q ⟨a, za⟩ => ?_, ?_, fun a q za => ?_, ⟨r, hr, ht, o6, o7⟩, fun T U hc => o8 T U hc (fun z => ?_)⟩
  · have e1 := (o1 a q).mp za
    have e2 := (o1 b q).mp zb
    rw [e1] at e2
    exact Option.some.inj e2
  · have e := o3 q (by rw [(hth a q).mp za]; exact fun z => by cases z)
    obtain ⟨b, hb⟩ := Option.ne_none_iff_exists'.mp e
    exact ⟨b, (o1 b q).mpr hb⟩
  · obtain ⟨b, hb⟩ := Option.ne_none_iff_exists'.mp o4
    exact ⟨b, (o1 b p).mpr hb⟩
  · rcases o5 q (by rw [(o1 a q).mp za]; exact fun z => by cases z) with z | z
    · exact Or.inl z
    · obtain ⟨b, hb⟩ := Option.ne_none_iff_exists'.mp z
      exact Or.inr ⟨b, (hth b q).mpr hb⟩
  · obtain ⟨q, z1, -⟩ := hc.2 r hr z
    rw [ht] at z1
    cases z1
theorem goes_e {w : Nat → Int32} {K p : Nat} {μ σ : MS} {t h : Nat → Option Nat} (hw : μ.2 41 = w) (h6 : μ.1 6 = nI K) (hK : K ≤ 30) (hwK : ∀ q r, q < 10 → r < 30 → mA w q r = true → r < K) (hm : mat (mA w) t) (hth : ∀ r q, t r = some q ↔ h q = some r) (hp10 : p < 10) (hp : h p = none) (hfr : frM μ σ) (hmt : mtM σ t h) :
    (∃ σ', FM_goesTo σ (nI p) = some (0, σ') ∧ frM μ σ' ∧ mtM σ' t h ∧ ∃ T U : Nat → Prop, clo (mA w) t T U ∧ U p) ∨
    (∃ σ' t' h', FM_goesTo σ (nI p) = some (1, σ') ∧ frM μ σ' ∧ mtM σ' t' h' ∧ (∀ r q, t' r = some q ↔ h' q = some r) ∧ aug (mA w) t t' p) := by
  have hfu := fu_pos
  obtain ⟨σ1, y1, y2, y3, y4⟩ := goes2 (KK := fun σ_23 => FM_goesTo_23 (nI p) σ_23) (x1 := nI p) h6 hK K 0 fu σ (by omega) (by omega) hfr hmt (fun r hr => absurd hr (Nat.not_lt_zero r))
  have e0 : FM_goesTo σ (nI p) = FM_goesTo_34 (fun x5_116 σ_116 => FM_goesTo_116 (nI p) x5_116 σ_116) (nI p) fu (nI 0) (nI 1) (sa σ1 45 (nI 0) (nI p)) := by
    unfold FM_goesTo
    refine Eq.trans y1 ?_
    unfold FM_goesTo_23
    rw [gd_t (by decide)]
    rfl
  rw [e0]
  have hBF : BF (mA w) K μ (sa σ1 45 (nI 0) (nI p)) t h p 1 (fun _ => p) (fun _ => 0) (fun _ => false) := by
    refine ⟨⟨y2.sa (by omega) _ _, ⟨fun r hr => by rw [s2_sa_n (by decide)]; exact y3.1 r hr, fun q hq => by rw [s2_sa_n (by decide)]; exact y3.2 q hq⟩⟩, ⟨rfl, Nat.le_refl _, fun j hj => ⟨hp10, ?_⟩, fun a b ha hb _ => (by omega)⟩, ⟨fun r hr => (by cases hr), fun r hr => ?_⟩, fun r hr => (by cases hr), fun j hj hj2 => (by omega)⟩
    · rw [s2_sa_s, nI_clamp (by omega), show j = 0 by omega, upd_s]
    · rw [s2_sa_n (by decide), y4 r hr]
      rfl
  rcases goes34 (K116 := fun x5_116 σ_116 => FM_goesTo_116 (nI p) x5_116 σ_116) (x1 := nI p) hw h6 hK hwK hm hth hp 11 0 fu _ 1 _ _ _ (by omega) (by omega) hBF (by omega) (fun j hj => absurd hj (Nat.not_lt_zero j)) with z | ⟨r0, σ2, qs, c, z1, z2, z3, z4, z5, z6, z7⟩
  · exact Or.inl z
  · obtain ⟨σ', t', h', x1, x2, x3, x4⟩ := gives5 (A := mA w) (qs := qs) (μ := μ) (by_ := σ2.2 44) hp10 c c fu r0 σ2 t h (Nat.le_refl _) (by omega) z2 rfl z3 z7
    refine Or.inr ⟨σ', t', h', ?_, x2, x3, x4.1, PO_aug hth z4 z5 x4⟩
    rw [z1]
    unfold FM_goesTo_116 FM_gives
    rw [x1, sb]
theorem mo2 {μ : MS} {KK : MS → Option (Int32 × MS)} : ∀ d i fuel σ, i + d = 30 → d < fuel → frM μ σ → (∀ r, r < i → σ.2 42 r = -1) → ∃ σ', FM_most_2 KK fuel (nI i) σ = KK σ' ∧ frM μ σ' ∧ ∀ r, r < 30 → σ'.2 42 r = -1 := by
  intro d
  induction d with
  | zero =>
    intro i fuel σ hi hf hfr hs
    obtain ⟨f1, rfl⟩ : ∃ f, fuel = f + 1 := ⟨fuel - 1, by omega⟩
    have e : i = 30 := by omega
    subst e
    exact ⟨σ, by rw [FM_most_2, if_pos (show (30 : Int32) ≤ nI 30 by decide)], hfr, hs⟩
  | succ d ih =>
    intro i fuel σ hi hf hfr hs
    obtain ⟨f1, rfl⟩ : ∃ f, fuel = f + 1 := ⟨fuel - 1, by omega⟩
    obtain ⟨σ', z1, z2⟩ := ih (i + 1) f1 (sa σ 42 (nI i) (-1)) (by omega) (by omega) (hfr.sa (by omega) _ _) (fun r hr => by
      rw [s2_sa_s, nI_clamp (by omega)]
      by_cases c : r = i
      · subst c; rw [upd_s]
      · rw [upd_n c]; exact hs r (by omega))
    refine ⟨σ', ?_, z2⟩
    rw [FM_most_2, if_neg (show ¬ (30 : Int32) ≤ nI i from nI_ge (b := 30) (by omega) (by decide)), gd_t (inb_nI (show i < 30 by omega) (by decide)), nI_1]
    exact z1
theorem mo25 {μ : MS} {KK : MS → Option (Int32 × MS)} {x1 : Int32} : ∀ d i fuel σ, i + d = 10 → d < fuel → frM μ σ → (∀ r, r < 30 → σ.2 42 r = -1) → (∀ r, r < i → σ.2 47 r = -1) → ∃ σ', FM_most_25 KK x1 fuel (nI i) σ = KK σ' ∧ frM μ σ' ∧ (∀ r, r < 30 → σ'.2 42 r = -1) ∧ ∀ r, r < 10 → σ'.2 47 r = -1 := by
  intro d
  induction d with
  | zero =>
    intro i fuel σ hi hf hfr h42 hs
    obtain ⟨f1, rfl⟩ : ∃ f, fuel = f + 1 := ⟨fuel - 1, by omega⟩
    have e : i = 10 := by omega
    subst e
    exact ⟨σ, by rw [FM_most_25, if_pos (show (10 : Int32) ≤ nI 10 by decide)], hfr, h42, hs⟩
  | succ d ih =>
    intro i fuel σ hi hf hfr h42 hs
    obtain ⟨f1, rfl⟩ : ∃ f, fuel = f + 1 := ⟨fuel - 1, by omega⟩
    obtain ⟨σ', z1, z2⟩ := ih (i + 1) f1 (sa σ 47 (nI i) (-1)) (by omega) (by omega) (hfr.sa (by omega) _ _) (fun r hr => by rw [s2_sa_n (by decide)]; exact h42 r hr) (fun r hr => by
      rw [s2_sa_s, nI_clamp (by omega)]
      by_cases c : r = i
      · subst c; rw [upd_s]
      · rw [upd_n c]; exact hs r (by omega))
    refine ⟨σ', ?_, z2⟩
    rw [FM_most_25, if_neg (show ¬ (10 : Int32) ≤ nI i from nI_ge (b := 10) (by omega) (by decide)), gd_t (inb_nI (show i < 10 by omega) (by decide)), nI_1]
    exact z1
theorem mo46 {w : Nat → Int32} {K : Nat} {μ : MS} (hw : μ.2 41 = w) (h6 : μ.1 6 = nI K) (hK : K ≤ 30) (hwK : ∀ q r, q < 10 → r < 30 → mA w q r = true → r < K) : ∀ d k fuel σ t h n, k + d = 10 → d < fuel → INV (mA w) t k n → (∀ r q, t r = some q ↔ h q = some r) → frM μ σ → mtM σ t h → ∃ m σ', FM_most_46 fuel (nI n) (nI k) σ = some (nI m, σ') ∧ frM μ σ' ∧ MaxM (mA w) m := by
  intro d
  induction d with
  | zero =>
    intro k fuel σ t h n hk hf hI hth hfr hmt
    obtain ⟨f1, rfl⟩ : ∃ f, fuel = f + 1 := ⟨fuel - 1, by omega⟩
    have e : k = 10 := by omega
    subst e
    exact ⟨n, σ, by rw [FM_most_46, if_pos (show (10 : Int32) ≤ nI 10 by decide)], hfr, INV_e hI⟩
  | succ d ih =>
    intro k fuel σ t h n hk hf hI hth hfr hmt
    obtain ⟨f1, rfl⟩ : ∃ f, fuel = f + 1 := ⟨fuel - 1, by omega⟩
    have e41 : σ.2 41 = w := by rw [hfr.2 41 (by decide) (by decide) (by decide) (by decide) (by decide)]; exact hw
    rw [FM_most_46, if_neg (show ¬ (10 : Int32) ≤ nI k from nI_ge (b := 10) (by omega) (by decide)), gd_t (inb_nI (show k < 10 by omega) (by decide)), e41, nI_clamp (show k < 2 ^ 31 by omega)]
    have a0 : ∀ x : Int32, x + 0 = x := fun x => i_a0 x
    by_cases c0 : w k = 0
    · rw [if_pos c0]
      unfold FM_most_75
      rw [a0, nI_1]
      refine ih (k + 1) f1 σ t h n (by omega) (by omega) (INV_f (T' := fun _ => False) (U' := fun q => q = k) hI ⟨fun q r hq hr hU hA => ?_, fun r hr z => z.elim⟩ rfl) hth hfr hmt
      subst hU
      unfold mA at hA
      rw [c0, bI_0] at hA
      cases hA
    · rw [if_neg c0]
      have hhk : h k = none := by
        cases hh : h k with
        | none => rfl
        | some r =>
          have := hI.2.2.1 r k ((hth r k).mpr hh)
          omega
      rcases goes_e hw h6 hK hwK hI.1 hth (show k < 10 by omega) hhk hfr hmt with ⟨σ', z1, z2, z3, T, U, z4, z5⟩ | ⟨σ', t', h', z1, z2, z3, z4, z5⟩
      · rw [z1, sb, if_pos rfl]
        unfold FM_most_75
        rw [a0, nI_1]
        exact ih (k + 1) f1 σ' t h n (by omega) (by omega) (INV_f hI z4 z5) hth z2 z3
      · rw [z1, sb, if_neg (show ¬ (1 : Int32) = 0 by decide)]
        unfold FM_most_75
        rw [nI_1, nI_1]
        exact ih (k + 1) f1 σ' t' h' (n + 1) (by omega) (by omega) (INV_s hI z5) z4 z2 z3
theorem most_e {w : Nat → Int32} {K : Nat} {μ : MS} (hw : μ.2 41 = w) (h6 : μ.1 6 = nI K) (hK : K ≤ 30) (hwK : ∀ q r, q < 10 → r < 30 → mA w q r = true → r < K) : ∃ m σ', FM_most μ = some (nI m, σ') ∧ frM μ σ' ∧ MaxM (mA w) m := by
  have hfu := fu_pos
  obtain ⟨σ1, a1, a2, a3⟩ := mo2 (KK := fun σ_21 => FM_most_21 σ_21) 30 0 fu μ (by omega) (by omega) (frM.rf μ) (fun r hr => absurd hr (Nat.not_lt_zero r))
  obtain ⟨σ2, b1, b2, b3, b4⟩ := mo25 (KK := fun σ_44 => FM_most_44 (0 : Int32) σ_44) (x1 := (0 : Int32)) 10 0 fu σ1 (by omega) (by omega) a2 a3 (fun r hr => absurd hr (Nat.not_lt_zero r))
  obtain ⟨m, σ', c1, c2, c3⟩ := mo46 hw h6 hK hwK 10 0 fu σ2 (fun _ => none) (fun _ => none) 0 (by omega) (by omega) (INV_0 (fun q r hq _ => absurd hq (Nat.not_lt_zero q))) (fun r q => ⟨fun z => (by cases z), fun z => (by cases z)⟩) b2 ⟨b3, b4⟩
  exact ⟨m, σ', by
    unfold FM_most
    refine Eq.trans a1 ?_
    show FM_most_21 σ1 = _
    unfold FM_most_21
    refine Eq.trans b1 ?_
    show FM_most_44 0 σ2 = _
    unfold FM_most_44
    exact c1, c2, c3⟩
