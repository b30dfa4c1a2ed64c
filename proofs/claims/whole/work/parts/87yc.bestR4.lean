def wy (t tS : Bool) : Nat := (if t = true then 1 else 0) + 2 * (if tS = true then 1 else 0)
theorem wy_e (t tS : Bool) : wy t tS < 4 ∧ wayT (wy t tS) = t ∧ wayS (wy t tS) = tS := by cases t <;> cases tS <;> decide
theorem missWay_e {m : Nat → Nat} (hm : ∀ w, w < 4 → m w ≤ 30) (t tS : Bool) : FR_X7_missWay (nI (pkN m)) (if t = true then 1 else 0) (if tS = true then 1 else 0) = some (nI (m (wy t tS))) := by
  obtain ⟨h1, h2, h3, h4⟩ := pkn_lt hm
  have hw := (wy_e t tS).1
  have e1 : (6 : Int32) * ((if t = true then 1 else 0) + (2 : Int32) * (if tS = true then 1 else 0)) = nI (6 * wy t tS) := by cases t <;> cases tS <;> decide
  unfold FR_X7_missWay
  rw [e1, nI_shr (by omega) (by omega), nI_and63, h4 _ hw]
theorem keyOf_e {σ : RS} {pp a c : Nat} {m : Nat → Nat} {ow : Bool} (hp : pp < 5) (hm : ∀ w, w < 4 → m w ≤ 30) (h3 : rA σ 703 pp = nI (pkN m)) (h4 : rA σ 704 (pp + 1) = nI a) (h5 : rA σ 705 (pp + 1) = nI c) (h6 : rI σ 706 = if ow = true then 1 else 0) (ha : a ≤ 1000000) (hc : c ≤ 1000000) (tS : Bool) : FR_X7_keyOf σ (nI (pp + 1)) (if tS = true then 1 else 0) = some (nI (mn2 ow tS (fun t => 512 * m (wy t tS) + (if t = true then c else a)))) := by
  have hf := missWay_e hm false tS
  have ht := missWay_e hm true tS
  have bf := hm _ (wy_e false tS).1
  have bt := hm _ (wy_e true tS).1
  rw [if_neg (show ¬ false = true by decide)] at hf
  rw [if_pos (show true = true from rfl)] at ht
  unfold FR_X7_keyOf
  rw [show nI (pp + 1) - (1 : Int32) = nI pp from nI_pred pp, gd_t (inb_nI hp (by decide)), nI_clamp (show pp < 2 ^ 31 by omega), h3, hf, sb, gd_t (inb_nI (show pp + 1 < 6 by omega) (by decide)), ht, sb, gd_t (inb_nI (show pp + 1 < 6 by omega) (by decide)), nI_clamp (show pp + 1 < 2 ^ 31 by omega), h4, h5, h6, show (512 : Int32) * nI (m (wy true tS)) = nI (512 * m (wy true tS)) from pk_mul 512 _, show (512 : Int32) * nI (m (wy false tS)) = nI (512 * m (wy false tS)) from pk_mul 512 _, nI_add, nI_add]
  unfold mn2
  cases ow with
  | true =>
    rw [if_pos (show true = true from rfl), if_neg (show ¬ (1 : Int32) = 0 by decide), if_pos (show true = true from rfl)]
    cases tS with
    | false => rfl
    | true =>
      rw [if_pos (show true = true from rfl), if_neg (show ¬ (1 : Int32) = 0 by decide)]
      rfl
  | false =>
    rw [if_neg (show ¬ false = true by decide), if_pos rfl, if_neg (show ¬ false = true by decide)]
    show some (if nI (512 * m (wy true tS) + c) < nI (512 * m (wy false tS) + a) then nI (512 * m (wy true tS) + c) else nI (512 * m (wy false tS) + a)) = some (nI (min (512 * m (wy false tS) + a) (512 * m (wy true tS) + c)))
    by_cases cc : 512 * m (wy true tS) + c < 512 * m (wy false tS) + a
    · rw [if_pos (nI_lt cc (by omega)), show min (512 * m (wy false tS) + a) (512 * m (wy true tS) + c) = 512 * m (wy true tS) + c by omega]
    · rw [if_neg (nI_nlt (by omega) (by omega)), show min (512 * m (wy false tS) + a) (512 * m (wy true tS) + c) = 512 * m (wy false tS) + a by omega]
theorem mn2_b {ow tS : Bool} {g : Bool → Nat} {B : Nat} (h : ∀ t, g t ≤ B) : mn2 ow tS g ≤ B := Nat.le_trans (mn2_le g (fun _ => rfl)) (h tS)
def kk1 (ow : Bool) (M : Nat → Bool → Bool → Nat) (a c : Nat → Nat) (pp : Nat) (tS : Bool) : Nat := mn2 ow tS (fun t => 512 * M pp t tS + (if t = true then c (pp + 1) else a (pp + 1)))
theorem lk_step {σ : RS} {pp B f : Nat} {m : Nat → Nat → Nat} {M : Nat → Bool → Bool → Nat} {ow : Bool} {a c : Nat → Nat} {A C : Nat → Int32} {K : RS → Option (Int32 × RS)} (hp : pp < 5) (hm : ∀ k w, k < 5 → w < 4 → m k w ≤ 30) (hM : ∀ k t tS, k < 5 → M k t tS = m k (wy t tS)) (h3 : ∀ k, k < 5 → rA σ 703 k = nI (pkN (m k))) (h6 : rI σ 706 = if ow = true then 1 else 0) (hA : ∀ q, q < 6 → A q = nI (a q) ∧ C q = nI (c q) ∧ a q ≤ B ∧ c q ≤ B) (hB : B ≤ 300000) : ∃ A' C', FR_X7_leastKey_35 K (f + 1) (nI (pp + 1)) (rc (rc σ 704 A) 705 C) = FR_X7_leastKey_35 K f (nI pp) (rc (rc σ 704 A') 705 C') ∧ ∀ q, q < 6 → A' q = nI (nu a (sqN pp) (a (sqN pp) + kk1 ow M a c pp false) q) ∧ C' q = nI (nu c (sqN pp) (c (sqN pp) + kk1 ow M a c pp true) q) ∧ nu a (sqN pp) (a (sqN pp) + kk1 ow M a c pp false) q ≤ 2 * B + 15360 ∧ nu c (sqN pp) (c (sqN pp) + kk1 ow M a c pp true) q ≤ 2 * B + 15360 := by
  have hq := sq_lt hp
  have e703 : ∀ A C, rA (rc (rc σ 704 A) 705 C) 703 pp = nI (pkN (m pp)) := fun A C => by
    rw [rA_rc, if_neg (by decide), rA_rc, if_neg (by decide)]
    exact h3 pp hp
  have e704 : ∀ A C, rA (rc (rc σ 704 A) 705 C) 704 = A := fun A C => by rw [rA_rc, if_neg (by decide), rA_rc, if_pos rfl]
  have e705 : ∀ A C, rA (rc (rc σ 704 A) 705 C) 705 = C := fun A C => by rw [rA_rc, if_pos rfl]
  have e706 : ∀ A C, rI (rc (rc σ 704 A) 705 C) 706 = if ow = true then 1 else 0 := fun A C => h6
  obtain ⟨p1, p2, p3, p4⟩ := hA (pp + 1) (by omega)
  obtain ⟨s1, s2, s3, s4⟩ := hA (sqN pp) hq.2
  have hkb : ∀ tS, kk1 ow M a c pp tS ≤ B + 15360 := fun tS => mn2_b (fun t => by
    have := hm pp (wy t tS) hp (wy_e t tS).1
    rw [hM pp t tS hp]
    split <;> omega)
  have ek : ∀ A2, A2 (pp + 1) = nI (a (pp + 1)) → ∀ tS, FR_X7_keyOf (rc (rc σ 704 A2) 705 C) (nI (pp + 1)) (if tS = true then 1 else 0) = some (nI (kk1 ow M a c pp tS)) := fun A2 hA2 tS => by
    rw [keyOf_e (m := m pp) (a := a (pp + 1)) (c := c (pp + 1)) (ow := ow) hp (fun w hw => hm pp w hp hw) (e703 A2 C) (by rw [e704]; exact hA2) (by rw [e705]; exact p2) (e706 A2 C) (by omega) (by omega) tS]
    have e9 : (fun t => 512 * m pp (wy t tS) + (if t = true then c (pp + 1) else a (pp + 1))) = (fun t => 512 * M pp t tS + (if t = true then c (pp + 1) else a (pp + 1))) := by
      funext t
      rw [hM pp t tS hp]
    unfold kk1
    rw [e9]
  have k0 := ek A p1 false
  have k1 := ek (upd A (sqN pp) (nI (a (sqN pp) + kk1 ow M a c pp false))) (by rw [upd_n (by omega)]; exact p1) true
  rw [if_neg (show ¬ false = true by decide)] at k0
  rw [if_pos (show true = true from rfl)] at k1
  have st4 : ∀ v, ra (rc (rc σ 704 A) 705 C) 704 (nI (sqN pp)) v = rc (rc σ 704 (upd A (sqN pp) v)) 705 C := fun v => by
    rw [ra_rc, e704, nI_clamp (by omega), rc_cm (rc σ 704 A) (show 705 ≠ 704 by decide), rc_rc]
  have st5 : ∀ A2 v, ra (rc (rc σ 704 A2) 705 C) 705 (nI (sqN pp)) v = rc (rc σ 704 A2) 705 (upd C (sqN pp) v) := fun A2 v => by
    rw [ra_rc, e705, nI_clamp (by omega), rc_rc]
  have n1 : ¬ nI (pp + 1) ≤ (0 : Int32) := nI_ge (a := 0) (by omega) (by omega)
  refine ⟨upd A (sqN pp) (nI (a (sqN pp) + kk1 ow M a c pp false)), upd C (sqN pp) (nI (c (sqN pp) + kk1 ow M a c pp true)), ?_, fun q hq6 => ?_⟩
  · rw [FR_X7_leastKey_35, if_neg n1, show nI (pp + 1) - (1 : Int32) = nI pp from nI_pred pp, gd_t (inb_nI hp (by decide)), nI_clamp (show pp < 2 ^ 31 by omega), tbW_e hp, gd_t (inb_nI hq.2 (by decide)), k0, sb, gd_t (inb_nI hq.2 (by decide)), gd_t (inb_nI hq.2 (by decide)), nI_clamp (show sqN pp < 2 ^ 31 by omega), e704, s1, nI_add, st4, k1, sb, gd_t (inb_nI hq.2 (by decide)), e705, s2, nI_add, st5, nI_dec (by omega), Nat.add_sub_cancel]
  · obtain ⟨q1, q2, q3, q4⟩ := hA q hq6
    have b0 := hkb false
    have b1 := hkb true
    by_cases cq : q = sqN pp
    · subst cq
      rw [upd_s, upd_s, nu_s, nu_s]
      exact ⟨rfl, rfl, by omega, by omega⟩
    · rw [upd_n cq, upd_n cq, nu_n cq, nu_n cq]
      exact ⟨q1, q2, by omega, by omega⟩
theorem lk_init {σ : RS} {K : RS → Option (Int32 × RS)} : ∀ d i fuel A C, i + d = 6 → d < fuel → (∀ q, q < i → A q = 0 ∧ C q = nI (64 + 2 ^ q)) → ∃ A' C', FR_X7_leastKey_2 K fuel (nI i) (rc (rc σ 704 A) 705 C) = K (rc (rc σ 704 A') 705 C') ∧ ∀ q, q < 6 → A' q = 0 ∧ C' q = nI (64 + 2 ^ q) := by
  intro d
  induction d with
  | zero =>
    intro i fuel A C hi hf h
    obtain ⟨f1, rfl⟩ : ∃ f, fuel = f + 1 := ⟨fuel - 1, by omega⟩
    have e : i = 6 := by omega
    subst e
    exact ⟨A, C, by rw [FR_X7_leastKey_2, if_pos (show (6 : Int32) ≤ nI 6 by decide)], h⟩
  | succ d ih =>
    intro i fuel A C hi hf h
    obtain ⟨f1, rfl⟩ : ∃ f, fuel = f + 1 := ⟨fuel - 1, by omega⟩
    have e1 : (64 : Int32) + ((1 : Int32) <<< (nI i &&& 31)) = nI (64 + 2 ^ i) := by
      rcases (show i = 0 ∨ i = 1 ∨ i = 2 ∨ i = 3 ∨ i = 4 ∨ i = 5 by omega) with rfl | rfl | rfl | rfl | rfl | rfl <;> decide
    have est : ∀ v w, ra (ra (rc (rc σ 704 A) 705 C) 704 (nI i) v) 705 (nI i) w = rc (rc σ 704 (upd A i v)) 705 (upd C i w) := fun v w => by
      have q4 : rA (rc (rc σ 704 A) 705 C) 704 = A := by rw [rA_rc, if_neg (by decide), rA_rc, if_pos rfl]
      have q5 : rA (rc (rc σ 704 (upd A i v)) 705 C) 705 = C := by rw [rA_rc, if_pos rfl]
      have s1 : ra (rc (rc σ 704 A) 705 C) 704 (nI i) v = rc (rc σ 704 (upd A i v)) 705 C := by rw [ra_rc, q4, nI_clamp (by omega), rc_cm (rc σ 704 A) (show 705 ≠ 704 by decide), rc_rc]
      rw [s1, ra_rc, q5, nI_clamp (by omega), rc_rc]
    obtain ⟨A', C', z1, z2⟩ := ih (i + 1) f1 (upd A i 0) (upd C i (nI (64 + 2 ^ i))) (by omega) (by omega) (fun q hq => by
      by_cases c : q = i
      · subst c; rw [upd_s, upd_s]; exact ⟨rfl, rfl⟩
      · rw [upd_n c, upd_n c]; exact h q (by omega))
    refine ⟨A', C', ?_, z2⟩
    rw [FR_X7_leastKey_2, if_neg (show ¬ (6 : Int32) ≤ nI i from nI_ge (b := 6) (by omega) (by decide)), gd_t (inb_nI (show i < 6 by omega) (by decide)), gd_t (inb_nI (show i < 6 by omega) (by decide)), e1, est, nI_1]
    exact z1
theorem kk_G (ow : Bool) (M : Nat → Bool → Bool → Nat) (a1 c1 a2 c2 a3 c3 a4 c4 : Nat → Nat) (h1 : a1 = nu (fun _ => 0) 4 (0 + kk1 ow M (fun _ => 0) (fun q => 64 + 2 ^ q) 4 false)) (g1 : c1 = nu (fun q => 64 + 2 ^ q) 4 (64 + 2 ^ 4 + kk1 ow M (fun _ => 0) (fun q => 64 + 2 ^ q) 4 true)) (h2 : a2 = nu a1 0 (a1 0 + kk1 ow M a1 c1 3 false)) (g2 : c2 = nu c1 0 (c1 0 + kk1 ow M a1 c1 3 true)) (h3 : a3 = nu a2 1 (a2 1 + kk1 ow M a2 c2 2 false)) (g3 : c3 = nu c2 1 (c2 1 + kk1 ow M a2 c2 2 true)) (h4 : a4 = nu a3 0 (a3 0 + kk1 ow M a3 c3 1 false)) (g4 : c4 = nu c3 0 (c3 0 + kk1 ow M a3 c3 1 true)) : a4 0 + kk1 ow M a4 c4 0 false = kG ow M false ∧ c4 0 + kk1 ow M a4 c4 0 true = kG ow M true := by
  have e5 : ∀ tS, kk1 ow M (fun _ => 0) (fun q => 64 + 2 ^ q) 4 tS = kF5 ow M tS := fun tS => rfl
  have e4 : ∀ tS, kk1 ow M a1 c1 3 tS = kF4 ow M tS := fun tS => by
    unfold kk1 kF4
    congr 1
    funext t
    rw [h1, g1, nu_s, nu_s, e5, e5]
    cases t <;> simp [cP]
  have e3 : ∀ tS, kk1 ow M a2 c2 2 tS = kF3 ow M tS := fun tS => by
    unfold kk1 kF3
    congr 1
    funext t
    rw [h2, g2, nu_n (by decide), nu_n (by decide), h1, g1, nu_n (by decide), nu_n (by decide)]
    cases t <;> simp [cP]
  have e2 : ∀ tS, kk1 ow M a3 c3 1 tS = kF2 ow M tS := fun tS => by
    unfold kk1 kF2
    congr 1
    funext t
    rw [h3, g3, nu_n (by decide), nu_n (by decide), h2, g2, nu_n (by decide), nu_n (by decide), h1, g1, nu_n (by decide), nu_n (by decide)]
    cases t <;> simp [cP]
  have e1 : ∀ tS, kk1 ow M a4 c4 0 tS = kF1 ow M tS := fun tS => by
    unfold kk1 kF1
    congr 1
    funext t
    rw [h4, g4, nu_n (by decide), nu_n (by decide), h3, g3, nu_s, nu_s, e3, e3, h2, g2, nu_n (by decide), nu_n (by decide), h1, g1, nu_n (by decide), nu_n (by decide)]
    cases t <;> simp [cP]
  rw [e1, e1, h4, g4, nu_s, nu_s, e2, e2, h3, g3, nu_n (by decide), nu_n (by decide), h2, g2, nu_s, nu_s, e4, e4, h1, g1, nu_n (by decide), nu_n (by decide)]
  unfold kG
  exact ⟨rfl, rfl⟩
theorem leastKey_e {σ : RS} {m : Nat → Nat → Nat} {M : Nat → Bool → Bool → Nat} {ow : Bool} (hm : ∀ k w, k < 5 → w < 4 → m k w ≤ 30) (hM : ∀ k t tS, k < 5 → M k t tS = m k (wy t tS)) (h3 : ∀ k, k < 5 → rA σ 703 k = nI (pkN (m k))) (h6 : rI σ 706 = if ow = true then 1 else 0) : ∃ A C, FR_X7_leastKey σ = some (nI (KEY ow M), rc (rc σ 704 A) 705 C) := by
  obtain ⟨g, hg⟩ : ∃ g, fu = g + 6 := ⟨fu - 6, by have := fu_pos; omega⟩
  obtain ⟨A0, C0, i1, i2⟩ := lk_init (σ := σ) (K := fun σ_33 => FR_X7_leastKey_33 σ_33) 6 0 fu (rA σ 704) (rA σ 705) (by omega) (by have := fu_pos; omega) (fun q hq => absurd hq (Nat.not_lt_zero q))
  have es : rc (rc σ 704 (rA σ 704)) 705 (rA σ 705) = σ := by rw [rc_self, rc_self]
  rw [es, show nI 0 = (0 : Int32) from rfl] at i1
  obtain ⟨A1, C1, a1, b1⟩ := lk_step (pp := 4) (B := 100) (f := g + 5) (a := fun _ => 0) (c := fun q => 64 + 2 ^ q) (K := fun σ_83 => FR_X7_leastKey_83 σ_83) (by decide) hm hM h3 h6 (fun q hq => ⟨(i2 q hq).1, (i2 q hq).2, Nat.zero_le _, by
    show 64 + 2 ^ q ≤ 100
    have := Nat.pow_le_pow_right (show 0 < 2 by decide) (show q ≤ 5 by omega)
    omega⟩) (by decide)
  obtain ⟨A2, C2, a2, b2⟩ := lk_step (pp := 3) (f := g + 4) (K := fun σ_83 => FR_X7_leastKey_83 σ_83) (by decide) hm hM h3 h6 b1 (by decide)
  obtain ⟨A3, C3, a3, b3⟩ := lk_step (pp := 2) (f := g + 3) (K := fun σ_83 => FR_X7_leastKey_83 σ_83) (by decide) hm hM h3 h6 b2 (by decide)
  obtain ⟨A4, C4, a4, b4⟩ := lk_step (pp := 1) (f := g + 2) (K := fun σ_83 => FR_X7_leastKey_83 σ_83) (by decide) hm hM h3 h6 b3 (by decide)
  obtain ⟨A5, C5, a5, b5⟩ := lk_step (pp := 0) (f := g + 1) (K := fun σ_83 => FR_X7_leastKey_83 σ_83) (by decide) hm hM h3 h6 b4 (by decide)
  obtain ⟨k1, k2⟩ := kk_G ow M _ _ _ _ _ _ _ _ rfl rfl rfl rfl rfl rfl rfl rfl
  obtain ⟨c1, c2, c3, c4⟩ := b5 0 (by decide)
  rw [show sqN 0 = 0 from rfl, nu_s] at c1 c2 c3 c4
  have c1' : A5 0 = nI (kG ow M false) := c1.trans (congrArg nI k1)
  have c2' : C5 0 = nI (kG ow M true) := c2.trans (congrArg nI k2)
  have l1 : kG ow M false ≤ 1000000 := by rw [← k1]; exact Nat.le_trans c3 (by decide)
  have l2 : kG ow M true ≤ 1000000 := by rw [← k2]; exact Nat.le_trans c4 (by decide)
  refine ⟨A5, C5, ?_⟩
  unfold FR_X7_leastKey
  rw [i1]
  unfold FR_X7_leastKey_33
  rw [hg, show (5 : Int32) = nI (4 + 1) from rfl]
  refine Eq.trans a1 (Eq.trans a2 (Eq.trans a3 (Eq.trans a4 (Eq.trans a5 ?_))))
  rw [FR_X7_leastKey_35, if_pos (show nI 0 ≤ (0 : Int32) by decide)]
  unfold FR_X7_leastKey_83
  have z0 : (0 : Int32).toNatClampNeg = 0 := by decide
  have q4 : rA (rc (rc σ 704 A5) 705 C5) 704 0 = nI (kG ow M false) := by rw [rA_rc, if_neg (by decide), rA_rc, if_pos rfl]; exact c1'
  have q5 : rA (rc (rc σ 704 A5) 705 C5) 705 0 = nI (kG ow M true) := by rw [rA_rc, if_pos rfl]; exact c2'
  rw [gd_t (by decide), gd_t (by decide), z0, q4, q5]
  unfold KEY
  by_cases cc : kG ow M true < kG ow M false
  · rw [if_pos (nI_lt cc (by omega)), show min (kG ow M false) (kG ow M true) = kG ow M true by omega]
  · rw [if_neg (nI_nlt (by omega) (by omega)), show min (kG ow M false) (kG ow M true) = kG ow M false by omega]
