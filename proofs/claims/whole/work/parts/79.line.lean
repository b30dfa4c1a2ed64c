/-! a robe lined: rows go from a bolt's front -/
theorem line80 {μ : MS} {i t n1 : Nat} (hi : i < 30) (ht : t < 40) (hn : n1 ≤ 120) {K : MS → Option (Int32 × MS)} : ∀ d k fuel, k + d = n1 → d < fuel →
    FM_line_80 K (nI i) (nI t) (nI n1) fuel (nI k) (mc μ 18 (hyb (120 * i) k (fun j => μ.2 5 (120 * t + j)) (μ.2 18))) = K (mc μ 18 (hyb (120 * i) n1 (fun j => μ.2 5 (120 * t + j)) (μ.2 18))) := by
  intro d
  induction d with
  | zero =>
    intro k fuel hk hf
    obtain ⟨f1, rfl⟩ : ∃ f, fuel = f + 1 := ⟨fuel - 1, by omega⟩
    have e : k = n1 := by omega
    subst e
    rw [FM_line_80, if_pos (nI_le (Nat.le_refl _) (by omega))]
  | succ d ih =>
    intro k fuel hk hf
    obtain ⟨f1, rfl⟩ : ∃ f, fuel = f + 1 := ⟨fuel - 1, by omega⟩
    have z1 : ¬ nI n1 ≤ nI k := nI_ge (by omega) (by omega)
    have a1 : (120 : Int32) * nI i + nI k = nI (120 * i + k) := by rw [show (120 : Int32) * nI i = nI (120 * i) from pk_mul 120 i, nI_add]
    have a2 : (120 : Int32) * nI t + nI k = nI (120 * t + k) := by rw [show (120 : Int32) * nI t = nI (120 * t) from pk_mul 120 t, nI_add]
    have a4 : (mc μ 18 (hyb (120 * i) k (fun j => μ.2 5 (120 * t + j)) (μ.2 18))).2 5 = μ.2 5 := rfl
    rw [FM_line_80, if_neg z1, a1, a2, gd_t (inb_nI (show 120 * t + k < 4800 by omega) (by decide)), gd_t (inb_nI (show 120 * i + k < 3600 by omega) (by decide)), a4, nI_clamp (by omega), sa_mc, mc_mc, nI_clamp (by omega), m2_mc, if_pos rfl, hyb_s (120 * i) k (fun j => μ.2 5 (120 * t + j)) (μ.2 18), nI_1]
    exact ih (k + 1) f1 (by omega) (by omega)
theorem line129 {μ : MS} {t n1 m : Nat} (ht : t < 40) (hn : n1 + m ≤ 120) (hm : μ.2 2 t = nI m) {K : MS → Option (Int32 × MS)} : ∀ d k fuel, k + d = m → d < fuel →
    FM_line_129 K (nI t) (nI n1) fuel (nI k) (mc μ 5 (hyb (120 * t) k (fun j => μ.2 5 (120 * t + n1 + j)) (μ.2 5))) = K (mc μ 5 (hyb (120 * t) m (fun j => μ.2 5 (120 * t + n1 + j)) (μ.2 5))) := by
  intro d
  induction d with
  | zero =>
    intro k fuel hk hf
    obtain ⟨f1, rfl⟩ : ∃ f, fuel = f + 1 := ⟨fuel - 1, by omega⟩
    have e : k = m := by omega
    subst e
    have a3 : (mc μ 5 (hyb (120 * t) k (fun j => μ.2 5 (120 * t + n1 + j)) (μ.2 5))).2 2 t = nI k := hm
    rw [FM_line_129, gd_t (inb_nI ht (by decide)), nI_clamp (by omega), a3, if_pos (nI_le (Nat.le_refl _) (by omega))]
  | succ d ih =>
    intro k fuel hk hf
    obtain ⟨f1, rfl⟩ : ∃ f, fuel = f + 1 := ⟨fuel - 1, by omega⟩
    have z1 : ¬ nI m ≤ nI k := nI_ge (by omega) (by omega)
    have a1 : (120 : Int32) * nI t + nI n1 + nI k = nI (120 * t + n1 + k) := by rw [show (120 : Int32) * nI t = nI (120 * t) from pk_mul 120 t, nI_add, nI_add]
    have a2 : (120 : Int32) * nI t + nI k = nI (120 * t + k) := by rw [show (120 : Int32) * nI t = nI (120 * t) from pk_mul 120 t, nI_add]
    have a3 : (mc μ 5 (hyb (120 * t) k (fun j => μ.2 5 (120 * t + n1 + j)) (μ.2 5))).2 2 t = nI m := hm
    have a4 : (mc μ 5 (hyb (120 * t) k (fun j => μ.2 5 (120 * t + n1 + j)) (μ.2 5))).2 5 (120 * t + n1 + k) = μ.2 5 (120 * t + n1 + k) := by
      rw [m2_mc, if_pos rfl, hyb_out (by omega)]
    rw [FM_line_129, gd_t (inb_nI ht (by decide)), nI_clamp (show t < 2 ^ 31 by omega), a3, if_neg z1, a1, a2, gd_t (inb_nI (show 120 * t + n1 + k < 4800 by omega) (by decide)), gd_t (inb_nI (show 120 * t + k < 4800 by omega) (by decide)), nI_clamp (show 120 * t + n1 + k < 2 ^ 31 by omega), a4, sa_mc, mc_mc, nI_clamp (by omega), m2_mc, if_pos rfl, hyb_s (120 * t) k (fun j => μ.2 5 (120 * t + n1 + j)) (μ.2 5), nI_1]
    exact ih (k + 1) f1 (by omega) (by omega)
def linF (μ μ' : MS) (i t m : Nat) (col way v : Int32) (G18 G5 : Nat → Int32) : Prop := μ'.1 = μ.1 ∧ (∀ k, k ≠ 1 → k ≠ 2 → k ≠ 5 → k ≠ 15 → k ≠ 16 → k ≠ 17 → k ≠ 18 → μ'.2 k = μ.2 k) ∧ μ'.2 1 = upd (μ.2 1) t v ∧ μ'.2 2 = upd (μ.2 2) t (nI m) ∧ μ'.2 5 = G5 ∧ μ'.2 15 = upd (μ.2 15) i 1 ∧ μ'.2 16 = upd (μ.2 16) i col ∧ μ'.2 17 = upd (μ.2 17) i way ∧ μ'.2 18 = G18
theorem line_F {μ : MS} {i t m : Nat} (hi : i < 30) (ht : t < 40) {col way v : Int32} {G18 G5 : Nat → Int32} : linF μ (sa (mc (sa (mc (sa (sa (sa μ 15 (nI i) 1) 16 (nI i) col) 17 (nI i) way) 18 G18) 2 (nI t) (nI m)) 5 G5) 1 (nI t) v) i t m col way v G18 G5 := by
  have ei : (nI i).toNatClampNeg = i := nI_clamp (by omega)
  have et : (nI t).toNatClampNeg = t := nI_clamp (by omega)
  refine ⟨rfl, fun k h1 h2 h3 h4 h5 h6 h7 => ?_, ?_, ?_, ?_, ?_, ?_, ?_, ?_⟩
  · rw [s2_sa_n h1, m2_mc, if_neg h3, s2_sa_n h2, m2_mc, if_neg h7, s2_sa_n h6, s2_sa_n h5, s2_sa_n h4]
  · rw [s2_sa_s, et]; rfl
  · rw [s2_sa_n (by decide), m2_mc, if_neg (by decide), s2_sa_s, et]; rfl
  · rw [s2_sa_n (by decide), m2_mc, if_pos rfl]
  · rw [s2_sa_n (by decide), m2_mc, if_neg (by decide), s2_sa_n (by decide), m2_mc, if_neg (by decide), s2_sa_n (by decide), s2_sa_n (by decide), s2_sa_s, ei]
  · rw [s2_sa_n (by decide), m2_mc, if_neg (by decide), s2_sa_n (by decide), m2_mc, if_neg (by decide), s2_sa_n (by decide), s2_sa_s, ei]; rfl
  · rw [s2_sa_n (by decide), m2_mc, if_neg (by decide), s2_sa_n (by decide), m2_mc, if_neg (by decide), s2_sa_s, ei]; rfl
  · rw [s2_sa_n (by decide), m2_mc, if_neg (by decide), s2_sa_n (by decide), m2_mc, if_pos rfl]
/-- the reference's run -/
theorem line_M {μ : MS} {i t n1 n2 : Nat} (hi : i < 30) (ht : t < 40) (hn : n1 ≤ n2) (hn2 : n2 ≤ 120) (h2 : μ.2 2 t = nI n2) (col way : Int32) : ∃ μ' G18 G5, linF μ μ' i t (n2 - n1) col way (if n2 - n1 = 0 then 0 else 1) G18 G5 ∧ (∀ j, j < n1 → G18 (120 * i + j) = μ.2 5 (120 * t + j)) ∧ (∀ j, (j < 120 * i ∨ 120 * i + 120 ≤ j) → G18 j = μ.2 18 j) ∧ (∀ j, j < n2 - n1 → G5 (120 * t + j) = μ.2 5 (120 * t + n1 + j)) ∧ (∀ j, (j < 120 * t ∨ 120 * t + 120 ≤ j) → G5 j = μ.2 5 j) ∧
    FM_line_80 (fun σ_116 => FM_line_116 (nI t) (nI n1) σ_116) (nI i) (nI t) (nI n1) fu (0 : Int32) (sa (sa (sa μ 15 (nI i) (1 : Int32)) 16 (nI i) col) 17 (nI i) way) = some (nI (n2 - n1), μ') := by
  have hfu := fu_pos
  have eF := line_F (μ := μ) (i := i) (t := t) (m := n2 - n1) hi ht (col := col) (way := way) (v := if n2 - n1 = 0 then 0 else 1) (G18 := hyb (120 * i) n1 (fun j => μ.2 5 (120 * t + j)) (μ.2 18)) (G5 := hyb (120 * t) (n2 - n1) (fun j => μ.2 5 (120 * t + n1 + j)) (μ.2 5))
  refine ⟨_, _, _, eF, fun j hj => hyb_in hj, fun j hj => hyb_out (by omega), fun j hj => hyb_in hj, fun j hj => hyb_out (by omega), ?_⟩
  have c1 := line80 (μ := sa (sa (sa μ 15 (nI i) (1 : Int32)) 16 (nI i) col) 17 (nI i) way) (i := i) (t := t) (n1 := n1) (K := fun σ_116 => FM_line_116 (nI t) (nI n1) σ_116) hi ht (by omega) n1 0 fu (by omega) (by omega)
  rw [hyb_0, mc_self, show nI 0 = (0 : Int32) from rfl] at c1
  rw [c1]
  unfold FM_line_116
  have e1 : (mc (sa (sa (sa μ 15 (nI i) (1 : Int32)) 16 (nI i) col) 17 (nI i) way) 18 (hyb (120 * i) n1 (fun j => μ.2 5 (120 * t + j)) (μ.2 18))).2 2 t = nI n2 := h2
  have e2 : (sa (sa (sa μ 15 (nI i) (1 : Int32)) 16 (nI i) col) 17 (nI i) way).2 5 = μ.2 5 := rfl
  have e3 : (sa (sa (sa μ 15 (nI i) (1 : Int32)) 16 (nI i) col) 17 (nI i) way).2 18 = μ.2 18 := rfl
  rw [e2, e3]
  simp only [inb_nI ht (show 40 < 2 ^ 31 by decide), gdt, nI_clamp (show t < 2 ^ 31 by omega), e1, z_sub hn]
  have e5 : (mc (sa (sa (sa μ 15 (nI i) (1 : Int32)) 16 (nI i) col) 17 (nI i) way) 18 (hyb (120 * i) n1 (fun j => μ.2 5 (120 * t + j)) (μ.2 18))).2 5 = μ.2 5 := rfl
  generalize mc (sa (sa (sa μ 15 (nI i) (1 : Int32)) 16 (nI i) col) 17 (nI i) way) 18 (hyb (120 * i) n1 (fun j => μ.2 5 (120 * t + j)) (μ.2 18)) = μ1 at e5
  have e6 : (sa μ1 2 (nI t) (nI (n2 - n1))).2 2 t = nI (n2 - n1) := by rw [s2_sa_s, nI_clamp (by omega), upd_s]
  have e7 : (sa μ1 2 (nI t) (nI (n2 - n1))).2 5 = μ.2 5 := by rw [s2_sa_n (by decide), e5]
  generalize sa μ1 2 (nI t) (nI (n2 - n1)) = μ2 at e6 e7
  have c2 := line129 (μ := μ2) (t := t) (n1 := n1) (m := n2 - n1) (K := fun σ_172 => FM_line_172 (nI t) σ_172) ht (by omega) e6 (n2 - n1) 0 fu (by omega) (by omega)
  rw [hyb_0, mc_self, show nI 0 = (0 : Int32) from rfl, e7] at c2
  rw [c2]
  generalize hyb (120 * t) (n2 - n1) (fun j => μ.2 5 (120 * t + n1 + j)) (μ.2 5) = G
  have e8 : (mc μ2 5 G).2 2 t = nI (n2 - n1) := e6
  unfold FM_line_172 FM_line_191
  simp only [inb_nI ht (show 40 < 2 ^ 31 by decide), gdt, nI_clamp (show t < 2 ^ 31 by omega), e8]
  by_cases c0 : n2 - n1 = 0
  · rw [c0, if_pos (show nI 0 ≤ 0 from by decide), if_pos rfl]
    rfl
  · rw [if_neg (nI_nle (by omega) (by omega)), if_neg c0]
    rfl
theorem copy_p {σ : RS} {N p0 n n2 : Nat} (hk : isK σ p0 11 = true) (hp : pN σ p0 = n2) (hne : p0 ≠ N) (hn : n < n2) (h2 : n2 ≤ 120) : ∃ G, (∀ j, j < n → G j = pA σ p0 j) ∧ FR_copyOf_p N σ p0 (nI n) = some (N, nA σ N n G) := by
  have oN : ∀ x, Int32.ofNat x = nI x := fun _ => rfl
  have k1 : ∀ g, isK (nA σ N n g) p0 11 = true := fun g => by rw [qisK_nA hne]; exact hk
  have k2 : ∀ g, pN (nA σ N n g) p0 = n2 := fun g => by rw [qpN_nA, if_neg hne, hp]
  have k3 : ∀ g, pN (nA σ N n g) N = n := fun g => by rw [qpN_nA, if_pos rfl]
  have k4 : ∀ g, pA (nA σ N n g) p0 = pA σ p0 := fun g => by rw [qpA_nA, if_neg hne]
  have c1 : ¬ nI n = nI n2 := fun z => by have := (nI_eq (by omega) (by omega)).mp z; omega
  have c2 : nI n < nI n2 := nI_lt hn (by omega)
  unfold FR_copyOf_p
  simp only [hk, gdt, hp, oN, if_neg c1, inc_nI (show n ≤ 120 by omega) (show 120 < 2 ^ 31 by decide), nI_clamp (show n < 2 ^ 31 by omega), k1, k2, k3, k4, if_pos c2, show cpo 0 0 (nI n) n2 n = true from cpo_nI (a := 0) (b := 0) (n := n) (by omega) (by omega) (by omega) (by omega), wc_nA]
  exact ⟨_, fun j hj => cpy0 hj, rfl⟩
theorem copy_rng {σ : RS} {N p0 n1 n2 : Nat} (hk : isK σ p0 11 = true) (hp : pN σ p0 = n2) (hne : p0 ≠ N) (h1 : 1 ≤ n1) (hn : n1 < n2) (h2 : n2 ≤ 120) : ∃ G, (∀ j, j < n2 - n1 → G j = pA σ p0 (n1 + j)) ∧ FR_J7_copyOfRange N σ p0 (nI n1) (nI n2) = some (N, nA σ N (n2 - n1) G) := by
  have oN : ∀ x, Int32.ofNat x = nI x := fun _ => rfl
  have k1 : ∀ g, isK (nA σ N (n2 - n1) g) p0 11 = true := fun g => by rw [qisK_nA hne]; exact hk
  have k2 : ∀ g, pN (nA σ N (n2 - n1) g) p0 = n2 := fun g => by rw [qpN_nA, if_neg hne, hp]
  have k3 : ∀ g, pN (nA σ N (n2 - n1) g) N = n2 - n1 := fun g => by rw [qpN_nA, if_pos rfl]
  have k4 : ∀ g, pA (nA σ N (n2 - n1) g) p0 = pA σ p0 := fun g => by rw [qpA_nA, if_neg hne]
  have c1 : ¬ nI n1 = 0 := nI_ne0 (by omega) (by omega)
  have c2 : nI n1 ≤ nI n2 := nI_le (by omega) (by omega)
  have c3 : ¬ nI (n2 - n1) < nI (n2 - n1) := nI_nlt (Nat.le_refl _) (by omega)
  unfold FR_J7_copyOfRange FR_J7_copyOfRange_10 FR_J7_copyOfRangeInt FR_J7_checkLength
  simp only [hk, gdt, hp, oN, if_neg c1, if_pos c2, sb, z_sub (show n1 ≤ n2 by omega), inc_nI (show n2 - n1 ≤ 120 by omega) (show 120 < 2 ^ 31 by decide), nI_clamp (show n2 - n1 < 2 ^ 31 by omega), nI_clamp (show n1 < 2 ^ 31 by omega), k1, k2, k3, k4, if_neg c3, show cpo (nI n1) 0 (nI (n2 - n1)) n2 (n2 - n1) = true from cpo_nI (a := n1) (b := 0) (n := n2 - n1) (by omega) (by omega) (by omega) (by omega), wc_nA]
  exact ⟨_, fun j hj => pk_cpy_in (Nat.zero_le _) (by show j < 0 + (n2 - n1); omega), rfl⟩
theorem line_R {ρ : RS} {N a cb rb n1 n2 : Nat} (hN : Low N ρ) (ha : isK ρ a 4 = true) (hcb : isK ρ cb 0 = true) (hrb : pR ρ cb 0 = some rb) (hrk : isK ρ rb 11 = true) (hrn : pN ρ rb = n2) (h1 : 1 ≤ n1) (hn : n1 < n2) (h2 : n2 ≤ 120) : ∃ G G2, (∀ j, j < n1 → G j = pA ρ rb j) ∧ (∀ j, j < n2 - n1 → G2 j = pA ρ rb (n1 + j)) ∧
    (gd (isK (nO ρ N 0) cb 0) ((pR (nO ρ N 0) cb 0).bind fun r_88 => ((FR_copyOf_p (N + 1) (nO ρ N 0) r_88 (nI n1)).bind fun q_93 => (gd (isK q_93.2 cb 0) (gd (isK q_93.2 N 0) ((FR_X0_init q_93.2 N q_93.1 (pI q_93.2 cb 1) (pI q_93.2 cb 2)).bind fun q_106 => (gd (isK q_106 a 4) (gd (isK (wr q_106 a 2 (some N)) cb 0) ((pR (wr q_106 a 2 (some N)) cb 0).bind fun r_116 => (gd (isK (wr q_106 a 2 (some N)) (N + 1) 11) ((FR_J7_copyOfRange (N + 2) (wr q_106 a 2 (some N)) r_116 (nI n1) (nI n2)).bind fun q_126 => (gd (isK q_126.2 cb 0) (some (nI (n2 - n1), (wr q_126.2 cb 0 (some q_126.1)))))))))))))))) = some (nI (n2 - n1), wr (nA (wr (mkC ρ N n1 G (pI ρ cb 1) (pI ρ cb 2)) a 2 (some N)) (N + 2) (n2 - n1) G2) cb 0 (some (N + 2))) := by
  have la : a < N := hN a (isK_L ha)
  have lc : cb < N := hN cb (isK_L hcb)
  have lr : rb < N := hN rb (isK_L hrk)
  have kk : ∀ x k, x < N → isK (nO ρ N 0) x k = isK ρ x k := fun x k hx => qisK_nO (by omega)
  have kn : ∀ x k G, x < N → isK (nA (nO ρ N 0) (N + 1) n1 G) x k = isK ρ x k := fun x k G hx => by rw [qisK_nA (by omega), kk x k hx]
  have p1 : pR (nO ρ N 0) cb 0 = some rb := by rw [qpR_nO, if_neg (by omega), hrb]
  obtain ⟨G, hG, eG⟩ := copy_p (σ := nO ρ N 0) (N := N + 1) (p0 := rb) (n := n1) (n2 := n2) (by rw [kk rb 11 lr]; exact hrk) hrn (by omega) hn h2
  have i1 : pI (nA (nO ρ N 0) (N + 1) n1 G) cb = pI ρ cb := by
    funext j
    rw [qpI_nA, qpI_nO, if_neg (by omega)]
  have k4 : isK (nA (nO ρ N 0) (N + 1) n1 G) N 0 = true := by
    rw [qisK_nA (by omega)]
    exact isK_new
  have eI : ∀ col way, FR_X0_init (nA (nO ρ N 0) (N + 1) n1 G) N (N + 1) col way = some (mkC ρ N n1 G col way) := fun col way => by
    unfold FR_X0_init
    rw [k4, gdt]
    rfl
  have km : ∀ x k col way, x < N → isK (wr (mkC ρ N n1 G col way) a 2 (some N)) x k = isK ρ x k := fun x k col way hx => by
    show isK (nA (nO ρ N 0) (N + 1) n1 G) x k = _
    exact kn x k G hx
  have km0 : ∀ x k col way, x < N → isK (mkC ρ N n1 G col way) x k = isK ρ x k := fun x k col way hx => by
    show isK (nA (nO ρ N 0) (N + 1) n1 G) x k = _
    exact kn x k G hx
  have k7 : ∀ col way, isK (wr (mkC ρ N n1 G col way) a 2 (some N)) (N + 1) 11 = true := fun col way => by
    show isK (nA (nO ρ N 0) (N + 1) n1 G) (N + 1) 11 = true
    exact isK_newA
  have p6 : ∀ col way, pR (wr (mkC ρ N n1 G col way) a 2 (some N)) cb 0 = some rb := fun col way => by
    rw [qpR_wr, if_neg (by decide)]
    unfold mkC
    rw [qpR_wi, qpR_wi, qpR_wr, if_pos rfl, if_neg (by omega), qpR_nA, p1]
  have eR : ∀ col way, ∃ G2, (∀ j, j < n2 - n1 → G2 j = pA ρ rb (n1 + j)) ∧ FR_J7_copyOfRange (N + 2) (wr (mkC ρ N n1 G col way) a 2 (some N)) rb (nI n1) (nI n2) = some (N + 2, nA (wr (mkC ρ N n1 G col way) a 2 (some N)) (N + 2) (n2 - n1) G2) := fun col way => by
    obtain ⟨G2, g1, g2⟩ := copy_rng (σ := wr (mkC ρ N n1 G col way) a 2 (some N)) (N := N + 2) (p0 := rb) (n1 := n1) (n2 := n2) (by rw [km rb 11 _ _ lr]; exact hrk) (by
      show pN (nA (nO ρ N 0) (N + 1) n1 G) rb = n2
      rw [qpN_nA, if_neg (by omega)]
      exact hrn) (by omega) h1 hn h2
    refine ⟨G2, fun j hj => (g1 j hj).trans ?_, g2⟩
    show pA (nA (nO ρ N 0) (N + 1) n1 G) rb (n1 + j) = _
    rw [qpA_nA, if_neg (by omega)]
    rfl
  obtain ⟨G2, hG2, eR⟩ := eR (pI ρ cb 1) (pI ρ cb 2)
  refine ⟨G, G2, hG, hG2, ?_⟩
  have k8 : isK (nA (wr (mkC ρ N n1 G (pI ρ cb 1) (pI ρ cb 2)) a 2 (some N)) (N + 2) (n2 - n1) G2) cb 0 = true := by
    rw [qisK_nA (by omega), km cb 0 _ _ lc]
    exact hcb
  simp only [kk cb 0 lc, hcb, gdt, p1, sb, eG, kn cb 0 G lc, k4, i1, eI, km0 a 4 _ _ la, ha, km cb 0 _ _ lc, p6, k7, eR, k8]
