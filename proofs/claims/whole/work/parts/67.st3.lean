/-! rows rewritten from a place on -/
def hyb (off k : Nat) (f g : Nat → Int32) : Nat → Int32 := fun j => if off ≤ j ∧ j < off + k then f (j - off) else g j
theorem hyb_0 (off : Nat) (f g : Nat → Int32) : hyb off 0 f g = g := by
  funext j
  unfold hyb
  rw [if_neg (by omega)]
theorem hyb_s (off k : Nat) (f g : Nat → Int32) : upd (hyb off k f g) (off + k) (f k) = hyb off (k + 1) f g := by
  funext j
  unfold upd hyb
  by_cases h : j = off + k
  · rw [if_pos h, if_pos (by omega), h, Nat.add_sub_cancel_left]
  · rw [if_neg h]
    by_cases h2 : off ≤ j ∧ j < off + k
    · rw [if_pos h2, if_pos (by omega)]
    · rw [if_neg h2, if_neg (by omega)]
theorem hyb_id {off k : Nat} {f g : Nat → Int32} (h : f k = g (off + k)) : hyb off (k + 1) f g = hyb off k f g := by
  funext j
  unfold hyb
  by_cases h2 : off ≤ j ∧ j < off + k
  · rw [if_pos h2, if_pos (by omega)]
  · rw [if_neg h2]
    by_cases h3 : j = off + k
    · rw [if_pos (by omega), h3, Nat.add_sub_cancel_left, h]
    · rw [if_neg (by omega)]
theorem hyb_in {off k j : Nat} {f g : Nat → Int32} (h : j < k) : hyb off k f g (off + j) = f j := by
  unfold hyb
  rw [if_pos (by omega), Nat.add_sub_cancel_left]
theorem hyb_out {off k j : Nat} {f g : Nat → Int32} (h : j < off ∨ off + k ≤ j) : hyb off k f g j = g j := by
  unfold hyb
  rw [if_neg (by omega)]
theorem hyb_in0 {k j : Nat} {f g : Nat → Int32} (h : j < k) : hyb 0 k f g j = f j := by
  have := hyb_in (off := 0) (f := f) (g := g) h
  rwa [Nat.zero_add] at this
def cntN (P : Nat → Bool) : Nat → Nat
  | 0 => 0
  | k + 1 => cntN P k + if P k = true then 1 else 0
theorem cntN_le (P : Nat → Bool) : ∀ k, cntN P k ≤ k
  | 0 => Nat.le_refl 0
  | k + 1 => by
    have := cntN_le P k
    unfold cntN
    split <;> omega
theorem cntN_y {P : Nat → Bool} {k : Nat} (h : P k = true) : cntN P (k + 1) = cntN P k + 1 := by rw [cntN, if_pos h]
theorem cntN_n {P : Nat → Bool} {k : Nat} (h : ¬ P k = true) : cntN P (k + 1) = cntN P k := by rw [cntN, if_neg h]; rfl
/-- the codes of the rows, as numbers -/
theorem RowsV.xs {ρ : RS} {r n : Nat} {g : Nat → Int32} (h : RowsV ρ r n g) : ∃ xs : Nat → Nat, ∀ j, j < n → okr (xs j) ∧ pA ρ r j = nI (enc (xs j)) ∧ g j = nI (xs j) := by
  refine ⟨fun j => (g j).toNatClampNeg, fun j hj => ?_⟩
  obtain ⟨x, a, b, c⟩ := h.2.2 j hj
  have e : (g j).toNatClampNeg = x := by rw [c, nI_clamp (by have := a.1; omega)]
  show okr (g j).toNatClampNeg ∧ pA ρ r j = nI (enc (g j).toNatClampNeg) ∧ g j = nI (g j).toNatClampNeg
  rw [e]
  exact ⟨a, b, c⟩
def dk (col x : Nat) : Nat := if x % 10 < col then x - x % 10 + col else x
theorem enc_d : ∀ col, col < 10 → ∀ x, x < 1000 → x / 10 % 10 ≤ 1 → (nI (enc x) &&& (-16)) ||| nI col = nI (enc (x - x % 10 + col)) := by decide +kernel
theorem dk_ok {col x : Nat} (hc : col ≤ 9) (h : okr x) : okr (dk col x) := by
  unfold dk okr at *
  split <;> omega
theorem dkR {ρ1 : RS} {c r n col : Nat} {xs : Nat → Nat} (hk : isK ρ1 c 0 = true) (hr : pR ρ1 c 0 = some r) (hrk : isK ρ1 r 11 = true) (hn : pN ρ1 r = n) (hn2 : n ≤ 120) (hcol : col ≤ 9) (hx : ∀ j, j < n → okr (xs j) ∧ pA ρ1 r j = nI (enc (xs j))) : ∀ m k fuel, k + m = n → m < fuel →
    FR_X0_darken_9 c (nI col) fuel (nI (cntN (fun j => decide (xs j % 10 < col)) k)) (nI k) (wc ρ1 r (hyb 0 k (fun j => nI (enc (dk col (xs j)))) (pA ρ1 r))) = some (nI (cntN (fun j => decide (xs j % 10 < col)) n), wc ρ1 r (hyb 0 n (fun j => nI (enc (dk col (xs j)))) (pA ρ1 r))) := by
  intro m
  induction m with
  | zero =>
    intro k fuel hkm hf
    obtain ⟨fu', rfl⟩ : ∃ f, fuel = f + 1 := ⟨fuel - 1, by omega⟩
    have hkn : k = n := by omega
    subst hkn
    rw [FR_X0_darken_9]
    simp only [qisK_wc, hk, gdt, qpR_wc, hr, sb, hrk, qpN_wc, hn, show Int32.ofNat k ≤ nI k from nI_le (a := k) (Nat.le_refl k) (by omega), ↓reduceIte]
  | succ m ih =>
    intro k fuel hkm hf
    obtain ⟨fu', rfl⟩ : ∃ f, fuel = f + 1 := ⟨fuel - 1, by omega⟩
    rw [FR_X0_darken_9]
    obtain ⟨x1, x2⟩ := hx k (by omega)
    have h1 : ¬ Int32.ofNat n ≤ nI k := nI_ge (b := n) (by omega) (by omega)
    have h2 : hyb 0 k (fun j => nI (enc (dk col (xs j)))) (pA ρ1 r) k = nI (enc (xs k)) := by rw [hyb_out (by omega), x2]
    simp only [qisK_wc, hk, gdt, qpR_wc, hr, sb, hrk, qpN_wc, hn, if_neg h1, inb_nI (show k < n by omega) (show n < 2 ^ 31 by omega), qpA_wc, ↓reduceIte, nI_clamp (show k < 2 ^ 31 by omega), h2, enc_0 x1]
    by_cases c0 : xs k % 10 < col
    · have h3 : ¬ nI col ≤ nI (xs k % 10) := nI_ge c0 (by omega)
      rw [if_neg h3, wa_wc, wc_wc, enc_d col (by omega) (xs k) x1.1 x1.2, nI_clamp (show k < 2 ^ 31 by omega), qpA_wc, if_pos rfl]
      have h4 := hyb_s 0 k (fun j => nI (enc (dk col (xs j)))) (pA ρ1 r)
      rw [Nat.zero_add, show dk col (xs k) = xs k - xs k % 10 + col from if_pos c0] at h4
      rw [h4, nI_1, nI_1, ← cntN_y (P := fun j => decide (xs j % 10 < col)) (decide_eq_true c0)]
      exact ih (k + 1) fu' (by omega) (by omega)
    · have h3 : nI col ≤ nI (xs k % 10) := nI_le (by omega) (by omega)
      rw [if_pos h3, nI_1]
      have h4 := hyb_id (off := 0) (k := k) (f := fun j => nI (enc (dk col (xs j)))) (g := pA ρ1 r) (by rw [Nat.zero_add, x2]; show nI (enc (dk col (xs k))) = _; rw [show dk col (xs k) = xs k from if_neg c0])
      rw [← h4, ← cntN_n (P := fun j => decide (xs j % 10 < col)) (k := k) (by simpa using c0)]
      exact ih (k + 1) fu' (by omega) (by omega)
theorem dkM {μ1 : MS} {i n col : Nat} {xs : Nat → Nat} (hi : i < 40) (hn : μ1.2 2 i = nI n) (hn2 : n ≤ 120) (hcol : col ≤ 9) (hx : ∀ j, j < n → okr (xs j) ∧ μ1.2 5 (120 * i + j) = nI (xs j)) : ∀ m k fuel, k + m = n → m < fuel →
    FM_dye_51 (nI i) (nI col) fuel (nI (cntN (fun j => decide (xs j % 10 < col)) k)) (nI (120 * i + k)) (mc μ1 5 (hyb (120 * i) k (fun j => nI (dk col (xs j))) (μ1.2 5))) = some (nI (cntN (fun j => decide (xs j % 10 < col)) n), mc μ1 5 (hyb (120 * i) n (fun j => nI (dk col (xs j))) (μ1.2 5))) := by
  intro m
  have e0 : (120 : Int32) * nI i + nI n = nI (120 * i + n) := by rw [show (120 : Int32) * nI i = nI (120 * i) from pk_mul 120 i, nI_add]
  induction m with
  | zero =>
    intro k fuel hkm hf
    obtain ⟨fu', rfl⟩ : ∃ f, fuel = f + 1 := ⟨fuel - 1, by omega⟩
    have hkn : k = n := by omega
    subst hkn
    rw [FM_dye_51]
    simp only [m2_mc, show (2 = 5) = False from eq_false (by decide), inb_nI hi (show 40 < 2 ^ 31 by decide), gdt, ↓reduceIte, nI_clamp (show i < 2 ^ 31 by omega), hn, e0, show nI (120 * i + k) ≤ nI (120 * i + k) from nI_le (Nat.le_refl _) (by omega)]
  | succ m ih =>
    intro k fuel hkm hf
    obtain ⟨fu', rfl⟩ : ∃ f, fuel = f + 1 := ⟨fuel - 1, by omega⟩
    rw [FM_dye_51]
    obtain ⟨x1, x2⟩ := hx k (by omega)
    have x9 := x1.1
    have h1 : ¬ nI (120 * i + n) ≤ nI (120 * i + k) := nI_ge (by omega) (by omega)
    have h2 : hyb (120 * i) k (fun j => nI (dk col (xs j))) (μ1.2 5) (120 * i + k) = nI (xs k) := by rw [hyb_out (by omega), x2]
    simp only [m2_mc, show (2 = 5) = False from eq_false (by decide), inb_nI hi (show 40 < 2 ^ 31 by decide), gdt, ↓reduceIte, nI_clamp (show i < 2 ^ 31 by omega), hn, e0, if_neg h1, inb_nI (show 120 * i + k < 4800 by omega) (show 4800 < 2 ^ 31 by decide), nI_clamp (show 120 * i + k < 2 ^ 31 by omega), h2, told_0 (show xs k < 2147483648 by omega)]
    by_cases c0 : xs k % 10 < col
    · have h3 : ¬ nI col ≤ nI (xs k % 10) := nI_ge c0 (by omega)
      rw [if_neg h3, sa_mc, mc_mc, z_sub (Nat.le_of_lt c0), nI_add, nI_clamp (show 120 * i + k < 2 ^ 31 by omega), m2_mc, if_pos rfl]
      have h4 := hyb_s (120 * i) k (fun j => nI (dk col (xs j))) (μ1.2 5)
      rw [show dk col (xs k) = xs k + (col - xs k % 10) by unfold dk; rw [if_pos c0]; omega] at h4
      rw [h4, nI_1, nI_1, ← cntN_y (P := fun j => decide (xs j % 10 < col)) (decide_eq_true c0)]
      exact ih (k + 1) fu' (by omega) (by omega)
    · have h3 : nI col ≤ nI (xs k % 10) := nI_le (by omega) (by omega)
      rw [if_pos h3, nI_1]
      have h4 := hyb_id (off := 120 * i) (k := k) (f := fun j => nI (dk col (xs j))) (g := μ1.2 5) (by rw [x2]; show nI (dk col (xs k)) = _; rw [show dk col (xs k) = xs k from if_neg c0])
      rw [← h4, ← cntN_n (P := fun j => decide (xs j % 10 < col)) (k := k) (by simpa using c0)]
      exact ih (k + 1) fu' (by omega) (by omega)
theorem fu_pos : 1000 < fu := by decide
theorem st_dye {ρ : RS} {μ : MS} (h : Inv ρ μ) (p1 : Int32) (p2 : Int32) : ∃ q ρ' μ', FR_X9_dye ρ p1 p2 = some (q, ρ') ∧ FM_dye μ p1 p2 = some (q, μ') ∧ Inv ρ' μ' := by
  obtain ⟨own, B, K, h⟩ := h
  unfold FR_X9_dye FM_dye
  rcases bolt_c h p1 with ⟨e1, e2⟩ | ⟨i, c, n, hi, hi2, rfl, ⟨h1, h2, h3, h4, h5, h6, h7, ⟨k, hk, h8⟩, h9, h10, h11, r, h12, h13, h14⟩, e1, e2⟩
  · simp only [e1, e2, sb, ocn, ↓reduceIte]
    exact ⟨_, _, _, rfl, rfl, own, B, K, h⟩
  · simp only [e1, e2, sb, ocs, i10, ↓reduceIte]
    rcases in_c (a := 0) (b := 9) p2 0 9 rfl rfl (by decide) (by decide) with ⟨col, -, hcol, rfl, hw⟩ | hw
    · simp only [w_in hw, m_in hw, sb, i10, ↓reduceIte, h4, gdt, inb_nI hi2 (show 40 < 2 ^ 31 by decide), nI_clamp (show i < 2 ^ 31 by omega), h6, h8]
      by_cases c0 : nI k < nI col
      · simp only [if_pos c0]
        obtain ⟨hT, hB, hR, hP, hC, hM, hS⟩ := h
        obtain ⟨xs, hxs⟩ := h14.xs
        have hrc : r ≠ c := fun e => by rw [e, h5] at h13; omega
        have a1 := dkR (ρ1 := wi ρ c 1 (nI col)) (c := c) (r := r) (n := n) (col := col) (xs := xs) h4 h12 h14.1 h14.2.1 h11 hcol (fun j hj => ⟨(hxs j hj).1, (hxs j hj).2.1⟩) n 0 fu (by omega) (by have := fu_pos; omega)
        have a2 := dkM (μ1 := sa μ 3 (nI i) (nI col)) (i := i) (n := n) (col := col) (xs := xs) hi2 h3 h11 hcol (fun j hj => ⟨(hxs j hj).1, (hxs j hj).2.2⟩) n 0 fu (by omega) (by have := fu_pos; omega)
        rw [hyb_0, wc_self] at a1
        rw [hyb_0, mc_self] at a2
        have a3 : FR_X0_darken ρ c (nI col) = some (nI (cntN (fun j => decide (xs j % 10 < col)) n), wc (wi ρ c 1 (nI col)) r (hyb 0 n (fun j => nI (enc (dk col (xs j)))) (pA (wi ρ c 1 (nI col)) r))) := by
          unfold FR_X0_darken
          rw [h4, gdt]
          exact a1
        have a4 : (120 : Int32) * nI i = nI (120 * i + 0) := pk_mul 120 i
        rw [a3, a4]
        refine ⟨_, _, _, rfl, a2, ?_⟩
        generalize hg1 : hyb 0 n (fun j => nI (enc (dk col (xs j)))) (pA (wi ρ c 1 (nI col)) r) = G
        generalize hg2 : hyb (120 * i) n (fun j => nI (dk col (xs j))) ((sa μ 3 (nI i) (nI col)).2 5) = G2
        have hs : ∀ s, s ≠ 2 * i → s ≠ 2 * i + 1 → ag ρ (wc (wi ρ c 1 (nI col)) r G) own own s := fun s hs hs2 => (ag_wi (by rw [h5]; exact hs)).trans (ag_wc (by rw [h13]; exact hs2))
        refine ⟨own, B, K, hT.fr rfl rfl rfl rfl, hB.up B hB.1 hB.2.1 hB.2.2.1 i ?_ (fun j hj hji => ⟨rfl, Iff.rfl, hs _ (by omega) (by omega), hs _ (by omega) (by omega), rfl, rfl, ?_, rfl, fun t ht => ?_⟩), hR.fr rfl rfl (fun s _ _ => hs s (by omega) (by omega)) rfl (fun k a b => ?_), hP.fr rfl (fun s _ _ => hs s (by omega) (by omega)) rfl rfl rfl rfl, hC.fr rfl (fun s _ _ => hs s (by omega) (by omega)) rfl rfl, hM.fr rfl (hs _ (by omega) (by omega)) rfl rfl rfl, hS.fr rfl rfl rfl rfl rfl rfl rfl rfl rfl rfl⟩
        · refine Or.inr ⟨hi, c, n, h1, h2, h3, ?_⟩
          have e3 : (mc (sa μ 3 (nI i) (nI col)) 5 G2).2 3 i = nI col := by rw [m2_mc, if_neg (by decide), s2_sa_s, nI_clamp (by omega), upd_s]
          rw [e3]
          refine ⟨h4, h5, ?_, h7, ⟨col, hcol, rfl⟩, h9, h10, h11, r, h12, h13, h14.1, h14.2.1, fun j hj => ⟨dk col (xs j), dk_ok hcol (hxs j hj).1, ?_, ?_⟩⟩
          · show pI (wi ρ c 1 (nI col)) c 1 = _
            rw [qpI_wi]; simp
          · rw [qpA_wc, if_pos rfl, ← hg1, hyb_in0 hj]
          · show (mc (sa μ 3 (nI i) (nI col)) 5 G2).2 5 (120 * i + j) = _
            rw [m2_mc, if_pos rfl, ← hg2, hyb_in hj]
        · rw [m2_mc, if_neg (by decide), s2_sa_s, nI_clamp (by omega), upd_n hji]
        · rw [m2_mc, if_pos rfl, ← hg2, hyb_out (by omega)]
          rfl
        · rw [m2_mc, if_neg (by omega)]
          exact s2_sa_n (by omega)
      · simp only [if_neg c0]
        exact ⟨_, _, _, rfl, rfl, own, B, K, h⟩
    · simp only [w_out hw, m_out hw, sb, ↓reduceIte]
      exact ⟨_, _, _, rfl, rfl, own, B, K, h⟩
