theorem qrI_ri (ρ : RS) (k : Nat) (v : Int32) (j : Nat) : rI (ri ρ k v) j = if j = k then v else rI ρ j := rfl
theorem qrI_ra (ρ : RS) (k : Nat) (i v : Int32) (j : Nat) : rI (ra ρ k i v) j = rI ρ j := rfl
theorem qrI_rq (ρ : RS) (k : Nat) (i : Int32) (o : Option Nat) (j : Nat) : rI (rq ρ k i o) j = rI ρ j := rfl
theorem qrI_rv (ρ : RS) (k : Nat) (o : Option Nat) (j : Nat) : rI (rv ρ k o) j = rI ρ j := rfl
theorem qrI_wi (ρ : RS) (a k : Nat) (v : Int32) (j : Nat) : rI (wi ρ a k v) j = rI ρ j := rfl
theorem qrI_wr (ρ : RS) (a k : Nat) (o : Option Nat) (j : Nat) : rI (wr ρ a k o) j = rI ρ j := rfl
theorem qrI_wa (ρ : RS) (a : Nat) (i v : Int32) (j : Nat) : rI (wa ρ a i v) j = rI ρ j := rfl
theorem qrI_wc (ρ : RS) (a : Nat) (g : Nat → Int32) (j : Nat) : rI (wc ρ a g) j = rI ρ j := rfl
theorem qrI_nO (ρ : RS) (a kd : Nat) (j : Nat) : rI (nO ρ a kd) j = rI ρ j := rfl
theorem qrI_nA (ρ : RS) (a n : Nat) (g : Nat → Int32) (j : Nat) : rI (nA ρ a n g) j = rI ρ j := rfl
theorem qrA_ri (ρ : RS) (k : Nat) (v : Int32) (j : Nat) : rA (ri ρ k v) j = rA ρ j := rfl
theorem qrA_ra (ρ : RS) (k : Nat) (i v : Int32) (j : Nat) : rA (ra ρ k i v) j = if j = k then upd (rA ρ k) i.toNatClampNeg v else rA ρ j := rfl
theorem qrA_rq (ρ : RS) (k : Nat) (i : Int32) (o : Option Nat) (j : Nat) : rA (rq ρ k i o) j = rA ρ j := rfl
theorem qrA_rv (ρ : RS) (k : Nat) (o : Option Nat) (j : Nat) : rA (rv ρ k o) j = rA ρ j := rfl
theorem qrA_wi (ρ : RS) (a k : Nat) (v : Int32) (j : Nat) : rA (wi ρ a k v) j = rA ρ j := rfl
theorem qrA_wr (ρ : RS) (a k : Nat) (o : Option Nat) (j : Nat) : rA (wr ρ a k o) j = rA ρ j := rfl
theorem qrA_wa (ρ : RS) (a : Nat) (i v : Int32) (j : Nat) : rA (wa ρ a i v) j = rA ρ j := rfl
theorem qrA_wc (ρ : RS) (a : Nat) (g : Nat → Int32) (j : Nat) : rA (wc ρ a g) j = rA ρ j := rfl
theorem qrA_nO (ρ : RS) (a kd : Nat) (j : Nat) : rA (nO ρ a kd) j = rA ρ j := rfl
theorem qrA_nA (ρ : RS) (a n : Nat) (g : Nat → Int32) (j : Nat) : rA (nA ρ a n g) j = rA ρ j := rfl
theorem qrQ_ri (ρ : RS) (k : Nat) (v : Int32) (j : Nat) : rQ (ri ρ k v) j = rQ ρ j := rfl
theorem qrQ_ra (ρ : RS) (k : Nat) (i v : Int32) (j : Nat) : rQ (ra ρ k i v) j = rQ ρ j := rfl
theorem qrQ_rq (ρ : RS) (k : Nat) (i : Int32) (o : Option Nat) (j : Nat) : rQ (rq ρ k i o) j = if j = k then va_up (rQ ρ k) i.toNatClampNeg o else rQ ρ j := rfl
theorem qrQ_rv (ρ : RS) (k : Nat) (o : Option Nat) (j : Nat) : rQ (rv ρ k o) j = rQ ρ j := rfl
theorem qrQ_wi (ρ : RS) (a k : Nat) (v : Int32) (j : Nat) : rQ (wi ρ a k v) j = rQ ρ j := rfl
theorem qrQ_wr (ρ : RS) (a k : Nat) (o : Option Nat) (j : Nat) : rQ (wr ρ a k o) j = rQ ρ j := rfl
theorem qrQ_wa (ρ : RS) (a : Nat) (i v : Int32) (j : Nat) : rQ (wa ρ a i v) j = rQ ρ j := rfl
theorem qrQ_wc (ρ : RS) (a : Nat) (g : Nat → Int32) (j : Nat) : rQ (wc ρ a g) j = rQ ρ j := rfl
theorem qrQ_nO (ρ : RS) (a kd : Nat) (j : Nat) : rQ (nO ρ a kd) j = rQ ρ j := rfl
theorem qrQ_nA (ρ : RS) (a n : Nat) (g : Nat → Int32) (j : Nat) : rQ (nA ρ a n g) j = rQ ρ j := rfl
theorem qrV_ri (ρ : RS) (k : Nat) (v : Int32) (j : Nat) : rV (ri ρ k v) j = rV ρ j := rfl
theorem qrV_ra (ρ : RS) (k : Nat) (i v : Int32) (j : Nat) : rV (ra ρ k i v) j = rV ρ j := rfl
theorem qrV_rq (ρ : RS) (k : Nat) (i : Int32) (o : Option Nat) (j : Nat) : rV (rq ρ k i o) j = rV ρ j := rfl
theorem qrV_rv (ρ : RS) (k : Nat) (o : Option Nat) (j : Nat) : rV (rv ρ k o) j = if j = k then o else rV ρ j := rfl
theorem qrV_wi (ρ : RS) (a k : Nat) (v : Int32) (j : Nat) : rV (wi ρ a k v) j = rV ρ j := rfl
theorem qrV_wr (ρ : RS) (a k : Nat) (o : Option Nat) (j : Nat) : rV (wr ρ a k o) j = rV ρ j := rfl
theorem qrV_wa (ρ : RS) (a : Nat) (i v : Int32) (j : Nat) : rV (wa ρ a i v) j = rV ρ j := rfl
theorem qrV_wc (ρ : RS) (a : Nat) (g : Nat → Int32) (j : Nat) : rV (wc ρ a g) j = rV ρ j := rfl
theorem qrV_nO (ρ : RS) (a kd : Nat) (j : Nat) : rV (nO ρ a kd) j = rV ρ j := rfl
theorem qrV_nA (ρ : RS) (a n : Nat) (g : Nat → Int32) (j : Nat) : rV (nA ρ a n g) j = rV ρ j := rfl
theorem qpL_ri (ρ : RS) (k : Nat) (v : Int32)  : pL (ri ρ k v) = pL ρ := rfl
theorem qpL_ra (ρ : RS) (k : Nat) (i v : Int32)  : pL (ra ρ k i v) = pL ρ := rfl
theorem qpL_rq (ρ : RS) (k : Nat) (i : Int32) (o : Option Nat)  : pL (rq ρ k i o) = pL ρ := rfl
theorem qpL_rv (ρ : RS) (k : Nat) (o : Option Nat)  : pL (rv ρ k o) = pL ρ := rfl
theorem qpL_wa (ρ : RS) (a : Nat) (i v : Int32)  : pL (wa ρ a i v) = pL ρ := rfl
theorem qpL_wc (ρ : RS) (a : Nat) (g : Nat → Int32)  : pL (wc ρ a g) = pL ρ := rfl
theorem qpL_nO (ρ : RS) (a kd : Nat)  : pL (nO ρ a kd) = pL ρ ++ [a] := rfl
theorem qpL_nA (ρ : RS) (a n : Nat) (g : Nat → Int32)  : pL (nA ρ a n g) = pL ρ ++ [a] := rfl
theorem qpK_ri (ρ : RS) (k : Nat) (v : Int32) (b : Nat) : pK (ri ρ k v) b = pK ρ b := rfl
theorem qpK_ra (ρ : RS) (k : Nat) (i v : Int32) (b : Nat) : pK (ra ρ k i v) b = pK ρ b := rfl
theorem qpK_rq (ρ : RS) (k : Nat) (i : Int32) (o : Option Nat) (b : Nat) : pK (rq ρ k i o) b = pK ρ b := rfl
theorem qpK_rv (ρ : RS) (k : Nat) (o : Option Nat) (b : Nat) : pK (rv ρ k o) b = pK ρ b := rfl
theorem qpK_wi (ρ : RS) (a k : Nat) (v : Int32) (b : Nat) : pK (wi ρ a k v) b = pK ρ b := rfl
theorem qpK_wr (ρ : RS) (a k : Nat) (o : Option Nat) (b : Nat) : pK (wr ρ a k o) b = pK ρ b := rfl
theorem qpK_wa (ρ : RS) (a : Nat) (i v : Int32) (b : Nat) : pK (wa ρ a i v) b = pK ρ b := rfl
theorem qpK_wc (ρ : RS) (a : Nat) (g : Nat → Int32) (b : Nat) : pK (wc ρ a g) b = pK ρ b := rfl
theorem qpK_nO (ρ : RS) (a kd : Nat) (b : Nat) : pK (nO ρ a kd) b = if b = a then kd else pK ρ b := rfl
theorem qpK_nA (ρ : RS) (a n : Nat) (g : Nat → Int32) (b : Nat) : pK (nA ρ a n g) b = if b = a then 11 else pK ρ b := rfl
theorem qpI_ri (ρ : RS) (k : Nat) (v : Int32) (b j : Nat) : pI (ri ρ k v) b j = pI ρ b j := rfl
theorem qpI_ra (ρ : RS) (k : Nat) (i v : Int32) (b j : Nat) : pI (ra ρ k i v) b j = pI ρ b j := rfl
theorem qpI_rq (ρ : RS) (k : Nat) (i : Int32) (o : Option Nat) (b j : Nat) : pI (rq ρ k i o) b j = pI ρ b j := rfl
theorem qpI_rv (ρ : RS) (k : Nat) (o : Option Nat) (b j : Nat) : pI (rv ρ k o) b j = pI ρ b j := rfl
theorem qpI_wi (ρ : RS) (a k : Nat) (v : Int32) (b j : Nat) : pI (wi ρ a k v) b j = if j = k then (if b = a then v else pI ρ b j) else pI ρ b j := rfl
theorem qpI_wr (ρ : RS) (a k : Nat) (o : Option Nat) (b j : Nat) : pI (wr ρ a k o) b j = pI ρ b j := rfl
theorem qpI_wa (ρ : RS) (a : Nat) (i v : Int32) (b j : Nat) : pI (wa ρ a i v) b j = pI ρ b j := rfl
theorem qpI_wc (ρ : RS) (a : Nat) (g : Nat → Int32) (b j : Nat) : pI (wc ρ a g) b j = pI ρ b j := rfl
theorem qpI_nO (ρ : RS) (a kd : Nat) (b j : Nat) : pI (nO ρ a kd) b j = (if b = a then fun _ => 0 else pI ρ b) j := rfl
theorem qpI_nA (ρ : RS) (a n : Nat) (g : Nat → Int32) (b j : Nat) : pI (nA ρ a n g) b j = pI ρ b j := rfl
theorem qpR_ri (ρ : RS) (k : Nat) (v : Int32) (b j : Nat) : pR (ri ρ k v) b j = pR ρ b j := rfl
theorem qpR_ra (ρ : RS) (k : Nat) (i v : Int32) (b j : Nat) : pR (ra ρ k i v) b j = pR ρ b j := rfl
theorem qpR_rq (ρ : RS) (k : Nat) (i : Int32) (o : Option Nat) (b j : Nat) : pR (rq ρ k i o) b j = pR ρ b j := rfl
theorem qpR_rv (ρ : RS) (k : Nat) (o : Option Nat) (b j : Nat) : pR (rv ρ k o) b j = pR ρ b j := rfl
theorem qpR_wi (ρ : RS) (a k : Nat) (v : Int32) (b j : Nat) : pR (wi ρ a k v) b j = pR ρ b j := rfl
theorem qpR_wr (ρ : RS) (a k : Nat) (o : Option Nat) (b j : Nat) : pR (wr ρ a k o) b j = if j = k then (if b = a then o else pR ρ b j) else pR ρ b j := rfl
theorem qpR_wa (ρ : RS) (a : Nat) (i v : Int32) (b j : Nat) : pR (wa ρ a i v) b j = pR ρ b j := rfl
theorem qpR_wc (ρ : RS) (a : Nat) (g : Nat → Int32) (b j : Nat) : pR (wc ρ a g) b j = pR ρ b j := rfl
theorem qpR_nO (ρ : RS) (a kd : Nat) (b j : Nat) : pR (nO ρ a kd) b j = (if b = a then fun _ => none else pR ρ b) j := rfl
theorem qpR_nA (ρ : RS) (a n : Nat) (g : Nat → Int32) (b j : Nat) : pR (nA ρ a n g) b j = pR ρ b j := rfl
theorem qpN_ri (ρ : RS) (k : Nat) (v : Int32) (b : Nat) : pN (ri ρ k v) b = pN ρ b := rfl
theorem qpN_ra (ρ : RS) (k : Nat) (i v : Int32) (b : Nat) : pN (ra ρ k i v) b = pN ρ b := rfl
theorem qpN_rq (ρ : RS) (k : Nat) (i : Int32) (o : Option Nat) (b : Nat) : pN (rq ρ k i o) b = pN ρ b := rfl
theorem qpN_rv (ρ : RS) (k : Nat) (o : Option Nat) (b : Nat) : pN (rv ρ k o) b = pN ρ b := rfl
theorem qpN_wi (ρ : RS) (a k : Nat) (v : Int32) (b : Nat) : pN (wi ρ a k v) b = pN ρ b := rfl
theorem qpN_wr (ρ : RS) (a k : Nat) (o : Option Nat) (b : Nat) : pN (wr ρ a k o) b = pN ρ b := rfl
theorem qpN_wa (ρ : RS) (a : Nat) (i v : Int32) (b : Nat) : pN (wa ρ a i v) b = pN ρ b := rfl
theorem qpN_wc (ρ : RS) (a : Nat) (g : Nat → Int32) (b : Nat) : pN (wc ρ a g) b = pN ρ b := rfl
theorem qpN_nO (ρ : RS) (a kd : Nat) (b : Nat) : pN (nO ρ a kd) b = pN ρ b := rfl
theorem qpN_nA (ρ : RS) (a n : Nat) (g : Nat → Int32) (b : Nat) : pN (nA ρ a n g) b = if b = a then n else pN ρ b := rfl
theorem qpA_ri (ρ : RS) (k : Nat) (v : Int32) (b : Nat) : pA (ri ρ k v) b = pA ρ b := rfl
theorem qpA_ra (ρ : RS) (k : Nat) (i v : Int32) (b : Nat) : pA (ra ρ k i v) b = pA ρ b := rfl
theorem qpA_rq (ρ : RS) (k : Nat) (i : Int32) (o : Option Nat) (b : Nat) : pA (rq ρ k i o) b = pA ρ b := rfl
theorem qpA_rv (ρ : RS) (k : Nat) (o : Option Nat) (b : Nat) : pA (rv ρ k o) b = pA ρ b := rfl
theorem qpA_wi (ρ : RS) (a k : Nat) (v : Int32) (b : Nat) : pA (wi ρ a k v) b = pA ρ b := rfl
theorem qpA_wr (ρ : RS) (a k : Nat) (o : Option Nat) (b : Nat) : pA (wr ρ a k o) b = pA ρ b := rfl
theorem qpA_wa (ρ : RS) (a : Nat) (i v : Int32) (b : Nat) : pA (wa ρ a i v) b = if b = a then upd (pA ρ a) i.toNatClampNeg v else pA ρ b := rfl
theorem qpA_wc (ρ : RS) (a : Nat) (g : Nat → Int32) (b : Nat) : pA (wc ρ a g) b = if b = a then g else pA ρ b := rfl
theorem qpA_nO (ρ : RS) (a kd : Nat) (b : Nat) : pA (nO ρ a kd) b = pA ρ b := rfl
theorem qpA_nA (ρ : RS) (a n : Nat) (g : Nat → Int32) (b : Nat) : pA (nA ρ a n g) b = if b = a then g else pA ρ b := rfl
theorem qisK_ri (ρ : RS) (k : Nat) (v : Int32) (b c : Nat) : isK (ri ρ k v) b c = isK ρ b c := rfl
theorem qisK_ra (ρ : RS) (k : Nat) (i v : Int32) (b c : Nat) : isK (ra ρ k i v) b c = isK ρ b c := rfl
theorem qisK_rq (ρ : RS) (k : Nat) (i : Int32) (o : Option Nat) (b c : Nat) : isK (rq ρ k i o) b c = isK ρ b c := rfl
theorem qisK_rv (ρ : RS) (k : Nat) (o : Option Nat) (b c : Nat) : isK (rv ρ k o) b c = isK ρ b c := rfl
theorem qisK_wi (ρ : RS) (a k : Nat) (v : Int32) (b c : Nat) : isK (wi ρ a k v) b c = isK ρ b c := rfl
theorem qisK_wr (ρ : RS) (a k : Nat) (o : Option Nat) (b c : Nat) : isK (wr ρ a k o) b c = isK ρ b c := rfl
theorem qisK_wa (ρ : RS) (a : Nat) (i v : Int32) (b c : Nat) : isK (wa ρ a i v) b c = isK ρ b c := rfl
theorem qisK_wc (ρ : RS) (a : Nat) (g : Nat → Int32) (b c : Nat) : isK (wc ρ a g) b c = isK ρ b c := rfl
theorem qisK_nO {ρ : RS} {a kd b c : Nat} (h : b ≠ a) : isK (nO ρ a kd) b c = isK ρ b c := by simp [isK, qpL_nO, qpK_nO, h]
theorem qisK_nA {ρ : RS} {a n b c : Nat} {g : Nat → Int32} (h : b ≠ a) : isK (nA ρ a n g) b c = isK ρ b c := by simp [isK, qpL_nA, qpK_nA, h]
theorem inb_nI {n N : Nat} (h : n < N) (hN : N < 2 ^ 31) : inb (nI n) N = true := decide_eq_true (nI_in h hN)
theorem gd_t {α : Type} {b : Bool} {x : Option α} (h : b = true) : gd b x = x := if_pos h
theorem FM_in_eq (a b c : Int32) : FM_in a b c = some (if b ≤ a ∧ a ≤ c then 1 else 0) := by
  unfold FM_in
  by_cases h1 : a < b
  · rw [if_pos h1, if_neg (fun h => absurd h1 (Int32.not_lt.mpr h.1))]
  · rw [if_neg h1]
    by_cases h2 : c < a
    · rw [if_pos h2, if_neg (fun h => absurd h2 (Int32.not_lt.mpr h.2))]
    · rw [if_neg h2, if_pos ⟨Int32.not_lt.mp h1, Int32.not_lt.mp h2⟩]
theorem FR_within_eq (a b c : Int32) : FR_X9_within a b c = some (if b ≤ a ∧ a ≤ c then 1 else 0) := by
  unfold FR_X9_within
  by_cases h1 : a < b
  · rw [if_pos h1, if_neg (fun h => absurd h1 (Int32.not_lt.mpr h.1))]
  · rw [if_neg h1]
    by_cases h2 : c < a
    · rw [if_pos h2, if_neg (fun h => absurd h2 (Int32.not_lt.mpr h.2))]
    · rw [if_neg h2, if_pos ⟨Int32.not_lt.mp h1, Int32.not_lt.mp h2⟩]
