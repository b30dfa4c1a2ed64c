/-! numbers -/
theorem z_lit (n : Nat) : (OfNat.ofNat n : Int32) = nI n := rfl
theorem z_le {a b : Nat} (ha : a < 2147483648) (hb : b < 2147483648) : (nI a ≤ nI b) = (a ≤ b) := propext (nI_leI ha hb)
theorem z_lt {a b : Nat} (ha : a < 2147483648) (hb : b < 2147483648) : (nI a < nI b) = (a < b) := propext (nI_ltI ha hb)
theorem z_eq {a b : Nat} (ha : a < 2147483648) (hb : b < 2147483648) : (nI a = nI b) = (a = b) := propext (nI_eq ha hb)
theorem z_sub {a b : Nat} (h : b ≤ a) : nI a - nI b = nI (a - b) := pk_sub h
theorem z_div {a d : Nat} (ha : a < 2147483648) (h0 : 0 < d) (hd : d < 2147483648) : nI a / nI d = nI (a / d) := pk_div ha h0 hd
theorem z_rem {a d : Nat} (ha : a < 2147483648) (h0 : 0 < d) (hd : d < 2147483648) : nI a - nI a / nI d * nI d = nI (a % d) := pk_rem ha h0 hd
theorem z_cl {n : Nat} (h : n < 2147483648) : (nI n).toNatClampNeg = n := nI_clamp h
theorem z_inb {n N : Nat} (h : n < N) (hN : N < 2147483648) : inb (nI n) N = true := inb_nI h hN
theorem z_m1 {a : Nat} (h : a < 2147483648) : ¬ nI a = -1 := by
  intro e
  have h1 := congrArg Int32.toInt e
  rw [nI_toInt h] at h1
  have h2 : (-1 : Int32).toInt = -1 := by decide
  rw [h2] at h1
  omega
theorem z_m1' {a : Nat} (h : a < 2147483648) : ¬ (-1 : Int32) = nI a := fun e => z_m1 h e.symm
theorem gdt {α : Type} (x : Option α) : gd true x = x := rfl
theorem sb {α β : Type} (a : α) (f : α → Option β) : (some a).bind f = f a := rfl
theorem ocn {α : Type} (x : Option α) (f : Nat → Option α) : oc none x f = x := rfl
theorem ocs {α : Type} (c : Nat) (x : Option α) (f : Nat → Option α) : oc (some c) x f = f c := rfl
theorem i10 : ((1 : Int32) = 0) = False := eq_false (by decide)
theorem i00 : ((0 : Int32) = 0) = True := eq_true rfl
theorem ift {α : Type} {p : Prop} [Decidable p] (h : p) (x y : α) : (if p then x else y) = x := if_pos h
theorem iff_ {α : Type} {p : Prop} [Decidable p] (h : ¬ p) (x y : α) : (if p then x else y) = y := if_neg h
theorem w_in {p a b : Int32} (h : a ≤ p ∧ p ≤ b) : FR_X9_within p a b = some 1 := by rw [FR_within_eq, if_pos h]
theorem w_out {p a b : Int32} (h : ¬ (a ≤ p ∧ p ≤ b)) : FR_X9_within p a b = some 0 := by rw [FR_within_eq, if_neg h]
theorem m_in {p a b : Int32} (h : a ≤ p ∧ p ≤ b) : FM_in p a b = some 1 := by rw [FM_in_eq, if_pos h]
theorem m_out {p a b : Int32} (h : ¬ (a ≤ p ∧ p ≤ b)) : FM_in p a b = some 0 := by rw [FM_in_eq, if_neg h]
/-- a number told: within two bounds it is a natural one -/
theorem in_c {a b : Int32} (p : Int32) (lo hi : Nat) (ha : a = nI lo) (hb : b = nI hi) (h : hi < 2147483648) (hl : lo ≤ hi) : (∃ k, lo ≤ k ∧ k ≤ hi ∧ p = nI k ∧ (a ≤ p ∧ p ≤ b)) ∨ ¬ (a ≤ p ∧ p ≤ b) := by
  subst ha hb
  by_cases c : nI lo ≤ p ∧ p ≤ nI hi
  · left
    obtain ⟨c1, c2⟩ := c
    have h1 := Int32.le_iff_toInt_le.mp c1
    have h2 := Int32.le_iff_toInt_le.mp c2
    rw [nI_toInt (by omega)] at h1
    rw [nI_toInt (by omega)] at h2
    refine ⟨p.toInt.toNat, by omega, by omega, ?_, c1, c2⟩
    refine Int32.toInt_inj.mp ?_
    rw [nI_toInt (by omega)]
    omega
  · exact Or.inr c
/-- no place of a row: below 0, or from its length on -/
theorem ix_c (p : Int32) (n : Nat) (h : n < 2147483648) : (∃ k, k < n ∧ p = nI k) ∨ (p < 0 ∧ ¬ 0 ≤ p) ∨ (nI n ≤ p ∧ ¬ p < nI n) := by
  rcases pk_ix p (n := n) h with c | c | c
  · exact Or.inr (Or.inl ⟨c, Int32.not_le.mpr c⟩)
  · exact Or.inr (Or.inr ⟨c, Int32.not_lt.mpr c⟩)
  · exact Or.inl c
theorem upd_s (f : Nat → Int32) (k : Nat) (x : Int32) : upd f k x k = x := pk_us
theorem upd_n {f : Nat → Int32} {k j : Nat} {x : Int32} (h : j ≠ k) : upd f k x j = f j := pk_un h
/-! the reference's reads through its writes -/
theorem s1_si (σ : MS) (k : Nat) (v : Int32) (j : Nat) : (si σ k v).1 j = if j = k then v else σ.1 j := rfl
theorem s2_si (σ : MS) (k : Nat) (v : Int32) : (si σ k v).2 = σ.2 := rfl
theorem s1_sa (σ : MS) (k : Nat) (i v : Int32) : (sa σ k i v).1 = σ.1 := rfl
theorem s2_sa (σ : MS) (k : Nat) (i v : Int32) (j : Nat) : (sa σ k i v).2 j = if j = k then upd (σ.2 k) i.toNatClampNeg v else σ.2 j := rfl
theorem s2_sa_n {σ : MS} {k : Nat} {i v : Int32} {j : Nat} (h : j ≠ k) : (sa σ k i v).2 j = σ.2 j := if_neg h
theorem s2_sa_s (σ : MS) (k : Nat) (i v : Int32) : (sa σ k i v).2 k = upd (σ.2 k) i.toNatClampNeg v := if_pos rfl
theorem s1_si_n {σ : MS} {k : Nat} {v : Int32} {j : Nat} (h : j ≠ k) : (si σ k v).1 j = σ.1 j := if_neg h
theorem s1_si_s (σ : MS) (k : Nat) (v : Int32) : (si σ k v).1 k = v := if_pos rfl
