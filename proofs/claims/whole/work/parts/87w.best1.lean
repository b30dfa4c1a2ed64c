/-! the best laying: what both compute -/
theorem nI_bv (a : Nat) : (nI a).toBitVec = BitVec.ofNat 32 a := rfl
theorem nI_or (a c : Nat) : nI a ||| nI c = nI (a ||| c) := by
  apply Int32.toBitVec_inj.mp
  rw [Int32.toBitVec_or, nI_bv, nI_bv, nI_bv, BitVec.ofNat_or]
theorem shm32 : ∀ r, r < 32 → (nI r &&& 31).toBitVec.smod 32 = BitVec.ofNat 32 r := by decide +kernel
theorem nI_shl {m k : Nat} (hk : k < 32) (h : m * 2 ^ k < 2 ^ 31) : nI m <<< (nI k &&& 31) = nI (m * 2 ^ k) := by
  apply Int32.toBitVec_inj.mp
  rw [Int32.toBitVec_shiftLeft, shm32 k hk, nI_bv, nI_bv, BitVec.shiftLeft_eq']
  apply BitVec.eq_of_toNat_eq
  rw [BitVec.toNat_shiftLeft, BitVec.toNat_ofNat, BitVec.toNat_ofNat, BitVec.toNat_ofNat, Nat.mod_eq_of_lt (show k < 2 ^ 32 by omega), Nat.shiftLeft_eq, Nat.mod_mul_mod]
theorem nI_shr {a k : Nat} (hk : k < 32) (h : a < 2 ^ 31) : nI a >>> (nI k &&& 31) = nI (a / 2 ^ k) := by
  apply Int32.toBitVec_inj.mp
  rw [Int32.toBitVec_shiftRight, shm32 k hk, nI_bv, nI_bv, BitVec.sshiftRight_eq']
  rw [show (BitVec.ofNat 32 k).toNat = k from by rw [BitVec.toNat_ofNat]; exact Nat.mod_eq_of_lt (by omega)]
  rw [BitVec.sshiftRight_eq_of_msb_false (by rw [BitVec.msb_eq_decide, BitVec.toNat_ofNat, Nat.mod_eq_of_lt (by omega)]; exact decide_eq_false (by omega))]
  apply BitVec.eq_of_toNat_eq
  rw [BitVec.toNat_ushiftRight, BitVec.toNat_ofNat, BitVec.toNat_ofNat, Nat.mod_eq_of_lt (by omega), Nat.shiftRight_eq_div_pow, Nat.mod_eq_of_lt (by have := Nat.div_le_self a (2 ^ k); omega)]
theorem nI_and63 {a : Nat} : nI a &&& (63 : Int32) = nI (a % 64) := by
  apply Int32.toBitVec_inj.mp
  rw [Int32.toBitVec_and, nI_bv, nI_bv, show (63 : Int32).toBitVec = BitVec.ofNat 32 63 from rfl, ← BitVec.ofNat_and, show a &&& 63 = a % 64 from Nat.and_two_pow_sub_one_eq_mod a 6]
theorem or_add {a m k : Nat} (h : a < 2 ^ k) : a ||| m * 2 ^ k = a + m * 2 ^ k := by
  rw [Nat.or_comm, Nat.mul_comm, ← Nat.two_pow_add_eq_or_of_lt h m, Nat.add_comm]
/-! the least key -/
def mn2 (ow tS : Bool) (g : Bool → Nat) : Nat := if ow = true then g tS else min (g false) (g true)
theorem mn2_le {ow tS t : Bool} (g : Bool → Nat) (h : ow = true → t = tS) : mn2 ow tS g ≤ g t := by
  unfold mn2
  cases ow with
  | true => rw [if_pos rfl, h rfl]; exact Nat.le_refl _
  | false =>
    rw [if_neg (by decide)]
    cases t <;> omega
theorem mn2_ex (ow tS : Bool) (g : Bool → Nat) : ∃ t, (ow = true → t = tS) ∧ mn2 ow tS g = g t := by
  unfold mn2
  cases ow with
  | true => exact ⟨tS, fun _ => rfl, if_pos rfl⟩
  | false =>
    rw [if_neg (by decide)]
    by_cases c : g false ≤ g true
    · exact ⟨false, fun z => (by cases z), by omega⟩
    · exact ⟨true, fun z => (by cases z), by omega⟩
def cP (p : Nat) (t : Bool) : Nat := if t = true then 64 + 2 ^ p else 0
def kF5 (ow : Bool) (M : Nat → Bool → Bool → Nat) (t4 : Bool) : Nat := mn2 ow t4 (fun t => 512 * M 4 t t4 + cP 5 t)
def kF4 (ow : Bool) (M : Nat → Bool → Bool → Nat) (t0 : Bool) : Nat := mn2 ow t0 (fun t => 512 * M 3 t t0 + (cP 4 t + kF5 ow M t))
def kF3 (ow : Bool) (M : Nat → Bool → Bool → Nat) (t1 : Bool) : Nat := mn2 ow t1 (fun t => 512 * M 2 t t1 + cP 3 t)
def kF2 (ow : Bool) (M : Nat → Bool → Bool → Nat) (t0 : Bool) : Nat := mn2 ow t0 (fun t => 512 * M 1 t t0 + cP 2 t)
def kF1 (ow : Bool) (M : Nat → Bool → Bool → Nat) (t0 : Bool) : Nat := mn2 ow t0 (fun t => 512 * M 0 t t0 + (cP 1 t + kF3 ow M t))
def kG (ow : Bool) (M : Nat → Bool → Bool → Nat) (t : Bool) : Nat := cP 0 t + kF4 ow M t + kF2 ow M t + kF1 ow M t
def KEY (ow : Bool) (M : Nat → Bool → Bool → Nat) : Nat := min (kG ow M false) (kG ow M true)
def pcN (tw : Nat) : Nat := tw % 2 + tw / 2 % 2 + tw / 4 % 2 + tw / 8 % 2 + tw / 16 % 2 + tw / 32 % 2
def msS (M : Nat → Bool → Bool → Nat) (tw : Nat) : Nat := sumN (fun k => M k (tnB tw (k + 1)) (tnB tw (sqN k))) 5
def keyK (M : Nat → Bool → Bool → Nat) (tw : Nat) : Nat := 512 * msS M tw + (64 * pcN tw + tw)
def alw (ow : Bool) (tw : Nat) : Prop := tw < 64 ∧ (ow = true → tw = 0 ∨ tw = 63)
theorem msS_e (M : Nat → Bool → Bool → Nat) (tw : Nat) : msS M tw = M 0 (tnB tw 1) (tnB tw 0) + M 1 (tnB tw 2) (tnB tw 0) + M 2 (tnB tw 3) (tnB tw 1) + M 3 (tnB tw 4) (tnB tw 0) + M 4 (tnB tw 5) (tnB tw 4) := by
  show 0 + M 0 (tnB tw 1) (tnB tw 0) + M 1 (tnB tw 2) (tnB tw 0) + M 2 (tnB tw 3) (tnB tw 1) + M 3 (tnB tw 4) (tnB tw 0) + M 4 (tnB tw 5) (tnB tw 4) = _
  omega
theorem cP_s : ∀ tw, tw < 64 → cP 0 (tnB tw 0) + cP 1 (tnB tw 1) + cP 2 (tnB tw 2) + cP 3 (tnB tw 3) + cP 4 (tnB tw 4) + cP 5 (tnB tw 5) = 64 * pcN tw + tw := by decide +kernel
theorem tn_all : ∀ tw, (tw = 0 ∨ tw = 63) → tnB tw 1 = tnB tw 0 ∧ tnB tw 2 = tnB tw 0 ∧ tnB tw 3 = tnB tw 1 ∧ tnB tw 4 = tnB tw 0 ∧ tnB tw 5 = tnB tw 4 := by
  intro tw h
  rcases h with rfl | rfl <;> decide
theorem tw_of : ∀ t0 t1 t2 t3 t4 t5 : Bool, ∃ tw, tw < 64 ∧ (tnB tw 0 = t0 ∧ tnB tw 1 = t1 ∧ tnB tw 2 = t2 ∧ tnB tw 3 = t3 ∧ tnB tw 4 = t4 ∧ tnB tw 5 = t5) ∧ (t1 = t0 → t2 = t0 → t3 = t1 → t4 = t0 → t5 = t4 → tw = 0 ∨ tw = 63) := by
  intro t0 t1 t2 t3 t4 t5
  refine ⟨t0.toNat + 2 * t1.toNat + 4 * t2.toNat + 8 * t3.toNat + 16 * t4.toNat + 32 * t5.toNat, ?_⟩
  revert t0 t1 t2 t3 t4 t5
  decide +kernel
theorem KEY_le {ow : Bool} {M : Nat → Bool → Bool → Nat} {tw : Nat} (h : alw ow tw) : KEY ow M ≤ keyK M tw := by
  have hc := cP_s tw h.1
  have ha : ow = true → tnB tw 1 = tnB tw 0 ∧ tnB tw 2 = tnB tw 0 ∧ tnB tw 3 = tnB tw 1 ∧ tnB tw 4 = tnB tw 0 ∧ tnB tw 5 = tnB tw 4 := fun z => tn_all tw (h.2 z)
  unfold keyK
  rw [msS_e]
  have h5 : kF5 ow M (tnB tw 4) ≤ _ := mn2_le (t := tnB tw 5) (fun t => 512 * M 4 t (tnB tw 4) + cP 5 t) (fun z => (ha z).2.2.2.2)
  have h4 : kF4 ow M (tnB tw 0) ≤ _ := mn2_le (t := tnB tw 4) (fun t => 512 * M 3 t (tnB tw 0) + (cP 4 t + kF5 ow M t)) (fun z => (ha z).2.2.2.1)
  have h3 : kF3 ow M (tnB tw 1) ≤ _ := mn2_le (t := tnB tw 3) (fun t => 512 * M 2 t (tnB tw 1) + cP 3 t) (fun z => (ha z).2.2.1)
  have h2 : kF2 ow M (tnB tw 0) ≤ _ := mn2_le (t := tnB tw 2) (fun t => 512 * M 1 t (tnB tw 0) + cP 2 t) (fun z => (ha z).2.1)
  have h1 : kF1 ow M (tnB tw 0) ≤ _ := mn2_le (t := tnB tw 1) (fun t => 512 * M 0 t (tnB tw 0) + (cP 1 t + kF3 ow M t)) (fun z => (ha z).1)
  have h0 : KEY ow M ≤ kG ow M (tnB tw 0) := by
    unfold KEY
    cases tnB tw 0 <;> omega
  have e0 : kG ow M (tnB tw 0) = cP 0 (tnB tw 0) + kF4 ow M (tnB tw 0) + kF2 ow M (tnB tw 0) + kF1 ow M (tnB tw 0) := rfl
  omega
theorem KEY_ex (ow : Bool) (M : Nat → Bool → Bool → Nat) : ∃ tw, alw ow tw ∧ KEY ow M = keyK M tw := by
  obtain ⟨t0, h0⟩ : ∃ t0, KEY ow M = kG ow M t0 := by
    unfold KEY
    by_cases c : kG ow M false ≤ kG ow M true
    · exact ⟨false, by omega⟩
    · exact ⟨true, by omega⟩
  obtain ⟨t4, a4, h4⟩ := mn2_ex ow t0 (fun t => 512 * M 3 t t0 + (cP 4 t + kF5 ow M t))
  obtain ⟨t5, a5, h5⟩ := mn2_ex ow t4 (fun t => 512 * M 4 t t4 + cP 5 t)
  obtain ⟨t2, a2, h2⟩ := mn2_ex ow t0 (fun t => 512 * M 1 t t0 + cP 2 t)
  obtain ⟨t1, a1, h1⟩ := mn2_ex ow t0 (fun t => 512 * M 0 t t0 + (cP 1 t + kF3 ow M t))
  obtain ⟨t3, a3, h3⟩ := mn2_ex ow t1 (fun t => 512 * M 2 t t1 + cP 3 t)
  obtain ⟨tw, w1, ⟨w2, w3, w4, w5, w6, w7⟩, w8⟩ := tw_of t0 t1 t2 t3 t4 t5
  refine ⟨tw, ⟨w1, fun z => w8 (a1 z) (a2 z) (a3 z) (a4 z) (a5 z)⟩, ?_⟩
  have hc := cP_s tw w1
  unfold keyK
  rw [msS_e, w2, w3, w4, w5, w6, w7, h0]
  rw [w2, w3, w4, w5, w6, w7] at hc
  have e0 : kG ow M t0 = cP 0 t0 + kF4 ow M t0 + kF2 ow M t0 + kF1 ow M t0 := rfl
  have e4 : kF4 ow M t0 = 512 * M 3 t4 t0 + (cP 4 t4 + kF5 ow M t4) := h4
  have e5 : kF5 ow M t4 = 512 * M 4 t5 t4 + cP 5 t5 := h5
  have e2 : kF2 ow M t0 = 512 * M 1 t2 t0 + cP 2 t2 := h2
  have e1 : kF1 ow M t0 = 512 * M 0 t1 t0 + (cP 1 t1 + kF3 ow M t1) := h1
  have e3 : kF3 ow M t1 = 512 * M 2 t3 t1 + cP 3 t3 := h3
  omega
theorem pc_le : ∀ tw, tw < 64 → pcN tw ≤ 6 ∧ (pcN tw = 0 ↔ tw = 0) ∧ (pcN tw = 6 ↔ tw = 63) := by decide +kernel
/-- which turns the least key names -/
theorem KEY_tw {ow : Bool} {M : Nat → Bool → Bool → Nat} {tw : Nat} (h : alw ow tw) (hk : KEY ow M = keyK M tw) : KEY ow M / 512 = msS M tw ∧ KEY ow M % 64 = tw := by
  have hp := (pc_le tw h.1).1
  have h1 := h.1
  rw [hk]
  unfold keyK
  omega
theorem KEY_512 {ow : Bool} {M : Nat → Bool → Bool → Nat} {tw : Nat} (h : alw ow tw) : KEY ow M / 512 ≤ msS M tw := by
  have := KEY_le (M := M) h
  have hp := (pc_le tw h.1).1
  have h1 := h.1
  unfold keyK at this
  omega
/-! orders, one behind the other -/
def enC (rec : Nat → Nat → List Nat) (us o : Nat) : Nat → List Nat
  | 0 => []
  | c + 1 => (if us.testBit (5 - c) = true then [] else rec (us ||| 2 ^ (5 - c)) (o * 6 + (5 - c))) ++ enC rec us o c
def enum : Nat → Nat → Nat → List Nat
  | 0, _, o => [o]
  | m + 1, us, o => enC (enum m) us o 6
def sw (l : List Nat) (i k : Nat) : List Nat := (l.set i (l.getD k 0)).set k (l.getD i 0)
def nx1 (l : List Nat) : Nat → Option Nat
  | 0 => none
  | i + 1 => if l.getD i 0 ≤ l.getD (i + 1) 0 then some i else nx1 l i
def nx2 (l : List Nat) (i : Nat) : Nat → Nat
  | 0 => 0
  | k + 1 => if l.getD i 0 ≤ l.getD (k + 1) 0 then k + 1 else nx2 l i k
def nx3 : Nat → List Nat → Nat → Nat → List Nat
  | 0, l, _, _ => l
  | f + 1, l, a, b => if b ≤ a then l else nx3 f (sw l a b) (a + 1) (b - 1)
def nxP (l : List Nat) : Option (List Nat) := match nx1 l 5 with
  | none => none
  | some i => some (nx3 4 (sw l i (nx2 l i 5)) (i + 1) 5)
def cdL (l : List Nat) : Nat := l.foldl (fun c p => 6 * c + p) 0
def seqn : Nat → List Nat → List Nat
  | 0, _ => []
  | f + 1, l => cdL l :: (match nxP l with | none => [] | some l2 => seqn f l2)
def gdL (l : List Nat) : Bool := decide (l.length = 6) && decide (cdL l < 46656) && decide (mR_ (cdL l) 6 = 63) && (List.range 6).all (fun k => decide (dgN (cdL l) k = l.getD k 0)) && (match nx1 l 5 with | none => true | some i => decide (i < 5) && decide (i < nx2 l i 5) && decide (l.getD i 0 ≤ l.getD (nx2 l i 5) 0))
def gdA : Nat → List Nat → Bool
  | 0, _ => false
  | f + 1, l => gdL l && (match nxP l with | none => true | some l2 => gdA f l2)
theorem seq_en : seqn 720 [0, 1, 2, 3, 4, 5] = enum 6 0 0 := by decide +kernel
theorem gd_all : gdA 720 [0, 1, 2, 3, 4, 5] = true := by decide +kernel
