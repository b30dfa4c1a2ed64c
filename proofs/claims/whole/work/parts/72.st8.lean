theorem ri_ri (ρ : RS) (k : Nat) (v v' : Int32) : ri (ri ρ k v) k v' = ri ρ k v' := by
  unfold ri
  rw [bx_uu]
theorem si_si (μ : MS) (k : Nat) (v v' : Int32) : si (si μ k v) k v' = si μ k v' := by
  unfold si
  rw [bx_uu]
theorem ri_self {ρ : RS} {k : Nat} {v : Int32} (h : rI ρ k = v) : ri ρ k v = ρ := by
  subst h
  unfold ri rI
  rw [va_self]
theorem si_self {μ : MS} {k : Nat} {v : Int32} (h : μ.1 k = v) : si μ k v = μ := by
  subst h
  unfold si
  rw [va_self]
theorem byte_c (x : Int64) : ∃ b, b < 256 ∧ (x &&& 255).toInt32 = nI b := by
  have e1 : x &&& 255 = lN (x.toBitVec.toNat % 256) := by
    apply Int64.toBitVec_inj.1
    show x.toBitVec &&& BitVec.ofNat 64 255 = BitVec.ofNat 64 (x.toBitVec.toNat % 256)
    apply BitVec.eq_of_toNat_eq
    rw [BitVec.toNat_and, BitVec.toNat_ofNat, BitVec.toNat_ofNat]
    have h1 : x.toBitVec.toNat &&& 255 = x.toBitVec.toNat % 256 := Nat.and_two_pow_sub_one_eq_mod x.toBitVec.toNat 8
    rw [show 255 % 2 ^ 64 = 255 from rfl, h1, Nat.mod_eq_of_lt (a := x.toBitVec.toNat % 256)]
    have := Nat.mod_lt x.toBitVec.toNat (show 256 > 0 by decide)
    omega
  refine ⟨x.toBitVec.toNat % 256, Nat.mod_lt _ (by decide), ?_⟩
  rw [e1, lN_i]
def shR (r : Nat) : Int32 := if r = 0 then -8 else nI (8 * (r - 1))
def shM (r : Nat) : Int32 := if r = 0 then -1 else nI (r - 1)
theorem shR_s (r : Nat) (h : r < 100) : nI (8 * r) + (-8) = shR r := by
  unfold shR
  by_cases c : r = 0
  · subst c; rfl
  · rw [if_neg c]
    refine Int32.toInt_inj.mp ?_
    have h1 : (-8 : Int32) = - nI 8 := rfl
    rw [h1, ← Int32.sub_eq_add_neg, z_sub (by omega)]
    congr 2
    omega
theorem shM_s (r : Nat) (h : r < 100) : nI r + (-1) = shM r := by
  unfold shM
  by_cases c : r = 0
  · subst c; rfl
  · rw [if_neg c, show r = (r - 1) + 1 by omega, pk_m1]
    congr 1
theorem feedL {ρ : RS} {μ : MS} (w : Int64) : ∀ r T g h fuel fuel', r < 100 → r < fuel → r < fuel' → T + r ≤ 130 → (∀ j, j < T → ∃ b, b < 256 ∧ g j = nI b ∧ h j = nI b) →
    ∃ g' h', (∀ j, j < T + r → ∃ b, b < 256 ∧ g' j = nI b ∧ h' j = nI b) ∧ FR_X8_push_8 w fuel (shR r) (ri (rc ρ 800 g) 801 (nI T)) = some (ri (rc ρ 800 g') 801 (nI (T + r))) ∧ FM_feed_33 w fuel' (shM r) (si (mc μ 30 h) 31 (nI T)) = some (nI (T + r), si (mc μ 30 h') 31 (nI (T + r))) := by
  intro r
  induction r with
  | zero =>
    intro T g h fuel fuel' h0 hf hf' hT hb
    obtain ⟨f1, rfl⟩ : ∃ f, fuel = f + 1 := ⟨fuel - 1, by omega⟩
    obtain ⟨f2, rfl⟩ : ∃ f, fuel' = f + 1 := ⟨fuel' - 1, by omega⟩
    refine ⟨g, h, hb, ?_, ?_⟩
    · rw [FR_X8_push_8, if_pos (show shR 0 < 0 from by decide)]
      rfl
    · rw [FM_feed_33, if_pos (show shM 0 < 0 from by decide)]
      rfl
  | succ r ih =>
    intro T g h fuel fuel' h0 hf hf' hT hb
    obtain ⟨f1, rfl⟩ : ∃ f, fuel = f + 1 := ⟨fuel - 1, by omega⟩
    obtain ⟨f2, rfl⟩ : ∃ f, fuel' = f + 1 := ⟨fuel' - 1, by omega⟩
    have e1 : shR (r + 1) = nI (8 * r) := rfl
    have e2 : shM (r + 1) = nI r := rfl
    rw [FR_X8_push_8, FM_feed_33, e1, e2, shR_s r (by omega), shM_s r (by omega), show (8 : Int32) * nI r = nI (8 * r) from pk_mul 8 r]
    have n1 : ¬ nI (8 * r) < 0 := nI_pos (by omega)
    have n2 : ¬ nI r < 0 := nI_pos (by omega)
    have n3 : ¬ (130 : Int32) ≤ nI T := nI_ge (b := 130) (by omega) (by decide)
    have a1 : rI (ri (rc ρ 800 g) 801 (nI T)) 801 = nI T := rfl
    have a2 : (si (mc μ 30 h) 31 (nI T)).1 31 = nI T := rfl
    rw [if_neg n1, if_neg n2, a1, a2, if_neg n3, gd_t (inb_nI (show T < 130 by omega) (by decide)), gd_t (inb_nI (show T < 130 by omega) (by decide))]
    obtain ⟨b, hb1, hb2⟩ := byte_c (w >>> ((nI (8 * r)).toInt64 &&& 63))
    rw [hb2]
    have s1 : ri (ra (ri (rc ρ 800 g) 801 (nI T)) 800 (nI T) (nI b)) 801 (rI (ra (ri (rc ρ 800 g) 801 (nI T)) 800 (nI T) (nI b)) 801 + 1) = ri (rc ρ 800 (upd g T (nI b))) 801 (nI (T + 1)) := by
      show ri (ri (ra (rc ρ 800 g) 800 (nI T) (nI b)) 801 (nI T)) 801 (nI T + 1) = _
      rw [ri_ri, nI_1, ra_rc, rc_rc, nI_clamp (by omega)]
      rfl
    have s2 : si (sa (si (mc μ 30 h) 31 (nI T)) 30 (nI T) (nI b)) 31 (nI T + 1) = si (mc μ 30 (upd h T (nI b))) 31 (nI (T + 1)) := by
      show si (si (sa (mc μ 30 h) 30 (nI T) (nI b)) 31 (nI T)) 31 (nI T + 1) = _
      rw [si_si, nI_1, sa_mc, mc_mc, nI_clamp (by omega)]
      rfl
    rw [s1, s2]
    have := ih (T + 1) (upd g T (nI b)) (upd h T (nI b)) f1 f2 (by omega) (by omega) (by omega) (by omega) (fun j hj => by
      by_cases e : j = T
      · subst e
        exact ⟨b, hb1, upd_s _ _ _, upd_s _ _ _⟩
      · rw [upd_n e, upd_n e]
        exact hb j (by omega))
    rw [show T + 1 + r = T + (r + 1) by omega] at this
    exact this
theorem st_feed {ρ : RS} {μ : MS} (h : Inv ρ μ) (p1 : Int64) (p3 : Int32) : ∃ q ρ' μ', FR_X9_feed ρ p1 p3 = some (q, ρ') ∧ FM_feed μ p1 p3 = some (q, μ') ∧ Inv ρ' μ' := by
  obtain ⟨own, B, K, h⟩ := h
  have hf := fu_pos
  unfold FR_X9_feed FM_feed
  rcases in_c (a := 1) (b := 8) p3 1 8 rfl rfl (by decide) (by decide) with ⟨n, hn1, hn2, rfl, hw⟩ | hw
  · have h9 := h
    obtain ⟨⟨T, hT1, hT2, hT3, hT4⟩, hB, hR, hP, hC, hM, hS⟩ := h
    simp only [w_in hw, m_in hw, sb, i10, ↓reduceIte, hT2, hT3, nI_add]
    by_cases c0 : T + n ≤ 130
    · have c1 : nI (T + n) ≤ 130 := nI_le (b := 130) c0 (by decide)
      simp only [if_pos c1]
      obtain ⟨g', h', a1, a2, a3⟩ := feedL (ρ := ρ) (μ := μ) p1 n T (rA ρ 800) (μ.2 30) fu fu (by omega) (by omega) (by omega) c0 hT4
      rw [rc_self, ri_self hT2] at a2
      rw [mc_self, si_self hT3] at a3
      have e1 : FR_X8_push ρ p1 (nI n) = some (ri (rc ρ 800 g') 801 (nI (T + n))) := by
        unfold FR_X8_push
        rw [show nI n - 1 = nI (n - 1) from z_sub (b := 1) hn1, show (8 : Int32) * nI (n - 1) = nI (8 * (n - 1)) from pk_mul 8 (n - 1)]
        rw [show shR n = nI (8 * (n - 1)) from if_neg (by omega)] at a2
        exact a2
      rw [e1, show nI n - 1 = nI (n - 1) from z_sub (b := 1) hn1]
      rw [show shM n = nI (n - 1) from if_neg (by omega)] at a3
      refine ⟨_, _, _, rfl, a3, own, B, K, ⟨T + n, c0, rfl, rfl, a1⟩, hB.fr rfl rfl (fun s _ => ag_sm rfl) rfl rfl rfl rfl rfl rfl, hR.fr rfl rfl (fun s _ _ => ag_sm rfl) rfl (fun k a b => ?_), hP.fr rfl (fun s _ _ => ag_sm rfl) rfl rfl rfl rfl, hC.fr rfl (fun s _ _ => ag_sm rfl) rfl rfl, hM.fr rfl (ag_sm rfl) rfl rfl rfl, hS.fr rfl rfl rfl rfl rfl rfl rfl rfl rfl rfl⟩
      show (mc μ 30 h').2 k = μ.2 k
      rw [m2_mc, if_neg (by omega)]
    · have c1 : ¬ nI (T + n) ≤ 130 := nI_ge (a := 130) (by omega) (by omega)
      simp only [if_neg c1]
      exact ⟨_, _, _, rfl, rfl, own, B, K, h9⟩
  · simp only [w_out hw, m_out hw, sb, ↓reduceIte]
    exact ⟨_, _, _, rfl, rfl, own, B, K, h⟩
/-! bolts read from the tape -/
def rel (B n : Nat) (xs : Nat → Nat) (g h : Nat → Int32) : Prop := ∀ j, j < n → xs j < 20 ∧ g j = nI (enc (xs j)) ∧ h (120 * B + j) = nI (xs j)
def mayB (n : Nat) (xs : Nat → Nat) : Int32 := if 0 < n ∧ xs (n - 1) < 10 then 1 else 0
theorem fl_t : ∀ x, x < 20 → (nI (enc x) &&& 16 = 0 ↔ x < 10) ∧ (x < 10 → nI (enc x) ||| 16 = nI (enc (x + 10))) := by decide +kernel
theorem enc_s : ∀ x, x < 10 → enc x = x := by decide
theorem digR {ρ : RS} {g : Nat → Int32} {T at_ b : Nat} (hT : rI ρ 801 = nI T) (h1 : at_ < T) (h2 : T ≤ 130) (hb : rA ρ 800 at_ = nI b) (hb2 : b < 256) : FR_X8_isDigitAt (rc ρ 802 g) (nI at_) = some (if 48 ≤ b ∧ b ≤ 57 then 1 else 0) := by
  unfold FR_X8_isDigitAt FR_X8_byteAt
  have a1 : rI (rc ρ 802 g) 801 = nI T := hT
  have a2 : rA (rc ρ 802 g) 800 = rA ρ 800 := rfl
  have n1 : ¬ nI at_ < 0 := nI_pos (by omega)
  have n2 : ¬ nI T ≤ nI at_ := nI_ge h1 (by omega)
  simp only [a1, a2, if_neg n1, if_neg n2, inb_nI (show at_ < 130 by omega) (show 130 < 2 ^ 31 by decide), gdt, nI_clamp (show at_ < 2 ^ 31 by omega), hb, sb]
  by_cases c1 : b < 48
  · rw [if_pos (show nI b < 48 from nI_lt (b := 48) c1 (by decide)), if_neg (by omega)]
  · rw [if_neg (show ¬ nI b < 48 from nI_nlt (a := b) (b := 48) (by omega) (by omega))]
    by_cases c2 : 57 < b
    · rw [if_pos (show 57 < nI b from nI_lt (a := 57) c2 (by omega)), if_neg (by omega)]
    · rw [if_neg (show ¬ 57 < nI b from nI_nlt (a := 57) (b := b) (by omega) (by decide)), if_pos (by omega)]
theorem bytR {ρ : RS} {g : Nat → Int32} {T at_ b : Nat} (hT : rI ρ 801 = nI T) (h1 : at_ < T) (h2 : T ≤ 130) (hb : rA ρ 800 at_ = nI b) : FR_X8_byteAt (rc ρ 802 g) (nI at_) = some (nI b) := by
  unfold FR_X8_byteAt
  have a1 : rI (rc ρ 802 g) 801 = nI T := hT
  have a2 : rA (rc ρ 802 g) 800 = rA ρ 800 := rfl
  have n1 : ¬ nI at_ < 0 := nI_pos (by omega)
  have n2 : ¬ nI T ≤ nI at_ := nI_ge h1 (by omega)
  simp only [a1, a2, if_neg n1, if_neg n2, inb_nI (show at_ < 130 by omega) (show 130 < 2 ^ 31 by decide), gdt, nI_clamp (show at_ < 2 ^ 31 by omega), hb]
theorem digM {b : Nat} (hb : b < 256) : FM_in (nI b) 48 57 = some (if 48 ≤ b ∧ b ≤ 57 then 1 else 0) := by
  by_cases c : 48 ≤ b ∧ b ≤ 57
  · rw [if_pos c]
    exact m_in ⟨nI_le (a := 48) c.1 (by omega), nI_le (b := 57) c.2 (by decide)⟩
  · rw [if_neg c]
    refine m_out (fun z => c ?_)
    exact ⟨(nI_leI (a := 48) (by decide) (by omega)).mp z.1, (nI_leI (b := 57) (by omega) (by decide)).mp z.2⟩
theorem readL {ρ : RS} {μ : MS} {T B : Nat} {KR : Int32 → RS → Option (Int32 × RS)} {KM : Int32 → Int32 → Int32 → MS → Option (Int32 × MS)} {c w : Int32} (hT : T ≤ 130) (hT1 : rI ρ 801 = nI T) (hT2 : μ.1 31 = nI T) (hB : B < 40) (hB2 : μ.1 0 = nI B) (hb : ∀ j, j < T → ∃ b, b < 256 ∧ rA ρ 800 j = nI b ∧ μ.2 30 j = nI b) :
    ∀ d at_ n xs g h fuel fuel', at_ + d = T → d < fuel → d + 1 < fuel' → n ≤ 120 → rel B n xs g h →
      (∃ at' n' g' h', at' ≤ T ∧ FR_X8_readRows_4 KR fuel (nI n) (nI at_) (rc ρ 802 g) = some (-10 - nI at', rc ρ 802 g') ∧ FM_bolt_45 KM c w fuel' (nI n) (nI at_) (mayB n xs) 1 (mc μ 5 h) = KM n' (nI at') 0 (mc μ 5 h') ∧ ∀ j, (j < 120 * B ∨ 120 * B + 120 ≤ j) → h' j = h j) ∨
      (∃ n' xs' g' h', n' ≤ 120 ∧ rel B n' xs' g' h' ∧ FR_X8_readRows_4 KR fuel (nI n) (nI at_) (rc ρ 802 g) = KR (nI n') (rc ρ 802 g') ∧ FM_bolt_45 KM c w fuel' (nI n) (nI at_) (mayB n xs) 1 (mc μ 5 h) = KM (nI n') (nI T) 1 (mc μ 5 h') ∧ ∀ j, (j < 120 * B ∨ 120 * B + 120 ≤ j) → h' j = h j) := by
  intro d
  induction d with
  | zero =>
    intro at_ n xs g h fuel fuel' hat hf hf' hn hrel
    obtain ⟨f1, rfl⟩ : ∃ f, fuel = f + 1 := ⟨fuel - 1, by omega⟩
    obtain ⟨f2, rfl⟩ : ∃ f, fuel' = f + 1 := ⟨fuel' - 1, by omega⟩
    have e : at_ = T := by omega
    subst e
    refine Or.inr ⟨n, xs, g, h, hn, hrel, ?_, ?_, fun _ _ => rfl⟩
    · rw [FR_X8_readRows_4, if_pos (show rI (rc ρ 802 g) 801 ≤ nI at_ by show rI ρ 801 ≤ nI at_; rw [hT1]; exact nI_le (Nat.le_refl _) (by omega))]
    · rw [FM_bolt_45, if_neg (show ¬ (1 : Int32) = 0 from by decide), if_pos (show (mc μ 5 h).1 31 ≤ nI at_ by show μ.1 31 ≤ nI at_; rw [hT2]; exact nI_le (Nat.le_refl _) (by omega))]
  | succ d ih =>
    intro at_ n xs g h fuel fuel' hat hf hf' hn hrel
    obtain ⟨f1, rfl⟩ : ∃ f, fuel = f + 1 := ⟨fuel - 1, by omega⟩
    obtain ⟨f2, rfl⟩ : ∃ f, fuel' = f + 2 := ⟨fuel' - 2, by omega⟩
    obtain ⟨b, hb1, hb2, hb3⟩ := hb at_ (by omega)
    have n1 : ¬ nI T ≤ nI at_ := nI_ge (by omega) (by omega)
    have a1 : rI (rc ρ 802 g) 801 = nI T := hT1
    have a2 : (mc μ 5 h).1 31 = nI T := hT2
    have a3 : (mc μ 5 h).2 30 at_ = nI b := hb3
    have a4 : rA (rc ρ 802 g) 800 at_ = nI b := hb2
    have a5 : (mc μ 5 h).1 0 = nI B := hB2
    rw [FR_X8_readRows_4, FM_bolt_45, a1, a2, if_neg n1, if_neg n1, if_neg (show ¬ (1 : Int32) = 0 from by decide)]
    simp only [digR hT1 (show at_ < T by omega) hT hb2 hb1, bytR hT1 (show at_ < T by omega) hT hb2, sb, inb_nI (show at_ < 130 by omega) (show 130 < 2 ^ 31 by decide), gdt, nI_clamp (show at_ < 2 ^ 31 by omega), a3, a4, digM hb1]
    -- what both do where no digit can stand
    have flt : (∃ at' n' g' h', at' ≤ T ∧ some ((-10 : Int32) - nI at_, rc ρ 802 g) = some (-10 - nI at', rc ρ 802 g') ∧ FM_bolt_45 KM c w (f2 + 1) (nI n) (nI at_) (mayB n xs) 0 (mc μ 5 h) = KM n' (nI at') 0 (mc μ 5 h') ∧ ∀ j, (j < 120 * B ∨ 120 * B + 120 ≤ j) → h' j = h j) := by
      refine ⟨at_, nI n, g, h, by omega, rfl, ?_, fun _ _ => rfl⟩
      rw [FM_bolt_45, if_pos rfl]
    have oth : ¬ (48 ≤ b ∧ b ≤ 57 ∧ n < 120) → (∃ at' n' g' h', at' ≤ T ∧ FR_X8_readRows_46 (fun x1_4 x2_4 σ_4 => FR_X8_readRows_4 KR f1 x1_4 x2_4 σ_4) (nI n) (nI at_) (rc ρ 802 g) = some (-10 - nI at', rc ρ 802 g') ∧ FM_bolt_118 (fun x3_45 x4_45 x5_45 x6_45 σ_45 => FM_bolt_45 KM c w (f2 + 1) x3_45 x4_45 x5_45 x6_45 σ_45) c w (nI n) (nI at_) (mayB n xs) 1 (mc μ 5 h) = KM n' (nI at') 0 (mc μ 5 h') ∧ ∀ j, (j < 120 * B ∨ 120 * B + 120 ≤ j) → h' j = h j) ∨
      (∃ n' xs' g' h', n' ≤ 120 ∧ rel B n' xs' g' h' ∧ FR_X8_readRows_46 (fun x1_4 x2_4 σ_4 => FR_X8_readRows_4 KR f1 x1_4 x2_4 σ_4) (nI n) (nI at_) (rc ρ 802 g) = KR (nI n') (rc ρ 802 g') ∧ FM_bolt_118 (fun x3_45 x4_45 x5_45 x6_45 σ_45 => FM_bolt_45 KM c w (f2 + 1) x3_45 x4_45 x5_45 x6_45 σ_45) c w (nI n) (nI at_) (mayB n xs) 1 (mc μ 5 h) = KM (nI n') (nI T) 1 (mc μ 5 h') ∧ ∀ j, (j < 120 * B ∨ 120 * B + 120 ≤ j) → h' j = h j) := by
      intro hno
      unfold FR_X8_readRows_46 FM_bolt_118
      simp only [bytR hT1 (show at_ < T by omega) hT hb2, sb, gd_t (inb_nI (show at_ < 130 by omega) (show 130 < 2 ^ 31 by decide)), nI_clamp (show at_ < 2 ^ 31 by omega), a3, a4]
      by_cases c1 : b = 33
      · subst c1
        rw [if_pos (show nI 33 = 33 from rfl), if_pos (show nI 33 = 33 from rfl)]
        by_cases c2 : 0 < n
        · obtain ⟨x1, x2, x3⟩ := hrel (n - 1) (by omega)
          have e1 : nI n - 1 = nI (n - 1) := z_sub (b := 1) c2
          have e2 : (120 : Int32) * nI B + nI n - 1 = nI (120 * B + (n - 1)) := by
            rw [show (120 : Int32) * nI B = nI (120 * B) from pk_mul 120 B, nI_add, show nI (120 * B + n) - 1 = nI (120 * B + n - 1) from z_sub (b := 1) (by omega)]
            congr 1
            omega
          have a6 : rA (rc ρ 802 g) 802 = g := rfl
          have a7 : (mc μ 5 h).2 5 = h := rfl
          simp only [if_neg (nI_nle c2 (show n < 2 ^ 31 by omega)), a5, e1, e2, gd_t (inb_nI (show n - 1 < 120 by omega) (show 120 < 2 ^ 31 by decide)), gd_t (inb_nI (show 120 * B + (n - 1) < 4800 by omega) (show 4800 < 2 ^ 31 by decide)), nI_clamp (show n - 1 < 2 ^ 31 by omega), nI_clamp (show 120 * B + (n - 1) < 2 ^ 31 by omega), a6, a7, x2, x3]
          by_cases c3 : xs (n - 1) < 10
          · have m1 : mayB n xs = 1 := if_pos ⟨c2, c3⟩
            rw [if_pos ((fl_t _ x1).1.mpr c3), m1, if_neg (show ¬ (1 : Int32) = 0 from by decide), (fl_t _ x1).2 c3, show nI (xs (n - 1)) + 10 = nI (xs (n - 1) + 10) from nI_add _ 10, nI_1, ra_rc, rc_rc, sa_mc, mc_mc, nI_clamp (show n - 1 < 2 ^ 31 by omega), nI_clamp (show 120 * B + (n - 1) < 2 ^ 31 by omega), a6, a7]
            have rel' : rel B n (fun j => if j = n - 1 then xs (n - 1) + 10 else xs j) (upd g (n - 1) (nI (enc (xs (n - 1) + 10)))) (upd h (120 * B + (n - 1)) (nI (xs (n - 1) + 10))) := fun j hj => by
              by_cases e : j = n - 1
              · subst e
                rw [upd_s, upd_s]
                exact ⟨by simp only [↓reduceIte]; omega, by simp only [↓reduceIte], by simp only [↓reduceIte]⟩
              · rw [upd_n e, upd_n (show 120 * B + j ≠ 120 * B + (n - 1) by omega)]
                simp only [if_neg e]
                exact hrel j hj
            have m2 : mayB n (fun j => if j = n - 1 then xs (n - 1) + 10 else xs j) = 0 := if_neg (fun z => by have := z.2; simp only [↓reduceIte] at this; omega)
            have := ih (at_ + 1) n _ _ _ f1 (f2 + 1) (by omega) (by omega) (by omega) hn rel'
            rw [m2] at this
            have out : ∀ j, (j < 120 * B ∨ 120 * B + 120 ≤ j) → upd h (120 * B + (n - 1)) (nI (xs (n - 1) + 10)) j = h j := fun j hj => upd_n (by omega)
            rcases this with ⟨at', n', g', h', b1, b2, b3, b4⟩ | ⟨n', xs', g', h', b1, b2, b3, b4, b5⟩
            · exact Or.inl ⟨at', n', g', h', b1, b2, b3, fun j hj => (b4 j hj).trans (out j hj)⟩
            · exact Or.inr ⟨n', xs', g', h', b1, b2, b3, b4, fun j hj => (b5 j hj).trans (out j hj)⟩
          · have m1 : mayB n xs = 0 := if_neg (fun z => c3 z.2)
            rw [if_neg (fun z => c3 ((fl_t _ x1).1.mp z)), if_pos m1]
            exact Or.inl flt
        · have m1 : mayB n xs = 0 := if_neg (fun z => c2 z.1)
          have e0 : n = 0 := by omega
          rw [if_pos (show nI n ≤ 0 by rw [e0]; decide), if_pos m1]
          exact Or.inl flt
      · have c2 : ¬ nI b = 33 := fun z => c1 ((nI_eq (b := 33) (by omega) (by decide)).mp z)
        rw [if_neg c2, if_neg c2]
        exact Or.inl flt
    by_cases c1 : 48 ≤ b ∧ b ≤ 57
    · simp only [if_pos c1, i10, ↓reduceIte]
      by_cases c2 : n < 120
      · have n2 : ¬ (120 : Int32) ≤ nI n := nI_ge (b := 120) c2 (by decide)
        have e2 : (120 : Int32) * nI B + nI n = nI (120 * B + n) := by
          rw [show (120 : Int32) * nI B = nI (120 * B) from pk_mul 120 B, nI_add]
        have e3 : nI b - 48 = nI (b - 48) := z_sub (b := 48) c1.1
        simp only [if_neg n2, inb_nI c2 (show 120 < 2 ^ 31 by decide), gdt, a5, e2, inb_nI (show 120 * B + n < 4800 by omega) (show 4800 < 2 ^ 31 by decide), e3, nI_1, ra_rc, rc_rc, sa_mc, mc_mc, nI_clamp (show n < 2 ^ 31 by omega), nI_clamp (show 120 * B + n < 2 ^ 31 by omega), rA_rc, m2_mc, ↓reduceIte]
        have rel' : rel B (n + 1) (fun j => if j = n then b - 48 else xs j) (upd g n (nI (b - 48))) (upd h (120 * B + n) (nI (b - 48))) := fun j hj => by
          by_cases e : j = n
          · subst e
            rw [upd_s, upd_s]
            exact ⟨by simp only [↓reduceIte]; omega, by simp only [↓reduceIte]; rw [enc_s (b - 48) (by omega)], by simp only [↓reduceIte]⟩
          · rw [upd_n e, upd_n (show 120 * B + j ≠ 120 * B + n by omega)]
            simp only [if_neg e]
            exact hrel j (by omega)
        have m2 : mayB (n + 1) (fun j => if j = n then b - 48 else xs j) = 1 := if_pos ⟨by omega, by show (if n + 1 - 1 = n then b - 48 else xs (n + 1 - 1)) < 10; rw [if_pos (by omega)]; omega⟩
        have := ih (at_ + 1) (n + 1) _ _ _ f1 (f2 + 1) (by omega) (by omega) (by omega) c2 rel'
        rw [m2] at this
        have out : ∀ j, (j < 120 * B ∨ 120 * B + 120 ≤ j) → upd h (120 * B + n) (nI (b - 48)) j = h j := fun j hj => upd_n (by omega)
        rcases this with ⟨at', n', g', h', b1, b2, b3, b4⟩ | ⟨n', xs', g', h', b1, b2, b3, b4, b5⟩
        · exact Or.inl ⟨at', n', g', h', b1, b2, b3, fun j hj => (b4 j hj).trans (out j hj)⟩
        · exact Or.inr ⟨n', xs', g', h', b1, b2, b3, b4, fun j hj => (b5 j hj).trans (out j hj)⟩
      · have n2 : (120 : Int32) ≤ nI n := nI_le (a := 120) (by omega) (by omega)
        simp only [if_pos n2]
        exact oth (fun z => c2 z.2.2)
    · simp only [if_neg c1, ↓reduceIte]
      exact oth (fun z => c1 ⟨z.1, z.2.1⟩)
