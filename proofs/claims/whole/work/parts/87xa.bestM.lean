/-! the reference: all turns of one order -/
def pdN (nn i tw : Nat) : Prop := pcN tw < nn ∨ (pcN tw = nn ∧ tw < i)
theorem b128 {μ : MS} {t n b sl f l thr fo o i : Nat} {x : Nat → Nat} {R D : Nat → Int32} {v w x5 : Int32} {S : Option (Nat × Nat × Nat)} {K : Int32 → Int32 → MS → Option (Int32 × MS)} (h : MB2 μ t n b sl f l thr fo x) (hi : i < 64) (hD : ∀ k, k < 6 → D k = nI (dgN o k)) (ho : o < 46656) (hm : mR_ o 6 = 63) (hV : mV S v w) : ∃ R' v' w', FM_best_128 K (nI t) (mI S) x5 (nI i) (bz μ R D v w) = K (mI (upS S (5 * shO fo b sl f l x (sOf b sl f l o) + msS (MM thr b sl f l x (sOf b sl f l o)) i) o i)) (nI (i + 1)) (bz μ R' D v' w') ∧ mV (upS S (5 * shO fo b sl f l x (sOf b sl f l o) + msS (MM thr b sl f l x (sOf b sl f l o)) i) o i) v' w' := by
  obtain ⟨R', r1, r2⟩ := lay_ug (R := R) (v := v) (w := w) h hi hD hm
  have hb1 := shO_le (fo := fo) (x := x) (s := sOf b sl f l o) h.2.2.2.1
  have hb2 := msS_le (thr := thr) (tw := i) (x := x) (s := sOf b sl f l o) h.2.2.2.1
  have hc : FM_code (bz μ R' D v w) = some (nI o) := code_e ho (fun k hk => by rw [bz_35]; exact hD k hk)
  unfold FM_best_128 FM_best_152
  rw [r1, sb, r2, sb, hc, sb, nI_1, bz_s]
  have hA : 5 * shO fo b sl f l x (sOf b sl f l o) + msS (MM thr b sl f l x (sOf b sl f l o)) i < 100000 := by omega
  generalize 5 * shO fo b sl f l x (sOf b sl f l o) + msS (MM thr b sl f l x (sOf b sl f l o)) i = u at hA ⊢
  cases S with
  | none =>
    rw [if_pos (show mI none = -1 from rfl)]
    exact ⟨R', nI o, nI i, rfl, fun q z => (by cases z; exact ⟨rfl, rfl, hA⟩)⟩
  | some q =>
    have hq := (hV q rfl).2.2
    rw [if_neg (show ¬ mI (some q) = -1 from z_m1 (by show q.1 < _; omega)), show mI (some q) = nI q.1 from rfl]
    unfold upS
    dsimp only
    by_cases c : u < q.1
    · rw [if_neg (nI_ge c (by omega)), if_pos c]
      exact ⟨R', nI o, nI i, rfl, fun q' z => (by cases z; exact ⟨rfl, rfl, hA⟩)⟩
    · rw [if_pos (nI_le (by omega) (by omega)), if_neg c]
      exact ⟨R', v, w, rfl, hV⟩
theorem b90 {μ : MS} {t n b sl f l thr fo o nn : Nat} {x : Nat → Nat} {D : Nat → Int32} {ow : Bool} {S0 : Option (Nat × Nat × Nat)} {K : Int32 → MS → Option (Int32 × MS)} (h : MB2 μ t n b sl f l thr fo x) (hway : μ.2 4 t = if ow = true then 1 else 0) (hD : ∀ k, k < 6 → D k = nI (dgN o k)) (ho : o < 46656) (hm : mR_ o 6 = 63) (hnn : nn ≤ 6) : ∀ d i fuel S R v w, i + d = 64 → d < fuel → mV S v w → inS S0 S (fun tw => 5 * shO fo b sl f l x (sOf b sl f l o) + msS (MM thr b sl f l x (sOf b sl f l o)) tw) (MM thr b sl f l x (sOf b sl f l o)) ow o (pdN nn i) → ∃ S' R' v' w', FM_best_90 K (nI t) (nI nn) fuel (mI S) (nI i) (bz μ R D v w) = K (mI S') (bz μ R' D v' w') ∧ mV S' v' w' ∧ inS S0 S' (fun tw => 5 * shO fo b sl f l x (sOf b sl f l o) + msS (MM thr b sl f l x (sOf b sl f l o)) tw) (MM thr b sl f l x (sOf b sl f l o)) ow o (pdN nn 64) := by
  have ht := h.1
  intro d
  induction d with
  | zero =>
    intro i fuel S R v w hi hf hV hI
    obtain ⟨f1, rfl⟩ : ∃ f, fuel = f + 1 := ⟨fuel - 1, by omega⟩
    have e : i = 64 := by omega
    subst e
    exact ⟨S, R, v, w, by rw [FM_best_90, if_pos (show (64 : Int32) ≤ nI 64 by decide)], hV, hI⟩
  | succ d ih =>
    intro i fuel S R v w hi hf hV hI
    obtain ⟨f1, rfl⟩ : ∃ f, fuel = f + 1 := ⟨fuel - 1, by omega⟩
    have hi64 : i < 64 := by omega
    obtain ⟨p1, p2, p3⟩ := pc_le i hi64
    have e4 : (bz μ R D v w).2 4 t = if ow = true then 1 else 0 := by rw [bz_2 (by decide) (by decide)]; exact hway
    rw [FM_best_90, if_neg (show ¬ (64 : Int32) ≤ nI i from nI_ge (b := 64) (by omega) (by decide)), many_e hi64, sb, gd_t (inb_nI ht (by decide)), nI_clamp (show t < 2 ^ 31 by omega), e4, nI_1]
    have skip : ¬ (alw ow i ∧ pcN i = nn) → ∃ S' R' v' w', FM_best_90 K (nI t) (nI nn) f1 (mI S) (nI (i + 1)) (bz μ R D v w) = K (mI S') (bz μ R' D v' w') ∧ mV S' v' w' ∧ inS S0 S' (fun tw => 5 * shO fo b sl f l x (sOf b sl f l o) + msS (MM thr b sl f l x (sOf b sl f l o)) tw) (MM thr b sl f l x (sOf b sl f l o)) ow o (pdN nn 64) := fun hno => ih (i + 1) f1 S R v w (by omega) (by omega) hV (inS_sk hI (fun tw ha => by
      unfold pdN
      constructor
      · rintro (z | ⟨z1, z2⟩)
        · exact Or.inl z
        · by_cases c : tw = i
          · subst c; exact absurd ⟨ha, z1⟩ hno
          · exact Or.inr ⟨z1, by omega⟩
      · rintro (z | ⟨z1, z2⟩)
        · exact Or.inl z
        · exact Or.inr ⟨z1, by omega⟩))
    have take : alw ow i → pcN i = nn → ∃ S' R' v' w', FM_best_128 (fun x3_90 x6_90 σ_90 => FM_best_90 K (nI t) (nI nn) f1 x3_90 x6_90 σ_90) (nI t) (mI S) (nI nn) (nI i) (bz μ R D v w) = K (mI S') (bz μ R' D v' w') ∧ mV S' v' w' ∧ inS S0 S' (fun tw => 5 * shO fo b sl f l x (sOf b sl f l o) + msS (MM thr b sl f l x (sOf b sl f l o)) tw) (MM thr b sl f l x (sOf b sl f l o)) ow o (pdN nn 64) := fun ha hpc => by
      obtain ⟨R1, v1, w1, z1, z2⟩ := b128 (R := R) (x5 := nI nn) (K := fun x3_90 x6_90 σ_90 => FM_best_90 K (nI t) (nI nn) f1 x3_90 x6_90 σ_90) h hi64 hD ho hm hV
      rw [z1]
      refine ih (i + 1) f1 _ R1 v1 w1 (by omega) (by omega) z2 (inS_up hI ha (fun tw ha' => ?_) (fun tw ha' hd => ?_))
      · unfold pdN
        constructor
        · rintro (z | ⟨y1, y2⟩)
          · exact Or.inl (Or.inl z)
          · by_cases c : tw = i
            · exact Or.inr c
            · exact Or.inl (Or.inr ⟨y1, by omega⟩)
        · rintro ((z | ⟨y1, y2⟩) | z)
          · exact Or.inl z
          · exact Or.inr ⟨y1, by omega⟩
          · exact Or.inr ⟨by rw [z]; exact hpc, by omega⟩
      · have := ha'.1
        rcases hd with z | ⟨y1, y2⟩ <;> omega
    by_cases c : pcN i = nn
    · rw [if_pos (by rw [c])]
      cases ow with
      | false =>
        rw [if_neg (show ¬ false = true by decide), if_pos rfl]
        exact take ⟨hi64, fun z => (by cases z)⟩ c
      | true =>
        rw [if_pos (show true = true from rfl), if_neg (show ¬ (1 : Int32) = 0 by decide)]
        by_cases c0 : nn = 0
        · rw [if_pos (show nI nn = 0 by rw [c0]; rfl)]
          exact take ⟨hi64, fun _ => Or.inl (p2.mp (by omega))⟩ c
        · rw [if_neg (show ¬ nI nn = 0 from fun z => c0 ((nI_eq (b := 0) (by omega) (by decide)).mp z))]
          by_cases c6 : nn = 6
          · rw [if_pos (show nI nn = 6 by rw [c6]; rfl)]
            exact take ⟨hi64, fun _ => Or.inr (p3.mp (by omega))⟩ c
          · rw [if_neg (show ¬ nI nn = 6 from fun z => c6 ((nI_eq (b := 6) (by omega) (by decide)).mp z))]
            refine skip (fun z => ?_)
            rcases z.1.2 rfl with y | y
            · have := p2.mpr y; omega
            · have := p3.mpr y; omega
    · rw [if_neg (fun z => c ((nI_eq (by omega) (by omega)).mp z))]
      exact skip (fun z => c z.2)
theorem b80 {μ : MS} {t n b sl f l thr fo o : Nat} {x : Nat → Nat} {D : Nat → Int32} {ow : Bool} {S0 : Option (Nat × Nat × Nat)} {K : Int32 → MS → Option (Int32 × MS)} (h : MB2 μ t n b sl f l thr fo x) (hway : μ.2 4 t = if ow = true then 1 else 0) (hD : ∀ k, k < 6 → D k = nI (dgN o k)) (ho : o < 46656) (hm : mR_ o 6 = 63) : ∀ d nn fuel S R v w, nn + d = 7 → d < fuel → mV S v w → inS S0 S (fun tw => 5 * shO fo b sl f l x (sOf b sl f l o) + msS (MM thr b sl f l x (sOf b sl f l o)) tw) (MM thr b sl f l x (sOf b sl f l o)) ow o (pdN nn 0) → ∃ R' v' w', FM_best_80 K (nI t) fuel (mI S) (nI nn) (bz μ R D v w) = K (mI (stp (EO thr fo b sl f l x ow) (TO thr b sl f l x ow) S0 o)) (bz μ R' D v' w') ∧ mV (stp (EO thr fo b sl f l x ow) (TO thr b sl f l x ow) S0 o) v' w' := by
  have hfu := fu_pos
  intro d
  induction d with
  | zero =>
    intro nn fuel S R v w hn hf hV hI
    obtain ⟨f1, rfl⟩ : ∃ f, fuel = f + 1 := ⟨fuel - 1, by omega⟩
    have e : nn = 7 := by omega
    subst e
    have hS := inS_e (E := EO thr fo b sl f l x ow) (T := TO thr b sl f l x ow) hI (fun tw ha => Or.inl (by have := (pc_le tw ha.1).1; omega)) rfl rfl
    subst hS
    exact ⟨R, v, w, by rw [FM_best_80, if_pos (show (6 : Int32) < nI 7 by decide)], hV⟩
  | succ d ih =>
    intro nn fuel S R v w hn hf hV hI
    obtain ⟨f1, rfl⟩ : ∃ f, fuel = f + 1 := ⟨fuel - 1, by omega⟩
    obtain ⟨S1, R1, v1, w1, z1, z2, z3⟩ := b90 (K := fun x3_175 σ_175 => FM_best_175 (fun x3_80 x5_80 σ_80 => FM_best_80 K (nI t) f1 x3_80 x5_80 σ_80) (nI t) x3_175 (nI nn) σ_175) h hway hD ho hm (show nn ≤ 6 by omega) 64 0 fu S R v w (by omega) (by omega) hV hI
    rw [FM_best_80, if_neg (show ¬ (6 : Int32) < nI nn from nI_nlt (a := 6) (b := nn) (by omega) (by decide)), show (0 : Int32) = nI 0 from rfl, z1]
    unfold FM_best_175
    rw [nI_1]
    exact ih (nn + 1) f1 S1 R1 v1 w1 (by omega) (by omega) z2 (inS_sk z3 (fun tw ha => by
      unfold pdN
      have := ha.1
      constructor
      · rintro (z | ⟨z, z'⟩)
        · by_cases c : pcN tw = nn
          · exact Or.inr ⟨c, this⟩
          · exact Or.inl (by omega)
        · omega
      · rintro (z | ⟨z, z'⟩)
        · exact Or.inl (by omega)
        · exact Or.inl (by omega)))
/-! the reference: the next order -/
def DL (D : Nat → Int32) (l : List Nat) : Prop := l.length = 6 ∧ ∀ j, j < 6 → D j = nI (l.getD j 0)
theorem getD_set {l : List Nat} {i j v : Nat} (hi : i < l.length) : (l.set i v).getD j 0 = if j = i then v else l.getD j 0 := by
  rw [List.getD_eq_getElem?_getD, List.getD_eq_getElem?_getD, List.getElem?_set]
  by_cases c : j = i
  · subst c
    rw [if_pos rfl, if_pos rfl, if_pos hi]
    rfl
  · rw [if_neg (fun z => c z.symm), if_neg c]
theorem DL_sw {D : Nat → Int32} {l : List Nat} {i k : Nat} (h : DL D l) (hi : i < 6) (hk : k < 6) : DL (upd (upd D i (D k)) k (D i)) (sw l i k) := by
  obtain ⟨h1, h2⟩ := h
  unfold sw
  refine ⟨by rw [List.length_set, List.length_set]; exact h1, fun j hj => ?_⟩
  rw [getD_set (by rw [List.length_set]; omega), getD_set (by omega)]
  by_cases c : j = k
  · subst c
    rw [upd_s, if_pos rfl]
    exact h2 i hi
  · rw [upd_n c, if_neg c]
    by_cases c' : j = i
    · subst c'
      rw [upd_s, if_pos rfl]
      exact h2 k hk
    · rw [upd_n c', if_neg c']
      exact h2 j hj
theorem swap_e {σ : MS} {D : Nat → Int32} {i k : Nat} (hi : i < 6) (hk : k < 6) : FM_swap (mc σ 35 D) (nI i) (nI k) = some (mc σ 35 (upd (upd D i (D k)) k (D i))) := by
  unfold FM_swap
  have e35 : (mc σ 35 D).2 35 = D := by rw [m2_mc, if_pos rfl]
  rw [gd_t (inb_nI hi (by decide)), gd_t (inb_nI hk (by decide)), gd_t (inb_nI hi (by decide)), gd_t (inb_nI hk (by decide)), e35, nI_clamp (show i < 2 ^ 31 by omega), nI_clamp (show k < 2 ^ 31 by omega), sa_mc, sa_mc, mc_mc, mc_mc, e35, m2_mc, if_pos rfl, nI_clamp (show i < 2 ^ 31 by omega), nI_clamp (show k < 2 ^ 31 by omega)]
theorem nI_dec {k : Nat} (h : 0 < k) : nI k + (-1 : Int32) = nI (k - 1) := by
  rw [← Int32.sub_eq_add_neg]
  exact z_sub (b := 1) h
theorem tu71 {σ : MS} : ∀ f a b fuel D l, b ≤ a + 2 * f → f < fuel → a < 6 → b < 6 → DL D l → ∃ D', FM_turns_71 fuel (nI a) (nI b) (mc σ 35 D) = some (1, mc σ 35 D') ∧ DL D' (nx3 f l a b) := by
  intro f
  induction f with
  | zero =>
    intro a b fuel D l hab hf ha hb hD
    obtain ⟨f1, rfl⟩ : ∃ f, fuel = f + 1 := ⟨fuel - 1, by omega⟩
    exact ⟨D, by rw [FM_turns_71, if_pos (nI_le (by omega) (by omega))], hD⟩
  | succ f ih =>
    intro a b fuel D l hab hf ha hb hD
    obtain ⟨f1, rfl⟩ : ∃ f, fuel = f + 1 := ⟨fuel - 1, by omega⟩
    unfold nx3
    by_cases c : b ≤ a
    · rw [if_pos c]
      exact ⟨D, by rw [FM_turns_71, if_pos (nI_le c (by omega))], hD⟩
    · rw [if_neg c]
      obtain ⟨D', z1, z2⟩ := ih (a + 1) (b - 1) f1 _ _ (by omega) (by omega) (by omega) (by omega) (DL_sw hD ha hb)
      refine ⟨D', ?_, z2⟩
      rw [FM_turns_71, if_neg (nI_ge (by omega) (by omega)), swap_e ha hb, sb, nI_1, nI_dec (by omega)]
      exact z1
theorem tu37 {σ : MS} {D : Nat → Int32} {l : List Nat} {i : Nat} {K : Int32 → MS → Option (Int32 × MS)} (hD : DL D l) (hl : ∀ j, j < 6 → l.getD j 0 < 6) (hi : i < 6) : ∀ k fuel, k < 6 → k < fuel → 0 < nx2 l i k → FM_turns_37 K (nI i) fuel (nI k) (mc σ 35 D) = K (nI (nx2 l i k)) (mc σ 35 D) := by
  have e35 : (mc σ 35 D).2 35 = D := by rw [m2_mc, if_pos rfl]
  intro k
  induction k with
  | zero => intro fuel _ _ h; exact absurd h (Nat.lt_irrefl 0)
  | succ k ih =>
    intro fuel hk hf h
    obtain ⟨f1, rfl⟩ : ∃ f, fuel = f + 1 := ⟨fuel - 1, by omega⟩
    unfold nx2 at h ⊢
    have b1 := hl i hi
    have b2 := hl (k + 1) hk
    rw [FM_turns_37, gd_t (inb_nI hk (by decide)), gd_t (inb_nI hi (by decide)), e35, nI_clamp (show i < 2 ^ 31 by omega), nI_clamp (show k + 1 < 2 ^ 31 by omega), hD.2 i hi, hD.2 (k + 1) hk]
    by_cases c : l.getD i 0 ≤ l.getD (k + 1) 0
    · rw [if_pos (nI_le c (by omega)), if_pos c]
    · rw [if_neg c] at h
      rw [if_neg (nI_ge (by omega) (by omega)), if_neg c, nI_dec (by omega)]
      exact ih f1 (by omega) (by omega) h
theorem tu2 {σ : MS} {D : Nat → Int32} {l : List Nat} {K : Int32 → MS → Option (Int32 × MS)} (hD : DL D l) (hl : ∀ j, j < 6 → l.getD j 0 < 6) : ∀ i fuel, i < 5 → i + 1 < fuel → FM_turns_2 K fuel (nI i) (mc σ 35 D) = K (match nx1 l (i + 1) with | none => -1 | some j => nI j) (mc σ 35 D) := by
  have e35 : (mc σ 35 D).2 35 = D := by rw [m2_mc, if_pos rfl]
  have st : ∀ i fuel, i < 5 → FM_turns_2 K (fuel + 1) (nI i) (mc σ 35 D) = if l.getD i 0 ≤ l.getD (i + 1) 0 then K (nI i) (mc σ 35 D) else FM_turns_2 K fuel (nI i + (-1)) (mc σ 35 D) := fun i fuel hi => by
    have b1 := hl i (by omega)
    have b2 := hl (i + 1) (by omega)
    have n0 : ¬ nI i < 0 := nI_pos (by omega)
    rw [FM_turns_2, if_neg n0, gd_t (inb_nI (show i < 6 by omega) (by decide)), nI_1, gd_t (inb_nI (show i + 1 < 6 by omega) (by decide)), e35, nI_clamp (show i < 2 ^ 31 by omega), nI_clamp (show i + 1 < 2 ^ 31 by omega), hD.2 i (by omega), hD.2 (i + 1) (by omega)]
    by_cases c : l.getD i 0 ≤ l.getD (i + 1) 0
    · rw [if_pos (nI_le c (by omega)), if_pos c]
    · rw [if_neg (nI_ge (by omega) (by omega)), if_neg c]
  intro i
  induction i with
  | zero =>
    intro fuel hi hf
    obtain ⟨f1, rfl⟩ : ∃ f, fuel = f + 1 := ⟨fuel - 1, by omega⟩
    obtain ⟨f2, rfl⟩ : ∃ f, f1 = f + 1 := ⟨f1 - 1, by omega⟩
    rw [st 0 (f2 + 1) (by omega)]
    unfold nx1
    by_cases c : l.getD 0 0 ≤ l.getD (0 + 1) 0
    · rw [if_pos c, if_pos c]
    · rw [if_neg c, if_neg c, show nI 0 + (-1 : Int32) = -1 from by decide, FM_turns_2, if_pos (by decide)]
      rfl
  | succ i ih =>
    intro fuel hi hf
    obtain ⟨f1, rfl⟩ : ∃ f, fuel = f + 1 := ⟨fuel - 1, by omega⟩
    rw [st (i + 1) f1 (by omega)]
    unfold nx1
    by_cases c : l.getD (i + 1) 0 ≤ l.getD (i + 1 + 1) 0
    · rw [if_pos c, if_pos c]
    · rw [if_neg c, if_neg c, nI_dec (by omega), Nat.add_sub_cancel]
      exact ih f1 (by omega) (by omega)
theorem gdL_e {l : List Nat} (h : gdL l = true) : l.length = 6 ∧ cdL l < 46656 ∧ mR_ (cdL l) 6 = 63 ∧ (∀ k, k < 6 → dgN (cdL l) k = l.getD k 0) ∧ ∀ i, nx1 l 5 = some i → i < 5 ∧ i < nx2 l i 5 := by
  unfold gdL at h
  simp only [Bool.and_eq_true, decide_eq_true_iff] at h
  obtain ⟨⟨⟨⟨h1, h2⟩, h3⟩, h4⟩, h5⟩ := h
  refine ⟨h1, h2, h3, fun k hk => ?_, fun i hi => ?_⟩
  · have := List.all_eq_true.mp h4 k (List.mem_range.mpr hk)
    exact of_decide_eq_true this
  · rw [hi] at h5
    simp only [Bool.and_eq_true, decide_eq_true_iff] at h5
    exact ⟨h5.1.1, h5.1.2⟩
theorem nx2_le (l : List Nat) (i : Nat) : ∀ k, nx2 l i k ≤ k
  | 0 => Nat.le_refl _
  | k + 1 => by
    unfold nx2
    split
    · exact Nat.le_refl _
    · exact Nat.le_succ_of_le (nx2_le l i k)
theorem turns_e {σ : MS} {D : Nat → Int32} {l : List Nat} (hD : DL D l) (hg : gdL l = true) : (nxP l = none ∧ FM_turns (mc σ 35 D) = some (0, mc σ 35 D)) ∨ ∃ l2 D2, nxP l = some l2 ∧ FM_turns (mc σ 35 D) = some (1, mc σ 35 D2) ∧ DL D2 l2 := by
  have hfu := fu_pos
  obtain ⟨g1, g2, g3, g4, g5⟩ := gdL_e hg
  have hl : ∀ j, j < 6 → l.getD j 0 < 6 := fun j hj => by rw [← g4 j hj]; exact dg_lt _ _
  have e0 := tu2 (σ := σ) (K := fun x1_29 σ_29 => FM_turns_29 x1_29 σ_29) hD hl 4 fu (by omega) (by omega)
  have e1 : FM_turns (mc σ 35 D) = FM_turns_29 (match nx1 l (4 + 1) with | none => -1 | some j => nI j) (mc σ 35 D) := e0
  unfold nxP
  cases hn : nx1 l 5 with
  | none =>
    left
    refine ⟨rfl, ?_⟩
    rw [e1, show nx1 l (4 + 1) = none from hn]
    unfold FM_turns_29
    rw [if_neg (by decide)]
  | some i =>
    right
    obtain ⟨h1, h2⟩ := g5 i hn
    have h3 := nx2_le l i 5
    obtain ⟨D2, z1, z2⟩ := tu71 (σ := σ) 4 (i + 1) 5 fu _ _ (by omega) (by omega) (by omega) (by omega) (DL_sw hD (show i < 6 by omega) (show nx2 l i 5 < 6 by omega))
    refine ⟨_, D2, rfl, ?_, z2⟩
    rw [e1, show nx1 l (4 + 1) = some i from hn]
    unfold FM_turns_29
    show (if 0 ≤ nI i then _ else _) = _
    have n0 : (0 : Int32) ≤ nI i := nI_le (a := 0) (Nat.zero_le _) (by omega)
    rw [if_pos n0]
    refine Eq.trans (tu37 (K := fun x2_58 σ_58 => FM_turns_58 (nI i) x2_58 σ_58) hD hl (show i < 6 by omega) 5 fu (by omega) (by omega) (by omega)) ?_
    unfold FM_turns_58
    rw [swap_e (by omega) (by omega), sb, nI_1]
    exact z1
