theorem clause_e {σ : RS} {μ : MS} {W : Nat → Int32} {a n T : Nat} {bt : Nat → Int32} (hR : RB σ T bt) (h : MB μ T bt) (ha : a ≤ T) (hn : n < 6) : ∃ k fl W', k ≤ T ∧ (∀ j, j < 3 * n → W' j = W j) ∧ FM_clauseRead (pz μ W (nI a) 0) (nI n) = some (pz μ W' (nI k) fl) ∧ ((fl = 1 ∧ FR_X5_readClause (ri σ 501 (nI a)) = some (-1, ri σ 501 (nI k))) ∨ (fl = 0 ∧ ∃ w sg nn, w < 6 ∧ sg < 3 ∧ nn < 100 ∧ W' (3 * n) = nI w ∧ W' (3 * n + 1) = nI (60 + sg) ∧ W' (3 * n + 2) = nI nn ∧ FR_X5_readClause (ri σ 501 (nI a)) = some (nI ((w * 3 + sg) * 100 + nn), ri σ 501 (nI k)))) := by
  have hT := h.2.1
  obtain ⟨w, w1, w2, w3⟩ := what_e (W := W) h (show a ≤ 200 by omega)
  have w4 := word_R hR (show a ≤ 200 by omega) w1 w3
  have hk1 := sm_T h (wdN w) a (wd_256 w w1) ha
  unfold FM_clauseRead FR_X5_readClause
  rw [w2, w4, sb, i_3n, gd_t (inb_nI (show 3 * n < 18 by omega) (by decide))]
  dsimp only
  unfold eS
  rw [pz_sa _ _ _ _ (show 3 * n < 18 by omega), here_e (pz_B h _ _ _) (k := a + sm bt (wdN w) a) (by omega) (pz_38 _ _ _ _), sb, pz_39]
  generalize a + sm bt (wdN w) a = k1 at hk1
  have u1 : ∀ v j, j < 3 * n → upd W (3 * n) v j = W j := fun v j hj => upd_n (by omega)
  by_cases cw : sm bt (wdN w) a = (wdN w).length
  · rw [if_pos cw, if_pos cw, if_pos rfl, sb, if_neg (show ¬ nI w = (-1 : Int32) from fun z => z_m1' (a := w) (by omega) z.symm)]
    dsimp only
    rcases sign_c hR (k := k1) (by omega) with ⟨sg, s1, s2, s3, s4⟩ | ⟨s1, s2, s3, s4⟩
    · have e42 : ∀ X : MS, (if bt k1 = (60 : Int32) then FM_clauseRead_42 (nI n) (bt k1) X else if bt k1 = (61 : Int32) then FM_clauseRead_42 (nI n) (bt k1) X else if bt k1 = (62 : Int32) then FM_clauseRead_42 (nI n) (bt k1) X else FM_clauseRead_55 (nI n) (bt k1) X) = FM_clauseRead_42 (nI n) (nI (60 + sg)) X := fun X => by
        rw [s2]
        rcases (show sg = 0 ∨ sg = 1 ∨ sg = 2 by omega) with rfl | rfl | rfl
        · rw [if_pos (show nI (60 + 0) = 60 from rfl)]
        · rw [if_neg (show ¬ nI (60 + 1) = 60 by decide), if_pos (show nI (60 + 1) = 61 from rfl)]
        · rw [if_neg (show ¬ nI (60 + 2) = 60 by decide), if_neg (show ¬ nI (60 + 2) = 61 by decide), if_pos (show nI (60 + 2) = 62 from rfl)]
      rw [e42, s4, sb, if_neg (show ¬ nI sg = (-1 : Int32) from fun z => z_m1' (a := sg) (by omega) z.symm)]
      unfold FM_clauseRead_42
      rw [pz_38, pz_s38, nI_1]
      dsimp only
      rcases num_e (W := upd W (3 * n) (nI w)) (v := nI (60 + sg)) hR h (show k1 + 1 ≤ 150 by omega) hn with ⟨nn, k', n1, n2, n3, n4, n5⟩ | ⟨n4, n5⟩
      · rw [n4, n5, sb, if_neg (show ¬ nI nn = (-1 : Int32) from fun z => z_m1' (a := nn) (by omega) z.symm)]
        refine ⟨k', 0, _, n3, fun j hj => ?_, rfl, Or.inr ⟨rfl, w, sg, nn, w1, s1, n1, ?_, ?_, ?_, ?_⟩⟩
        · rw [upd_n (by omega), upd_n (by omega), upd_n (by omega)]
        · rw [upd_n (by omega), upd_n (by omega), upd_s]
        · rw [upd_n (by omega), upd_s]
        · rw [upd_s]
        · show some ((nI w * (3 : Int32) + nI sg) * (100 : Int32) + nI nn, ri σ 501 (nI k')) = _
          rw [show nI w * (3 : Int32) = nI (w * 3) from pk_mul w 3, nI_add, show nI (w * 3 + sg) * (100 : Int32) = nI ((w * 3 + sg) * 100) from pk_mul (w * 3 + sg) 100, nI_add]
      · rw [n4, n5, sb, if_pos rfl]
        refine ⟨k1 + 1, 1, _, by omega, fun j hj => ?_, rfl, Or.inl ⟨rfl, rfl⟩⟩
        rw [upd_n (by omega), upd_n (by omega)]
    · rw [if_neg s1, if_neg s2, if_neg s3, s4, sb, if_pos rfl]
      unfold FM_clauseRead_55
      rw [pz_s39, cl60_1 h (by omega) hn]
      refine ⟨k1, 1, _, hk1, fun j hj => ?_, rfl, Or.inl ⟨rfl, rfl⟩⟩
      rw [upd_n (by omega), upd_n (by omega)]
  · rw [if_neg cw, if_neg cw, if_neg (show ¬ (1 : Int32) = 0 by decide), sb, if_pos rfl]
    unfold FM_clauseRead_55
    rw [pz_s39, cl60_1 h (by omega) hn]
    refine ⟨k1, 1, _, hk1, fun j hj => ?_, rfl, Or.inl ⟨rfl, rfl⟩⟩
    rw [upd_n (by omega), upd_n (by omega)]
/-- the class's reader: its clauses, its place -/
def rz (σ : RS) (C : Nat → Int32) (k : Nat) : RS := ri (rc σ 500 C) 501 (nI k)
theorem rz_C (σ : RS) (C : Nat → Int32) (k : Nat) : rA (rz σ C k) 500 = C := by
  show rA (rc σ 500 C) 500 = C
  rw [rA_rc, if_pos rfl]
theorem rz_ra (σ : RS) (C : Nat → Int32) (k : Nat) {n : Nat} (hn : n < 6) (v : Int32) : ra (rz σ C k) 500 (nI n) v = rz σ (upd C n v) k := by
  rw [ra_rc, rz_C, nI_clamp (by omega)]
  show ri (rc (rc σ 500 C) 500 _) 501 (nI k) = _
  rw [rc_rc]
  rfl
theorem rz_k (σ : RS) (C : Nat → Int32) (k : Nat) : rI (rz σ C k) 501 = nI k := ri_501 _ _
theorem rz_ri (σ : RS) (C : Nat → Int32) (k k' : Nat) : ri (rz σ C k) 501 (nI k') = rz σ C k' := ri_ri _ _ _ _
theorem rz_T {σ : RS} {T : Nat} {bt : Nat → Int32} (h : RB σ T bt) (C : Nat → Int32) (k : Nat) : rI (rz σ C k) 801 = nI T := h.1
theorem rz_B {σ : RS} {T : Nat} {bt : Nat → Int32} (h : RB σ T bt) (C : Nat → Int32) : RB (rc σ 500 C) T bt := h
def clOk (C W : Nat → Int32) (t : Nat) : Prop := ∃ w sg nn, w < 6 ∧ sg < 3 ∧ nn < 100 ∧ C t = nI ((w * 3 + sg) * 100 + nn) ∧ W (3 * t) = nI w ∧ W (3 * t + 1) = nI (60 + sg) ∧ W (3 * t + 2) = nI nn
theorem r23_1 {K : Int32 → MS → Option (Int32 × MS)} {x1 x2 k : Int32} {f : Nat} {μ : MS} {W : Nat → Int32} (hf : 0 < f) : FM_rules_23 K x1 f x2 (pz μ W k 1) = K x2 (pz μ W k 1) := by
  obtain ⟨f1, rfl⟩ : ∃ g, f = g + 1 := ⟨f - 1, by omega⟩
  rw [FM_rules_23, pz_39, if_neg (show ¬ (1 : Int32) = 0 by decide)]
theorem rf_step {σ X : RS} {T k n f1 : Nat} {v : Int32} {bt C : Nat → Int32} (hR : RB σ T bt) (hk : k ≤ 200) (hn : n < 6) (hc : FR_X5_readClause X = some (v, rz σ C k)) : FR_X5_readFrom_7 (f1 + 1) (nI n) X = if v = -1 then some (-10 - nI k, rz σ (upd C n v) k) else if k = T then some (nI (n + 1), rz σ (upd C n v) k) else if bt k = 59 then (if n = 5 then some (-10 - nI k, rz σ (upd C n v) k) else FR_X5_readFrom_7 f1 (nI (n + 1)) (rz σ (upd C n v) (k + 1))) else some (-10 - nI k, rz σ (upd C n v) k) := by
  have hT := hR.2.1
  have hle : ¬ (6 : Int32) ≤ nI n := nI_ge (b := 6) (by omega) (by decide)
  have hin := inb_nI hn (show 6 < 2 ^ 31 by decide)
  rw [FR_X5_readFrom_7, if_neg hle, hc, sb, gd_t hin, gd_t hin]
  dsimp only
  rw [rz_ra _ _ _ hn, rz_C, nI_clamp (by omega), upd_s]
  by_cases hv : v = -1
  · rw [if_pos hv, if_pos hv, rz_k]
  · rw [if_neg hv, if_neg hv, rz_k, rz_T hR, nI_1]
    by_cases ck : k = T
    · rw [if_pos (by rw [ck]), if_pos ck]
    · rw [if_neg (fun z => ck ((nI_eq (by omega) (by omega)).mp z)), if_neg ck, show FR_X8_byteAt (rz σ (upd C n v) k) (nI k) = _ from byteAt_e ((rz_B hR _).ri _) (k := k) (by omega), sb]
      by_cases c : bt k = 59
      · rw [if_pos c, if_pos c, nI_1, rz_ri]
        by_cases c5 : n = 5
        · rw [if_pos (show nI n = (5 : Int32) by rw [c5]; rfl), if_pos c5]
        · rw [if_neg (show ¬ nI n = (5 : Int32) from fun z => c5 ((nI_eq (b := 5) (by omega) (by decide)).mp z)), if_neg c5]
      · rw [if_neg c, if_neg c]
theorem r69 {K : Int32 → MS → Option (Int32 × MS)} {x1 : Int32} {f2 n : Nat} {μ : MS} {W W' : Nat → Int32} {a k fl : Int32} (k3 : FM_clauseRead (pz μ W a 0) (nI n) = some (pz μ W' k fl)) : FM_rules_69 (fun x2 σ2 => FM_rules_23 K x1 f2 x2 σ2) x1 (nI n) (pz μ W a 0) = FM_rules_23 K x1 f2 (nI (n + 1)) (pz μ W' k fl) := by
  unfold FM_rules_69
  rw [pz_39, if_pos rfl, k3, sb, nI_1]
theorem r23_T {K : Int32 → MS → Option (Int32 × MS)} {x1 : Int32} {f2 n T : Nat} {μ : MS} {W : Nat → Int32} {bt : Nat → Int32} (h : MB μ T bt) (hn : n < 6) : FM_rules_23 K x1 (f2 + 1) (nI (n + 1)) (pz μ W (nI T) 0) = K (nI (n + 1)) (pz μ W (nI T) 0) := by
  have hT := h.2.1
  rw [FM_rules_23, pz_39, if_pos rfl, if_neg (show ¬ nI (n + 1) = 0 from fun z => by have := (nI_eq (b := 0) (by omega) (by decide)).mp z; omega), show (pz μ W (nI T) 0).1 31 = nI T from (pz_B h _ _ _).1, pz_38, if_pos (nI_le (Nat.le_refl _) (by omega))]
theorem r23_k {K : Int32 → MS → Option (Int32 × MS)} {x1 : Int32} {f2 n T k : Nat} {μ : MS} {W : Nat → Int32} {bt : Nat → Int32} (h : MB μ T bt) (hn : n < 6) (hk : k < T) : FM_rules_23 K x1 (f2 + 1) (nI (n + 1)) (pz μ W (nI k) 0) = FM_rules_45 (fun x2 σ2 => FM_rules_23 K x1 f2 x2 σ2) x1 (nI (n + 1)) (pz μ W (nI k) 0) := by
  have hT := h.2.1
  rw [FM_rules_23, pz_39, if_pos rfl, if_neg (show ¬ nI (n + 1) = 0 from fun z => by have := (nI_eq (b := 0) (by omega) (by decide)).mp z; omega), show (pz μ W (nI k) 0).1 31 = nI T from (pz_B h _ _ _).1, pz_38, if_neg (nI_ge (by omega) (by omega))]
theorem eat59 {μ : MS} {W : Nat → Int32} {bt : Nat → Int32} {T k : Nat} (h : MB μ T bt) (hk : k ≤ 200) : FM_eats (pz μ W (nI k) 0) 59 = some (if bt k = 59 then pz μ W (nI (k + 1)) 0 else pz μ W (nI k) 1) := by
  have eE := eats_e (W := W) (cs := []) (k := k) (c := 59) h hk (by decide)
  rw [eS_0] at eE
  refine Eq.trans eE (congrArg some ?_)
  unfold eS
  show pz μ W (nI (k + sm bt [59] k)) (if sm bt [59] k = 1 then 0 else 1) = _
  by_cases c : bt k = 59
  · have e1 : sm bt [59] k = 1 := by rw [sm_c, if_pos (show bt k = nI 59 from c)]; rfl
    rw [if_pos c, e1, if_pos rfl]
  · have e1 : sm bt [59] k = 0 := by rw [sm_c, if_neg (show ¬ bt k = nI 59 from c)]
    rw [if_neg c, e1, if_neg (by decide)]
    rfl
theorem clOk_s {C W W' : Nat → Int32} {n w sg nn : Nat} (k2 : ∀ j, j < 3 * n → W' j = W j) (w1 : w < 6) (w2 : sg < 3) (w3 : nn < 100) (w4 : W' (3 * n) = nI w) (w5 : W' (3 * n + 1) = nI (60 + sg)) (w6 : W' (3 * n + 2) = nI nn) (hok : ∀ t, t < n → clOk C W t) : ∀ t, t < n + 1 → clOk (upd C n (nI ((w * 3 + sg) * 100 + nn))) W' t := fun t ht => by
  by_cases c : t = n
  · subst c
    exact ⟨w, sg, nn, w1, w2, w3, upd_s _ _ _, w4, w5, w6⟩
  · obtain ⟨w, sg, nn, z1, z2, z3, z4, z5, z6, z7⟩ := hok t (by omega)
    exact ⟨w, sg, nn, z1, z2, z3, (upd_n c).trans z4, (k2 _ (by omega)).trans z5, (k2 _ (by omega)).trans z6, (k2 _ (by omega)).trans z7⟩
theorem rulesL {σ : RS} {μ : MS} {T : Nat} {bt : Nat → Int32} {x1 : Int32} {K : Int32 → MS → Option (Int32 × MS)} (hR : RB σ T bt) (h : MB μ T bt) : ∀ d n fuel fuel' C W a, n + d = 5 → d + 1 < fuel → d + 2 < fuel' → a ≤ T → (∀ t, t < n → clOk C W t) →
    (∃ k C' W' y, k ≤ T ∧ FR_X5_readFrom_7 fuel (nI n) (rz σ C a) = some (-10 - nI k, rz σ C' k) ∧ FM_rules_69 (fun x2 σ2 => FM_rules_23 K x1 fuel' x2 σ2) x1 (nI n) (pz μ W (nI a) 0) = K y (pz μ W' (nI k) 1)) ∨
    (∃ m C' W', 1 ≤ m ∧ m ≤ 6 ∧ (∀ t, t < m → clOk C' W' t) ∧ FR_X5_readFrom_7 fuel (nI n) (rz σ C a) = some (nI m, rz σ C' T) ∧ FM_rules_69 (fun x2 σ2 => FM_rules_23 K x1 fuel' x2 σ2) x1 (nI n) (pz μ W (nI a) 0) = K (nI m) (pz μ W' (nI T) 0)) := by
  have hT := h.2.1
  intro d
  induction d with
  | zero =>
    intro n fuel fuel' C W a hnd hf hf' ha hok
    obtain ⟨f1, rfl⟩ : ∃ g, fuel = g + 1 := ⟨fuel - 1, by omega⟩
    obtain ⟨f2, rfl⟩ : ∃ g, fuel' = g + 1 := ⟨fuel' - 1, by omega⟩
    have hn : n = 5 := by omega
    obtain ⟨k, fl, W', k1, k2, k3, k4⟩ := clause_e (W := W) (rz_B hR C) h ha (show n < 6 by omega)
    rw [r69 k3]
    rcases k4 with ⟨rfl, k5⟩ | ⟨rfl, w, sg, nn, w1, w2, w3, w4, w5, w6, k5⟩
    · left
      have hS := rf_step (f1 := f1) hR (show k ≤ 200 by omega) (show n < 6 by omega) (show FR_X5_readClause (rz σ C a) = some (-1, rz σ C k) from k5)
      rw [if_pos rfl] at hS
      exact ⟨k, _, W', _, k1, hS, r23_1 (by omega)⟩
    · have hv : ¬ nI ((w * 3 + sg) * 100 + nn) = -1 := fun z => z_m1' (a := (w * 3 + sg) * 100 + nn) (by omega) z.symm
      have hS := rf_step (f1 := f1) hR (show k ≤ 200 by omega) (show n < 6 by omega) (show FR_X5_readClause (rz σ C a) = some (nI ((w * 3 + sg) * 100 + nn), rz σ C k) from k5)
      rw [if_neg hv, if_pos hn] at hS
      by_cases ck : k = T
      · subst ck
        right
        rw [if_pos rfl] at hS
        exact ⟨n + 1, _, W', by omega, by omega, clOk_s k2 w1 w2 w3 w4 w5 w6 hok, hS, r23_T h (by omega)⟩
      · left
        rw [if_neg ck] at hS
        refine ⟨k, _, W', nI (n + 1), k1, hS.trans (ite_self _), ?_⟩
        rw [r23_k h (by omega) (by omega)]
        unfold FM_rules_45
        rw [if_pos (show nI (n + 1) = 6 by rw [hn]; rfl), pz_s39]
        exact r23_1 (by omega)
  | succ d ih =>
    intro n fuel fuel' C W a hnd hf hf' ha hok
    obtain ⟨f1, rfl⟩ : ∃ g, fuel = g + 1 := ⟨fuel - 1, by omega⟩
    obtain ⟨f2, rfl⟩ : ∃ g, fuel' = g + 1 := ⟨fuel' - 1, by omega⟩
    have hn : n < 5 := by omega
    obtain ⟨k, fl, W', k1, k2, k3, k4⟩ := clause_e (W := W) (rz_B hR C) h ha (show n < 6 by omega)
    rw [r69 k3]
    rcases k4 with ⟨rfl, k5⟩ | ⟨rfl, w, sg, nn, w1, w2, w3, w4, w5, w6, k5⟩
    · left
      have hS := rf_step (f1 := f1) hR (show k ≤ 200 by omega) (show n < 6 by omega) (show FR_X5_readClause (rz σ C a) = some (-1, rz σ C k) from k5)
      rw [if_pos rfl] at hS
      exact ⟨k, _, W', _, k1, hS, r23_1 (by omega)⟩
    · have hv : ¬ nI ((w * 3 + sg) * 100 + nn) = -1 := fun z => z_m1' (a := (w * 3 + sg) * 100 + nn) (by omega) z.symm
      have hS := rf_step (f1 := f1) hR (show k ≤ 200 by omega) (show n < 6 by omega) (show FR_X5_readClause (rz σ C a) = some (nI ((w * 3 + sg) * 100 + nn), rz σ C k) from k5)
      rw [if_neg hv, if_neg (show ¬ n = 5 by omega)] at hS
      have hok' := clOk_s k2 w1 w2 w3 w4 w5 w6 hok
      by_cases ck : k = T
      · subst ck
        right
        rw [if_pos rfl] at hS
        exact ⟨n + 1, _, W', by omega, by omega, hok', hS, r23_T h (by omega)⟩
      · rw [if_neg ck] at hS
        have e45 : FM_rules_23 K x1 (f2 + 1) (nI (n + 1)) (pz μ W' (nI k) 0) = FM_rules_69 (fun x2 σ2 => FM_rules_23 K x1 f2 x2 σ2) x1 (nI (n + 1)) (if bt k = 59 then pz μ W' (nI (k + 1)) 0 else pz μ W' (nI k) 1) := by
          rw [r23_k h (by omega) (by omega)]
          unfold FM_rules_45
          rw [if_neg (show ¬ nI (n + 1) = 6 from fun z => by have := (nI_eq (b := 6) (by omega) (by decide)).mp z; omega), if_neg (show ¬ nI (n + 1) ≤ 0 from nI_ge (a := 0) (by omega) (by omega)), eat59 h (by omega), sb]
        rw [e45, hS]
        by_cases c : bt k = 59
        · rw [if_pos c, if_pos c]
          exact ih (n + 1) f1 f2 _ W' (k + 1) (by omega) (by omega) (by omega) (bt_lt h (c := 59) (by decide) c) hok'
        · rw [if_neg c, if_neg c]
          left
          refine ⟨k, _, W', nI (n + 1) + 1, k1, rfl, ?_⟩
          unfold FM_rules_69
          rw [pz_39, if_neg (show ¬ (1 : Int32) = 0 by decide)]
          exact r23_1 (by omega)
