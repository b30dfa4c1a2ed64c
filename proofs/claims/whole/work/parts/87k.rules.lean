/-! rules: two readers of one text -/
def RB (σ : RS) (T : Nat) (bt : Nat → Int32) : Prop := rI σ 801 = nI T ∧ T ≤ 130 ∧ (∀ k, k < T → rA σ 800 k = bt k ∧ ∃ b, b < 256 ∧ bt k = nI b) ∧ ∀ k, T ≤ k → bt k = -1
def MB (σ : MS) (T : Nat) (bt : Nat → Int32) : Prop := σ.1 31 = nI T ∧ T ≤ 130 ∧ (∀ k, k < T → σ.2 30 k = bt k) ∧ ∀ k, T ≤ k → bt k = -1
theorem byteAt_e {σ : RS} {T k : Nat} {bt : Nat → Int32} (h : RB σ T bt) (hk : k < 1000) : FR_X8_byteAt σ (nI k) = some (bt k) := by
  obtain ⟨h1, h2, h3, h4⟩ := h
  unfold FR_X8_byteAt
  have n1 : ¬ nI k < 0 := nI_pos (by omega)
  rw [if_neg n1, h1]
  by_cases c : k < T
  · rw [if_neg (show ¬ nI T ≤ nI k from nI_ge c (by omega)), gd_t (inb_nI (show k < 130 by omega) (by decide)), nI_clamp (by omega), (h3 k c).1]
  · rw [if_pos (show nI T ≤ nI k from nI_le (by omega) (by omega)), h4 k (by omega)]
theorem here_e {σ : MS} {T k : Nat} {bt : Nat → Int32} (h : MB σ T bt) (hk : k < 1000) (h38 : σ.1 38 = nI k) : FM_here σ = some (bt k) := by
  obtain ⟨h1, h2, h3, h4⟩ := h
  unfold FM_here
  rw [h1, h38]
  by_cases c : k < T
  · rw [if_neg (show ¬ nI T ≤ nI k from nI_ge c (by omega)), gd_t (inb_nI (show k < 130 by omega) (by decide)), nI_clamp (by omega), h3 k c]
  · rw [if_pos (show nI T ≤ nI k from nI_le (by omega) (by omega)), h4 k (by omega)]
theorem bt_lt {σ : MS} {T k c : Nat} {bt : Nat → Int32} (h : MB σ T bt) (hc : c < 256) (hk : bt k = nI c) : k < T := by
  refine Decidable.byContradiction (fun n => ?_)
  rw [h.2.2.2 k (by omega)] at hk
  exact z_m1' (a := c) (by omega) hk
/-- how many of the letters stand there -/
def sm (bt : Nat → Int32) : List Nat → Nat → Nat
  | [], _ => 0
  | c :: cs, k => if bt k = nI c then 1 + sm bt cs (k + 1) else 0
theorem sm_le (bt : Nat → Int32) : ∀ cs k, sm bt cs k ≤ cs.length
  | [], _ => Nat.le_refl _
  | c :: cs, k => by
    have := sm_le bt cs (k + 1)
    unfold sm
    rw [List.length_cons]
    split <;> omega
theorem sm_T {σ : MS} {T : Nat} {bt : Nat → Int32} (h : MB σ T bt) : ∀ cs k, (∀ c, c ∈ cs → c < 256) → k ≤ T → k + sm bt cs k ≤ T
  | [], _, _, hk => hk
  | c :: cs, k, hc, hk => by
    unfold sm
    by_cases e : bt k = nI c
    · have h1 := bt_lt h (hc c (List.mem_cons_self)) e
      have := sm_T h cs (k + 1) (fun d hd => hc d (List.mem_cons_of_mem _ hd)) (by omega)
      rw [if_pos e]
      omega
    · rw [if_neg e]
      exact hk
theorem sm_app (bt : Nat → Int32) : ∀ cs c k, sm bt (cs ++ [c]) k = if sm bt cs k = cs.length then (if bt (k + cs.length) = nI c then cs.length + 1 else cs.length) else sm bt cs k
  | [], c, k => by
    show (if bt k = nI c then 1 + 0 else 0) = if sm bt [] k = ([] : List Nat).length then (if bt (k + 0) = nI c then 0 + 1 else 0) else sm bt [] k
    rw [if_pos (show sm bt [] k = ([] : List Nat).length from rfl), Nat.add_zero, Nat.add_zero]
  | d :: cs, c, k => by
    have ih := sm_app bt cs c (k + 1)
    show (if bt k = nI d then 1 + sm bt (cs ++ [c]) (k + 1) else 0) = _
    rw [show sm bt (d :: cs) k = (if bt k = nI d then 1 + sm bt cs (k + 1) else 0) from rfl, List.length_cons, ih]
    by_cases e : bt k = nI d
    · rw [if_pos e, if_pos e]
      by_cases e2 : sm bt cs (k + 1) = cs.length
      · rw [if_pos e2, if_pos (show 1 + sm bt cs (k + 1) = cs.length + 1 by omega), show k + 1 + cs.length = k + (cs.length + 1) by omega]
        by_cases e3 : bt (k + (cs.length + 1)) = nI c
        · rw [if_pos e3, if_pos e3]; omega
        · rw [if_neg e3, if_neg e3]; omega
      · rw [if_neg e2, if_neg (show ¬ 1 + sm bt cs (k + 1) = cs.length + 1 by omega)]
    · rw [if_neg e, if_neg e, if_neg (show ¬ 0 = cs.length + 1 by omega)]
def wdN : Nat → List Nat
  | 0 => [115, 101, 97, 115, 111, 110]
  | 1 => [97, 103, 101]
  | 2 => [114, 97, 110, 107]
  | 3 => [99, 111, 108, 111, 117, 114]
  | 4 => [108, 105, 110, 101, 100]
  | _ => [115, 108, 101, 101, 118, 101]
theorem wd_len : ∀ i, i < 6 → FR_len i = some (nI (wdN i).length) := by decide +kernel
theorem wd_chr : ∀ i, i < 6 → ∀ j, j < (wdN i).length → FR_chr i (nI j) = some (nI ((wdN i).getD j 0)) := by decide +kernel
theorem wd_6 : ∀ i, i < 6 → (wdN i).length ≤ 6 := by decide
theorem wd_256 : ∀ i, i < 6 → ∀ c, c ∈ wdN i → c < 256 := by decide
theorem wd_of (σ : RS) : ∀ i, i < 6 → FR_X5_wordOf σ (nI i) = some i := by
  intro i hi
  unfold FR_X5_wordOf
  rcases (show i = 0 ∨ i = 1 ∨ i = 2 ∨ i = 3 ∨ i = 4 ∨ i = 5 by omega) with rfl | rfl | rfl | rfl | rfl | rfl <;> rfl
theorem same2 {σ : RS} {T a i : Nat} {bt : Nat → Int32} (h : RB σ T bt) (ha : a ≤ 200) (h5 : rI σ 501 = nI a) (hi : i < 6) : ∀ cs pre fuel, wdN i = pre ++ cs → cs.length < fuel → FR_X5_sameAs_2 σ i fuel (nI pre.length) = some (nI (pre.length + sm bt cs (a + pre.length)))
  | [], pre, fuel, hw, hf => by
    obtain ⟨f1, rfl⟩ : ∃ f, fuel = f + 1 := ⟨fuel - 1, by omega⟩
    have hl : (wdN i).length = pre.length := by rw [hw, List.append_nil]
    have h6 := wd_6 i hi
    rw [FR_X5_sameAs_2, wd_len i hi, sb, hl, if_pos (nI_le (Nat.le_refl _) (by omega))]
    rfl
  | c :: cs, pre, fuel, hw, hf => by
    rw [List.length_cons] at hf
    obtain ⟨f1, rfl⟩ : ∃ f, fuel = f + 1 := ⟨fuel - 1, by omega⟩
    have hl : (wdN i).length = pre.length + (cs.length + 1) := by rw [hw, List.length_append, List.length_cons]
    have h6 := wd_6 i hi
    have hc : (wdN i).getD pre.length 0 = c := by rw [hw]; simp
    have n1 : ¬ nI (wdN i).length ≤ nI pre.length := nI_ge (by omega) (by omega)
    have ih := same2 h ha h5 hi cs (pre ++ [c]) f1 (by rw [hw, List.append_assoc]; rfl) (by omega)
    rw [FR_X5_sameAs_2, wd_len i hi, sb, if_neg n1, h5, nI_add, byteAt_e h (by omega), sb, wd_chr i hi _ (by omega), sb, hc]
    show (if bt (a + pre.length) = nI c then _ else _) = _
    unfold sm
    by_cases e : bt (a + pre.length) = nI c
    · rw [if_pos e, if_pos e, nI_1]
      rw [List.length_append, show [c].length = 1 from rfl] at ih
      rw [ih, show pre.length + 1 + sm bt cs (a + (pre.length + 1)) = pre.length + (1 + sm bt cs (a + pre.length + 1)) by rw [Nat.add_assoc a]; omega]
    · rw [if_neg e, if_neg e, Nat.add_zero]
theorem same_e {σ : RS} {T a i : Nat} {bt : Nat → Int32} (h : RB σ T bt) (ha : a ≤ 200) (h5 : rI σ 501 = nI a) (hi : i < 6) : FR_X5_sameAs σ i = some (nI (sm bt (wdN i) a)) := by
  have hfu := fu_pos
  have h6 := wd_6 i hi
  have := same2 h ha h5 hi (wdN i) [] fu rfl (by omega)
  rw [show ([] : List Nat).length = 0 from rfl, Nat.zero_add, Nat.add_zero] at this
  exact this
theorem rword {σ : RS} {T a w : Nat} {bt : Nat → Int32} (h : RB σ T bt) (ha : a ≤ 200) (h5 : rI σ 501 = nI a) (hw : w < 6) (ho : ∀ j, j < 6 → j ≠ w → sm bt (wdN j) a ≠ (wdN j).length ∧ sm bt (wdN j) a ≤ sm bt (wdN w) a) {K59 : Int32 → RS → Option (Int32 × RS)} {K33 : Int32 → Int32 → RS → Option (Int32 × RS)} : ∀ d i fuel m, i + d = 6 → d < fuel → m ≤ sm bt (wdN w) a → (w < i → m = sm bt (wdN w) a) → (w < i → sm bt (wdN w) a ≠ (wdN w).length) → FR_X5_readWord_4 K59 K33 fuel (nI m) (nI i) σ = if sm bt (wdN w) a = (wdN w).length then K33 (nI w) (nI (sm bt (wdN w) a)) σ else K59 (nI (sm bt (wdN w) a)) σ := by
  have hsw := sm_le bt (wdN w) a
  have hw6 := wd_6 w hw
  intro d
  induction d with
  | zero =>
    intro i fuel m hi hf h1 h2 h3
    obtain ⟨f1, rfl⟩ : ∃ f, fuel = f + 1 := ⟨fuel - 1, by omega⟩
    have e : i = 6 := by omega
    subst e
    rw [FR_X5_readWord_4, if_pos (show (6 : Int32) ≤ nI 6 by decide), if_neg (h3 hw), h2 hw]
  | succ d ih =>
    intro i fuel m hi hf h1 h2 h3
    obtain ⟨f1, rfl⟩ : ∃ f, fuel = f + 1 := ⟨fuel - 1, by omega⟩
    have hi6 : i < 6 := by omega
    have n1 : ¬ (6 : Int32) ≤ nI i := nI_ge (b := 6) (by omega) (by decide)
    have hsi := sm_le bt (wdN i) a
    have h6 := wd_6 i hi6
    rw [FR_X5_readWord_4, if_neg n1, wd_of σ i hi6, sb, same_e h ha h5 hi6, sb, sb, wd_len i hi6, sb]
    have em : (if nI m < nI (sm bt (wdN i) a) then nI (sm bt (wdN i) a) else nI m) = nI (if m < sm bt (wdN i) a then sm bt (wdN i) a else m) := by
      by_cases c : m < sm bt (wdN i) a
      · rw [if_pos c, if_pos (nI_lt c (by omega))]
      · rw [if_neg c, if_neg (nI_nlt (by omega) (by omega))]
    by_cases ci : i = w
    · subst ci
      by_cases cs : sm bt (wdN i) a = (wdN i).length
      · rw [if_pos (by rw [cs]), if_pos cs]
      · rw [if_neg (fun z => cs ((nI_eq (by omega) (by omega)).mp z)), em, nI_1, if_neg cs, ih (i + 1) f1 _ (by omega) (by omega) (by split <;> omega) (fun _ => by split <;> omega) (fun _ => cs), if_neg cs]
    · obtain ⟨o1, o2⟩ := ho i hi6 ci
      rw [if_neg (fun z => o1 ((nI_eq (by omega) (by omega)).mp z)), em, nI_1, ih (i + 1) f1 _ (by omega) (by omega) (by split <;> omega) (fun z => by
        have := h2 (by omega)
        split <;> omega) (fun z => h3 (by omega))]
/-- the reference's place and fault -/
def pz (μ : MS) (W : Nat → Int32) (k fl : Int32) : MS := mc (si (si μ 38 k) 39 fl) 40 W
theorem si_cm (μ : MS) {j k : Nat} (h : j ≠ k) (v v' : Int32) : si (si μ j v) k v' = si (si μ k v') j v := by
  unfold si va_up
  refine Prod.ext ?_ rfl
  funext i
  show (if i = k then v' else if i = j then v else μ.1 i) = if i = j then v else if i = k then v' else μ.1 i
  by_cases c1 : i = k
  · rw [if_pos c1, if_neg (by omega), if_pos c1]
  · rw [if_neg c1]
    by_cases c2 : i = j
    · rw [if_pos c2, if_pos c2]
    · rw [if_neg c2, if_neg c2, if_neg c1]
theorem pz_38 (μ : MS) (W : Nat → Int32) (k fl : Int32) : (pz μ W k fl).1 38 = k := by
  show (si (si μ 38 k) 39 fl).1 38 = k
  rw [s1_si_n (by decide), s1_si_s]
theorem pz_39 (μ : MS) (W : Nat → Int32) (k fl : Int32) : (pz μ W k fl).1 39 = fl := by
  show (si (si μ 38 k) 39 fl).1 39 = fl
  rw [s1_si_s]
theorem pz_s38 (μ : MS) (W : Nat → Int32) (k fl k' : Int32) : si (pz μ W k fl) 38 k' = pz μ W k' fl := by
  show mc (si (si (si μ 38 k) 39 fl) 38 k') 40 W = _
  rw [si_cm _ (by decide), si_si]
  rfl
theorem pz_s39 (μ : MS) (W : Nat → Int32) (k fl fl' : Int32) : si (pz μ W k fl) 39 fl' = pz μ W k fl' := by
  show mc (si (si (si μ 38 k) 39 fl) 39 fl') 40 W = _
  rw [si_si]
  rfl
theorem pz_sa (μ : MS) (W : Nat → Int32) (k fl : Int32) {i : Nat} (hi : i < 18) (v : Int32) : sa (pz μ W k fl) 40 (nI i) v = pz μ (upd W i v) k fl := by
  rw [sa_mc, nI_clamp (by omega)]
  show mc (mc _ 40 W) 40 _ = _
  rw [mc_mc, show (pz μ W k fl).2 40 = W from by unfold pz; rw [m2_mc, if_pos rfl]]
  rfl
theorem pz_B {μ : MS} {T : Nat} {bt : Nat → Int32} (h : MB μ T bt) (W : Nat → Int32) (k fl : Int32) : MB (pz μ W k fl) T bt := by
  obtain ⟨h1, h2, h3, h4⟩ := h
  refine ⟨?_, h2, ?_, h4⟩
  · show (si (si μ 38 k) 39 fl).1 31 = _
    rw [s1_si_n (by decide), s1_si_n (by decide)]
    exact h1
  · intro j hj
    show (mc (si (si μ 38 k) 39 fl) 40 W).2 30 j = _
    rw [m2_mc, if_neg (by decide)]
    exact h3 j hj
/-- the reference behind these letters -/
def eS (μ : MS) (W : Nat → Int32) (bt : Nat → Int32) (cs : List Nat) (k : Nat) : MS := pz μ W (nI (k + sm bt cs k)) (if sm bt cs k = cs.length then 0 else 1)
theorem eats_e {μ : MS} {W : Nat → Int32} {T : Nat} {bt : Nat → Int32} (h : MB μ T bt) {cs : List Nat} {k c : Nat} (hk : k ≤ 200) (hcs : cs.length ≤ 6) : FM_eats (eS μ W bt cs k) (nI c) = some (eS μ W bt (cs ++ [c]) k) := by
  unfold FM_eats FM_eats_28 eS
  have hs := sm_le bt cs k
  rw [pz_39, sm_app, List.length_append, show [c].length = 1 from rfl]
  by_cases e : sm bt cs k = cs.length
  · rw [if_pos e, if_pos e, if_pos rfl, here_e (pz_B h _ _ _) (k := k + sm bt cs k) (by omega) (pz_38 _ _ _ _), sb, e]
    by_cases e2 : bt (k + cs.length) = nI c
    · rw [if_pos e2, if_pos e2, pz_38, pz_s38, nI_1, if_pos rfl, Nat.add_assoc]
    · rw [if_neg e2, if_neg e2, pz_s39, if_neg (by omega)]
  · rw [if_neg e, if_neg e, if_neg (show ¬ (1 : Int32) = 0 by decide), pz_s39, if_neg (by omega)]
theorem eats3_e {μ : MS} {W : Nat → Int32} {T : Nat} {bt : Nat → Int32} (h : MB μ T bt) {cs : List Nat} {k c1 c2 c3 : Nat} (hk : k ≤ 200) (hcs : cs.length ≤ 4) : FM_eats3 (eS μ W bt cs k) (nI c1) (nI c2) (nI c3) = some (eS μ W bt (cs ++ [c1, c2, c3]) k) := by
  unfold FM_eats3
  rw [eats_e h hk (by omega), sb, eats_e h hk (by rw [List.length_append]; show _ + 1 ≤ 6; omega), sb, eats_e h hk (by rw [List.length_append, List.length_append]; show _ + 1 + 1 ≤ 6; omega), sb, List.append_assoc, List.append_assoc]
  rfl
theorem eS_0 (μ : MS) (W : Nat → Int32) (bt : Nat → Int32) (k : Nat) : eS μ W bt [] k = pz μ W (nI k) 0 := rfl
theorem sm_c (bt : Nat → Int32) (c : Nat) (cs : List Nat) (k : Nat) : sm bt (c :: cs) k = if bt k = nI c then 1 + sm bt cs (k + 1) else 0 := rfl
