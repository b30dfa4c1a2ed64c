/-! laid pieces: what is shown and what misses -/
theorem sb_toInt {a b : Nat} (ha : a < 1073741824) (hb : b < 1073741824) : (nI a - nI b).toInt = (a : Int) - b := by
  by_cases c : b ≤ a
  · rw [z_sub c, nI_toInt (by omega)]; omega
  · have z2 : nI a - nI b = - nI (b - a) := by rw [← z_sub (show a ≤ b by omega), Int32.neg_sub]
    rw [z2, Int32.toInt_neg, nI_toInt (by omega), Int.bmod_def]
    split <;> omega
theorem sb_le {a b c : Nat} (ha : a < 1073741824) (hb : b < 1073741824) (hc : c < 1073741824) : (nI a - nI b ≤ nI c) = (a ≤ c + b) := by
  refine propext (Int32.le_iff_toInt_le.trans ?_)
  rw [sb_toInt ha hb, nI_toInt (by omega)]
  omega
def spt (x : Nat) : Bool := decide (x / 10 % 10 = 1 ∨ 3 ≤ x / 100)
def absd (u v : Nat) : Nat := if u ≤ v then v - u else u - v
def farB (thr u v : Nat) : Bool := decide (thr < absd u v ∧ thr < 10 - absd u v)
theorem abs_t : ∀ u, u < 10 → ∀ v, v < 10 → ((0 : Int32) ≤ nI u - nI v → nI u - nI v = nI (absd u v)) ∧ (¬ (0 : Int32) ≤ nI u - nI v → -(nI u - nI v) = nI (absd u v)) := by decide +kernel
theorem abs_e {α : Type} {u v : Nat} (hu : u < 10) (hv : v < 10) (F : Int32 → α) : (if (0 : Int32) ≤ nI u - nI v then F (nI u - nI v) else F (-(nI u - nI v))) = F (nI (absd u v)) := by
  by_cases c : (0 : Int32) ≤ nI u - nI v
  · rw [if_pos c, (abs_t u hu v hv).1 c]
  · rw [if_neg c, (abs_t u hu v hv).2 c]
theorem absd_c (u v : Nat) : absd u v = absd v u := by
  unfold absd
  split <;> split <;> omega
theorem absd_l {u v : Nat} (hu : u < 10) (hv : v < 10) : absd u v < 10 := by
  unfold absd
  split <;> omega
theorem farB_c (thr u v : Nat) : farB thr u v = farB thr v u := by unfold farB; rw [absd_c]
def LookV (σ : MS) (b sl f l thr fo : Nat) (y : Nat → Nat → Nat) : Prop := (∀ p, p < 6 → σ.2 32 p = nI (lenP b sl f l p)) ∧ (∀ p, p < 6 → σ.2 33 p = nI (froP b sl f l p)) ∧ (∀ p i, p < 6 → i < lenP b sl f l p → okr (y p i) ∧ σ.2 34 (froP b sl f l p + i) = nI (y p i)) ∧ σ.1 24 = nI thr ∧ σ.1 25 = nI fo ∧ thr ≤ 9 ∧ fo ≤ 9 ∧ okl b sl f l
theorem fl_le {b sl f l p : Nat} (hp : p < 6) (ho : okl b sl f l) : froP b sl f l p + lenP b sl f l p ≤ 120 := by
  rw [fro_s hp]
  exact Nat.le_trans fro_le ho.2.2.2.2.2.2.2
theorem miss_M {σ : MS} {b sl f l thr fo : Nat} {y : Nat → Nat → Nat} (h : LookV σ b sl f l thr fo y) {p i q j : Nat} (hp : p < 6) (hq : q < 6) (hi : i < lenP b sl f l p) (hj : j < lenP b sl f l q) : FM_missOf σ (nI p) (nI i) (nI q) (nI j) = some (nI (if farB thr (y p i % 10) (y q j % 10) = true then 1 else 0)) := by
  obtain ⟨-, h33, h34, h24, -, ht, -, ho⟩ := h
  obtain ⟨x1, x2⟩ := h34 p i hp hi
  obtain ⟨y1, y2⟩ := h34 q j hq hj
  have l1 := fl_le hp ho
  have l2 := fl_le hq ho
  have u1 := x1.1
  have u2 := y1.1
  have hd : absd (y p i % 10) (y q j % 10) < 10 := absd_l (by omega) (by omega)
  unfold FM_missOf
  simp only [inb_nI hp (show 6 < 2 ^ 31 by decide), inb_nI hq (show 6 < 2 ^ 31 by decide), gdt, nI_clamp (show p < 2 ^ 31 by omega), nI_clamp (show q < 2 ^ 31 by omega), h33 p hp, h33 q hq, nI_add, inb_nI (show froP b sl f l p + i < 120 by omega) (show 120 < 2 ^ 31 by decide), inb_nI (show froP b sl f l q + j < 120 by omega) (show 120 < 2 ^ 31 by decide), nI_clamp (show froP b sl f l p + i < 2 ^ 31 by omega), nI_clamp (show froP b sl f l q + j < 2 ^ 31 by omega), x2, y2, told_0 (show y p i < 2147483648 by omega), told_0 (show y q j < 2147483648 by omega)]
  rw [abs_e (by omega) (by omega) (FM_missOf_49 σ)]
  unfold farB
  generalize absd (y p i % 10) (y q j % 10) = d at hd
  unfold FM_missOf_49 FM_missOf_67
  rw [h24]
  by_cases c : d ≤ 5
  · rw [if_pos (show nI d ≤ 5 from nI_le (b := 5) c (by decide))]
    by_cases c2 : d ≤ thr
    · rw [if_pos (nI_le c2 (by omega)), decide_eq_false (by omega)]
      rfl
    · rw [if_neg (nI_ge (by omega) (by omega)), decide_eq_true (by omega)]
      rfl
  · rw [if_neg (show ¬ nI d ≤ 5 from nI_ge (a := 5) (by omega) (by omega)), show (10 : Int32) - nI d = nI (10 - d) from z_sub (a := 10) (by omega)]
    by_cases c2 : 10 - d ≤ thr
    · rw [if_pos (nI_le c2 (by omega)), decide_eq_false (by omega)]
      rfl
    · rw [if_neg (nI_ge (by omega) (by omega)), decide_eq_true (by omega)]
      rfl
def smR (b sl f l k : Nat) : Nat := if k = 0 then b else if k = 1 then min (b / 2) sl else if k = 2 then min (b / 2) sl else if k = 3 then min f b else min l f
def sqN (k : Nat) : Nat := if k = 2 then 1 else if k = 4 then 4 else 0
def sjN (b k i : Nat) : Nat := if k = 3 then b - 1 - i else i
def fmN (thr b : Nat) (y : Nat → Nat → Nat) (k i : Nat) : Bool := farB thr (y (k + 1) i % 10) (y (sqN k) (sjN b k i) % 10)
def msN (thr b sl f l : Nat) (y : Nat → Nat → Nat) (k : Nat) : Nat := cntN (fmN thr b y k) (smR b sl f l k)
theorem cnt_ext {P P' : Nat → Bool} (h : ∀ i, P i = P' i) (k : Nat) : cntN P k = cntN P' k := cntN_cg k (fun j _ => h j)
theorem seam34 {σ : MS} {b sl f l thr fo : Nat} {y : Nat → Nat → Nat} (h : LookV σ b sl f l thr fo y) : ∀ d i fuel, i + d = b → d < fuel → FM_seam_34 σ fuel (nI (cntN (fmN thr b y 0) i)) (nI i) = some (nI (cntN (fmN thr b y 0) b)) := by
  have ho := h.2.2.2.2.2.2.2
  have l0 : σ.2 32 0 = nI b := h.1 0 (by omega)
  have hb : b ≤ 30 := ho.2.1
  intro d
  induction d with
  | zero =>
    intro i fuel hi hf
    obtain ⟨f1, rfl⟩ : ∃ f, fuel = f + 1 := ⟨fuel - 1, by omega⟩
    have e : i = b := by omega
    subst e
    rw [FM_seam_34]
    simp only [show inb (0 : Int32) 6 = true from rfl, gdt, show (0 : Int32).toNatClampNeg = 0 from rfl, l0, if_pos (show nI i ≤ nI i from nI_le (Nat.le_refl _) (by omega))]
  | succ d ih =>
    intro i fuel hi hf
    obtain ⟨f1, rfl⟩ : ∃ f, fuel = f + 1 := ⟨fuel - 1, by omega⟩
    have m : FM_missOf σ (0 : Int32) (nI i) (1 : Int32) (nI i) = _ := miss_M h (p := 0) (q := 1) (i := i) (j := i) (by omega) (by omega) (show i < b by omega) (show i < b by omega)
    have n1 : ¬ nI b ≤ nI i := nI_ge (by omega) (by omega)
    rw [FM_seam_34]
    simp only [show inb (0 : Int32) 6 = true from rfl, gdt, show (0 : Int32).toNatClampNeg = 0 from rfl, l0, if_neg n1, m, sb, nI_add, nI_1]
    rw [farB_c]
    exact ih (i + 1) f1 (by omega) (by omega)
theorem seam65 {σ : MS} {b sl f l thr fo k : Nat} {y : Nat → Nat → Nat} (h : LookV σ b sl f l thr fo y) (hk : k = 1 ∨ k = 2) : ∀ d i fuel, i + d = min (b / 2) sl → d < fuel → FM_seam_65 σ (nI k) fuel (nI (cntN (fmN thr b y k) i)) (nI i) = some (nI (cntN (fmN thr b y k) (min (b / 2) sl))) := by
  have ho := h.2.2.2.2.2.2.2
  have l0 : σ.2 32 0 = nI b := h.1 0 (by omega)
  have l2 : σ.2 32 2 = nI sl := h.1 2 (by omega)
  have hb : b ≤ 30 := ho.2.1
  have hsl : sl ≤ 120 := by have := ho.2.2.2.2.2.2.2; omega
  have hd2 : nI b / 2 = nI (b / 2) := z_div (d := 2) (by omega) (by decide) (by decide)
  have e1 : nI k + 1 = nI (k + 1) := nI_1 k
  have e2 : nI k - 1 = nI (k - 1) := z_sub (b := 1) (by omega)
  intro d
  induction d with
  | zero =>
    intro i fuel hi hf
    obtain ⟨f1, rfl⟩ : ∃ f, fuel = f + 1 := ⟨fuel - 1, by omega⟩
    have e : min (b / 2) sl = i := by omega
    rw [e, FM_seam_65]
    simp only [show inb (0 : Int32) 6 = true from rfl, show inb (2 : Int32) 6 = true from rfl, gdt, show (0 : Int32).toNatClampNeg = 0 from rfl, show (2 : Int32).toNatClampNeg = 2 from rfl, l0, l2, hd2]
    by_cases c : b / 2 ≤ i
    · rw [if_pos (nI_le c (by omega))]
    · rw [if_neg (nI_ge (by omega) (by omega)), if_pos (nI_le (by omega) (by omega))]
  | succ d ih =>
    intro i fuel hi hf
    obtain ⟨f1, rfl⟩ : ∃ f, fuel = f + 1 := ⟨fuel - 1, by omega⟩
    have hl1 : lenP b sl f l (k + 1) = sl := by rcases hk with rfl | rfl <;> rfl
    have hl2 : lenP b sl f l (k - 1) = b := by rcases hk with rfl | rfl <;> rfl
    have hsq : sqN k = k - 1 := by rcases hk with rfl | rfl <;> rfl
    have m := miss_M h (p := k + 1) (q := k - 1) (i := i) (j := i) (by omega) (by omega) (by omega) (by omega)
    have n1 : ¬ nI (b / 2) ≤ nI i := nI_ge (by omega) (by omega)
    have n2 : ¬ nI sl ≤ nI i := nI_ge (by omega) (by omega)
    have hc : cntN (fmN thr b y k) (i + 1) = cntN (fmN thr b y k) i + (if farB thr (y (k + 1) i % 10) (y (k - 1) i % 10) = true then 1 else 0) := by
      show cntN (fmN thr b y k) i + (if fmN thr b y k i = true then 1 else 0) = _
      unfold fmN
      rw [hsq, show sjN b k i = i from if_neg (by omega)]
    rw [FM_seam_65]
    simp only [show inb (0 : Int32) 6 = true from rfl, show inb (2 : Int32) 6 = true from rfl, gdt, show (0 : Int32).toNatClampNeg = 0 from rfl, show (2 : Int32).toNatClampNeg = 2 from rfl, l0, l2, hd2, if_neg n1, if_neg n2, e1, e2, m, sb, nI_add, nI_1 i, ← hc]
    exact ih (i + 1) f1 (by omega) (by omega)
theorem seam112 {σ : MS} {b sl f l thr fo : Nat} {y : Nat → Nat → Nat} (h : LookV σ b sl f l thr fo y) : ∀ d i fuel, i + d = min f b → d < fuel → FM_seam_112 σ fuel (nI (cntN (fmN thr b y 3) i)) (nI i) = some (nI (cntN (fmN thr b y 3) (min f b))) := by
  have ho := h.2.2.2.2.2.2.2
  have l0 : σ.2 32 0 = nI b := h.1 0 (by omega)
  have l4 : σ.2 32 4 = nI f := h.1 4 (by omega)
  have hb : b ≤ 30 := ho.2.1
  have hf0 : f ≤ 30 := ho.2.2.2.2.1
  intro d
  induction d with
  | zero =>
    intro i fuel hi hf
    obtain ⟨f1, rfl⟩ : ∃ f, fuel = f + 1 := ⟨fuel - 1, by omega⟩
    have e : min f b = i := by omega
    rw [e, FM_seam_112]
    simp only [show inb (0 : Int32) 6 = true from rfl, show inb (4 : Int32) 6 = true from rfl, gdt, show (0 : Int32).toNatClampNeg = 0 from rfl, show (4 : Int32).toNatClampNeg = 4 from rfl, l0, l4]
    by_cases c : f ≤ i
    · rw [if_pos (nI_le c (by omega))]
    · rw [if_neg (nI_ge (by omega) (by omega)), if_pos (nI_le (by omega) (by omega))]
  | succ d ih =>
    intro i fuel hi hf
    obtain ⟨f1, rfl⟩ : ∃ f, fuel = f + 1 := ⟨fuel - 1, by omega⟩
    have m : FM_missOf σ (4 : Int32) (nI i) (0 : Int32) (nI (b - 1 - i)) = _ := miss_M h (p := 4) (q := 0) (i := i) (j := b - 1 - i) (by omega) (by omega) (show i < f by omega) (show b - 1 - i < b by omega)
    have n1 : ¬ nI f ≤ nI i := nI_ge (by omega) (by omega)
    have n2 : ¬ nI b ≤ nI i := nI_ge (by omega) (by omega)
    have e1 : nI b - 1 - nI i = nI (b - 1 - i) := by rw [show nI b - 1 = nI (b - 1) from z_sub (b := 1) (by omega), z_sub (by omega)]
    rw [FM_seam_112]
    simp only [show inb (0 : Int32) 6 = true from rfl, show inb (4 : Int32) 6 = true from rfl, gdt, show (0 : Int32).toNatClampNeg = 0 from rfl, show (4 : Int32).toNatClampNeg = 4 from rfl, l0, l4, if_neg n1, if_neg n2, e1, m, sb, nI_add, nI_1]
    exact ih (i + 1) f1 (by omega) (by omega)
theorem seam162 {σ : MS} {b sl f l thr fo : Nat} {y : Nat → Nat → Nat} (h : LookV σ b sl f l thr fo y) : ∀ d i fuel, i + d = min l f → d < fuel → FM_seam_162 σ fuel (nI (cntN (fmN thr b y 4) i)) (nI i) = some (nI (cntN (fmN thr b y 4) (min l f))) := by
  have ho := h.2.2.2.2.2.2.2
  have l5 : σ.2 32 5 = nI l := h.1 5 (by omega)
  have l4 : σ.2 32 4 = nI f := h.1 4 (by omega)
  have hl : l ≤ 30 := ho.2.2.2.2.2.2.1
  have hf0 : f ≤ 30 := ho.2.2.2.2.1
  intro d
  induction d with
  | zero =>
    intro i fuel hi hf
    obtain ⟨f1, rfl⟩ : ∃ f, fuel = f + 1 := ⟨fuel - 1, by omega⟩
    have e : min l f = i := by omega
    rw [e, FM_seam_162]
    simp only [show inb (5 : Int32) 6 = true from rfl, show inb (4 : Int32) 6 = true from rfl, gdt, show (5 : Int32).toNatClampNeg = 5 from rfl, show (4 : Int32).toNatClampNeg = 4 from rfl, l5, l4]
    by_cases c : l ≤ i
    · rw [if_pos (nI_le c (by omega))]
    · rw [if_neg (nI_ge (by omega) (by omega)), if_pos (nI_le (by omega) (by omega))]
  | succ d ih =>
    intro i fuel hi hf
    obtain ⟨f1, rfl⟩ : ∃ f, fuel = f + 1 := ⟨fuel - 1, by omega⟩
    have m : FM_missOf σ (5 : Int32) (nI i) (4 : Int32) (nI i) = _ := miss_M h (p := 5) (q := 4) (i := i) (j := i) (by omega) (by omega) (show i < l by omega) (show i < f by omega)
    have n1 : ¬ nI l ≤ nI i := nI_ge (by omega) (by omega)
    have n2 : ¬ nI f ≤ nI i := nI_ge (by omega) (by omega)
    rw [FM_seam_162]
    simp only [show inb (5 : Int32) 6 = true from rfl, show inb (4 : Int32) 6 = true from rfl, gdt, show (5 : Int32).toNatClampNeg = 5 from rfl, show (4 : Int32).toNatClampNeg = 4 from rfl, l5, l4, if_neg n1, if_neg n2, m, sb, nI_add, nI_1]
    exact ih (i + 1) f1 (by omega) (by omega)
theorem smR_le {b sl f l k : Nat} (ho : okl b sl f l) : smR b sl f l k ≤ 30 := by
  obtain ⟨o1, o2, o3, o4, o5, o6, o7, o8⟩ := ho
  unfold smR
  repeat' split
  all_goals omega
/-- one seam, in the reference -/
theorem seam_M {σ : MS} {b sl f l thr fo k : Nat} {y : Nat → Nat → Nat} (h : LookV σ b sl f l thr fo y) (hk : k < 5) : FM_seam σ (nI k) = some (nI (msN thr b sl f l y k)) := by
  have hfu := fu_pos
  have ho := h.2.2.2.2.2.2.2
  have hm := smR_le (k := k) ho
  unfold FM_seam msN
  rcases (show k = 0 ∨ k = 1 ∨ k = 2 ∨ k = 3 ∨ k = 4 by omega) with rfl | rfl | rfl | rfl | rfl
  · rw [if_pos (show nI 0 = 0 from rfl)]
    exact seam34 h b 0 fu (by omega) (by have := ho.2.1; omega)
  · rw [if_neg (show ¬ nI 1 = 0 from by decide), if_pos (show nI 1 = 1 from rfl)]
    exact seam65 h (Or.inl rfl) (min (b / 2) sl) 0 fu (by omega) (by have := ho.2.1; omega)
  · rw [if_neg (show ¬ nI 2 = 0 from by decide), if_neg (show ¬ nI 2 = 1 from by decide), if_pos (show nI 2 = 2 from rfl)]
    exact seam65 h (Or.inr rfl) (min (b / 2) sl) 0 fu (by omega) (by have := ho.2.1; omega)
  · rw [if_neg (show ¬ nI 3 = 0 from by decide), if_neg (show ¬ nI 3 = 1 from by decide), if_neg (show ¬ nI 3 = 2 from by decide), if_pos (show nI 3 = 3 from rfl)]
    exact seam112 h (min f b) 0 fu (by omega) (by have := ho.2.1; omega)
  · rw [if_neg (show ¬ nI 4 = 0 from by decide), if_neg (show ¬ nI 4 = 1 from by decide), if_neg (show ¬ nI 4 = 2 from by decide), if_neg (show ¬ nI 4 = 3 from by decide)]
    exact seam162 h (min l f) 0 fu (by omega) (by have := ho.2.2.2.2.1; omega)
