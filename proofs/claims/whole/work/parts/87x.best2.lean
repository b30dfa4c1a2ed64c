/-! what one order costs -/
def shO (fo b sl f l : Nat) (x s : Nat → Nat) : Nat := sumN (fun p => cntN (fun i => spt (x (s p + fo + i))) (lenP b sl f l p - 2 * fo)) 6
def MM (thr b sl f l : Nat) (x s : Nat → Nat) : Nat → Bool → Bool → Nat := fun k t1 t2 => msT thr b sl f l s x k t1 t2
theorem ug_eq {thr fo b sl f l tw : Nat} {x s : Nat → Nat} : ugN thr fo b sl f l (yOf s b sl f l tw x) = 5 * shO fo b sl f l x s + msS (MM thr b sl f l x s) tw := by
  unfold ugN shN shO msS MM
  have e1 : sumN (fun p => shP fo (lenP b sl f l p) (yOf s b sl f l tw x p)) 6 = sumN (fun p => cntN (fun i => spt (x (s p + fo + i))) (lenP b sl f l p - 2 * fo)) 6 := sum_cg 6 (fun p _ => (sh_eq (tnB tw p)).symm)
  have e2 : sumN (msN thr b sl f l (yOf s b sl f l tw x)) 5 = sumN (fun k => msT thr b sl f l s x k (tnB tw (k + 1)) (tnB tw (sqN k))) 5 := sum_cg 5 (fun k hk => (msT_eq hk).symm)
  rw [e1, e2]
def EO (thr fo b sl f l : Nat) (x : Nat → Nat) (ow : Bool) (o : Nat) : Nat := 5 * shO fo b sl f l x (sOf b sl f l o) + KEY ow (MM thr b sl f l x (sOf b sl f l o)) / 512
def TO (thr b sl f l : Nat) (x : Nat → Nat) (ow : Bool) (o : Nat) : Nat := KEY ow (MM thr b sl f l x (sOf b sl f l o)) % 64
def stp (E T : Nat → Nat) (S : Option (Nat × Nat × Nat)) (o : Nat) : Option (Nat × Nat × Nat) := match S with
  | none => some (E o, o, T o)
  | some q => if E o < q.1 then some (E o, o, T o) else some q
theorem sumB {g : Nat → Nat} {c : Nat} : ∀ n, (∀ j, j < n → g j ≤ c) → sumN g n ≤ n * c
  | 0, _ => Nat.zero_le _
  | n + 1, h => by
    have h1 := sumB n (fun j hj => h j (by omega))
    have h2 := h n (by omega)
    show sumN g n + g n ≤ (n + 1) * c
    rw [Nat.succ_mul]
    omega
theorem shO_le {fo b sl f l : Nat} {x s : Nat → Nat} (ho : okl b sl f l) : shO fo b sl f l x s ≤ 720 := by
  refine Nat.le_trans (sumB (c := 120) 6 (fun p hp => ?_)) (by decide)
  have h1 := cntN_le (fun i => spt (x (s p + fo + i))) (lenP b sl f l p - 2 * fo)
  have h2 := fl_le hp ho
  omega
theorem ms_le {thr b sl f l k : Nat} {x s : Nat → Nat} {t1 t2 : Bool} (ho : okl b sl f l) : msT thr b sl f l s x k t1 t2 ≤ 30 := Nat.le_trans (cntN_le _ _) (smR_le ho)
theorem msS_le {thr b sl f l tw : Nat} {x s : Nat → Nat} (ho : okl b sl f l) : msS (MM thr b sl f l x s) tw ≤ 150 := Nat.le_trans (sumB (c := 30) 5 (fun _ _ => ms_le ho)) (by decide)
theorem EO_le {thr fo b sl f l o : Nat} {x : Nat → Nat} {ow : Bool} (ho : okl b sl f l) : EO thr fo b sl f l x ow o ≤ 3750 := by
  obtain ⟨tw, h1, h2⟩ := KEY_ex ow (MM thr b sl f l x (sOf b sl f l o))
  have h3 := (KEY_tw h1 h2).1
  have h4 := msS_le (thr := thr) (tw := tw) (x := x) (s := sOf b sl f l o) ho
  have h5 := shO_le (fo := fo) (x := x) (s := sOf b sl f l o) ho
  unfold EO
  omega
/-! the reference: one order -/
def bz (μ : MS) (R D : Nat → Int32) (v w : Int32) : MS := mc (si (si (mc μ 35 D) 36 v) 37 w) 34 R
theorem bz_2 {μ : MS} {R D : Nat → Int32} {v w : Int32} {k : Nat} (h1 : k ≠ 34) (h2 : k ≠ 35) : (bz μ R D v w).2 k = μ.2 k := by
  unfold bz
  rw [m2_mc, if_neg h1]
  show (mc μ 35 D).2 k = _
  rw [m2_mc, if_neg h2]
theorem bz_35 {μ : MS} {R D : Nat → Int32} {v w : Int32} : (bz μ R D v w).2 35 = D := by
  unfold bz
  rw [m2_mc, if_neg (by decide)]
  show (mc μ 35 D).2 35 = _
  rw [m2_mc, if_pos rfl]
theorem bz_1 {μ : MS} {R D : Nat → Int32} {v w : Int32} {k : Nat} (h1 : k ≠ 36) (h2 : k ≠ 37) : (bz μ R D v w).1 k = μ.1 k := by
  show (si (si (mc μ 35 D) 36 v) 37 w).1 k = _
  rw [s1_si_n h2, s1_si_n h1]
  rfl
theorem bz_s {μ : MS} {R D : Nat → Int32} {v w v' w' : Int32} : si (si (bz μ R D v w) 36 v') 37 w' = bz μ R D v' w' := by
  show mc (si (si (si (si (mc μ 35 D) 36 v) 37 w) 36 v') 37 w') 34 R = _
  rw [si_cm (si (mc μ 35 D) 36 v) (show 37 ≠ 36 by decide), si_si, si_si]
  rfl
/-- lengths told, rows there: what an order and turns cost -/
def MB2 (μ : MS) (t n b sl f l thr fo : Nat) (x : Nat → Nat) : Prop := t < 40 ∧ n ≤ 120 ∧ 2 * b + 2 * sl + f + l = n ∧ okl b sl f l ∧ (∀ p, p < 6 → μ.2 32 p = nI (lenP b sl f l p)) ∧ (∀ p, p < 6 → μ.2 33 p = nI (froP b sl f l p)) ∧ (∀ j, j < n → okr (x j) ∧ μ.2 5 (120 * t + j) = nI (x j)) ∧ μ.1 24 = nI thr ∧ μ.1 25 = nI fo ∧ thr ≤ 9 ∧ fo ≤ 9
theorem lay_ug {μ : MS} {t n b sl f l thr fo o tw : Nat} {x : Nat → Nat} {R D : Nat → Int32} {v w : Int32} (h : MB2 μ t n b sl f l thr fo x) (htw : tw < 64) (hD : ∀ k, k < 6 → D k = nI (dgN o k)) (hm : mR_ o 6 = 63) : ∃ R', FM_lays (bz μ R D v w) (nI t) (nI tw) = some (bz μ R' D v w) ∧ FM_uglyNow (bz μ R' D v w) = some (nI (5 * shO fo b sl f l x (sOf b sl f l o) + msS (MM thr b sl f l x (sOf b sl f l o)) tw)) := by
  have hfu := fu_pos
  obtain ⟨ht, hn2, hn, ho, hL, hF, hx, h24, h25, hthr, hfo⟩ := h
  have q2 : ∀ k, k ≠ 35 → (si (si (mc μ 35 D) 36 v) 37 w).2 k = μ.2 k := fun k hk => by
    show (mc μ 35 D).2 k = _
    rw [m2_mc, if_neg hk]
  have q35 : (si (si (mc μ 35 D) 36 v) 37 w).2 35 = D := by
    show (mc μ 35 D).2 35 = _
    rw [m2_mc, if_pos rfl]
  obtain ⟨R', r1, r2⟩ := lays8 (σ := si (si (mc μ 35 D) 36 v) 37 w) (t := t) (n := n) (tw := tw) (o := o) (x := x) ht hn2 (by omega) (fun p hp => by rw [q2 32 (by decide)]; exact hL p hp) (fun p hp => by rw [q2 33 (by decide)]; exact hF p hp) (fun k hk => by rw [q35]; exact hD k hk) (fun j hj => by rw [q2 5 (by decide)]; exact (hx j hj).2) htw ho (inj_e hm) 6 0 fu R (by omega) (by omega) (fun j hj => absurd hj (Nat.not_lt_zero j))
  refine ⟨R', ?_, ?_⟩
  · unfold FM_lays
    rw [show (120 : Int32) * nI t = nI (120 * t) from pk_mul 120 t]
    exact r2
  · have hV : LookV (bz μ R' D v w) b sl f l thr fo (yOf (sOf b sl f l o) b sl f l tw x) := by
      refine ⟨fun p hp => by rw [bz_2 (by decide) (by decide)]; exact hL p hp, fun p hp => by rw [bz_2 (by decide) (by decide)]; exact hF p hp, fun p i hp hi => ?_, by rw [bz_1 (by decide) (by decide)]; exact h24, by rw [bz_1 (by decide) (by decide)]; exact h25, hthr, hfo, ho⟩
      obtain ⟨j1, j2⟩ := jOf_e (surj_e hm hp)
      have := r1 (jOf o p) j1 i (by rw [j2]; exact hi)
      rw [j2] at this
      have hle := sOf_le (b := b) (sl := sl) (f := f) (l := l) hm hp
      have hlt : dirP (sOf b sl f l o p) (lenP b sl f l p) (tnB tw p) i < n := by unfold dirP; split <;> omega
      refine ⟨(hx _ hlt).1, ?_⟩
      show (mc (si (si (mc μ 35 D) 36 v) 37 w) 34 R').2 34 _ = _
      rw [m2_mc, if_pos rfl]
      exact this
    rw [ugly_M hV, ug_eq]
theorem many_l {tw : Nat} (h : tw < 64) : ∀ d i fuel, i + d = 6 → d < fuel → FM_many_4 (nI tw) fuel (nI (sumN (fun p => tw / 2 ^ p % 2) i)) (nI i) = some (nI (sumN (fun p => tw / 2 ^ p % 2) 6)) := by
  intro d
  induction d with
  | zero =>
    intro i fuel hi hf
    obtain ⟨f1, rfl⟩ : ∃ f, fuel = f + 1 := ⟨fuel - 1, by omega⟩
    have e : i = 6 := by omega
    subst e
    rw [FM_many_4, if_pos (show (6 : Int32) ≤ nI 6 by decide)]
  | succ d ih =>
    intro i fuel hi hf
    obtain ⟨f1, rfl⟩ : ∃ f, fuel = f + 1 := ⟨fuel - 1, by omega⟩
    have e1 : (if tw / 2 ^ i % 2 = 1 then (1 : Int32) else 0) = nI (tw / 2 ^ i % 2) := by
      have : tw / 2 ^ i % 2 < 2 := Nat.mod_lt _ (by decide)
      rcases (show tw / 2 ^ i % 2 = 0 ∨ tw / 2 ^ i % 2 = 1 by omega) with z | z <;> rw [z] <;> rfl
    rw [FM_many_4, if_neg (show ¬ (6 : Int32) ≤ nI i from nI_ge (b := 6) (by omega) (by decide)), turn_t tw h i (by omega), e1, nI_add, nI_1]
    exact ih (i + 1) f1 (by omega) (by omega)
theorem many_e {tw : Nat} (h : tw < 64) : FM_many (nI tw) = some (nI (pcN tw)) := by
  have hfu := fu_pos
  have := many_l h 6 0 fu (by omega) (by omega)
  unfold FM_many
  refine Eq.trans this ?_
  congr 2
  show 0 + tw / 2 ^ 0 % 2 + tw / 2 ^ 1 % 2 + tw / 2 ^ 2 % 2 + tw / 2 ^ 3 % 2 + tw / 2 ^ 4 % 2 + tw / 2 ^ 5 % 2 = pcN tw
  unfold pcN
  simp
theorem code_l {σ : MS} {o : Nat} (ho : o < 46656) (hD : ∀ k, k < 6 → σ.2 35 k = nI (dgN o k)) : ∀ d i fuel, i + d = 6 → d < fuel → FM_code_4 σ fuel (nI (o / 6 ^ (6 - i))) (nI i) = some (nI o) := by
  intro d
  induction d with
  | zero =>
    intro i fuel hi hf
    obtain ⟨f1, rfl⟩ : ∃ f, fuel = f + 1 := ⟨fuel - 1, by omega⟩
    have e : i = 6 := by omega
    subst e
    rw [FM_code_4, if_pos (show (6 : Int32) ≤ nI 6 by decide)]
    show some (nI (o / 1)) = _
    rw [Nat.div_one]
  | succ d ih =>
    intro i fuel hi hf
    obtain ⟨f1, rfl⟩ : ∃ f, fuel = f + 1 := ⟨fuel - 1, by omega⟩
    have e1 : 6 * (o / 6 ^ (6 - i)) + dgN o i = o / 6 ^ (6 - (i + 1)) := by
      unfold dgN unN
      rcases (show i = 0 ∨ i = 1 ∨ i = 2 ∨ i = 3 ∨ i = 4 ∨ i = 5 by omega) with rfl | rfl | rfl | rfl | rfl | rfl <;> simp <;> omega
    rw [FM_code_4, if_neg (show ¬ (6 : Int32) ≤ nI i from nI_ge (b := 6) (by omega) (by decide)), gd_t (inb_nI (show i < 6 by omega) (by decide)), nI_clamp (by omega), hD i (by omega), show (6 : Int32) * nI (o / 6 ^ (6 - i)) = nI (6 * (o / 6 ^ (6 - i))) from pk_mul 6 _, nI_add, e1, nI_1]
    exact ih (i + 1) f1 (by omega) (by omega)
theorem code_e {σ : MS} {o : Nat} (ho : o < 46656) (hD : ∀ k, k < 6 → σ.2 35 k = nI (dgN o k)) : FM_code σ = some (nI o) := by
  have hfu := fu_pos
  have := code_l ho hD 6 0 fu (by omega) (by omega)
  rw [show o / 6 ^ (6 - 0) = 0 from Nat.div_eq_of_lt ho] at this
  exact this
def mI : Option (Nat × Nat × Nat) → Int32
  | none => -1
  | some q => nI q.1
def mV (S : Option (Nat × Nat × Nat)) (v w : Int32) : Prop := ∀ q, S = some q → v = nI q.2.1 ∧ w = nI q.2.2 ∧ q.1 < 100000
def inS (S0 S : Option (Nat × Nat × Nat)) (U : Nat → Nat) (M : Nat → Bool → Bool → Nat) (ow : Bool) (o : Nat) (Pd : Nat → Prop) : Prop := (S = S0 ∧ ∀ tw, alw ow tw → Pd tw → ∃ q, S0 = some q ∧ q.1 ≤ U tw) ∨ ∃ tw, alw ow tw ∧ Pd tw ∧ S = some (U tw, o, tw) ∧ (∀ q, S0 = some q → U tw < q.1) ∧ ∀ tw', alw ow tw' → Pd tw' → keyK M tw ≤ keyK M tw'
theorem inS_sk {S0 S : Option (Nat × Nat × Nat)} {U : Nat → Nat} {M : Nat → Bool → Bool → Nat} {ow : Bool} {o : Nat} {Pd Pd' : Nat → Prop} (h : inS S0 S U M ow o Pd) (hp : ∀ tw, alw ow tw → (Pd' tw ↔ Pd tw)) : inS S0 S U M ow o Pd' := by
  rcases h with ⟨h1, h2⟩ | ⟨tw, h1, h2, h3, h4, h5⟩
  · exact Or.inl ⟨h1, fun tw ha hd => h2 tw ha ((hp tw ha).mp hd)⟩
  · exact Or.inr ⟨tw, h1, (hp tw h1).mpr h2, h3, h4, fun tw' ha hd => h5 tw' ha ((hp tw' ha).mp hd)⟩
def upS (S : Option (Nat × Nat × Nat)) (u o i : Nat) : Option (Nat × Nat × Nat) := match S with
  | none => some (u, o, i)
  | some q => if u < q.1 then some (u, o, i) else some q
theorem inS_up {S0 S : Option (Nat × Nat × Nat)} {c : Nat} {M : Nat → Bool → Bool → Nat} {ow : Bool} {o i : Nat} {Pd Pd' : Nat → Prop} (h : inS S0 S (fun tw => 5 * c + msS M tw) M ow o Pd) (hi : alw ow i) (hp : ∀ tw, alw ow tw → (Pd' tw ↔ Pd tw ∨ tw = i)) (hv : ∀ tw, alw ow tw → Pd tw → 64 * pcN tw + tw < 64 * pcN i + i) : inS S0 (upS S (5 * c + msS M i) o i) (fun tw => 5 * c + msS M tw) M ow o Pd' := by
  have hpi := (pc_le i hi.1).1
  rcases h with ⟨rfl, h2⟩ | ⟨tw, h1, h2, rfl, h4, h5⟩
  · cases S with
    | none =>
      refine Or.inr ⟨i, hi, (hp i hi).mpr (Or.inr rfl), rfl, fun q z => (by cases z), fun tw' ha hd => ?_⟩
      rcases (hp tw' ha).mp hd with z | z
      · obtain ⟨q, z1, -⟩ := h2 tw' ha z
        cases z1
      · rw [z]; exact Nat.le_refl _
    | some q =>
      show inS (some q) (if 5 * c + msS M i < q.1 then some (5 * c + msS M i, o, i) else some q) _ _ _ _ _
      by_cases cc : 5 * c + msS M i < q.1
      · rw [if_pos cc]
        refine Or.inr ⟨i, hi, (hp i hi).mpr (Or.inr rfl), rfl, fun q' z => (by cases z; exact cc), fun tw' ha hd => ?_⟩
        rcases (hp tw' ha).mp hd with z | z
        · obtain ⟨q', z1, z2⟩ := h2 tw' ha z
          cases z1
          have hi64 := hi.1
          unfold keyK
          simp only at z2
          omega
        · rw [z]; exact Nat.le_refl _
      · rw [if_neg cc]
        refine Or.inl ⟨rfl, fun tw ha hd => ?_⟩
        rcases (hp tw ha).mp hd with z | z
        · exact h2 tw ha z
        · exact ⟨q, rfl, by rw [z]; simp only; omega⟩
  · show inS S0 (if 5 * c + msS M i < 5 * c + msS M tw then some (5 * c + msS M i, o, i) else some (5 * c + msS M tw, o, tw)) _ _ _ _ _
    have hptw := (pc_le tw h1.1).1
    have htw64 := h1.1
    have hi64 := hi.1
    by_cases cc : 5 * c + msS M i < 5 * c + msS M tw
    · rw [if_pos cc]
      refine Or.inr ⟨i, hi, (hp i hi).mpr (Or.inr rfl), rfl, fun q z => (by have := h4 q z; simp only at this ⊢; omega), fun tw' ha hd => ?_⟩
      rcases (hp tw' ha).mp hd with z | z
      · have := h5 tw' ha z
        unfold keyK at this ⊢
        omega
      · rw [z]; exact Nat.le_refl _
    · rw [if_neg cc]
      refine Or.inr ⟨tw, h1, (hp tw h1).mpr (Or.inl h2), rfl, h4, fun tw' ha hd => ?_⟩
      rcases (hp tw' ha).mp hd with z | z
      · exact h5 tw' ha z
      · have := hv tw h1 h2
        rw [z]
        unfold keyK
        omega
theorem inS_e {S0 S : Option (Nat × Nat × Nat)} {c : Nat} {M : Nat → Bool → Bool → Nat} {ow : Bool} {o : Nat} {Pd : Nat → Prop} {E T : Nat → Nat} (h : inS S0 S (fun tw => 5 * c + msS M tw) M ow o Pd) (hp : ∀ tw, alw ow tw → Pd tw) (hE : E o = 5 * c + KEY ow M / 512) (hT : T o = KEY ow M % 64) : S = stp E T S0 o := by
  rcases h with ⟨rfl, h2⟩ | ⟨tw, h1, h2, rfl, h4, h5⟩
  · obtain ⟨tw, k1, k2⟩ := KEY_ex ow M
    obtain ⟨q, z1, z2⟩ := h2 tw k1 (hp tw k1)
    rw [z1]
    show some q = if E o < q.1 then _ else some q
    have := (KEY_tw k1 k2).1
    rw [if_neg (by rw [hE, this]; simp only at z2; omega)]
  · obtain ⟨tw1, k1, k2⟩ := KEY_ex ow M
    have e1 : KEY ow M = keyK M tw := by
      have a1 := h5 tw1 k1 (hp tw1 k1)
      have a2 := KEY_le (M := M) h1
      omega
    obtain ⟨z1, z2⟩ := KEY_tw h1 e1
    have e2 : E o = 5 * c + msS M tw := by rw [hE, z1]
    have e3 : T o = tw := by rw [hT, z2]
    cases S0 with
    | none =>
      show some (5 * c + msS M tw, o, tw) = some (E o, o, T o)
      rw [e2, e3]
    | some q =>
      show some (5 * c + msS M tw, o, tw) = if E o < q.1 then some (E o, o, T o) else some q
      rw [if_pos (by rw [e2]; exact h4 q rfl), e2, e3]
