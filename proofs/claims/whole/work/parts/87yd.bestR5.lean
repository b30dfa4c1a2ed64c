def FRB (ρ σ : RS) : Prop := (∀ j, j ≠ 707 → j ≠ 708 → j ≠ 709 → rI σ j = rI ρ j) ∧ (∀ j, j ≠ 205 → j ≠ 701 → j ≠ 702 → j ≠ 703 → j ≠ 704 → j ≠ 705 → rA σ j = rA ρ j) ∧ σ.2.2 = ρ.2.2
theorem FRB.rc {ρ σ : RS} (h : FRB ρ σ) {k : Nat} (hk : k = 205 ∨ k = 701 ∨ k = 702 ∨ k = 703 ∨ k = 704 ∨ k = 705) (g : Nat → Int32) : FRB ρ (rc σ k g) := ⟨h.1, fun j a b c d e f => by
  rw [rA_rc, if_neg (by omega)]
  exact h.2.1 j a b c d e f, h.2.2⟩
theorem FRB.ri {ρ σ : RS} (h : FRB ρ σ) {k : Nat} (hk : k = 707 ∨ k = 708 ∨ k = 709) (v : Int32) : FRB ρ (ri σ k v) := ⟨fun j a b c => by
  rw [qrI_ri, if_neg (by omega)]
  exact h.1 j a b c, h.2.1, h.2.2⟩
theorem FRB.v {ρ σ : RS} (h : FRB ρ σ) (k : Nat) : rV σ k = rV ρ k := by unfold rV; rw [h.2.2]
theorem FRB.k {ρ σ : RS} (h : FRB ρ σ) (a k : Nat) : isK σ a k = isK ρ a k := by unfold isK pL pK; rw [h.2.2]
theorem FRB.n {ρ σ : RS} (h : FRB ρ σ) (a : Nat) : pN σ a = pN ρ a := by unfold pN; rw [h.2.2]
theorem FRB.a {ρ σ : RS} (h : FRB ρ σ) (a : Nat) : pA σ a = pA ρ a := by unfold pA; rw [h.2.2]
theorem SprV.fr {ρ σ : RS} {rb e n b sl f l thr fo : Nat} {x : Nat → Nat} {v0 : Int32} (h : SprV ρ rb e n b sl f l thr fo x v0) (hf : FRB ρ σ) : SprV σ rb e n b sl f l thr fo x v0 := by
  obtain ⟨⟨f1, f2, f3, f4⟩, ⟨g1, g2, g3, g4⟩, ⟨h3, h4, h7⟩, h5, h6⟩ := h
  refine ⟨⟨by rw [hf.v]; exact f1, by rw [hf.k]; exact f2, by rw [hf.n]; exact f3, fun j hj => by rw [hf.a]; exact f4 j hj⟩, ⟨by rw [hf.v]; exact g1, by rw [hf.k]; exact g2, by rw [hf.n]; exact g3, fun p hp => by rw [hf.a]; exact g4 p hp⟩, ⟨by rw [hf.1 202 (by decide) (by decide) (by decide)]; exact h3, by rw [hf.1 203 (by decide) (by decide) (by decide)]; exact h4, fun k hk => by rw [hf.2.1 207 (by decide) (by decide) (by decide) (by decide) (by decide) (by decide)]; exact h7 k hk⟩, fun j hj => by rw [hf.2.1 204 (by decide) (by decide) (by decide) (by decide) (by decide) (by decide)]; exact h5 j hj, h6⟩
def ubS : Option (Nat × Nat × Nat) → Nat
  | none => 1000000
  | some q => q.1
def NDv (ρ σ : RS) (thr b sl f l n : Nat) (x : Nat → Nat) (us : Nat) (up : Nat → Nat) (S : Option (Nat × Nat × Nat)) : Prop := FRB ρ σ ∧ MEMO σ thr b sl f l x ∧ plV σ b sl f l n us up ∧ (∀ k, k < 5 → us.testBit (k + 1) = true → us.testBit (sqN k) = true → rA σ 703 k = nI (pkK thr b sl f l x up k)) ∧ rI σ 707 = nI (ubS S) ∧ ∀ q, S = some q → rI σ 708 = nI q.2.1 ∧ rI σ 709 = nI q.2.2 ∧ q.1 < 100000
theorem pkK_cg {thr b sl f l k : Nat} {x up up' : Nat → Nat} (h1 : up (k + 1) = up' (k + 1)) (h2 : up (sqN k) = up' (sqN k)) : pkK thr b sl f l x up k = pkK thr b sl f l x up' k ∧ lsK thr b sl f l x up k = lsK thr b sl f l x up' k := by
  unfold pkK lsK
  rw [h1, h2]
  exact ⟨rfl, rfl⟩
theorem ND_w {ρ σ : RS} {thr b sl f l n us p : Nat} {x up : Nat → Nat} {S : Option (Nat × Nat × Nat)} (h : NDv ρ σ thr b sl f l n x (us ||| 2 ^ p) (nu up p us) S) (hb : us.testBit p = false) : NDv ρ σ thr b sl f l n x us up S := by
  obtain ⟨h1, h2, h3, h4, h5, h6⟩ := h
  have hne : ∀ q, us.testBit q = true → q ≠ p := fun q hq z => by
    rw [z, hb] at hq
    cases hq
  have hin : ∀ q, us.testBit q = true → (us ||| 2 ^ p).testBit q = true := fun q hq => by rw [us_bit, hq, Bool.true_or]
  refine ⟨h1, h2, fun q hq hbq => ?_, fun k hk a c => ?_, h5, h6⟩
  · have := h3 q hq (hin q hbq)
    rw [nu_n (hne q hbq)] at this
    exact this
  · rw [h4 k hk (hin _ a) (hin _ c), (pkK_cg (up := nu up p us) (up' := up) (nu_n (hne _ a)) (nu_n (hne _ c))).1]
def SHu (fo b sl f l : Nat) (x : Nat → Nat) (us : Nat) (up : Nat → Nat) : Nat := sumN (fun p => if us.testBit p = true then shp fo b sl f l x p (stU b sl f l (up p)) else 0) 6
def LSu (thr b sl f l : Nat) (x : Nat → Nat) (us : Nat) (up : Nat → Nat) : Nat := sumN (fun k => if (us.testBit (k + 1) && us.testBit (sqN k)) = true then lsK thr b sl f l x up k else 0) 5
def meS (thr b sl f l : Nat) (x : Nat → Nat) (us p : Nat) (up : Nat → Nat) : Nat := sumN (fun k => if mee p us k = true then lsK thr b sl f l x up k else 0) 5
theorem SH_s {fo b sl f l us p : Nat} {x up : Nat → Nat} (hp : p < 6) (hb : us.testBit p = false) : SHu fo b sl f l x (us ||| 2 ^ p) (nu up p us) = SHu fo b sl f l x us up + shp fo b sl f l x p (stU b sl f l us) := by
  unfold SHu
  refine sum_pt (t := p) 6 hp (fun j hj hjp => ?_) ?_
  · show (if (us ||| 2 ^ p).testBit j = true then shp fo b sl f l x j (stU b sl f l (nu up p us j)) else 0) = _
    rw [us_bit, decide_eq_false hjp, Bool.or_false, nu_n hjp]
  · show (if (us ||| 2 ^ p).testBit p = true then shp fo b sl f l x p (stU b sl f l (nu up p us p)) else 0) = (if us.testBit p = true then shp fo b sl f l x p (stU b sl f l (up p)) else 0) + _
    rw [us_bit, decide_eq_true rfl, Bool.or_true, if_pos rfl, nu_s, hb, if_neg (by decide), Nat.zero_add]
theorem sum_ad {g h : Nat → Nat} : ∀ n, sumN (fun k => g k + h k) n = sumN g n + sumN h n
  | 0 => rfl
  | n + 1 => by
    show sumN (fun k => g k + h k) n + (g n + h n) = sumN g n + g n + (sumN h n + h n)
    rw [sum_ad n]
    omega
theorem LS_s {thr b sl f l us p : Nat} {x up : Nat → Nat} (hb : us.testBit p = false) : LSu thr b sl f l x (us ||| 2 ^ p) (nu up p us) = LSu thr b sl f l x us up + meS thr b sl f l x us p (nu up p us) := by
  unfold LSu meS
  rw [← sum_ad]
  refine sum_cg 5 (fun k hk => ?_)
  have hq := sq_lt hk
  show (if ((us ||| 2 ^ p).testBit (k + 1) && (us ||| 2 ^ p).testBit (sqN k)) = true then lsK thr b sl f l x (nu up p us) k else 0) = (if (us.testBit (k + 1) && us.testBit (sqN k)) = true then lsK thr b sl f l x up k else 0) + (if mee p us k = true then lsK thr b sl f l x (nu up p us) k else 0)
  rw [us_bit, us_bit]
  unfold mee
  by_cases c1 : p = k + 1
  · subst c1
    rw [hb, decide_eq_false (show ¬ sqN k = k + 1 by omega), @decide_eq_false (k + 1 = sqN k) _ (by omega)]
    simp
  · by_cases c2 : p = sqN k
    · subst c2
      rw [hb, decide_eq_false (show ¬ k + 1 = sqN k by omega), @decide_eq_false (sqN k = k + 1) _ (by omega)]
      simp
    · have e := (pkK_cg (thr := thr) (b := b) (sl := sl) (f := f) (l := l) (x := x) (up := nu up p us) (up' := up) (k := k) (nu_n (fun z => c1 z.symm)) (nu_n (fun z => c2 z.symm))).2
      rw [e, decide_eq_false (fun z => c1 z.symm), decide_eq_false (fun z => c2 z.symm), decide_eq_false c1, decide_eq_false c2]
      simp
theorem M_of {thr b sl f l o us : Nat} {x up : Nat → Nat} (h : ∀ p, p < 6 → stU b sl f l (up p) = sOf b sl f l o p) {k : Nat} (hk : k < 5) (t tS : Bool) : MM thr b sl f l x (sOf b sl f l o) k t tS = M4 thr b sl f l x k (stU b sl f l (up (k + 1))) (stU b sl f l (up (sqN k))) (wy t tS) := by
  have hq := sq_lt hk
  obtain ⟨-, w2, w3⟩ := wy_e t tS
  unfold MM M4
  rw [w2, w3, h (k + 1) (by omega), h (sqN k) hq.2, msU_T hk]
theorem SH_6 {fo b sl f l o : Nat} {x up : Nat → Nat} (h : ∀ p, p < 6 → stU b sl f l (up p) = sOf b sl f l o p) : SHu fo b sl f l x 63 up = shO fo b sl f l x (sOf b sl f l o) := by
  unfold SHu shO
  refine sum_cg 6 (fun p hp => ?_)
  have hb : ∀ p, p < 6 → Nat.testBit 63 p = true := by decide
  show (if Nat.testBit 63 p = true then shp fo b sl f l x p (stU b sl f l (up p)) else 0) = _
  rw [hb p hp, if_pos rfl, h p hp]
  rfl
theorem LS_6 {thr b sl f l o tw : Nat} {x up : Nat → Nat} (h : ∀ p, p < 6 → stU b sl f l (up p) = sOf b sl f l o p) : LSu thr b sl f l x 63 up ≤ msS (MM thr b sl f l x (sOf b sl f l o)) tw := by
  unfold LSu msS
  refine sum_le 5 (fun k hk => ?_)
  have hw := (wy_e (tnB tw (k + 1)) (tnB tw (sqN k))).1
  rw [M_of (us := 0) h hk]
  have : lsK thr b sl f l x up k ≤ M4 thr b sl f l x k (stU b sl f l (up (k + 1))) (stU b sl f l (up (sqN k))) (wy (tnB tw (k + 1)) (tnB tw (sqN k))) := by
    unfold lsK
    generalize M4 thr b sl f l x k (stU b sl f l (up (k + 1))) (stU b sl f l (up (sqN k))) = m
    unfold lstN
    rcases (show wy (tnB tw (k + 1)) (tnB tw (sqN k)) = 0 ∨ wy (tnB tw (k + 1)) (tnB tw (sqN k)) = 1 ∨ wy (tnB tw (k + 1)) (tnB tw (sqN k)) = 2 ∨ wy (tnB tw (k + 1)) (tnB tw (sqN k)) = 3 by omega) with e | e | e | e <;> rw [e] <;> omega
  split
  · exact this
  · exact Nat.zero_le _
theorem enC_mem {rec : Nat → Nat → List Nat} {us o o' : Nat} : ∀ c, c ≤ 6 → o' ∈ enC rec us o c → ∃ p, p < 6 ∧ us.testBit p = false ∧ o' ∈ rec (us ||| 2 ^ p) (o * 6 + p)
  | 0, _, h => by cases h
  | c + 1, hc, h => by
    unfold enC at h
    rcases List.mem_append.mp h with h1 | h1
    · by_cases cb : us.testBit (5 - c) = true
      · rw [if_pos cb] at h1
        cases h1
      · rw [if_neg cb] at h1
        exact ⟨5 - c, by omega, Bool.eq_false_iff.mpr cb, h1⟩
    · exact enC_mem c (by omega) h1
theorem lb_e {thr fo b sl f l : Nat} {x : Nat → Nat} {ow : Bool} : ∀ m d us o up o', d + m = 6 → PU b sl f l d us o up → o' ∈ enum m us o → 5 * SHu fo b sl f l x us up + LSu thr b sl f l x us up ≤ EO thr fo b sl f l x ow o' := by
  intro m
  induction m with
  | zero =>
    intro d us o up o' hd hP ho'
    have e : d = 6 := by omega
    subst e
    have e2 : o' = o := List.mem_singleton.mp ho'
    subst e2
    obtain ⟨h1, -, -, h4⟩ := PU_6 hP
    subst h1
    obtain ⟨tw, k1, k2⟩ := KEY_ex ow (MM thr b sl f l x (sOf b sl f l o'))
    unfold EO
    rw [SH_6 h4, (KEY_tw k1 k2).1]
    have := LS_6 (thr := thr) (tw := tw) (x := x) h4
    omega
  | succ m ih =>
    intro d us o up o' hd hP ho'
    obtain ⟨p, p1, p2, p3⟩ := enC_mem 6 (Nat.le_refl _) ho'
    have := ih (d + 1) (us ||| 2 ^ p) (o * 6 + p) (nu up p us) o' (by omega) (PU_s hP (by omega) p1 p2) p3
    rw [SH_s p1 p2, LS_s p2] at this
    omega
theorem fold_id {E T : Nat → Nat} {q : Nat × Nat × Nat} : ∀ L : List Nat, (∀ o, o ∈ L → q.1 ≤ E o) → L.foldl (stp E T) (some q) = some q
  | [], _ => rfl
  | o :: L, h => by
    rw [List.foldl_cons]
    have e : stp E T (some q) o = some q := by
      show (if E o < q.1 then _ else some q) = some q
      have := h o List.mem_cons_self
      rw [if_neg (by omega)]
    rw [e]
    exact fold_id L (fun o' ho' => h o' (List.mem_cons_of_mem _ ho'))
theorem SH_le {fo b sl f l us : Nat} {x up : Nat → Nat} (ho : okl b sl f l) : SHu fo b sl f l x us up ≤ 720 := by
  refine Nat.le_trans (sumB (c := 120) 6 (fun p hp => ?_)) (by decide)
  show (if us.testBit p = true then shp fo b sl f l x p (stU b sl f l (up p)) else 0) ≤ 120
  split
  · have h1 := cntN_le (fun i => spt (x (stU b sl f l (up p) + fo + i))) (lenP b sl f l p - 2 * fo)
    have h2 := fl_le hp ho
    unfold shp
    omega
  · exact Nat.zero_le _
theorem LS_le {thr b sl f l us : Nat} {x up : Nat → Nat} (ho : okl b sl f l) : LSu thr b sl f l x us up ≤ 150 := by
  refine Nat.le_trans (sumB (c := 30) 5 (fun k hk => ?_)) (by decide)
  show (if (us.testBit (k + 1) && us.testBit (sqN k)) = true then lsK thr b sl f l x up k else 0) ≤ 30
  split
  · exact (pkn_lt (M4_le ho)).1
  · exact Nat.zero_le _
