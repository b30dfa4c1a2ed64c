def M4 (thr b sl f l : Nat) (x : Nat → Nat) (k u1 u2 : Nat) : Nat → Nat := fun w => msU thr b sl f l x k u1 u2 (wayT w) (wayS w)
theorem M4_le {thr b sl f l k u1 u2 : Nat} {x : Nat → Nat} (ho : okl b sl f l) : ∀ w, w < 4 → M4 thr b sl f l x k u1 u2 w ≤ 30 := fun w _ => by
  unfold M4 msU
  exact ms_le ho
def kdN (k : Nat) : Nat := if k = 0 then 0 else if k = 1 then 1 else if k = 2 then 1 else if k = 3 then 2 else 3
def idN (k c1 c2 : Nat) : Nat := (kdN k * 36 + c1) * 36 + c2
theorem M4_12 {thr b sl f l u1 u2 : Nat} {x : Nat → Nat} : M4 thr b sl f l x 1 u1 u2 = M4 thr b sl f l x 2 u1 u2 := by
  funext w
  unfold M4 msU msT
  rfl
theorem M4_kd {thr b sl f l k k' u1 u2 : Nat} {x : Nat → Nat} (hk : k < 5) (hk' : k' < 5) (h : kdN k = kdN k') : M4 thr b sl f l x k u1 u2 = M4 thr b sl f l x k' u1 u2 := by
  by_cases c : k = k'
  · rw [c]
  · have key : (k = 1 ∧ k' = 2) ∨ (k = 2 ∧ k' = 1) := by
      rcases (show k = 0 ∨ k = 1 ∨ k = 2 ∨ k = 3 ∨ k = 4 by omega) with rfl | rfl | rfl | rfl | rfl <;> rcases (show k' = 0 ∨ k' = 1 ∨ k' = 2 ∨ k' = 3 ∨ k' = 4 by omega) with rfl | rfl | rfl | rfl | rfl <;> first | (exact absurd rfl c) | (exact absurd h (by decide)) | omega
    rcases key with ⟨rfl, rfl⟩ | ⟨rfl, rfl⟩
    · exact M4_12
    · exact M4_12.symm
def MEMO (σ : RS) (thr b sl f l : Nat) (x : Nat → Nat) : Prop := ∀ k m1 m2, k < 5 → m1 < 64 → m2 < 64 → rA σ 701 (idN k (scd m1) (scd m2)) = -1 ∨ rA σ 701 (idN k (scd m1) (scd m2)) = nI (pkN (M4 thr b sl f l x k (stU b sl f l m1) (stU b sl f l m2)))
theorem kd_lt {k : Nat} : kdN k < 4 := by
  unfold kdN
  split <;> (try split) <;> (try split) <;> (try split) <;> omega
theorem id_lt {k m1 m2 : Nat} (h1 : m1 < 64) (h2 : m2 < 64) : idN k (scd m1) (scd m2) < 5184 := by
  have a1 := scd_lt h1
  have a2 := scd_lt h2
  have a3 := kd_lt (k := k)
  unfold idN
  omega
theorem MEMO_up {σ : RS} {thr b sl f l k m1 m2 : Nat} {x : Nat → Nat} (h : MEMO σ thr b sl f l x) (hk : k < 5) (h1 : m1 < 64) (h2 : m2 < 64) : MEMO (rc σ 701 (upd (rA σ 701) (idN k (scd m1) (scd m2)) (nI (pkN (M4 thr b sl f l x k (stU b sl f l m1) (stU b sl f l m2)))))) thr b sl f l x := by
  intro k' m1' m2' hk' h1' h2'
  rw [rA_rc, if_pos rfl]
  by_cases c : idN k' (scd m1') (scd m2') = idN k (scd m1) (scd m2)
  · right
    have a1 := scd_lt h1
    have a2 := scd_lt h2
    have a1' := scd_lt h1'
    have a2' := scd_lt h2'
    unfold idN at c
    have e1 : scd m2' = scd m2 := by omega
    have e2 : scd m1' = scd m1 := by omega
    have e3 : kdN k' = kdN k := by omega
    rw [e1, e2, show idN k' (scd m1) (scd m2) = idN k (scd m1) (scd m2) from by unfold idN; rw [e3], upd_s, M4_kd hk' hk e3, scd_st h1' h1 e2, scd_st h2' h2 e1]
  · rw [upd_n c]
    exact h k' m1' m2' hk' h1' h2'
theorem tbK_e {k : Nat} (hk : k < 5) : tbK k = nI (kdN k) := by
  rcases (show k = 0 ∨ k = 1 ∨ k = 2 ∨ k = 3 ∨ k = 4 by omega) with rfl | rfl | rfl | rfl | rfl <;> rfl
theorem tbW_e {k : Nat} (hk : k < 5) : tbW k = nI (sqN k) := by
  rcases (show k = 0 ∨ k = 1 ∨ k = 2 ∨ k = 3 ∨ k = 4 by omega) with rfl | rfl | rfl | rfl | rfl <;> rfl
theorem missesOf_e {σ : RS} {rb e n b sl f l thr fo k m1 m2 : Nat} {x : Nat → Nat} {v0 : Int32} (h : SprV σ rb e n b sl f l thr fo x v0) (hk : k < 5) (h1 : m1 < 64) (h2 : m2 < 64) (c1 : rA σ 702 (k + 1) = nI (scd m1)) (c2 : rA σ 702 (sqN k) = nI (scd m2)) (s1 : rA σ 205 (k + 1) = nI (stU b sl f l m1)) (s2 : rA σ 205 (sqN k) = nI (stU b sl f l m2)) (b1 : stU b sl f l m1 + lenP b sl f l (k + 1) ≤ n) (b2 : stU b sl f l m2 + lenP b sl f l (sqN k) ≤ n) (hM : MEMO σ thr b sl f l x) : ∃ G, FR_X7_missesOf σ (nI k) = some (nI (pkN (M4 thr b sl f l x k (stU b sl f l m1) (stU b sl f l m2))), rc σ 701 G) ∧ MEMO (rc σ 701 G) thr b sl f l x := by
  have ho := h.2.2.2.2.2.2.2.1
  have hq := sq_lt hk
  have hid := id_lt (k := k) h1 h2
  have a1 := scd_lt h1
  have a2 := scd_lt h2
  have a3 := kd_lt (k := k)
  have eidx : ((tbK k * (36 : Int32) + nI (scd m1)) * (36 : Int32)) + nI (scd m2) = nI (idN k (scd m1) (scd m2)) := by
    rw [tbK_e hk, show nI (kdN k) * (36 : Int32) = nI (kdN k * 36) from pk_mul _ 36, nI_add, show nI (kdN k * 36 + scd m1) * (36 : Int32) = nI ((kdN k * 36 + scd m1) * 36) from pk_mul _ 36, nI_add]
    rfl
  unfold FR_X7_missesOf
  rw [nI_1, gd_t (inb_nI (show k + 1 < 6 by omega) (by decide)), gd_t (inb_nI hk (by decide)), nI_clamp (show k < 2 ^ 31 by omega), nI_clamp (show k + 1 < 2 ^ 31 by omega), tbW_e hk, gd_t (inb_nI hq.2 (by decide)), gd_t (inb_nI hk (by decide)), nI_clamp (show sqN k < 2 ^ 31 by omega), c1, c2, eidx, if_neg (show ¬ nI (idN k (scd m1) (scd m2)) < 0 from nI_pos (by omega)), if_pos (show nI (idN k (scd m1) (scd m2)) < 5184 from nI_lt (b := 5184) hid (by decide)), gd_t (inb_nI hid (by decide)), nI_clamp (show idN k (scd m1) (scd m2) < 2 ^ 31 by omega)]
  have hc := countMisses_e (σ := σ) (k := k) (m := M4 thr b sl f l x k (stU b sl f l m1) (stU b sl f l m2)) (fun w hw => ⟨M4_le ho w hw, missTurned_k h hk s1 s2 b1 b2 (wayT w) (wayS w)⟩)
  unfold FR_X7_missesOf_81
  rw [gd_t (inb_nI hid (by decide)), nI_clamp (show idN k (scd m1) (scd m2) < 2 ^ 31 by omega)]
  by_cases c : rA σ 701 (idN k (scd m1) (scd m2)) = -1
  · rw [if_pos c, hc, sb, gd_t (inb_nI hid (by decide)), gd_t (inb_nI hid (by decide))]
    refine ⟨_, ?_, MEMO_up hM hk h1 h2⟩
    rw [ra_rc, nI_clamp (show idN k (scd m1) (scd m2) < 2 ^ 31 by omega), rA_rc, if_pos rfl, upd_s]
  · rw [if_neg c]
    refine ⟨rA σ 701, ?_, by rw [rc_self]; exact hM⟩
    rw [rc_self, (hM k m1 m2 hk h1 h2).resolve_left c]
theorem bit_t : ∀ us, us < 64 → ∀ q, q < 6 → (nI us >>> (nI q &&& 31)) &&& 1 = if us.testBit q = true then 1 else 0 := by decide +kernel
def mee (p us k : Nat) : Bool := (decide (p = k + 1) && us.testBit (sqN k)) || (decide (p = sqN k) && us.testBit (k + 1))
theorem other_e {σ : RS} {k p : Nat} (hk : k < 5) (hp : p < 6) : FR_X7_otherOf σ (nI k) (nI p) = some (if p = k + 1 then nI (sqN k) else if p = sqN k then nI (k + 1) else -1) := by
  have hq := sq_lt hk
  unfold FR_X7_otherOf
  rw [nI_1, gd_t (inb_nI hk (by decide)), gd_t (inb_nI hk (by decide)), nI_clamp (by omega), tbW_e hk]
  by_cases c : p = k + 1
  · rw [if_pos (by rw [c]), if_pos c]
  · rw [if_neg (fun z => c ((nI_eq (by omega) (by omega)).mp z)), if_neg c]
    by_cases c2 : p = sqN k
    · rw [if_pos (by rw [c2]), if_pos c2]
    · rw [if_neg (fun z => c2 ((nI_eq (by omega) (by omega)).mp z)), if_neg c2]
def lsK (thr b sl f l : Nat) (x up : Nat → Nat) (k : Nat) : Nat := lstN (M4 thr b sl f l x k (stU b sl f l (up (k + 1))) (stU b sl f l (up (sqN k))))
def pkK (thr b sl f l : Nat) (x up : Nat → Nat) (k : Nat) : Nat := pkN (M4 thr b sl f l x k (stU b sl f l (up (k + 1))) (stU b sl f l (up (sqN k))))
/-- the pieces of this set lie where the state says -/
def plV (σ : RS) (b sl f l n us : Nat) (up : Nat → Nat) : Prop := ∀ q, q < 6 → us.testBit q = true → up q < 64 ∧ rA σ 702 q = nI (scd (up q)) ∧ rA σ 205 q = nI (stU b sl f l (up q)) ∧ stU b sl f l (up q) + lenP b sl f l q ≤ n
theorem meet5 {σ : RS} {rb e n b sl f l thr fo us p : Nat} {x up : Nat → Nat} {v0 : Int32} (hus : us < 64) (hp : p < 6) : ∀ d k fuel G W, k + d = 5 → d < fuel → SprV (rc (rc σ 701 G) 703 W) rb e n b sl f l thr fo x v0 → plV (rc (rc σ 701 G) 703 W) b sl f l n (us ||| 2 ^ p) up → MEMO (rc (rc σ 701 G) 703 W) thr b sl f l x → ∃ G' W', FR_X7_meetSeams_5 (nI p) (nI us) fuel (nI (sumN (fun k => if mee p us k = true then lsK thr b sl f l x up k else 0) k)) (nI k) (rc (rc σ 701 G) 703 W) = some (nI (sumN (fun k => if mee p us k = true then lsK thr b sl f l x up k else 0) 5), rc (rc σ 701 G') 703 W') ∧ MEMO (rc (rc σ 701 G') 703 W') thr b sl f l x ∧ ∀ j, W' j = if k ≤ j ∧ j < 5 ∧ mee p us j = true then nI (pkK thr b sl f l x up j) else W j := by
  intro d
  induction d with
  | zero =>
    intro k fuel G W hk hf hV hpl hM
    obtain ⟨f1, rfl⟩ : ∃ f, fuel = f + 1 := ⟨fuel - 1, by omega⟩
    have e : k = 5 := by omega
    subst e
    exact ⟨G, W, by rw [FR_X7_meetSeams_5, if_pos (show (5 : Int32) ≤ nI 5 by decide)], hM, fun j => by rw [if_neg (by omega)]⟩
  | succ d ih =>
    intro k fuel G W hk hf hV hpl hM
    obtain ⟨f1, rfl⟩ : ∃ f, fuel = f + 1 := ⟨fuel - 1, by omega⟩
    have hk5 : k < 5 := by omega
    have hq := sq_lt hk5
    have ho := hV.2.2.2.2.2.2.2.1
    rw [FR_X7_meetSeams_5, if_neg (show ¬ (5 : Int32) ≤ nI k from nI_ge (b := 5) (by omega) (by decide)), other_e hk5 hp, sb, nI_1]
    have skip : mee p us k = false → ∃ G' W', FR_X7_meetSeams_5 (nI p) (nI us) f1 (nI (sumN (fun k => if mee p us k = true then lsK thr b sl f l x up k else 0) k)) (nI (k + 1)) (rc (rc σ 701 G) 703 W) = some (nI (sumN (fun k => if mee p us k = true then lsK thr b sl f l x up k else 0) 5), rc (rc σ 701 G') 703 W') ∧ MEMO (rc (rc σ 701 G') 703 W') thr b sl f l x ∧ ∀ j, W' j = if k ≤ j ∧ j < 5 ∧ mee p us j = true then nI (pkK thr b sl f l x up j) else W j := fun hm => by
      obtain ⟨G', W', z1, z2, z3⟩ := ih (k + 1) f1 G W (by omega) (by omega) hV hpl hM
      have e0 : sumN (fun k => if mee p us k = true then lsK thr b sl f l x up k else 0) (k + 1) = sumN (fun k => if mee p us k = true then lsK thr b sl f l x up k else 0) k := by
        show _ + (if mee p us k = true then lsK thr b sl f l x up k else 0) = _
        rw [hm, if_neg (by decide), Nat.add_zero]
      rw [e0] at z1
      refine ⟨G', W', z1, z2, fun j => ?_⟩
      rw [z3 j]
      by_cases cj : j = k
      · subst cj
        rw [if_neg (by omega), if_neg (by rw [hm]; simp)]
      · by_cases c1 : k + 1 ≤ j ∧ j < 5 ∧ mee p us j = true
        · rw [if_pos c1, if_pos ⟨by omega, c1.2⟩]
        · rw [if_neg c1, if_neg (fun z => c1 ⟨by omega, z.2⟩)]
    have take : mee p us k = true → ∃ G' W', ((FR_X7_missesOf (rc (rc σ 701 G) 703 W) (nI k)).bind fun q_44 => (gd (inb (nI k) 5) (gd (inb (nI k) 5) (FR_X7_meetSeams_5 (nI p) (nI us) f1 (nI (sumN (fun k => if mee p us k = true then lsK thr b sl f l x up k else 0) k) + ((rA (ra q_44.2 703 (nI k) q_44.1) 703 (nI k).toNatClampNeg) >>> ((24 : Int32) &&& 31))) (nI (k + 1)) (ra q_44.2 703 (nI k) q_44.1))))) = some (nI (sumN (fun k => if mee p us k = true then lsK thr b sl f l x up k else 0) 5), rc (rc σ 701 G') 703 W') ∧ MEMO (rc (rc σ 701 G') 703 W') thr b sl f l x ∧ ∀ j, W' j = if k ≤ j ∧ j < 5 ∧ mee p us j = true then nI (pkK thr b sl f l x up j) else W j := fun hm => by
      have hb : (us ||| 2 ^ p).testBit (k + 1) = true ∧ (us ||| 2 ^ p).testBit (sqN k) = true := by
        rw [us_bit, us_bit]
        unfold mee at hm
        simp only [Bool.or_eq_true, Bool.and_eq_true, decide_eq_true_iff] at hm ⊢
        rcases hm with ⟨z1, z2⟩ | ⟨z1, z2⟩
        · exact ⟨Or.inr z1.symm, Or.inl z2⟩
        · exact ⟨Or.inl z2, Or.inr z1.symm⟩
      obtain ⟨y1, y2, y3, y4⟩ := hpl (k + 1) (by omega) hb.1
      obtain ⟨w1, w2, w3, w4⟩ := hpl (sqN k) hq.2 hb.2
      obtain ⟨G1, v1, v2⟩ := missesOf_e hV hk5 y1 w1 y2 w2 y3 w3 y4 w4 hM
      have hpk := pkn_lt (M4_le (thr := thr) (k := k) (u1 := stU b sl f l (up (k + 1))) (u2 := stU b sl f l (up (sqN k))) (x := x) ho)
      have est : ∀ v, ra (rc (rc (rc σ 701 G) 703 W) 701 G1) 703 (nI k) v = rc (rc σ 701 G1) 703 (upd W k v) := fun v => by
        rw [ra_rc, nI_clamp (show k < 2 ^ 31 by omega), rc_cm (rc σ 701 G) (show 703 ≠ 701 by decide), rc_rc, rc_rc, rA_rc, if_pos rfl]
      rw [v1, sb, gd_t (inb_nI hk5 (by decide)), gd_t (inb_nI hk5 (by decide))]
      dsimp only
      rw [est, rA_rc, if_pos rfl, nI_clamp (show k < 2 ^ 31 by omega), upd_s, show (24 : Int32) = nI 24 from rfl, nI_shr (by decide) (by omega), hpk.2.2.1, nI_add]
      have e0 : sumN (fun k => if mee p us k = true then lsK thr b sl f l x up k else 0) k + lstN (M4 thr b sl f l x k (stU b sl f l (up (k + 1))) (stU b sl f l (up (sqN k)))) = sumN (fun k => if mee p us k = true then lsK thr b sl f l x up k else 0) (k + 1) := by
        show _ = _ + (if mee p us k = true then lsK thr b sl f l x up k else 0)
        rw [hm, if_pos rfl]
        rfl
      rw [e0]
      have v2' : MEMO (rc (rc σ 701 G1) 703 (upd W k (nI (pkN (M4 thr b sl f l x k (stU b sl f l (up (k + 1))) (stU b sl f l (up (sqN k)))))))) thr b sl f l x := by
        intro k' m1' m2' a1 a2 a3
        have := v2 k' m1' m2' a1 a2 a3
        rw [rA_rc, if_pos rfl] at this
        rw [rA_rc, if_neg (by decide), rA_rc, if_pos rfl]
        exact this
      obtain ⟨G', W', z1, z2, z3⟩ := ih (k + 1) f1 G1 (upd W k (nI (pkN (M4 thr b sl f l x k (stU b sl f l (up (k + 1))) (stU b sl f l (up (sqN k))))))) (by omega) (by omega) hV hpl v2'
      refine ⟨G', W', z1, z2, fun j => ?_⟩
      rw [z3 j]
      by_cases cj : j = k
      · subst cj
        rw [if_neg (by omega), if_pos ⟨Nat.le_refl _, hk5, hm⟩, upd_s]
        rfl
      · rw [upd_n cj]
        by_cases c1 : k + 1 ≤ j ∧ j < 5 ∧ mee p us j = true
        · rw [if_pos c1, if_pos ⟨by omega, c1.2⟩]
        · rw [if_neg c1, if_neg (fun z => c1 ⟨by omega, z.2⟩)]
    by_cases c1 : p = k + 1
    · rw [if_pos c1, if_neg (show ¬ nI (sqN k) = -1 from z_m1 (by omega)), bit_t us hus _ hq.2]
      cases hb : us.testBit (sqN k) with
      | true =>
        rw [if_pos rfl, if_pos rfl]
        refine take ?_
        unfold mee
        rw [decide_eq_true c1, hb]
        rfl
      | false =>
        rw [if_neg (by decide)]
        refine skip ?_
        unfold mee
        rw [hb, decide_eq_false (show ¬ p = sqN k by omega), Bool.and_false, Bool.false_and]
        rfl
    · rw [if_neg c1]
      by_cases c2 : p = sqN k
      · rw [if_pos c2, if_neg (show ¬ nI (k + 1) = -1 from z_m1 (by omega)), bit_t us hus _ (by omega)]
        cases hb : us.testBit (k + 1) with
        | true =>
          rw [if_pos rfl, if_pos rfl]
          refine take ?_
          unfold mee
          rw [decide_eq_true c2, hb]
          simp
        | false =>
          rw [if_neg (by decide)]
          refine skip ?_
          unfold mee
          rw [hb, decide_eq_false c1, Bool.and_false, Bool.false_and]
          rfl
      · rw [if_neg c2, if_pos rfl]
        refine skip ?_
        unfold mee
        rw [decide_eq_false c1, decide_eq_false c2, Bool.false_and, Bool.false_and]
        rfl
