theorem en_lt {b sl f l : Nat} : ∀ m d us o up o', d + m = 6 → PU b sl f l d us o up → o' ∈ enum m us o → o' < 46656 := by
  intro m
  induction m with
  | zero =>
    intro d us o up o' hd hP ho'
    have e : d = 6 := by omega
    subst e
    have e2 : o' = o := List.mem_singleton.mp ho'
    subst e2
    exact (PU_6 hP).2.1
  | succ m ih =>
    intro d us o up o' hd hP ho'
    obtain ⟨p, p1, p2, p3⟩ := enC_mem 6 (Nat.le_refl _) ho'
    exact ih (d + 1) _ _ (nu up p us) o' (by omega) (PU_s hP (by omega) p1 p2) p3
theorem fold_in {E T : Nat → Nat} : ∀ (L : List Nat) S q, L.foldl (stp E T) S = some q → S = some q ∨ q.2.1 ∈ L
  | [], S, q, h => Or.inl h
  | o :: L, S, q, h => by
    rw [List.foldl_cons] at h
    rcases fold_in L _ q h with z | z
    · unfold stp at z
      cases S with
      | none =>
        cases z
        exact Or.inr List.mem_cons_self
      | some q' =>
        dsimp only at z
        by_cases c : E o < q'.1
        · rw [if_pos c] at z
          cases z
          exact Or.inr List.mem_cons_self
        · rw [if_neg c] at z
          exact Or.inl z
    · exact Or.inr (List.mem_cons_of_mem _ z)
theorem fold_sm {E T : Nat → Nat} : ∀ (L : List Nat) q, ∃ q', L.foldl (stp E T) (some q) = some q'
  | [], q => ⟨q, rfl⟩
  | o :: L, q => by
    rw [List.foldl_cons]
    unfold stp
    dsimp only
    by_cases c : E o < q.1
    · rw [if_pos c]
      exact fold_sm L _
    · rw [if_neg c]
      exact fold_sm L _
theorem en_some {E T : Nat → Nat} : ∃ q, (enum 6 0 0).foldl (stp E T) none = some q ∧ q.2.1 < 46656 := by
  have h : ∃ q, (enum 6 0 0).foldl (stp E T) none = some q := by
    rw [← seq_en]
    unfold seqn
    rw [List.foldl_cons]
    exact fold_sm _ _
  obtain ⟨q, hq⟩ := h
  refine ⟨q, hq, ?_⟩
  rcases fold_in _ _ q hq with z | z
  · cases z
  · exact en_lt (b := 0) (sl := 0) (f := 0) (l := 0) 6 0 0 0 (fun _ => 0) _ (by omega) (PU_0 0 0 0 0 _) z
theorem fill701 {σ : RS} {g : Nat → Int32} {v : Int32} : ∀ d i fuel, i + d = 5184 → d < fuel → FR_fill_701_5 v 5184 fuel (nI i) (rc σ 701 (hyb 0 i (fun _ => v) g)) = some (rc σ 701 (hyb 0 5184 (fun _ => v) g)) := by
  intro d
  induction d with
  | zero =>
    intro i fuel hi hf
    obtain ⟨f1, rfl⟩ : ∃ f, fuel = f + 1 := ⟨fuel - 1, by omega⟩
    have e : i = 5184 := by omega
    subst e
    rw [FR_fill_701_5, if_pos (show (5184 : Int32) ≤ nI 5184 from nI_le (a := 5184) (Nat.le_refl _) (by decide))]
  | succ d ih =>
    intro i fuel hi hf
    obtain ⟨f1, rfl⟩ : ∃ f, fuel = f + 1 := ⟨fuel - 1, by omega⟩
    rw [FR_fill_701_5, if_neg (show ¬ (5184 : Int32) ≤ nI i from nI_ge (b := 5184) (by omega) (by decide)), gd_t (inb_nI (show i < 5184 by omega) (by decide)), ra_rc, rc_rc, rA_rc, if_pos rfl, nI_clamp (by omega), nI_1]
    have := hyb_s 0 i (fun _ => v) g
    rw [Nat.zero_add] at this
    rw [this]
    exact ih (i + 1) f1 (by omega) (by omega)
theorem fu_big : 6000 < fu := by decide
theorem fill701_e (σ : RS) (v : Int32) : ∃ G, (∀ r, r < 5184 → G r = v) ∧ FR_fill_701 σ v = some (rc σ 701 G) := by
  have hfu := fu_big
  have h := fill701 (σ := σ) (g := rA σ 701) (v := v) 5184 0 fu (by omega) (by omega)
  rw [hyb_0, rc_self] at h
  exact ⟨_, fun r hr => hyb_in0 hr, h⟩
theorem sum_z : ∀ n, sumN (fun _ => 0) n = 0
  | 0 => rfl
  | n + 1 => by
    show sumN (fun _ => 0) n + 0 = 0
    rw [sum_z n]
theorem findB_e {σ : RS} {rb e n b sl f l thr fo : Nat} {x : Nat → Nat} {v0 : Int32} (ow : Bool) (hS : SprV σ rb e n b sl f l thr fo x v0) : ∃ σ' q, FR_X7_find σ (if ow = true then 1 else 0) = some σ' ∧ (enum 6 0 0).foldl (stp (EO thr fo b sl f l x ow) (TO thr b sl f l x ow)) none = some q ∧ q.2.1 < 46656 ∧ rI σ' 707 = nI q.1 ∧ rI σ' 708 = nI q.2.1 ∧ rI σ' 709 = nI q.2.2 ∧ (∀ j, j ≠ 706 → j ≠ 707 → j ≠ 708 → j ≠ 709 → rI σ' j = rI σ j) ∧ (∀ j, j ≠ 205 → j ≠ 701 → j ≠ 702 → j ≠ 703 → j ≠ 704 → j ≠ 705 → rA σ' j = rA σ j) ∧ σ'.2.2 = σ.2.2 := by
  have hS0 : SprV (ri (ri σ 706 (if ow = true then 1 else 0)) 707 1000000) rb e n b sl f l thr fo x v0 := hS
  have i706 : rI (ri (ri σ 706 (if ow = true then 1 else 0)) 707 1000000) 706 = if ow = true then 1 else 0 := by rw [qrI_ri, if_neg (by decide), qrI_ri, if_pos rfl]
  have i707 : rI (ri (ri σ 706 (if ow = true then 1 else 0)) 707 1000000) 707 = nI 1000000 := by rw [qrI_ri, if_pos rfl]; rfl
  have io : ∀ j, j ≠ 706 → j ≠ 707 → rI (ri (ri σ 706 (if ow = true then 1 else 0)) 707 1000000) j = rI σ j := fun j h1 h2 => by rw [qrI_ri, if_neg h2, qrI_ri, if_neg h1]
  have ao : ∀ j, rA (ri (ri σ 706 (if ow = true then 1 else 0)) 707 1000000) j = rA σ j := fun j => rfl
  have po : (ri (ri σ 706 (if ow = true then 1 else 0)) 707 1000000).2.2 = σ.2.2 := rfl
  have hB : isB (if ow = true then (1 : Int32) else 0) = true := by cases ow <;> decide
  unfold FR_X7_find
  rw [hB, gdt]
  generalize ri (ri σ 706 (if ow = true then 1 else 0)) 707 1000000 = ρ0 at hS0 i706 i707 io ao po ⊢
  obtain ⟨G, g1, g2⟩ := fill701_e ρ0 (-1)
  have f0 : FRB ρ0 (rc ρ0 701 G) := FRB.rc ⟨fun _ _ _ _ => rfl, fun _ _ _ _ _ _ _ => rfl, rfl⟩ (by omega) G
  have hN : NDv ρ0 (rc ρ0 701 G) thr b sl f l n x 0 (fun _ => 0) none := by
    refine ⟨f0, fun k m1 m2 a1 a2 a3 => Or.inl ?_, fun q hq hb => ?_, fun k hk a c => ?_, i707, fun q hq => by cases hq⟩
    · rw [rA_rc, if_pos rfl]
      exact g1 _ (id_lt a2 a3)
    · rw [Nat.zero_testBit] at hb
      cases hb
    · rw [Nat.zero_testBit] at a
      cases a
  obtain ⟨σ', z1, z2⟩ := ext_e (ow := ow) hS0 i706 6 8 0 0 0 (fun _ => 0) (rc ρ0 701 G) none (by omega) (by omega) (PU_0 b sl f l _) hN
  obtain ⟨q, q1, q2⟩ := en_some (E := EO thr fo b sl f l x ow) (T := TO thr b sl f l x ow)
  have s0 : SHu fo b sl f l x 0 (fun _ => 0) = 0 := by
    unfold SHu
    refine Eq.trans (sum_cg 6 (fun p _ => ?_)) (sum_z 6)
    rw [Nat.zero_testBit, if_neg (by decide)]
  have l0 : LSu thr b sl f l x 0 (fun _ => 0) = 0 := by
    unfold LSu
    refine Eq.trans (sum_cg 5 (fun k _ => ?_)) (sum_z 5)
    rw [Nat.zero_testBit, Bool.false_and, if_neg (by decide)]
  have t0 : stU b sl f l 0 = 0 := by
    unfold stU
    rw [show cA 0 = 0 from rfl, show cB 0 = 0 from rfl, show cF 0 = 0 from rfl, show cL 0 = 0 from rfl]
    omega
  rw [s0, l0, t0, show nI 0 = (0 : Int32) from rfl] at z1
  rw [q1] at z2
  obtain ⟨f1, -, -, -, n5, n6⟩ := z2
  obtain ⟨y1, y2, -⟩ := n6 q rfl
  refine ⟨σ', q, ?_, q1, q2, n5, y1, y2, fun j a c d e => (f1.1 j c d e).trans (io j a c), fun j a b c d e g => (f1.2.1 j a b c d e g).trans (ao j), f1.2.2.trans po⟩
  rw [g2, sb, z1, sb]
