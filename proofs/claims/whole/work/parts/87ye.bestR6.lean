theorem ND_st {ρ σ σ' : RS} {thr b sl f l n us : Nat} {x up : Nat → Nat} {S S' : Option (Nat × Nat × Nat)} (h : NDv ρ σ thr b sl f l n x us up S) (hf : FRB ρ σ') (ha : ∀ j, (j = 205 ∨ j = 701 ∨ j = 702 ∨ j = 703) → rA σ' j = rA σ j) (h7 : rI σ' 707 = nI (ubS S')) (h8 : ∀ q, S' = some q → rI σ' 708 = nI q.2.1 ∧ rI σ' 709 = nI q.2.2 ∧ q.1 < 100000) : NDv ρ σ' thr b sl f l n x us up S' := by
  obtain ⟨h1, h2, h3, h4, -, -⟩ := h
  refine ⟨hf, fun k m1 m2 a1 a2 a3 => ?_, fun q hq hb => ?_, fun k hk a c => ?_, h7, h8⟩
  · rw [ha 701 (by omega)]
    exact h2 k m1 m2 a1 a2 a3
  · rw [ha 702 (by omega), ha 205 (by omega)]
    exact h3 q hq hb
  · rw [ha 703 (by omega)]
    exact h4 k hk a c
theorem weigh_e {ρ σ : RS} {thr fo b sl f l n us o : Nat} {x up : Nat → Nat} {ow : Bool} {S : Option (Nat × Nat × Nat)} (ho : okl b sl f l) (h706 : rI ρ 706 = if ow = true then 1 else 0) (hP : PU b sl f l 6 us o up) (hN : NDv ρ σ thr b sl f l n x us up S) : ∃ σ', FR_X7_weigh σ (nI o) (nI (SHu fo b sl f l x us up)) = some σ' ∧ NDv ρ σ' thr b sl f l n x us up (stp (EO thr fo b sl f l x ow) (TO thr b sl f l x ow) S o) := by
  obtain ⟨hu, ho46, hm, hst⟩ := PU_6 hP
  have hb63 : ∀ p, p < 6 → Nat.testBit 63 p = true := by decide
  have hN0 := hN
  obtain ⟨n1, n2, n3, n4, n5, n6⟩ := hN
  subst hu
  obtain ⟨A, C, k1⟩ := leastKey_e (σ := σ) (m := fun k => M4 thr b sl f l x k (stU b sl f l (up (k + 1))) (stU b sl f l (up (sqN k)))) (M := MM thr b sl f l x (sOf b sl f l o)) (ow := ow) (fun k w hk hw => M4_le ho w hw) (fun k t tS hk => M_of (us := 0) hst hk t tS) (fun k hk => n4 k hk (hb63 _ (by omega)) (hb63 _ (sq_lt hk).2)) (by rw [n1.1 706 (by decide) (by decide) (by decide)]; exact h706)
  have hE := EO_le (thr := thr) (fo := fo) (x := x) (ow := ow) (o := o) ho
  have hSH : SHu fo b sl f l x 63 up = shO fo b sl f l x (sOf b sl f l o) := SH_6 hst
  have hsh := shO_le (fo := fo) (x := x) (s := sOf b sl f l o) ho
  have eE : (5 : Int32) * nI (SHu fo b sl f l x 63 up) + nI (KEY ow (MM thr b sl f l x (sOf b sl f l o))) / (512 : Int32) = nI (EO thr fo b sl f l x ow o) := by
    have hk : KEY ow (MM thr b sl f l x (sOf b sl f l o)) < 2147483648 := by
      unfold EO at hE
      omega
    rw [show (5 : Int32) * nI (SHu fo b sl f l x 63 up) = nI (5 * SHu fo b sl f l x 63 up) from pk_mul 5 _, show nI (KEY ow (MM thr b sl f l x (sOf b sl f l o))) / (512 : Int32) = nI (KEY ow (MM thr b sl f l x (sOf b sl f l o)) / 512) from z_div (d := 512) hk (by decide) (by decide), nI_add, hSH]
    rfl
  have eT : nI (KEY ow (MM thr b sl f l x (sOf b sl f l o))) &&& (63 : Int32) = nI (TO thr b sl f l x ow o) := nI_and63
  have f1 : FRB ρ (rc (rc σ 704 A) 705 C) := (n1.rc (by omega) A).rc (by omega) C
  have a1 : ∀ j, (j = 205 ∨ j = 701 ∨ j = 702 ∨ j = 703) → rA (rc (rc σ 704 A) 705 C) j = rA σ j := fun j hj => by rw [rA_rc, if_neg (by omega), rA_rc, if_neg (by omega)]
  have i1 : ∀ j, rI (rc (rc σ 704 A) 705 C) j = rI σ j := fun j => rfl
  unfold FR_X7_weigh
  rw [k1, sb]
  dsimp only
  rw [eE, eT]
  generalize rc (rc σ 704 A) 705 C = σ1 at f1 a1 i1 ⊢
  rw [i1 707, n5]
  have upd_case : ∀ σ2, σ2 = ri (ri (ri σ1 707 (nI (EO thr fo b sl f l x ow o))) 708 (nI o)) 709 (nI (TO thr b sl f l x ow o)) → NDv ρ σ2 thr b sl f l n x 63 up (some (EO thr fo b sl f l x ow o, o, TO thr b sl f l x ow o)) := fun σ2 e2 => by
    subst e2
    refine ND_st hN0 (((f1.ri (by omega) _).ri (by omega) _).ri (by omega) _) a1 ?_ (fun q hq => ?_)
    · rw [qrI_ri, if_neg (by decide), qrI_ri, if_neg (by decide), qrI_ri, if_pos rfl]
      rfl
    · cases hq
      refine ⟨?_, ?_, ?_⟩
      · rw [qrI_ri, if_neg (by decide), qrI_ri, if_pos rfl]
      · rw [qrI_ri, if_pos rfl]
      · show EO thr fo b sl f l x ow o < 100000
        omega
  cases S with
  | none =>
    rw [if_neg (show ¬ nI (ubS none) ≤ nI (EO thr fo b sl f l x ow o) from nI_ge (show EO thr fo b sl f l x ow o < 1000000 by omega) (by decide))]
    exact ⟨_, rfl, upd_case _ rfl⟩
  | some q =>
    have hq := (n6 q rfl).2.2
    show ∃ σ', (if nI q.1 ≤ nI (EO thr fo b sl f l x ow o) then some σ1 else _) = some σ' ∧ NDv ρ σ' thr b sl f l n x 63 up (if EO thr fo b sl f l x ow o < q.1 then some (EO thr fo b sl f l x ow o, o, TO thr b sl f l x ow o) else some q)
    by_cases c : EO thr fo b sl f l x ow o < q.1
    · rw [if_neg (nI_ge c (by omega)), if_pos c]
      exact ⟨_, rfl, upd_case _ rfl⟩
    · rw [if_pos (nI_le (by omega) (by omega)), if_neg c]
      exact ⟨_, rfl, ND_st hN0 f1 a1 (by rw [i1, n5]) (fun q' hq' => by rw [i1, i1]; exact n6 q' hq')⟩
theorem place_e {ρ σ : RS} {rb e n b sl f l thr fo d us o i : Nat} {x up : Nat → Nat} {v0 : Int32} {S : Option (Nat × Nat × Nat)} (hS : SprV ρ rb e n b sl f l thr fo x v0) (hP : PU b sl f l d us o up) (hN : NDv ρ σ thr b sl f l n x us up S) (hi : i < 6) (hb : us.testBit i = false) : ∃ σ2, FR_X2_shownOf (ra (ra σ 205 (nI i) (nI (stU b sl f l us))) 702 (nI i) (nI (scd us))) (nI i) = some (nI (shp fo b sl f l x i (stU b sl f l us))) ∧ FR_X7_meetSeams (ra (ra σ 205 (nI i) (nI (stU b sl f l us))) 702 (nI i) (nI (scd us))) (nI i) (nI us) = some (nI (meS thr b sl f l x us i (nu up i us)), σ2) ∧ NDv ρ σ2 thr b sl f l n x (us ||| 2 ^ i) (nu up i us) S := by
  have hfu := fu_pos
  have hus := hP.1.1
  obtain ⟨n1, n2, n3, n4, n5, n6⟩ := hN
  have hn := hS.2.2.2.2.2.2.2.2
  have hst : stU b sl f l us + lenP b sl f l i ≤ n := by
    rw [← st_add hus hi hb, ← hn]
    exact st_le
  have ci := nI_clamp (show i < 2 ^ 31 by omega)
  have es : ra (ra σ 205 (nI i) (nI (stU b sl f l us))) 702 (nI i) (nI (scd us)) = rc (rc σ 205 (upd (rA σ 205) i (nI (stU b sl f l us)))) 702 (upd (rA σ 702) i (nI (scd us))) := by
    rw [ra_rc, ra_rc, ci, rA_rc, if_neg (by decide)]
  rw [es]
  have f1 : FRB ρ (rc (rc σ 205 (upd (rA σ 205) i (nI (stU b sl f l us)))) 702 (upd (rA σ 702) i (nI (scd us)))) := (n1.rc (by omega) _).rc (by omega) _
  have a205 : rA (rc (rc σ 205 (upd (rA σ 205) i (nI (stU b sl f l us)))) 702 (upd (rA σ 702) i (nI (scd us)))) 205 = upd (rA σ 205) i (nI (stU b sl f l us)) := by rw [rA_rc, if_neg (by decide), rA_rc, if_pos rfl]
  have a702 : rA (rc (rc σ 205 (upd (rA σ 205) i (nI (stU b sl f l us)))) 702 (upd (rA σ 702) i (nI (scd us)))) 702 = upd (rA σ 702) i (nI (scd us)) := by rw [rA_rc, if_pos rfl]
  have ao : ∀ j, j ≠ 205 → j ≠ 702 → rA (rc (rc σ 205 (upd (rA σ 205) i (nI (stU b sl f l us)))) 702 (upd (rA σ 702) i (nI (scd us)))) j = rA σ j := fun j h1 h2 => by rw [rA_rc, if_neg h2, rA_rc, if_neg h1]
  have io : ∀ j, rI (rc (rc σ 205 (upd (rA σ 205) i (nI (stU b sl f l us)))) 702 (upd (rA σ 702) i (nI (scd us)))) j = rI σ j := fun j => rfl
  generalize rc (rc σ 205 (upd (rA σ 205) i (nI (stU b sl f l us)))) 702 (upd (rA σ 702) i (nI (scd us))) = σ1 at f1 a205 a702 ao io ⊢
  have hS1 := hS.fr f1
  have hpl : plV σ1 b sl f l n (us ||| 2 ^ i) (nu up i us) := fun q hq hbq => by
    rw [a702, a205]
    by_cases c : q = i
    · subst c
      rw [nu_s, upd_s, upd_s]
      exact ⟨hus, rfl, rfl, hst⟩
    · rw [us_bit, decide_eq_false c, Bool.or_false] at hbq
      rw [nu_n c, upd_n c, upd_n c]
      exact n3 q hq hbq
  have hM1 : MEMO σ1 thr b sl f l x := fun k m1 m2 a1 a2 a3 => by
    rw [ao 701 (by decide) (by decide)]
    exact n2 k m1 m2 a1 a2 a3
  have e0 : rc (rc σ1 701 (rA σ1 701)) 703 (rA σ1 703) = σ1 := by rw [rc_self, rc_self]
  obtain ⟨G, W, z1, z2, z3⟩ := meet5 (σ := σ1) (up := nu up i us) (v0 := v0) hus hi 5 0 fu (rA σ1 701) (rA σ1 703) (by omega) (by omega) (by rw [e0]; exact hS1) (by rw [e0]; exact hpl) (by rw [e0]; exact hM1)
  rw [e0] at z1
  refine ⟨rc (rc σ1 701 G) 703 W, shownOf_k hS1 hi (by rw [a205, upd_s]) hst, z1, (f1.rc (by omega) G).rc (by omega) W, z2, fun q hq hbq => ?_, fun k hk h1 h2 => ?_, ?_, fun q hq => ?_⟩
  · rw [rA_rc, if_neg (by decide), rA_rc, if_neg (by decide), rA_rc, if_neg (by decide), rA_rc, if_neg (by decide)]
    exact hpl q hq hbq
  · rw [rA_rc, if_pos rfl, z3 k]
    by_cases cm : mee i us k = true
    · rw [if_pos ⟨Nat.zero_le _, hk, cm⟩]
    · rw [if_neg (fun z => cm z.2.2), ao 703 (by decide) (by decide)]
      have hq := sq_lt hk
      rw [us_bit] at h1 h2
      have c1 : i ≠ k + 1 := fun z => by
        subst z
        rw [decide_eq_false (show ¬ sqN k = k + 1 by omega), Bool.or_false] at h2
        refine cm ?_
        unfold mee
        rw [h2, decide_eq_true rfl]
        rfl
      have c2 : i ≠ sqN k := fun z => by
        subst z
        rw [decide_eq_false (show ¬ k + 1 = sqN k by omega), Bool.or_false] at h1
        refine cm ?_
        unfold mee
        rw [h1, decide_eq_true rfl]
        simp
      rw [decide_eq_false (fun z => c1 z.symm), Bool.or_false] at h1
      rw [decide_eq_false (fun z => c2 z.symm), Bool.or_false] at h2
      rw [n4 k hk h1 h2, (pkK_cg (up := nu up i us) (up' := up) (nu_n (fun z => c1 z.symm)) (nu_n (fun z => c2 z.symm))).1]
  · exact (io 707).trans n5
  · obtain ⟨y1, y2, y3⟩ := n6 q hq
    exact ⟨(io 708).trans y1, (io 709).trans y2, y3⟩
theorem ext23 {ρ : RS} {rb e n b sl f l thr fo d m us o : Nat} {x up : Nat → Nat} {v0 : Int32} {ow : Bool} {rcf : RS → Int32 → Int32 → Int32 → Int32 → Int32 → Int32 → Option RS} (hS : SprV ρ rb e n b sl f l thr fo x v0) (hd : d + (m + 1) = 6) (hP : PU b sl f l d us o up) (IH : ∀ us' o' up' σ S, PU b sl f l (d + 1) us' o' up' → NDv ρ σ thr b sl f l n x us' up' S → ∃ σ', rcf σ (nI (d + 1)) (nI us') (nI o') (nI (stU b sl f l us')) (nI (SHu fo b sl f l x us' up')) (nI (LSu thr b sl f l x us' up')) = some σ' ∧ NDv ρ σ' thr b sl f l n x us' up' ((enum m us' o').foldl (stp (EO thr fo b sl f l x ow) (TO thr b sl f l x ow)) S)) : ∀ c i fuel σ S, i + c = 6 → c < fuel → NDv ρ σ thr b sl f l n x us up S → ∃ σ', FR_X7_extend_23 rcf (nI d) (nI us) (nI o) (nI (stU b sl f l us)) (nI (SHu fo b sl f l x us up)) (nI (LSu thr b sl f l x us up)) (nI (scd us)) fuel (nI i) σ = some σ' ∧ NDv ρ σ' thr b sl f l n x us up ((enC (enum m) us o c).foldl (stp (EO thr fo b sl f l x ow) (TO thr b sl f l x ow)) S) := by
  have ho := hS.2.2.2.2.2.2.2.1
  have hus := hP.1.1
  intro c
  induction c with
  | zero =>
    intro i fuel σ S hi hf hN
    obtain ⟨f1, rfl⟩ : ∃ f, fuel = f + 1 := ⟨fuel - 1, by omega⟩
    have e : i = 6 := by omega
    subst e
    exact ⟨σ, by rw [FR_X7_extend_23, if_pos (show (6 : Int32) ≤ nI 6 by decide)], hN⟩
  | succ c ih =>
    intro i fuel σ S hi hf hN
    obtain ⟨f1, rfl⟩ : ∃ f, fuel = f + 1 := ⟨fuel - 1, by omega⟩
    have hi6 : i < 6 := by omega
    have e5 : 5 - c = i := by omega
    have eC : enC (enum m) us o (c + 1) = (if us.testBit i = true then [] else enum m (us ||| 2 ^ i) (o * 6 + i)) ++ enC (enum m) us o c := by
      rw [← e5]
      rfl
    rw [eC, List.foldl_append, FR_X7_extend_23, if_neg (show ¬ (6 : Int32) ≤ nI i from nI_ge (b := 6) (by omega) (by decide)), bit_t us hus i hi6, nI_1]
    cases hb : us.testBit i with
    | true =>
      rw [if_pos (show true = true from rfl), if_neg (show ¬ (1 : Int32) = 0 by decide), if_pos (show true = true from rfl)]
      exact ih (i + 1) f1 σ S (by omega) (by omega) hN
    | false =>
      rw [if_neg (show ¬ false = true by decide), if_pos rfl, if_neg (show ¬ false = true by decide), gd_t (inb_nI hi6 (by decide)), gd_t (inb_nI hi6 (by decide))]
      obtain ⟨σ2, p1, p2, p3⟩ := place_e hS hP hN hi6 hb
      have hP' := PU_s hP (show d < 6 by omega) hi6 hb
      have hSH := SH_s (fo := fo) (b := b) (sl := sl) (f := f) (l := l) (x := x) (up := up) hi6 hb
      have hLS := LS_s (thr := thr) (b := b) (sl := sl) (f := f) (l := l) (x := x) (up := up) hb
      have bSH := SH_le (fo := fo) (us := us ||| 2 ^ i) (x := x) (up := nu up i us) ho
      have bLS := LS_le (thr := thr) (us := us ||| 2 ^ i) (x := x) (up := nu up i us) ho
      have n5 := p3.2.2.2.2.1
      have hS2 := hS.fr p3.1
      rw [p1, sb, p2, sb]
      dsimp only
      rw [nI_add, nI_add, ← hSH, ← hLS, show (5 : Int32) * nI (SHu fo b sl f l x (us ||| 2 ^ i) (nu up i us)) = nI (5 * SHu fo b sl f l x (us ||| 2 ^ i) (nu up i us)) from pk_mul 5 _, nI_add, n5]
      have hub : ubS S < 2147483648 := by
        cases S with
        | none => decide
        | some q =>
          have := (p3.2.2.2.2.2 q rfl).2.2
          show q.1 < _
          omega
      by_cases cp : ubS S ≤ 5 * SHu fo b sl f l x (us ||| 2 ^ i) (nu up i us) + LSu thr b sl f l x (us ||| 2 ^ i) (nu up i us)
      · rw [if_pos (nI_le cp (by omega))]
        have hid : (enum m (us ||| 2 ^ i) (o * 6 + i)).foldl (stp (EO thr fo b sl f l x ow) (TO thr b sl f l x ow)) S = S := by
          cases S with
          | none =>
            have cp' : 1000000 ≤ 5 * SHu fo b sl f l x (us ||| 2 ^ i) (nu up i us) + LSu thr b sl f l x (us ||| 2 ^ i) (nu up i us) := cp
            omega
          | some q => exact fold_id _ (fun o' ho' => Nat.le_trans cp (lb_e m (d + 1) _ _ _ o' (by omega) hP' ho'))
        rw [hid]
        exact ih (i + 1) f1 σ2 S (by omega) (by omega) (ND_w p3 hb)
      · rw [if_neg (nI_ge (by omega) hub), hS2.2.1.1, sb, hS2.2.1.2.1, gdt, hS2.2.1.2.2.1, gd_t (inb_nI hi6 (by decide)), nI_clamp (show i < 2 ^ 31 by omega), hS2.2.1.2.2.2 i hi6, (or_t us hus i hi6).1, show nI o * (6 : Int32) = nI (o * 6) from pk_mul o 6, nI_add, nI_add, ← st_add hus hi6 hb, nI_1]
        obtain ⟨σ3, q1, q2⟩ := IH (us ||| 2 ^ i) (o * 6 + i) (nu up i us) σ2 S hP' p3
        rw [q1, sb]
        exact ih (i + 1) f1 σ3 _ (by omega) (by omega) (ND_w q2 hb)
theorem ext_e {ρ : RS} {rb e n b sl f l thr fo : Nat} {x : Nat → Nat} {v0 : Int32} {ow : Bool} (hS : SprV ρ rb e n b sl f l thr fo x v0) (h706 : rI ρ 706 = if ow = true then 1 else 0) : ∀ m dd d us o up σ S, d + m = 6 → m < dd → PU b sl f l d us o up → NDv ρ σ thr b sl f l n x us up S → ∃ σ', FR_X7_extend dd σ (nI d) (nI us) (nI o) (nI (stU b sl f l us)) (nI (SHu fo b sl f l x us up)) (nI (LSu thr b sl f l x us up)) = some σ' ∧ NDv ρ σ' thr b sl f l n x us up ((enum m us o).foldl (stp (EO thr fo b sl f l x ow) (TO thr b sl f l x ow)) S) := by
  have hfu := fu_pos
  have ho := hS.2.2.2.2.2.2.2.1
  intro m
  induction m with
  | zero =>
    intro dd d us o up σ S hd hdd hP hN
    obtain ⟨g, rfl⟩ : ∃ g, dd = g + 1 := ⟨dd - 1, by omega⟩
    have e : d = 6 := by omega
    subst e
    obtain ⟨σ', z1, z2⟩ := weigh_e (fo := fo) (ow := ow) ho h706 hP hN
    refine ⟨σ', ?_, z2⟩
    rw [FR_X7_extend, if_neg (show ¬ nI 6 < (6 : Int32) by decide), z1, sb]
  | succ m ih =>
    intro dd d us o up σ S hd hdd hP hN
    obtain ⟨g, rfl⟩ : ∃ g, dd = g + 1 := ⟨dd - 1, by omega⟩
    obtain ⟨σ', z1, z2⟩ := ext23 (rcf := FR_X7_extend g) hS hd hP (fun us' o' up' σ S hP' hN' => ih g (d + 1) us' o' up' σ S (by omega) (by omega) hP' hN') 6 0 fu σ S (by omega) (by omega) hN
    refine ⟨σ', ?_, z2⟩
    rw [FR_X7_extend, if_pos (show nI d < (6 : Int32) from nI_lt (b := 6) (by omega) (by decide)), scd_e us hP.1.1, sb]
    exact z1
