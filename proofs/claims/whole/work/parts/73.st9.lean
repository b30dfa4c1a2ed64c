theorem wc_nA (ρ : RS) (N n : Nat) (g g' : Nat → Int32) : wc (nA ρ N n g) N g' = nA ρ N n g' := by
  unfold wc nA rp
  simp only [bx_uu]
theorem inc_nI {n cap : Nat} (h : n ≤ cap) (hc : cap < 2 ^ 31) : inc (nI n) cap = true := by
  unfold inc
  rw [nI_clamp (by omega)]
  exact decide_eq_true ⟨nI_pos (by omega), h⟩
theorem cpo_nI {a b n n0 n1 : Nat} (h0 : a + n ≤ n0) (h1 : b + n ≤ n1) (ha : n0 < 2 ^ 31) (hb : n1 < 2 ^ 31) : cpo (nI a) (nI b) (nI n) n0 n1 = true := by
  unfold cpo
  rw [nI_clamp (by omega), nI_clamp (by omega), nI_clamp (by omega)]
  exact decide_eq_true ⟨nI_pos (by omega), nI_pos (by omega), nI_pos (by omega), h0, h1⟩
theorem cpy0 {f g : Nat → Int32} {n j : Nat} (h : j < n) : va_cpy f g 0 0 n j = f j := by
  rw [pk_cpy_in (Nat.zero_le _) (by omega)]
  congr 1
  omega
theorem copy_802 {σ : RS} {N n : Nat} (hn : n ≤ 120) : ∃ G, (∀ j, j < n → G j = rA σ 802 j) ∧ FR_copyOf_802 N σ (nI n) = some (N, nA σ N n G) := by
  unfold FR_copyOf_802
  by_cases c : n = 120
  · subst c
    rw [if_pos (show nI 120 = 120 from rfl)]
    exact ⟨_, fun _ _ => rfl, rfl⟩
  · have c1 : ¬ nI n = 120 := fun z => c ((nI_eq (b := 120) (by omega) (by decide)).mp z)
    have c2 : nI n < 120 := nI_lt (b := 120) (by omega) (by decide)
    rw [if_neg c1, if_pos c2, nI_clamp (by omega), gd_t (inc_nI hn (by decide)), qpN_nA, if_pos rfl, show cpo 0 0 (nI n) 120 n = true from cpo_nI (a := 0) (b := 0) (n := n) (by omega) (by omega) (by decide) (by omega), gdt, wc_nA]
    refine ⟨_, fun j hj => ?_, rfl⟩
    exact cpy0 hj
/-- a new bolt's number -/
def newB (ρ : RS) (B c : Nat) : RS := ri (rq ρ 902 (nI B) (some c)) 903 (nI (B + 1))
def newM (μ : MS) (B : Nat) (n col way : Int32) : MS := si (sa (sa (sa (sa μ 1 (nI B) 1) 2 (nI B) n) 3 (nI B) col) 4 (nI B) way) 0 (nI (B + 1))
theorem keep_e {ρ : RS} {B c : Nat} (hB : rI ρ 903 = nI B) (h : B < 40) (hk : isK ρ c 0 = true) : FR_X9_keepBolt ρ c = some (nI B, newB ρ B c) := by
  unfold FR_X9_keepBolt newB
  have a1 : rI (rq ρ 902 (nI B) (some c)) 903 = nI B := hB
  rw [hB, if_pos (show nI B < 40 from nI_lt (b := 40) h (by decide)), hk, gdt, gd_t (inb_nI h (by decide)), a1, nI_1]
  show some (nI (B + 1) - 1, _) = _
  rw [show nI (B + 1) - 1 = nI B from nI_pred B]
theorem comes_e {μ : MS} {B : Nat} {n col way : Int32} (hB : μ.1 0 = nI B) (h : B < 40) : FM_comes μ n col way = some (nI B, newM μ B n col way) := by
  unfold FM_comes newM
  rw [hB, gd_t (inb_nI h (by decide)), gd_t (inb_nI h (by decide)), gd_t (inb_nI h (by decide)), gd_t (inb_nI h (by decide)), nI_1, show nI (B + 1) - 1 = nI B from nI_pred B]
theorem newM_B {μ : MS} {B : Nat} {n col way : Int32} (hB : B < 40) : (newM μ B n col way).2 1 B = 1 ∧ (newM μ B n col way).2 2 B = n ∧ (newM μ B n col way).2 3 B = col ∧ (newM μ B n col way).2 4 B = way ∧ (newM μ B n col way).2 5 = μ.2 5 := by
  have e : (nI B).toNatClampNeg = B := nI_clamp (by omega)
  unfold newM
  rw [s2_si]
  refine ⟨?_, ?_, ?_, ?_, rfl⟩
  · rw [s2_sa_n (by decide), s2_sa_n (by decide), s2_sa_n (by decide), s2_sa_s, e, upd_s]
  · rw [s2_sa_n (by decide), s2_sa_n (by decide), s2_sa_s, e, upd_s]
  · rw [s2_sa_n (by decide), s2_sa_s, e, upd_s]
  · rw [s2_sa_s, e, upd_s]
theorem newM_n {μ : MS} {B j : Nat} {n col way : Int32} (hB : B < 40) (hj : j ≠ B) : mB μ (newM μ B n col way) j := by
  have e : (nI B).toNatClampNeg = B := nI_clamp (by omega)
  unfold newM mB
  rw [s2_si]
  refine ⟨?_, ?_, ?_, ?_, fun _ _ => rfl⟩
  · rw [s2_sa_n (by decide), s2_sa_n (by decide), s2_sa_n (by decide), s2_sa_s, e, upd_n hj]
  · rw [s2_sa_n (by decide), s2_sa_n (by decide), s2_sa_s, e, upd_n hj]
    rfl
  · rw [s2_sa_n (by decide), s2_sa_s, e, upd_n hj]
    rfl
  · rw [s2_sa_s, e, upd_n hj]
    rfl
theorem newM_o {μ : MS} {B k : Nat} {n col way : Int32} (h1 : k ≠ 1) (h2 : k ≠ 2) (h3 : k ≠ 3) (h4 : k ≠ 4) : (newM μ B n col way).2 k = μ.2 k := by
  unfold newM
  rw [s2_si, s2_sa_n h4, s2_sa_n h3, s2_sa_n h2, s2_sa_n h1]
theorem Low.r {N : Nat} {ρ ρ' : RS} (h : Low N ρ) (e : pL ρ' = pL ρ) : Low N ρ' := fun a ha => h a (by rw [← e]; exact ha)
theorem Low.nO {N kd : Nat} {ρ : RS} (h : Low N ρ) : Low (N + 1) (nO ρ N kd) := fun a ha => by
  rw [qpL_nO] at ha
  rcases List.mem_append.mp ha with h1 | h1
  · exact Nat.lt_succ_of_lt (h a h1)
  · rw [List.mem_singleton.mp h1]; omega
theorem Low.nA {N n : Nat} {g : Nat → Int32} {ρ : RS} (h : Low N ρ) : Low (N + 1) (nA ρ N n g) := fun a ha => by
  rw [qpL_nA] at ha
  rcases List.mem_append.mp ha with h1 | h1
  · exact Nat.lt_succ_of_lt (h a h1)
  · rw [List.mem_singleton.mp h1]; omega
theorem isK_new {ρ : RS} {N kd : Nat} : isK (nO ρ N kd) N kd = true := decide_eq_true ⟨by rw [qpL_nO]; exact List.mem_append_right _ (List.mem_singleton.mpr rfl), by rw [qpK_nO, if_pos rfl]⟩
theorem isK_newA {ρ : RS} {N n : Nat} {g : Nat → Int32} : isK (nA ρ N n g) N 11 = true := decide_eq_true ⟨by rw [qpL_nA]; exact List.mem_append_right _ (List.mem_singleton.mpr rfl), by rw [qpK_nA, if_pos rfl]⟩
/-- a cloth that is made: an object at N with its rows at N + 1 -/
def mkC (ρ : RS) (N n : Nat) (G : Nat → Int32) (col way : Int32) : RS := wi (wi (wr (nA (nO ρ N 0) (N + 1) n G) N 0 (some (N + 1))) N 1 col) N 2 way
theorem mkC_ag {ρ : RS} {own : Nat → Nat} {N n s1 : Nat} {G : Nat → Int32} {col way : Int32} (h : Low N ρ) {s : Nat} (hs : s ≠ s1) : ag ρ (mkC ρ N n G col way) own (va_up (va_up own N s1) (N + 1) (s1 + 1)) s := by
  have e1 : va_up (va_up own N s1) (N + 1) (s1 + 1) N = s1 := by
    unfold va_up
    rw [if_neg (by omega), if_pos rfl]
  refine (ag_nO (kd := 0) (s' := s1) h).trans ((ag_nA (n := n) (g := G) (s' := s1 + 1) h.nO).trans ?_)
  exact (ag_wr (by rw [e1]; exact hs)).trans ((ag_wi (by rw [e1]; exact hs)).trans (ag_wi (by rw [e1]; exact hs)))
theorem mkC_V {ρ : RS} {own : Nat → Nat} {N n s1 : Nat} {G : Nat → Int32} {col way : Int32} {g : Nat → Int32} (h : Low N ρ) (hcol : ∃ k, k ≤ 9 ∧ col = nI k) (hway : way = 0 ∨ way = 1) (h1 : 1 ≤ n) (h2 : n ≤ 120) (hr : ∀ j, j < n → ∃ x, okr x ∧ G j = nI (enc x) ∧ g j = nI x) : ClothV (va_up (va_up own N s1) (N + 1) (s1 + 1)) (mkC ρ N n G col way) s1 N n col way g := by
  have e1 : va_up (va_up own N s1) (N + 1) (s1 + 1) N = s1 := by
    unfold va_up
    rw [if_neg (by omega), if_pos rfl]
  have e2 : va_up (va_up own N s1) (N + 1) (s1 + 1) (N + 1) = s1 + 1 := by
    unfold va_up
    rw [if_pos rfl]
  have k0 : isK (nA (nO ρ N 0) (N + 1) n G) N 0 = true := by
    rw [qisK_nA (by omega)]
    exact isK_new
  have k1 : isK (nA (nO ρ N 0) (N + 1) n G) (N + 1) 11 = true := isK_newA
  refine ⟨k0, e1, ?_, ?_, hcol, hway, h1, h2, N + 1, ?_, e2, k1, ?_, fun j hj => ?_⟩
  · unfold mkC
    rw [qpI_wi, qpI_wi]
    simp
  · unfold mkC
    rw [qpI_wi]
    simp
  · unfold mkC
    rw [qpR_wi, qpR_wi, qpR_wr]
    simp
  · show pN (nA (nO ρ N 0) (N + 1) n G) (N + 1) = n
    rw [qpN_nA, if_pos rfl]
  · obtain ⟨x, a, b, c⟩ := hr j hj
    refine ⟨x, a, ?_, c⟩
    show pA (nA (nO ρ N 0) (N + 1) n G) (N + 1) j = _
    rw [qpA_nA, if_pos rfl, b]
def fixE (ρ ρ' : RS) : Prop := ρ'.1 = ρ.1 ∧ ρ'.2.1 = ρ.2.1 ∧ ρ'.2.2.1 = ρ.2.2.1 ∧ ρ'.2.2.2.1 = ρ.2.2.2.1
theorem fixE.trans {a b c : RS} (h : fixE a b) (h2 : fixE b c) : fixE a c := ⟨h2.1.trans h.1, h2.2.1.trans h.2.1, h2.2.2.1.trans h.2.2.1, h2.2.2.2.trans h.2.2.2⟩
theorem fixE.i {a b : RS} (h : fixE a b) (k : Nat) : rI b k = rI a k := by unfold rI; rw [h.1]
theorem fixE.a {a b : RS} (h : fixE a b) (k : Nat) : rA b k = rA a k := by unfold rA; rw [h.2.1]
theorem fixE.q {a b : RS} (h : fixE a b) (k : Nat) : rQ b k = rQ a k := by unfold rQ; rw [h.2.2.1]
theorem fixE.v {a b : RS} (h : fixE a b) (k : Nat) : rV b k = rV a k := by unfold rV; rw [h.2.2.2]
theorem fix_nO (ρ : RS) (a k : Nat) : fixE ρ (nO ρ a k) := ⟨rfl, rfl, rfl, rfl⟩
theorem fix_nA (ρ : RS) (a n : Nat) (g : Nat → Int32) : fixE ρ (nA ρ a n g) := ⟨rfl, rfl, rfl, rfl⟩
theorem fix_wr (ρ : RS) (a k : Nat) (o : Option Nat) : fixE ρ (wr ρ a k o) := ⟨rfl, rfl, rfl, rfl⟩
theorem fix_wi (ρ : RS) (a k : Nat) (v : Int32) : fixE ρ (wi ρ a k v) := ⟨rfl, rfl, rfl, rfl⟩
theorem fix_wc (ρ : RS) (a : Nat) (g : Nat → Int32) : fixE ρ (wc ρ a g) := ⟨rfl, rfl, rfl, rfl⟩
theorem mkC_fix (ρ : RS) (N n : Nat) (G : Nat → Int32) (col way : Int32) : fixE ρ (mkC ρ N n G col way) := (fix_nO ρ N 0).trans ((fix_nA _ _ _ _).trans ((fix_wr _ _ _ _).trans ((fix_wi _ _ _ _).trans (fix_wi _ _ _ _))))
theorem mkC_K {ρ : RS} {N n : Nat} {G : Nat → Int32} {col way : Int32} : isK (mkC ρ N n G col way) N 0 = true := by
  have k0 : isK (nA (nO ρ N 0) (N + 1) n G) N 0 = true := by
    rw [qisK_nA (by omega)]
    exact isK_new
  exact k0
/-- cells made that are nobody's yet: all holds as before -/
theorem mk_inv {own own' : Nat → Nat} {B K : Nat} {ρ ρ2 : RS} {μ : MS} (h : InvO own B K ρ μ) (hf : fixE ρ ρ2) (hs : ∀ s, s ≠ 2 * B → s ≠ 2 * B + 1 → ag ρ ρ2 own own' s) (hB40 : B < 40) : InvO own' B K ρ2 μ := by
  obtain ⟨hT, hB, hR, hP, hC, hM, hS⟩ := h
  refine ⟨hT.fr (hf.i _) (hf.a _) rfl rfl, hB.up B hB.1 ((hf.i _).trans hB.2.1) hB.2.2.1 B (Or.inl ⟨?_, fun z => absurd z (Nat.lt_irrefl B)⟩) (fun j hj hjB => ⟨by rw [hf.q], Iff.rfl, hs _ (by omega) (by omega), hs _ (by omega) (by omega), rfl, rfl, rfl, rfl, fun _ _ => rfl⟩), hR.fr (hf.i _) (hf.q _) (fun s _ _ => hs s (by omega) (by omega)) rfl (fun _ _ _ => rfl), hP.fr (hf.q _) (fun s _ _ => hs s (by omega) (by omega)) rfl rfl rfl rfl, hC.fr (hf.q _) (fun s _ _ => hs s (by omega) (by omega)) rfl rfl, hM.fr (hf.v _) (hs _ (by omega) (by omega)) rfl rfl rfl, hS.fr (hf.i _) (hf.i _) (hf.i _) (hf.i _) (hf.a _) rfl rfl rfl rfl rfl⟩
  rw [hf.q]
  rcases hB.2.2.2 B hB40 with z | ⟨z, -⟩
  · exact z.1
  · exact absurd z (Nat.lt_irrefl B)
/-- a cloth becomes the next bolt -/
theorem add_bolt {own : Nat → Nat} {B K c n : Nat} {ρ : RS} {μ : MS} {col way : Int32} (h : InvO own B K ρ μ) (hB40 : B < 40) (hV : ClothV own ρ (2 * B) c n col way (fun j => μ.2 5 (120 * B + j))) : InvO own (B + 1) K (newB ρ B c) (newM μ B (nI n) col way) := by
  obtain ⟨hT, hB, hR, hP, hC, hM, hS⟩ := h
  have nb := newM_B (μ := μ) (B := B) (n := nI n) (col := col) (way := way) hB40
  refine ⟨hT.fr rfl rfl rfl (newM_o (by decide) (by decide) (by decide) (by decide)), hB.up (B + 1) (by omega) rfl rfl B (Or.inr ⟨by omega, c, n, ?_, nb.1, nb.2.1, ?_⟩) (fun j hj hjB => ⟨?_, by omega, ag_sm rfl, ag_sm rfl, newM_n hB40 hjB⟩), hR.fr rfl rfl (fun s _ _ => ag_sm rfl) rfl (fun k _ _ => newM_o (by omega) (by omega) (by omega) (by omega)), hP.fr rfl (fun s _ _ => ag_sm rfl) rfl rfl rfl rfl, hC.fr rfl (fun s _ _ => ag_sm rfl) rfl rfl, hM.fr rfl (ag_sm rfl) rfl rfl rfl, hS.fr rfl rfl rfl rfl rfl rfl rfl rfl rfl rfl⟩
  · show rQ (rq ρ 902 (nI B) (some c)) 902 B = some c
    rw [qrQ_rq, if_pos rfl, nI_clamp (by omega)]
    unfold va_up
    rw [if_pos rfl]
  · rw [nb.2.2.1, nb.2.2.2.1]
    exact hV.fr (ag_sm rfl) (ag_sm rfl) (fun j _ => by rw [nb.2.2.2.2])
  · show rQ (rq ρ 902 (nI B) (some c)) 902 j = _
    rw [qrQ_rq, if_pos rfl, nI_clamp (by omega)]
    unfold va_up
    rw [if_neg hjB]
theorem lt10 {at' : Nat} (ha : at' ≤ 130) : ¬ (0 : Int32) ≤ -10 - nI at' := by
  intro z
  have z1 := Int32.le_iff_toInt_le.mp z
  have z2 : ((-10 : Int32) - nI at') = - nI (10 + at') := by
    rw [← nI_add, Int32.neg_add]
    rfl
  have t0 : (0 : Int32).toInt = 0 := by decide
  rw [z2, t0, Int32.toInt_neg, nI_toInt (by omega)] at z1
  rw [Int.bmod_def] at z1
  split at z1 <;> omega
theorem bolt_base {own : Nat → Nat} {B K : Nat} {ρ : RS} {μ : MS} (h : InvO own B K ρ μ) {g' h' : Nat → Int32} (hout : ∀ j, (j < 120 * B ∨ 120 * B + 120 ≤ j) → h' j = μ.2 5 j) : InvO own B K (ri (rc ρ 802 g') 801 0) (si (mc μ 5 h') 31 0) := by
  obtain ⟨hT, hB, hR, hP, hC, hM, hS⟩ := h
  refine ⟨⟨0, by omega, rfl, rfl, fun j hj => absurd hj (Nat.not_lt_zero j)⟩, ⟨hB.1, hB.2.1, hB.2.2.1, fun i hi => ?_⟩, hR.fr rfl rfl (fun s _ _ => ag_sm rfl) rfl (fun k a b => ?_), hP.fr rfl (fun s _ _ => ag_sm rfl) rfl rfl rfl rfl, hC.fr rfl (fun s _ _ => ag_sm rfl) rfl rfl, hM.fr rfl (ag_sm rfl) rfl rfl rfl, hS.fr rfl rfl rfl rfl rfl rfl rfl rfl rfl rfl⟩
  · rcases hB.2.2.2 i hi with z | ⟨z0, z⟩
    · exact Or.inl z
    · refine BoltI.fr (ρ' := ri (rc ρ 802 g') 801 0) (μ' := si (mc μ 5 h') 31 0) (B' := B) (Or.inr ⟨z0, z⟩) rfl Iff.rfl (ag_sm rfl) (ag_sm rfl) ⟨rfl, rfl, rfl, rfl, fun j hj => ?_⟩
      exact hout _ (by omega)
  · show (mc μ 5 h').2 k = μ.2 k
    rw [m2_mc, if_neg (by omega)]
theorem bolt_f {YR : Option (Int32 × RS)} {XM : Option (Int32 × MS)} {FOO : Int32 × RS → Option (Int32 × RS)} {ρ1 : RS} {μ1 : MS} {x : Int32} (b2 : YR = some (x, ρ1)) (e2 : XM = some (x, μ1)) (l1 : ¬ (0 : Int32) ≤ x) (hI : Inv (ri ρ1 801 0) μ1) : ∃ q ρ' μ', (YR.bind fun q_38 => (if 0 ≤ q_38.1 then FOO q_38 else (some (q_38.1, (ri q_38.2 801 (0 : Int32)))))) = some (q, ρ') ∧ XM = some (q, μ') ∧ Inv ρ' μ' := by
  subst b2 e2
  refine ⟨x, ri ρ1 801 0, μ1, ?_, rfl, hI⟩
  rw [sb, if_neg l1]
theorem bolt_e2 {c w n' k : Int32} {σ : MS} : FM_bolt_171 c w n' k 0 σ = some (-10 - k, si σ 31 0) := by
  unfold FM_bolt_171 FM_bolt_185
  rw [if_pos rfl, if_neg (by decide)]
theorem bolt_e3 {c w k : Int32} {σ : MS} : FM_bolt_171 c w 0 k 1 σ = some (-10 - k, si σ 31 0) := by
  unfold FM_bolt_171 FM_bolt_185
  rw [if_neg (by decide), if_pos rfl, if_neg (by decide)]
theorem bolt_e4 {c w k : Int32} {n' B : Nat} {σ : MS} (hn : 0 < n') (hn2 : n' ≤ 120) (hB : σ.1 0 = nI B) (hB2 : B < 40) : FM_bolt_171 c w (nI n') k 1 σ = some (nI B, newM (si σ 31 0) B (nI n') c w) := by
  unfold FM_bolt_171 FM_bolt_185
  rw [if_neg (by decide), if_neg (nI_ne0 hn (by omega)), if_pos rfl, comes_e (μ := si σ 31 0) (B := B) hB hB2]
  rfl
theorem bolt_e5 {ρ : RS} {T : Nat} (h : rI ρ 801 = nI T) : FR_X8_readRows_101 0 ρ = some (-10 - nI T, ρ) := by
  unfold FR_X8_readRows_101
  rw [if_pos (by decide), h]
theorem bolt_e6 {ρ : RS} {n' : Nat} (hn : 0 < n') (hn2 : n' ≤ 120) : FR_X8_readRows_101 (nI n') ρ = some (nI n', ρ) := by
  unfold FR_X8_readRows_101
  rw [if_neg (nI_nle hn (by omega))]
theorem bolt_g {YR : Option (Int32 × RS)} {XM : Option (Int32 × MS)} {own : Nat → Nat} {B K N n' col way : Nat} {ρ1 : RS} {μ1 : MS} {g' h' : Nat → Int32} {xs' : Nat → Nat} (b : InvO own B K (ri ρ1 801 0) μ1) (hB40 : B < 40) (hL : Low N (ri ρ1 801 0)) (hg : rA ρ1 802 = g') (h5 : μ1.2 5 = h') (hcol : col ≤ 9) (hway : way ≤ 1) (hn : 0 < n') (b1 : n' ≤ 120) (b2 : rel B n' xs' g' h') (e1 : YR = some (nI n', ρ1)) (e2 : XM = some (nI B, newM μ1 B (nI n') (nI col) (nI way))) : ∃ q ρ' μ', (YR.bind fun q_38 => (if 0 ≤ q_38.1 then ((FR_copyOf_802 (N + 1) (nO (ri q_38.2 801 (0 : Int32)) N 0) q_38.1).bind fun q_69 => (gd (isK q_69.2 N 0) ((FR_X0_init q_69.2 N q_69.1 (nI col) (nI way)).bind fun q_74 => ((FR_X9_keepBolt q_74 N).bind fun q_77 => (some (q_77.1, q_77.2)))))) else (some (q_38.1, (ri q_38.2 801 (0 : Int32)))))) = some (q, ρ') ∧ XM = some (q, μ') ∧ Inv ρ' μ' := by
  subst e1 e2
  have l1 : (0 : Int32) ≤ nI n' := nI_le (a := 0) (Nat.zero_le _) (by omega)
  obtain ⟨G, hG1, hG2⟩ := copy_802 (σ := nO (ri ρ1 801 0) N 0) (N := N + 1) b1
  have hg' : ∀ j, j < n' → G j = g' j := fun j hj => by
    rw [hG1 j hj, ← hg]
    rfl
  rw [sb]
  simp only [if_pos l1, hG2, sb]
  clear hG1 hG2
  generalize ri ρ1 801 (0 : Int32) = ρ2 at b hL ⊢
  have k0 : isK (nA (nO ρ2 N 0) (N + 1) n' G) N 0 = true := by
    rw [qisK_nA (by omega)]
    exact isK_new
  have e3 : FR_X0_init (nA (nO ρ2 N 0) (N + 1) n' G) N (N + 1) (nI col) (nI way) = some (mkC ρ2 N n' G (nI col) (nI way)) := by
    unfold FR_X0_init
    rw [k0, gdt]
    rfl
  rw [k0, gdt, e3, sb]
  have hfx := mkC_fix ρ2 N n' G (nI col) (nI way)
  have hK0 : isK (mkC ρ2 N n' G (nI col) (nI way)) N 0 = true := mkC_K
  have hV := mkC_V (own := own) (s1 := 2 * B) (G := G) (g := fun j => μ1.2 5 (120 * B + j)) hL ⟨col, hcol, rfl⟩ (show nI way = 0 ∨ nI way = 1 by rcases (show way = 0 ∨ way = 1 by omega) with rfl | rfl; exact Or.inl rfl; exact Or.inr rfl) hn b1 (fun j hj => by
    obtain ⟨y1, y2, y3⟩ := b2 j hj
    refine ⟨xs' j, ⟨by omega, by omega⟩, ?_, ?_⟩
    · rw [hg' j hj, y2]
    · show μ1.2 5 (120 * B + j) = _
      rw [h5, y3])
  have hs : ∀ s, s ≠ 2 * B → s ≠ 2 * B + 1 → ag ρ2 (mkC ρ2 N n' G (nI col) (nI way)) own (va_up (va_up own N (2 * B)) (N + 1) (2 * B + 1)) s := fun s hs _ => mkC_ag hL hs
  generalize va_up (va_up own N (2 * B)) (N + 1) (2 * B + 1) = own' at hV hs
  generalize mkC ρ2 N n' G (nI col) (nI way) = ρ3 at hfx hK0 hV hs ⊢
  have b' := mk_inv b hfx hs hB40
  rw [keep_e b'.2.1.2.1 hB40 hK0]
  exact ⟨_, _, _, rfl, rfl, own', B + 1, K, add_bolt b' hB40 hV⟩
theorem st_bolt {ρ : RS} {μ : MS} (h : Inv ρ μ) {N : Nat} (hN : Low N ρ) (p1 : Int32) (p2 : Int32) : ∃ q ρ' μ', FR_X9_bolt N ρ p1 p2 = some (q, ρ') ∧ FM_bolt μ p1 p2 = some (q, μ') ∧ Inv ρ' μ' := by
  obtain ⟨own, B, K, h⟩ := h
  have hfu := fu_pos
  unfold FR_X9_bolt FM_bolt
  rcases in_c (a := 0) (b := 9) p1 0 9 rfl rfl (by decide) (by decide) with ⟨col, -, hcol, rfl, hw⟩ | hw
  · rcases in_c (a := 0) (b := 1) p2 0 1 rfl rfl (by decide) (by decide) with ⟨way, -, hway, rfl, hw2⟩ | hw2
    · have h9 := h
      obtain ⟨⟨T, hT1, hT2, hT3, hT4⟩, hB, hR, hP, hC, hM, hS⟩ := h
      have hB40 := hB.1
      simp only [w_in hw, m_in hw, w_in hw2, m_in hw2, sb, i10, ↓reduceIte, hB.2.1, hB.2.2.1]
      by_cases c0 : B = 40
      · subst c0
        simp only [show ¬ nI 40 < 40 from by decide, show nI 40 = 40 from rfl, ↓reduceIte]
        exact ⟨_, _, _, rfl, rfl, own, 40, K, h9⟩
      · have c1 : nI B < 40 := nI_lt (b := 40) (by omega) (by decide)
        have c2 : ¬ nI B = 40 := fun z => c0 ((nI_eq (b := 40) (by omega) (by decide)).mp z)
        simp only [if_pos c1, if_neg c2]
        have base : ∀ g' h', (∀ j, (j < 120 * B ∨ 120 * B + 120 ≤ j) → h' j = μ.2 5 j) → InvO own B K (ri (rc ρ 802 g') 801 0) (si (mc μ 5 h') 31 0) := fun g' h' hout => bolt_base h9 hout
        have rd := readL (ρ := ρ) (μ := μ) (T := T) (B := B) (KR := fun x1_101 σ_101 => FR_X8_readRows_101 x1_101 σ_101) (KM := fun x3_171 x4_171 x6_171 σ_171 => FM_bolt_171 (nI col) (nI way) x3_171 x4_171 x6_171 σ_171) (c := nI col) (w := nI way) hT1 hT2 hT3 (by omega) hB.2.2.1 hT4 T 0 0 (fun _ => 0) (rA ρ 802) (μ.2 5) fu fu (by omega) (by omega) (by omega) (by omega) (fun j hj => absurd hj (Nat.not_lt_zero j))
        have eR : FR_X8_readRows ρ = FR_X8_readRows_4 (fun x1_101 σ_101 => FR_X8_readRows_101 x1_101 σ_101) fu 0 0 ρ := by unfold FR_X8_readRows; exact Eq.refl _
        rw [rc_self, mc_self, show nI 0 = (0 : Int32) from rfl, show mayB 0 (fun _ => 0) = 0 from rfl, ← eR] at rd
        generalize FR_X8_readRows ρ = YR at rd ⊢
        generalize FM_bolt_45 (fun x3_171 x4_171 x6_171 σ_171 => FM_bolt_171 (nI col) (nI way) x3_171 x4_171 x6_171 σ_171) (nI col) (nI way) fu 0 0 0 1 μ = XM at rd ⊢
        rcases rd with ⟨at', n', g', h', b1, b2, b3, b4⟩ | ⟨n', xs', g', h', b1, b2, b3, b4, b5⟩
        · exact bolt_f b2 (b3.trans bolt_e2) (lt10 (Nat.le_trans b1 hT1)) ⟨own, B, K, base g' h' b4⟩
        · by_cases c3 : n' = 0
          · subst c3
            exact bolt_f (b3.trans (bolt_e5 (T := T) hT2)) (b4.trans bolt_e3) (lt10 hT1) ⟨own, B, K, base g' h' b5⟩
          · exact bolt_g (ρ1 := rc ρ 802 g') (μ1 := si (mc μ 5 h') 31 0) (base g' h' b5) (by omega) (hN.r rfl) rfl rfl hcol hway (by omega) b1 b2 (b3.trans (bolt_e6 (by omega) b1)) (b4.trans (bolt_e4 (by omega) b1 hB.2.2.1 (by omega)))
    · simp only [w_in hw, m_in hw, w_out hw2, m_out hw2, sb, i10, ↓reduceIte]
      exact ⟨_, _, _, rfl, rfl, own, B, K, h⟩
  · simp only [w_out hw, m_out hw, sb, ↓reduceIte]
    exact ⟨_, _, _, rfl, rfl, own, B, K, h⟩
