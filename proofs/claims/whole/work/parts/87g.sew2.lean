theorem sew_T {ρ3 : RS} {N K e : Nat} {gL : Nat → Int32} (h6 : rV ρ3 906 = some e) (he : isK ρ3 e 11 = true) (hne : e ≠ N + 2) (hn : pN ρ3 e = 6) (hA : pA ρ3 e = gL) (h5 : rI ρ3 905 = nI K) (hK : K < 30) :
    ((rV (nO ρ3 (N + 2) 4) 906).bind fun r_132 => (gd (isK (nO ρ3 (N + 2) 4) r_132 11) (gd (decide ((pN (nO ρ3 (N + 2) 4) r_132) ≤ 120)) (gd (isK (nA (nO ρ3 (N + 2) 4) (N + 3) (pN (nO ρ3 (N + 2) 4) r_132) (pA (nO ρ3 (N + 2) 4) r_132)) (N + 2) 4) ((FR_X4_init (nA (nO ρ3 (N + 2) 4) (N + 3) (pN (nO ρ3 (N + 2) 4) r_132) (pA (nO ρ3 (N + 2) 4) r_132)) (N + 2) N (N + 3)).bind fun q_141 => (gd (isK q_141 (N + 2) 4) (gd (inb (rI ρ3 905) 30) (some (((rI (ri (rq q_141 904 (rI ρ3 905) (some (N + 2))) 905 ((rI (rq q_141 904 (rI ρ3 905) (some (N + 2))) 905) + (1 : Int32))) 905) - (1 : Int32)), (ri (rq q_141 904 (rI ρ3 905) (some (N + 2))) 905 ((rI (rq q_141 904 (rI ρ3 905) (some (N + 2))) 905) + (1 : Int32)))))))))))) = some (nI K, ri (rq (mkRb ρ3 (N + 2) N 6 gL) 904 (nI K) (some (N + 2))) 905 (nI (K + 1))) := by
  have v6 : rV (nO ρ3 (N + 2) 4) 906 = some e := h6
  have k1 : isK (nO ρ3 (N + 2) 4) e 11 = true := by rw [qisK_nO hne]; exact he
  have n1 : pN (nO ρ3 (N + 2) 4) e = 6 := hn
  have a1 : pA (nO ρ3 (N + 2) 4) e = gL := hA
  have k2 : isK (nA (nO ρ3 (N + 2) 4) (N + 3) 6 gL) (N + 2) 4 = true := by
    rw [qisK_nA (by omega)]
    exact isK_new
  have eI : FR_X4_init (nA (nO ρ3 (N + 2) 4) (N + 3) 6 gL) (N + 2) N (N + 3) = some (mkRb ρ3 (N + 2) N 6 gL) := by
    unfold FR_X4_init
    rw [k2, gdt]
    rfl
  have k3 : isK (mkRb ρ3 (N + 2) N 6 gL) (N + 2) 4 = true := mkRb_V.1
  have i5 : rI (mkRb ρ3 (N + 2) N 6 gL) 905 = nI K := ((mkRb_fix ρ3 (N + 2) N 6 gL).i 905).trans h5
  generalize mkRb ρ3 (N + 2) N 6 gL = ρ4 at eI k3 i5 ⊢
  have i6 : rI (rq ρ4 904 (nI K) (some (N + 2))) 905 = nI K := i5
  have i7 : ∀ v, rI (ri (rq ρ4 904 (nI K) (some (N + 2))) 905 v) 905 = v := fun v => by rw [qrI_ri, if_pos rfl]
  simp only [v6, sb, k1, gdt, n1, a1, show decide (6 ≤ 120) = true from rfl, k2, eI, k3, h5, inb_nI hK (show 30 < 2 ^ 31 by decide), i6, i7, nI_1]
  rw [show nI (K + 1) - 1 = nI K from nI_pred K]
theorem sew_R {ρ1 : RS} {N K t cb rb e n b sl f l tw thr fo : Nat} {s x : Nat → Nat} {v0 : Int32} (hN : Low N ρ1) (hV : LayV ρ1 rb e n b sl f l s tw thr fo x v0) (hn : 2 * b + 2 * sl + f + l = n) (hcb : isK ρ1 cb 0 = true) (h6 : rV ρ1 906 = some e) (h5 : rI ρ1 905 = nI K) (hK : K < 30) (ht : t < 40) : ∃ g, (∀ q, q < 6 → ∀ u, u < lenP b sl f l q → g (froP b sl f l q + u) = nI (enc (yOf s b sl f l tw x q u))) ∧
    ((FR_X2_cutRows (N + 1) (nO ρ1 N 0)).bind fun q_92 => (gd (isK q_92.2 cb 0) (gd (isK q_92.2 N 0) ((FR_X0_init q_92.2 N q_92.1 (pI q_92.2 cb 1) (pI q_92.2 cb 2)).bind fun q_105 => (gd (inb (nI t) 40) (gd (isK (rq q_105 902 (nI t) none) (N + 1) 11) ((rV (nO (rq q_105 902 (nI t) none) (N + 2) 4) 906).bind fun r_132 => (gd (isK (nO (rq q_105 902 (nI t) none) (N + 2) 4) r_132 11) (gd (decide ((pN (nO (rq q_105 902 (nI t) none) (N + 2) 4) r_132) ≤ 120)) (gd (isK (nA (nO (rq q_105 902 (nI t) none) (N + 2) 4) (N + 3) (pN (nO (rq q_105 902 (nI t) none) (N + 2) 4) r_132) (pA (nO (rq q_105 902 (nI t) none) (N + 2) 4) r_132)) (N + 2) 4) ((FR_X4_init (nA (nO (rq q_105 902 (nI t) none) (N + 2) 4) (N + 3) (pN (nO (rq q_105 902 (nI t) none) (N + 2) 4) r_132) (pA (nO (rq q_105 902 (nI t) none) (N + 2) 4) r_132)) (N + 2) N (N + 3)).bind fun q_141 => (gd (isK q_141 (N + 2) 4) (gd (inb (rI (rq q_105 902 (nI t) none) 905) 30) (some (((rI (ri (rq q_141 904 (rI (rq q_105 902 (nI t) none) 905) (some (N + 2))) 905 ((rI (rq q_141 904 (rI (rq q_105 902 (nI t) none) 905) (some (N + 2))) 905) + (1 : Int32))) 905) - (1 : Int32)), (ri (rq q_141 904 (rI (rq q_105 902 (nI t) none) 905) (some (N + 2))) 905 ((rI (rq q_141 904 (rI (rq q_105 902 (nI t) none) 905) (some (N + 2))) 905) + (1 : Int32)))))))))))))))))) = some (nI K, ri (rq (mkRb (rq (mkC ρ1 N n g (pI ρ1 cb 1) (pI ρ1 cb 2)) 902 (nI t) none) (N + 2) N 6 (pA ρ1 e)) 904 (nI K) (some (N + 2))) 905 (nI (K + 1))) := by
  have lr : rb < N := hN rb (isK_L hV.1.2.1)
  have le : e < N := hN e (isK_L hV.2.1.2.1)
  have lc : cb < N := hN cb (isK_L hcb)
  obtain ⟨g, c1, c2⟩ := cutRows_e (M := N + 1) (hV.nO (N := N) (kd := 0) (by omega) (by omega)) (by omega) (by omega) hn
  refine ⟨g, c1, ?_⟩
  have k1 : isK (nA (nO ρ1 N 0) (N + 1) n g) cb 0 = true := by rw [qisK_nA (by omega), qisK_nO (by omega)]; exact hcb
  have k2 : isK (nA (nO ρ1 N 0) (N + 1) n g) N 0 = true := by rw [qisK_nA (by omega)]; exact isK_new
  have i1 : pI (nA (nO ρ1 N 0) (N + 1) n g) cb = pI ρ1 cb := by
    funext j
    rw [qpI_nA, qpI_nO, if_neg (by omega)]
  have eI : ∀ col way, FR_X0_init (nA (nO ρ1 N 0) (N + 1) n g) N (N + 1) col way = some (mkC ρ1 N n g col way) := fun col way => by
    unfold FR_X0_init
    rw [k2, gdt]
    rfl
  have km : ∀ col way, isK (mkC ρ1 N n g col way) (N + 1) 11 = true := fun col way => by
    show isK (nA (nO ρ1 N 0) (N + 1) n g) (N + 1) 11 = true
    exact isK_newA
  have ke : ∀ col way, isK (mkC ρ1 N n g col way) e 11 = true := fun col way => by
    show isK (nA (nO ρ1 N 0) (N + 1) n g) e 11 = true
    rw [qisK_nA (by omega), qisK_nO (by omega)]; exact hV.2.1.2.1
  have ne : ∀ col way, pN (mkC ρ1 N n g col way) e = 6 := fun col way => by
    show pN (nA (nO ρ1 N 0) (N + 1) n g) e = 6
    rw [qpN_nA, if_neg (by omega)]; exact hV.2.1.2.2.1
  have ae : ∀ col way, pA (mkC ρ1 N n g col way) e = pA ρ1 e := fun col way => by
    show pA (nA (nO ρ1 N 0) (N + 1) n g) e = _
    rw [qpA_nA, if_neg (by omega)]; rfl
  have f0 := mkC_fix ρ1 N n g (pI ρ1 cb 1) (pI ρ1 cb 2)
  rw [c2, sb, k1, gdt, k2, gdt, i1, eI, sb, gd_t (inb_nI ht (by decide))]
  have km := km (pI ρ1 cb 1) (pI ρ1 cb 2)
  have ke := ke (pI ρ1 cb 1) (pI ρ1 cb 2)
  have ne := ne (pI ρ1 cb 1) (pI ρ1 cb 2)
  have ae := ae (pI ρ1 cb 1) (pI ρ1 cb 2)
  generalize mkC ρ1 N n g (pI ρ1 cb 1) (pI ρ1 cb 2) = ρ2 at km ke ne ae f0 ⊢
  rw [qisK_rq, km, gdt]
  exact sew_T (ρ3 := rq ρ2 902 (nI t) none) ((f0.v 906).trans h6) ke (by omega) ne ae ((f0.i 905).trans h5) hK
