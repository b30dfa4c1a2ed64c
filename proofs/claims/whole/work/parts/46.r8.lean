def wsR_copyOf : List Cond := Cond.code yJ7_copyOf_59c91 cJ7_copyOf_59c91 3 (some (.array .int)) :: wRa
def FR_copyOf_802 (N : Nat) (σ : RS) (p1 : Int32) : Option (Nat × RS) := (if p1 = (120 : Int32) then (some (N, (nA σ N 120 (rA σ 802)))) else (gd (inc p1 120) (gd (cpo (0 : Int32) (0 : Int32) (if p1 < (120 : Int32) then p1 else (120 : Int32)) 120 (pN (nA σ N p1.toNatClampNeg (fun _ => 0)) N)) (some (N, (wc (nA σ N p1.toNatClampNeg (fun _ => 0)) N (va_cpy (rA (nA σ N p1.toNatClampNeg (fun _ => 0)) 802) (pA (nA σ N p1.toNatClampNeg (fun _ => 0)) N) (0 : Int32).toNatClampNeg (0 : Int32).toNatClampNeg (if p1 < (120 : Int32) then p1 else (120 : Int32)).toNatClampNeg)))))))
set_option maxHeartbeats 4000000 in
set_option maxRecDepth 100000 in
theorem cR_copyOf_802 (l : Launch) (D : va_G) (cs : Nat → ClassId) (ad tb : Nat → Nat) (A : Nat → Prop) (N : Nat) (hA0 : ∀ q, N ≤ q → A q) (σ : RS) (p1 : Int32) (q : (Nat × RS)) (hF : FR_copyOf_802 N σ p1 = some q) : Met l yJ7_copyOf_59c91 wsR_copyOf { frames := 1, cells := 1, slots := 120, locals := 80 } (va_Pc [.ref (ad 802), .int p1] (preN N D cs ad tb A σ)) (va_Qq (fun x u => x = some q.1 ∧ u = q.2) (posQ D cs ad A) A) 1 120 A := by
  refine Met.ofW (cc := cJ7_copyOf_59c91) (maxL := 3) (ret := (some (.array .int))) (by decide) rfl ?_
  intro p e s m args below meth c s₁ B hml hv
  obtain ⟨rfl, hN, hP, hK, hD, hZ⟩ := hv
  have hx := B.exec
  have hb := B.bytes
  have hr := B.returns
  have hts : ∀ w ∈ (Cond.code yJ7_copyOf_59c91 cJ7_copyOf_59c91 3 (some (.array .int)) :: wRa), w.before ([.ref (ad 802), .int p1] : List Value).toArray s = true := atoms_spec (ws := wsR_copyOf) B.pre
  have hin : ∀ w ∈ wRa, w ∈ (Cond.code yJ7_copyOf_59c91 cJ7_copyOf_59c91 3 (some (.array .int)) :: wRa) := fun w hw => List.mem_cons_of_mem _ hw
  have hown : s.vm.findClass RJ7 = some m.cls := findClass_of_methodNamed B.named
  have hlocks := B.notSynchronized
  have hS : va_S A s.heap s.heap [] := va_S.rf
  have hA : ∀ q, s.heap.size ≤ q → A q := by rw [hN]; exact hA0
  have hl := lv_entry ([.ref (ad 802), .int p1]) (n := 3) (Nat.le_of_ble_eq_true rfl)
  rw [lg_entry_eq]
  generalize (lg_sl ([.ref (ad 802), .int p1]) ++ List.replicate (3 - (lg_sl ([.ref (ad 802), .int p1])).length) Slot.unset).toArray = ls at hl ⊢
  have hl : lv_has ls 3 [(0, .ref (ad 802)), (1, .int p1)] := hl
  unfold FR_copyOf_802 at hF
  refine lv_iload_n hx hb dJ7_copyOf_59c91_0 rfl (lv_at hl 1 rfl) ?_
  refine lv_aload_n hx hb dJ7_copyOf_59c91_1 rfl (lv_at hl 0 rfl) ?_
  refine lnF (v := (120 : Int32)) hx hb hK hP (ra_802 _ _ _) rfl dJ7_copyOf_59c91_2 ?_
  refine lv_icmp_ne (tgt := 14) hx hb dJ7_copyOf_59c91_3 (by decide) (fun c_3 => ?_) (fun c_3 => ?_)
  · have hF := ob_f c_3 hF
    refine lv_iload_n hx hb dJ7_copyOf_59c91_14 rfl (lv_at hl 1 rfl) ?_
    obtain ⟨g_15, hF⟩ := ob_gd hF
    refine neA (a := N) (cap := 120) hx hb hts hin hK hP hD hS hA g_15 (by decide) hS.1 (by omega) (Nat.le_of_ble_eq_true rfl) (Nat.le_of_ble_eq_true rfl) dJ7_copyOf_59c91_15 (fun H hP hD hS => ?_)
    have kn_15 : isK (nA σ N p1.toNatClampNeg (fun _ => 0)) N 11 = true := isK_nA _ _ _ _
    refine lv_astore_n (i := 2) (lv' := [(2, .ref N), (0, .ref (ad 802)), (1, .int p1)]) hx hb dJ7_copyOf_59c91_17 rfl hl (by decide) rfl (fun ls hl => ?_)
    refine lv_aload_n hx hb dJ7_copyOf_59c91_18 rfl (lv_at hl 1 rfl) ?_
    refine lv_iconst (v := (0 : Int32)) hx hb dJ7_copyOf_59c91_19 (by decide) ?_
    refine lv_aload_n hx hb dJ7_copyOf_59c91_20 rfl (lv_at hl 0 rfl) ?_
    refine lv_iconst (v := (0 : Int32)) hx hb dJ7_copyOf_59c91_21 (by decide) ?_
    refine lv_aload_n hx hb dJ7_copyOf_59c91_22 rfl (lv_at hl 1 rfl) ?_
    refine lnF (v := (120 : Int32)) hx hb hK hP (ra_802 _ _ _) rfl dJ7_copyOf_59c91_23 ?_
    refine lv_iload_n hx hb dJ7_copyOf_59c91_24 rfl (lv_at hl 2 rfl) ?_
    refine va_mmin hx hb (hml.trans hl.1.symm) hown (hts _ (hin _ rm_J7_304)) (hts _ (hin _ rt_min)) (hts _ (hin _ rn_math)) (hts _ (hin _ rc_min)) (Nat.le_of_ble_eq_true rfl) (Nat.le_of_ble_eq_true rfl) (Nat.le_of_ble_eq_true rfl) (Nat.le_of_ble_eq_true rfl) dJ7_copyOf_59c91_25 ?_
    obtain ⟨g_28, hF⟩ := ob_gd hF
    refine cpP hx hb (hml.trans hl.1.symm) hown hts hin rm_J7_150 hK hP hD hS (ra_802 _ _ _) kn_15 g_28 (Nat.le_of_ble_eq_true rfl) (Nat.le_of_ble_eq_true rfl) dJ7_copyOf_59c91_28 (fun H locs hP hD hS => ?_)
    refine lv_aload_n hx hb dJ7_copyOf_59c91_31 rfl (lv_at hl 0 rfl) ?_
    exact rqN hx hb hr (Or.inr ⟨_, rfl⟩) hlocks hF hK hP hD hS (Nat.le_of_ble_eq_true rfl) (Nat.le_of_ble_eq_true rfl) dJ7_copyOf_59c91_32
  · have hF := ob_t c_3 hF
    refine lv_aload_n hx hb dJ7_copyOf_59c91_6 rfl (lv_at hl 0 rfl) ?_
    refine clP (a := N) (cap := 120) hx hb (hml.trans hl.1.symm) hown hts hin rm_J7_316 hZ hK hP hD hS hA (ra_802 _ _ _) (by decide) hS.1 (by omega) (Nat.le_of_ble_eq_true rfl) (Nat.le_of_ble_eq_true rfl) (Nat.le_of_ble_eq_true rfl) (Nat.le_of_ble_eq_true rfl) dJ7_copyOf_59c91_7 (fun H hP hD hS => ?_)
    have kn_7 : isK (nA σ N 120 (rA σ 802)) N 11 = true := isK_nA _ _ _ _
    refine ctA hx hb hown hts hin rl_J7_317 hK hP kn_7 dJ7_copyOf_59c91_10 ?_
    exact rqN hx hb hr (Or.inr ⟨_, rfl⟩) hlocks hF hK hP hD hS (Nat.le_of_ble_eq_true rfl) (Nat.le_of_ble_eq_true rfl) dJ7_copyOf_59c91_13
def FR_copyOf_p (N : Nat) (σ : RS) (p0 : Nat) (p1 : Int32) : Option (Nat × RS) := (gd (isK σ p0 11) (if p1 = (Int32.ofNat (pN σ p0)) then (gd (decide ((pN σ p0) ≤ 120)) (some (N, (nA σ N (pN σ p0) (pA σ p0))))) else (gd (inc p1 120) (gd (isK (nA σ N p1.toNatClampNeg (fun _ => 0)) p0 11) (gd (cpo (0 : Int32) (0 : Int32) (if p1 < (Int32.ofNat (pN (nA σ N p1.toNatClampNeg (fun _ => 0)) p0)) then p1 else (Int32.ofNat (pN (nA σ N p1.toNatClampNeg (fun _ => 0)) p0))) (pN (nA σ N p1.toNatClampNeg (fun _ => 0)) p0) (pN (nA σ N p1.toNatClampNeg (fun _ => 0)) N)) (some (N, (wc (nA σ N p1.toNatClampNeg (fun _ => 0)) N (va_cpy (pA (nA σ N p1.toNatClampNeg (fun _ => 0)) p0) (pA (nA σ N p1.toNatClampNeg (fun _ => 0)) N) (0 : Int32).toNatClampNeg (0 : Int32).toNatClampNeg (if p1 < (Int32.ofNat (pN (nA σ N p1.toNatClampNeg (fun _ => 0)) p0)) then p1 else (Int32.ofNat (pN (nA σ N p1.toNatClampNeg (fun _ => 0)) p0))).toNatClampNeg)))))))))
set_option maxHeartbeats 4000000 in
set_option maxRecDepth 100000 in
theorem cR_copyOf_p (l : Launch) (D : va_G) (cs : Nat → ClassId) (ad tb : Nat → Nat) (A : Nat → Prop) (N : Nat) (hA0 : ∀ q, N ≤ q → A q) (σ : RS) (p0 : Nat) (p1 : Int32) (q : (Nat × RS)) (hF : FR_copyOf_p N σ p0 p1 = some q) : Met l yJ7_copyOf_59c91 wsR_copyOf { frames := 1, cells := 1, slots := 120, locals := 80 } (va_Pc [.ref p0, .int p1] (preN N D cs ad tb A σ)) (va_Qq (fun x u => x = some q.1 ∧ u = q.2) (posQ D cs ad A) A) 1 120 A := by
  refine Met.ofW (cc := cJ7_copyOf_59c91) (maxL := 3) (ret := (some (.array .int))) (by decide) rfl ?_
  intro p e s m args below meth c s₁ B hml hv
  obtain ⟨rfl, hN, hP, hK, hD, hZ⟩ := hv
  have hx := B.exec
  have hb := B.bytes
  have hr := B.returns
  have hts : ∀ w ∈ (Cond.code yJ7_copyOf_59c91 cJ7_copyOf_59c91 3 (some (.array .int)) :: wRa), w.before ([.ref p0, .int p1] : List Value).toArray s = true := atoms_spec (ws := wsR_copyOf) B.pre
  have hin : ∀ w ∈ wRa, w ∈ (Cond.code yJ7_copyOf_59c91 cJ7_copyOf_59c91 3 (some (.array .int)) :: wRa) := fun w hw => List.mem_cons_of_mem _ hw
  have hown : s.vm.findClass RJ7 = some m.cls := findClass_of_methodNamed B.named
  have hlocks := B.notSynchronized
  have hS : va_S A s.heap s.heap [] := va_S.rf
  have hA : ∀ q, s.heap.size ≤ q → A q := by rw [hN]; exact hA0
  have hl := lv_entry ([.ref p0, .int p1]) (n := 3) (Nat.le_of_ble_eq_true rfl)
  rw [lg_entry_eq]
  generalize (lg_sl ([.ref p0, .int p1]) ++ List.replicate (3 - (lg_sl ([.ref p0, .int p1])).length) Slot.unset).toArray = ls at hl ⊢
  have hl : lv_has ls 3 [(0, .ref p0), (1, .int p1)] := hl
  unfold FR_copyOf_p at hF
  refine lv_iload_n hx hb dJ7_copyOf_59c91_0 rfl (lv_at hl 1 rfl) ?_
  refine lv_aload_n hx hb dJ7_copyOf_59c91_1 rfl (lv_at hl 0 rfl) ?_
  obtain ⟨k_2_1, hF⟩ := ob_gd hF
  refine lnP (v := (Int32.ofNat (pN σ p0))) hx hb hK hP k_2_1 rfl dJ7_copyOf_59c91_2 ?_
  refine lv_icmp_ne (tgt := 14) hx hb dJ7_copyOf_59c91_3 (by decide) (fun c_3 => ?_) (fun c_3 => ?_)
  · have hF := ob_f c_3 hF
    refine lv_iload_n hx hb dJ7_copyOf_59c91_14 rfl (lv_at hl 1 rfl) ?_
    obtain ⟨g_15, hF⟩ := ob_gd hF
    refine neA (a := N) (cap := 120) hx hb hts hin hK hP hD hS hA g_15 (by decide) hS.1 (by omega) (Nat.le_of_ble_eq_true rfl) (Nat.le_of_ble_eq_true rfl) dJ7_copyOf_59c91_15 (fun H hP hD hS => ?_)
    have kn_15 : isK (nA σ N p1.toNatClampNeg (fun _ => 0)) N 11 = true := isK_nA _ _ _ _
    refine lv_astore_n (i := 2) (lv' := [(2, .ref N), (0, .ref p0), (1, .int p1)]) hx hb dJ7_copyOf_59c91_17 rfl hl (by decide) rfl (fun ls hl => ?_)
    refine lv_aload_n hx hb dJ7_copyOf_59c91_18 rfl (lv_at hl 1 rfl) ?_
    refine lv_iconst (v := (0 : Int32)) hx hb dJ7_copyOf_59c91_19 (by decide) ?_
    refine lv_aload_n hx hb dJ7_copyOf_59c91_20 rfl (lv_at hl 0 rfl) ?_
    refine lv_iconst (v := (0 : Int32)) hx hb dJ7_copyOf_59c91_21 (by decide) ?_
    refine lv_aload_n hx hb dJ7_copyOf_59c91_22 rfl (lv_at hl 1 rfl) ?_
    obtain ⟨k_23_2, hF⟩ := ob_gd hF
    refine lnP (v := (Int32.ofNat (pN (nA σ N p1.toNatClampNeg (fun _ => 0)) p0))) hx hb hK hP k_23_2 rfl dJ7_copyOf_59c91_23 ?_
    refine lv_iload_n hx hb dJ7_copyOf_59c91_24 rfl (lv_at hl 2 rfl) ?_
    refine va_mmin hx hb (hml.trans hl.1.symm) hown (hts _ (hin _ rm_J7_304)) (hts _ (hin _ rt_min)) (hts _ (hin _ rn_math)) (hts _ (hin _ rc_min)) (Nat.le_of_ble_eq_true rfl) (Nat.le_of_ble_eq_true rfl) (Nat.le_of_ble_eq_true rfl) (Nat.le_of_ble_eq_true rfl) dJ7_copyOf_59c91_25 ?_
    obtain ⟨j_28, hj_28⟩ := plP (cs := cs) (ad := ad) k_23_2
    obtain ⟨g_28, hF⟩ := ob_gd hF
    refine cpP hx hb (hml.trans hl.1.symm) hown hts hin rm_J7_150 hK hP hD hS hj_28 kn_15 g_28 (Nat.le_of_ble_eq_true rfl) (Nat.le_of_ble_eq_true rfl) dJ7_copyOf_59c91_28 (fun H locs hP hD hS => ?_)
    refine lv_aload_n hx hb dJ7_copyOf_59c91_31 rfl (lv_at hl 0 rfl) ?_
    exact rqN hx hb hr (Or.inr ⟨_, rfl⟩) hlocks hF hK hP hD hS (Nat.le_of_ble_eq_true rfl) (Nat.le_of_ble_eq_true rfl) dJ7_copyOf_59c91_32
  · have hF := ob_t c_3 hF
    refine lv_aload_n hx hb dJ7_copyOf_59c91_6 rfl (lv_at hl 0 rfl) ?_
    obtain ⟨j_7, hj_7⟩ := plP (cs := cs) (ad := ad) k_2_1
    obtain ⟨gb_7, hF⟩ := ob_gd hF
    refine clP (a := N) (cap := 120) hx hb (hml.trans hl.1.symm) hown hts hin rm_J7_316 hZ hK hP hD hS hA hj_7 (of_decide_eq_true gb_7) hS.1 (by omega) (Nat.le_of_ble_eq_true rfl) (Nat.le_of_ble_eq_true rfl) (Nat.le_of_ble_eq_true rfl) (Nat.le_of_ble_eq_true rfl) dJ7_copyOf_59c91_7 (fun H hP hD hS => ?_)
    have kn_7 : isK (nA σ N (pN σ p0) (pA σ p0)) N 11 = true := isK_nA _ _ _ _
    refine ctA hx hb hown hts hin rl_J7_317 hK hP kn_7 dJ7_copyOf_59c91_10 ?_
    exact rqN hx hb hr (Or.inr ⟨_, rfl⟩) hlocks hF hK hP hD hS (Nat.le_of_ble_eq_true rfl) (Nat.le_of_ble_eq_true rfl) dJ7_copyOf_59c91_13
def wsR_X6_take : List Cond := Cond.code yX6_take cX6_take 3 none :: wRa
def FR_X6_take (σ : RS) (a0 : Nat) (p2 : Int32) : Option RS := (gd (isK σ a0 6) ((pR (wi σ a0 1 (if (6 : Int32) < p2 then (6 : Int32) else p2)) a0 0).bind fun r_13 => (gd (isK (wi σ a0 1 (if (6 : Int32) < p2 then (6 : Int32) else p2)) r_13 11) (gd (cpo (0 : Int32) (0 : Int32) (pI (wi σ a0 1 (if (6 : Int32) < p2 then (6 : Int32) else p2)) a0 1) 6 (pN (wi σ a0 1 (if (6 : Int32) < p2 then (6 : Int32) else p2)) r_13)) (some (wc (wi σ a0 1 (if (6 : Int32) < p2 then (6 : Int32) else p2)) r_13 (va_cpy (rA (wi σ a0 1 (if (6 : Int32) < p2 then (6 : Int32) else p2)) 500) (pA (wi σ a0 1 (if (6 : Int32) < p2 then (6 : Int32) else p2)) r_13) (0 : Int32).toNatClampNeg (0 : Int32).toNatClampNeg (pI (wi σ a0 1 (if (6 : Int32) < p2 then (6 : Int32) else p2)) a0 1).toNatClampNeg)))))))
set_option maxHeartbeats 4000000 in
set_option maxRecDepth 100000 in
theorem cR_X6_take (l : Launch) (D : va_G) (cs : Nat → ClassId) (ad tb : Nat → Nat) (A : Nat → Prop) (σ : RS) (a0 : Nat) (p2 : Int32) (q : RS) (hF : FR_X6_take σ a0 p2 = some q) : Met l yX6_take wsR_X6_take { frames := 1, cells := 0, slots := 0, locals := 80 } (va_Pc [.ref a0, .ref (ad 500), .int p2] (preQ D cs ad tb A σ)) (va_Qv (fun u => u = q) (posQ D cs ad A) A) 0 0 A := by
  refine Met.ofW (cc := cX6_take) (maxL := 3) (ret := none) (by decide) rfl ?_
  intro p e s m args below meth c s₁ B hml hv
  obtain ⟨rfl, hP, hK, hD, hZ⟩ := hv
  have hx := B.exec
  have hb := B.bytes
  have hr := B.returns
  have hts : ∀ w ∈ (Cond.code yX6_take cX6_take 3 none :: wRa), w.before ([.ref a0, .ref (ad 500), .int p2] : List Value).toArray s = true := atoms_spec (ws := wsR_X6_take) B.pre
  have hin : ∀ w ∈ wRa, w ∈ (Cond.code yX6_take cX6_take 3 none :: wRa) := fun w hw => List.mem_cons_of_mem _ hw
  have hown : s.vm.findClass RX6 = some m.cls := findClass_of_methodNamed B.named
  have hlocks := B.notSynchronized
  have hS : va_S A s.heap s.heap [] := va_S.rf
  have hl := lv_entry ([.ref a0, .ref (ad 500), .int p2]) (n := 3) (Nat.le_of_ble_eq_true rfl)
  rw [lg_entry_eq]
  generalize (lg_sl ([.ref a0, .ref (ad 500), .int p2]) ++ List.replicate (3 - (lg_sl ([.ref a0, .ref (ad 500), .int p2])).length) Slot.unset).toArray = ls at hl ⊢
  have hl : lv_has ls 3 [(0, .ref a0), (1, .ref (ad 500)), (2, .int p2)] := hl
  unfold FR_X6_take at hF
  refine lv_aload_n hx hb dX6_take_0 rfl (lv_at hl 0 rfl) ?_
  refine lv_iload_n hx hb dX6_take_1 rfl (lv_at hl 2 rfl) ?_
  refine lv_bipush (v := (6 : Int32)) hx hb dX6_take_2 (by decide) ?_
  refine va_mmin hx hb (hml.trans hl.1.symm) hown (hts _ (hin _ rm_X6_15)) (hts _ (hin _ rt_min)) (hts _ (hin _ rn_math)) (hts _ (hin _ rc_min)) (Nat.le_of_ble_eq_true rfl) (Nat.le_of_ble_eq_true rfl) (Nat.le_of_ble_eq_true rfl) (Nat.le_of_ble_eq_true rfl) dX6_take_4 ?_
  obtain ⟨k_7_1, hF⟩ := ob_gd hF
  refine pP (ρ2 := (wi σ a0 1 (if (6 : Int32) < p2 then (6 : Int32) else p2))) (ty := .int) hx hb hts hin wo_6 rfl tyX6 tyX6_ok nmX6 hown hK hP hD hS k_7_1 (pf_6 (isK_K k_7_1)) 1 (by decide) rf_X6_21 rfl (by decide +kernel) rfl rfl (Nat.le_of_ble_eq_true rfl) (xR_wi _ _ _ _ _ _) (pL_wi _ _ _ _) (pw_6_1 (ρ := σ) (isK_K k_7_1) _) dX6_take_7 (fun H locs hP hD hS => ?_)
  refine lv_aload_n hx hb dX6_take_10 rfl (lv_at hl 1 rfl) ?_
  refine lv_iconst (v := (0 : Int32)) hx hb dX6_take_11 (by decide) ?_
  refine lv_aload_n hx hb dX6_take_12 rfl (lv_at hl 0 rfl) ?_
  refine gP hx hb hts hin wo_6 rfl hown hK hP (isK_wi k_7_1) (pf_6 (isK_K (isK_wi k_7_1))) 0 (va_rf (pR (wi σ a0 1 (if (6 : Int32) < p2 then (6 : Int32) else p2)) a0 0)) (by decide) rf_X6_9 rfl dX6_take_13 ?_
  obtain ⟨r_13, o_13, hF⟩ := ob_bd hF
  refine rfS o_13 ?_
  refine lv_iconst (v := (0 : Int32)) hx hb dX6_take_16 (by decide) ?_
  refine lv_aload_n hx hb dX6_take_17 rfl (lv_at hl 0 rfl) ?_
  refine gP hx hb hts hin wo_6 rfl hown hK hP (isK_wi k_7_1) (pf_6 (isK_K (isK_wi k_7_1))) 1 (.int (pI (wi σ a0 1 (if (6 : Int32) < p2 then (6 : Int32) else p2)) a0 1)) (by decide) rf_X6_21 rfl dX6_take_18 ?_
  obtain ⟨k_21_2, hF⟩ := ob_gd hF
  obtain ⟨g_21, hF⟩ := ob_gd hF
  refine cpP hx hb (hml.trans hl.1.symm) hown hts hin rm_X6_25 hK hP hD hS (ra_500 _ _ _) k_21_2 g_21 (Nat.le_of_ble_eq_true rfl) (Nat.le_of_ble_eq_true rfl) dX6_take_21 (fun H locs hP hD hS => ?_)
  exact rvR hx hb hr hlocks hF hK hP hD hS dX6_take_24
def wsR_X9_bolt : List Cond := Cond.code yX9_bolt cX9_bolt 4 (some .int) :: wRa
theorem cw_X9_X8_readRows_102 {R : Room} {s : State} {args : Array Value} {y : MethodName} {c : ByteArray} {n : Nat} {r : Option FieldType} (hts : ∀ w ∈ (Cond.code y c n r :: wRa), w.before args s = true) (hR : 2 + 1 ≤ R.frames ∧ 8 + (3 + 11) + 43 ≤ R.locals) : CallW R s args RX9 RX8 102 yX8_readRows cX8_readRows 3 (some .int) wsR_X8_readRows { frames := 2, cells := 0, slots := 0, locals := 43 } 0 0 0 := cwV 0 hts (goodV wRa_good rm_X9_102 ri_X8_readRows rs_X8_readRows rn_X8 rc_X8_readRows) rfl rfl rfl (by decide +kernel) hR
theorem cw_X9_J7_copyOf_802_109 {R : Room} {s : State} {args : Array Value} {y : MethodName} {c : ByteArray} {n : Nat} {r : Option FieldType} (hts : ∀ w ∈ (Cond.code y c n r :: wRa), w.before args s = true) (hR : 1 + 1 ≤ R.frames ∧ 8 + (3 + 11) + 80 ≤ R.locals) : CallB R s args RX9 109 yJ7_copyOf_59c91 cJ7_copyOf_59c91 3 (some (.array .int)) wsR_copyOf { frames := 1, cells := 1, slots := 120, locals := 80 } 1 120 2 ∧ (Cond.static yJ7_copyOf_59c91).before args s = true := va_cwS 2 hts (goodS wRa_good rm_X9_109 rt_J7_copyOf_59c91 rn_J7 rc_J7_copyOf_59c91) rfl rfl rfl (by decide +kernel) hR
theorem cw_X9_J7_copyOf_p_109 {R : Room} {s : State} {args : Array Value} {y : MethodName} {c : ByteArray} {n : Nat} {r : Option FieldType} (hts : ∀ w ∈ (Cond.code y c n r :: wRa), w.before args s = true) (hR : 1 + 1 ≤ R.frames ∧ 8 + (3 + 11) + 80 ≤ R.locals) : CallB R s args RX9 109 yJ7_copyOf_59c91 cJ7_copyOf_59c91 3 (some (.array .int)) wsR_copyOf { frames := 1, cells := 1, slots := 120, locals := 80 } 1 120 2 ∧ (Cond.static yJ7_copyOf_59c91).before args s = true := va_cwS 2 hts (goodS wRa_good rm_X9_109 rt_J7_copyOf_59c91 rn_J7 rc_J7_copyOf_59c91) rfl rfl rfl (by decide +kernel) hR
def FR_X9_bolt (N : Nat) (σ : RS) (p1 : Int32) (p2 : Int32) : Option (Int32 × RS) := ((FR_X9_within p1 (0 : Int32) (9 : Int32)).bind fun q_4 => (if q_4 = 0 then (some ((-2 : Int32), σ)) else ((FR_X9_within p2 (0 : Int32) (1 : Int32)).bind fun q_13 => (if q_13 = 0 then (some ((-2 : Int32), σ)) else (if (rI σ 903) < (40 : Int32) then ((FR_X8_readRows σ).bind fun q_38 => (if 0 ≤ q_38.1 then ((FR_copyOf_802 (N + 1) (nO (ri q_38.2 801 (0 : Int32)) N 0) q_38.1).bind fun q_69 => (gd (isK q_69.2 N 0) ((FR_X0_init q_69.2 N q_69.1 p1 p2).bind fun q_74 => ((FR_X9_keepBolt q_74 N).bind fun q_77 => (some (q_77.1, q_77.2)))))) else (some (q_38.1, (ri q_38.2 801 (0 : Int32)))))) else (some ((-4 : Int32), σ)))))))
set_option maxHeartbeats 4000000 in
set_option maxRecDepth 100000 in
theorem cR_X9_bolt (l : Launch) (D : va_G) (cs : Nat → ClassId) (ad tb : Nat → Nat) (A : Nat → Prop) (N : Nat) (hA0 : ∀ q, N ≤ q → A q) (σ : RS) (p1 : Int32) (p2 : Int32) (q : (Int32 × RS)) (hF : FR_X9_bolt N σ p1 p2 = some q) : Met l yX9_bolt wsR_X9_bolt { frames := 3, cells := 2, slots := 123, locals := 102 } (va_Pc [.ref (ad 1009), .int p1, .int p2] (preN N D cs ad tb A σ)) (va_Qi (fun x u => x = q.1 ∧ u = q.2) (posQ D cs ad A) A) 2 123 A := by
  refine Met.ofW (cc := cX9_bolt) (maxL := 4) (ret := (some .int)) (by decide) rfl ?_
  intro p e s m args below meth c s₁ B hml hv
  obtain ⟨rfl, hN, hP, hK, hD, hZ⟩ := hv
  have hx := B.exec
  have hb := B.bytes
  have hr := B.returns
  have hts : ∀ w ∈ (Cond.code yX9_bolt cX9_bolt 4 (some .int) :: wRa), w.before ([.ref (ad 1009), .int p1, .int p2] : List Value).toArray s = true := atoms_spec (ws := wsR_X9_bolt) B.pre
  have hin : ∀ w ∈ wRa, w ∈ (Cond.code yX9_bolt cX9_bolt 4 (some .int) :: wRa) := fun w hw => List.mem_cons_of_mem _ hw
  have hown : s.vm.findClass RX9 = some m.cls := findClass_of_methodNamed B.named
  have hlocks := B.notSynchronized
  have hS : va_S A s.heap s.heap [] := va_S.rf
  have hA : ∀ q, s.heap.size ≤ q → A q := by rw [hN]; exact hA0
  have hl := lv_entry ([.ref (ad 1009), .int p1, .int p2]) (n := 4) (Nat.le_of_ble_eq_true rfl)
  rw [lg_entry_eq]
  generalize (lg_sl ([.ref (ad 1009), .int p1, .int p2]) ++ List.replicate (4 - (lg_sl ([.ref (ad 1009), .int p1, .int p2])).length) Slot.unset).toArray = ls at hl ⊢
  have hl : lv_has ls 4 [(0, .ref (ad 1009)), (1, .int p1), (2, .int p2)] := hl
  unfold FR_X9_bolt at hF
  refine lv_iload_n hx hb dX9_bolt_0 rfl (lv_at hl 1 rfl) ?_
  refine lv_iconst (v := (0 : Int32)) hx hb dX9_bolt_1 (by decide) ?_
  refine lv_bipush (v := (9 : Int32)) hx hb dX9_bolt_2 (by decide) ?_
  obtain ⟨q_4, e_4, hF⟩ := ob_bd hF
  refine csR (As := [.int p1, .int (0 : Int32), .int (9 : Int32)]) (rest := []) ⟨hx, hb, hml, hown, hts⟩ (cR_X9_within l p1 (0 : Int32) (9 : Int32) _ e_4) (cw_X9_X9_within_88 hts ⟨Nat.le_of_ble_eq_true rfl, Nat.le_of_ble_eq_true rfl⟩) ⟨(Nat.le_of_ble_eq_true rfl), (Nat.le_of_ble_eq_true rfl)⟩ rfl hl.1 rfl (lv_room (Nat.le_of_ble_eq_true rfl)) dX9_bolt_4 ?_
  refine lv_if_eq (tgt := 19) hx hb dX9_bolt_7 (by decide) (fun c_7 => ?_) (fun c_7 => ?_)
  · have hF := ob_t c_7 hF
    refine lv_bipush (v := (-2 : Int32)) hx hb dX9_bolt_19 (by decide) ?_
    exact rwN hx hb hr hlocks hF hK hP hD hS (Nat.le_of_ble_eq_true rfl) (Nat.le_of_ble_eq_true rfl) dX9_bolt_21
  · have hF := ob_f c_7 hF
    refine lv_iload_n hx hb dX9_bolt_10 rfl (lv_at hl 2 rfl) ?_
    refine lv_iconst (v := (0 : Int32)) hx hb dX9_bolt_11 (by decide) ?_
    refine lv_iconst (v := (1 : Int32)) hx hb dX9_bolt_12 (by decide) ?_
    obtain ⟨q_13, e_13, hF⟩ := ob_bd hF
    refine csR (As := [.int p2, .int (0 : Int32), .int (1 : Int32)]) (rest := []) ⟨hx, hb, hml, hown, hts⟩ (cR_X9_within l p2 (0 : Int32) (1 : Int32) _ e_13) (cw_X9_X9_within_88 hts ⟨Nat.le_of_ble_eq_true rfl, Nat.le_of_ble_eq_true rfl⟩) ⟨(Nat.le_of_ble_eq_true rfl), (Nat.le_of_ble_eq_true rfl)⟩ rfl hl.1 rfl (lv_room (Nat.le_of_ble_eq_true rfl)) dX9_bolt_13 ?_
    refine lv_if_ne (tgt := 22) hx hb dX9_bolt_16 (by decide) (fun c_16 => ?_) (fun c_16 => ?_)
    · have hF := ob_f c_16 hF
      refine lv_aload_n hx hb dX9_bolt_22 rfl (lv_at hl 0 rfl) ?_
      refine gF hx hb hts hin wo_9 rfl hown hK hP (ob_9 _ _ _) 3 (.int (rI σ 903)) (by decide) rf_X9_99 rfl dX9_bolt_23 ?_
      refine lv_bipush (v := (40 : Int32)) hx hb dX9_bolt_26 (by decide) ?_
      refine lv_icmp_lt (tgt := 34) hx hb dX9_bolt_28 (by decide) (fun c_28 => ?_) (fun c_28 => ?_)
      · have hF := ob_t c_28 hF
        refine lv_aload_n hx hb dX9_bolt_34 rfl (lv_at hl 0 rfl) ?_
        refine gF hx hb hts hin wo_9 rfl hown hK hP (ob_9 _ _ _) 0 (.ref (ad 1008)) (by decide) rf_X9_12 rfl dX9_bolt_35 ?_
        obtain ⟨q_38, e_38, hF⟩ := ob_bd hF
        refine cwR (As := []) (rest := []) ⟨hx, hb, hml, hown, hts⟩ (cR_X8_readRows l D cs ad tb A σ _ e_38) (cw_X9_X8_readRows_102 hts ⟨Nat.le_of_ble_eq_true rfl, Nat.le_of_ble_eq_true rfl⟩) ⟨(Nat.le_of_ble_eq_true rfl), (Nat.le_of_ble_eq_true rfl)⟩ (rcF hK hP (ci := 8) rfl (ob_8 _ _ _)) hK hP hD hS hZ rfl hl.1 rfl (lv_room (Nat.le_of_ble_eq_true rfl)) dX9_bolt_38 (fun H locs hP hD hS => ?_)
        refine lv_istore_n (i := 3) (lv' := [(3, .int q_38.1), (0, .ref (ad 1009)), (1, .int p1), (2, .int p2)]) hx hb dX9_bolt_41 rfl hl (by decide) rfl (fun ls hl => ?_)
        refine lv_aload_n hx hb dX9_bolt_42 rfl (lv_at hl 1 rfl) ?_
        refine gF hx hb hts hin wo_9 rfl hown hK hP (ob_9 _ _ _) 0 (.ref (ad 1008)) (by decide) rf_X9_12 rfl dX9_bolt_43 ?_
        refine lv_iconst (v := (0 : Int32)) hx hb dX9_bolt_46 (by decide) ?_
        refine pF (ty := .int) hx hb hts hin wo_8 rfl tyX8 tyX8_ok nmX8 hown hK hP hD hS (ob_8 _ _ _) 1 (by decide) rf_X9_92 rfl (by decide +kernel) rfl rfl (Nat.le_of_ble_eq_true rfl) (rp_801 _ _ _ _) dX9_bolt_47 (fun H locs hP hD hS => ?_)
        refine lv_iload_n hx hb dX9_bolt_50 rfl (lv_at hl 0 rfl) ?_
        refine lv_if_ge (tgt := 56) hx hb dX9_bolt_51 (by decide) (fun c_51 => ?_) (fun c_51 => ?_)
        · have hF := ob_t c_51 hF
          refine lv_aload_n hx hb dX9_bolt_56 rfl (lv_at hl 1 rfl) ?_
          refine neO (fs := [.null, .int 0, .int 0]) (a := N) hx hb hts hin wo_0 rfl tyX0 tyX0_ok hown rl_X9_23 ro_X0 rn_X0 hK hP hD hS hA (fun j hj => by rcases (show j = 0 ∨ j = 1 ∨ j = 2 by omega) with rfl | rfl | rfl <;> rfl) (df_0 _ _) hS.1 (by omega) (Nat.le_of_ble_eq_true rfl) (Nat.le_of_ble_eq_true rfl) dX9_bolt_57 (fun H hP hD hS => ?_)
          have kn_57 : isK (nO (ri q_38.2 801 (0 : Int32)) N 0) N 0 = true := isK_nO _ _ _
          refine lv_dup hx hb dX9_bolt_60 rfl ?_
          refine lv_aload_n hx hb dX9_bolt_61 rfl (lv_at hl 1 rfl) ?_
          refine gF hx hb hts hin wo_9 rfl hown hK hP (ob_9 _ _ _) 0 (.ref (ad 1008)) (by decide) rf_X9_12 rfl dX9_bolt_62 ?_
          refine gF hx hb hts hin wo_8 rfl hown hK hP (ob_8 _ _ _) 2 (.ref (ad 802)) (by decide) rf_X9_106 rfl dX9_bolt_65 ?_
          refine lv_iload_n hx hb dX9_bolt_68 rfl (lv_at hl 0 rfl) ?_
          obtain ⟨q_69, e_69, hF⟩ := ob_bd hF
          refine cbR (As := [.ref (ad 802), .int q_38.1]) (rest := [.ref N, .ref N, .ref (ad 1009)]) ⟨hx, hb, hml, hown, hts⟩ (cR_copyOf_802 l D cs ad tb A (N + 1) (fun q hq => hA q (by omega)) (nO (ri q_38.2 801 (0 : Int32)) N 0) q_38.1 _ e_69) (cw_X9_J7_copyOf_802_109 hts ⟨Nat.le_of_ble_eq_true rfl, Nat.le_of_ble_eq_true rfl⟩) ⟨(Nat.le_of_ble_eq_true rfl), (Nat.le_of_ble_eq_true rfl)⟩  hK hP hD hS hZ (by have h7 := isK_low hP kn_57; omega) (by omega) rfl hl.1 rfl (lv_room (Nat.le_of_ble_eq_true rfl)) dX9_bolt_69 (fun H locs hP hD hS => ?_)
          refine lv_iload_n hx hb dX9_bolt_72 rfl (lv_at hl 2 rfl) ?_
          refine lv_iload_n hx hb dX9_bolt_73 rfl (lv_at hl 3 rfl) ?_
          obtain ⟨k_74_1, hF⟩ := ob_gd hF
          obtain ⟨q_74, e_74, hF⟩ := ob_bd hF
          refine ciR (As := [.ref q_69.1, .int p1, .int p2]) (rest := [.ref N, .ref (ad 1009)]) ⟨hx, hb, hml, hown, hts⟩ (cR_X0_init l D cs ad tb A q_69.2 N q_69.1 p1 p2 _ e_74) (cw_X9_X0_init_115 hts ⟨Nat.le_of_ble_eq_true rfl, Nat.le_of_ble_eq_true rfl⟩) ⟨(Nat.le_of_ble_eq_true rfl), (Nat.le_of_ble_eq_true rfl)⟩ hK hP hD hS hZ rfl hl.1 rfl (lv_room (Nat.le_of_ble_eq_true rfl)) dX9_bolt_74 (fun H locs hP hD hS => ?_)
          obtain ⟨q_77, e_77, hF⟩ := ob_bd hF
          refine cwR (As := [.ref N]) (rest := []) ⟨hx, hb, hml, hown, hts⟩ (cR_X9_keepBolt l D cs ad tb A q_74 N _ e_77) (cw_X9_X9_keepBolt_118 hts ⟨Nat.le_of_ble_eq_true rfl, Nat.le_of_ble_eq_true rfl⟩) ⟨(Nat.le_of_ble_eq_true rfl), (Nat.le_of_ble_eq_true rfl)⟩ (rcF hK hP (ci := 9) rfl (ob_9 _ _ _)) hK hP hD hS hZ rfl hl.1 rfl (lv_room (Nat.le_of_ble_eq_true rfl)) dX9_bolt_77 (fun H locs hP hD hS => ?_)
          exact rwN hx hb hr hlocks hF hK hP hD hS (Nat.le_of_ble_eq_true rfl) (Nat.le_of_ble_eq_true rfl) dX9_bolt_80
        · have hF := ob_f c_51 hF
          refine lv_iload_n hx hb dX9_bolt_54 rfl (lv_at hl 0 rfl) ?_
          exact rwN hx hb hr hlocks hF hK hP hD hS (Nat.le_of_ble_eq_true rfl) (Nat.le_of_ble_eq_true rfl) dX9_bolt_55
      · have hF := ob_f c_28 hF
        refine lv_bipush (v := (-4 : Int32)) hx hb dX9_bolt_31 (by decide) ?_
        exact rwN hx hb hr hlocks hF hK hP hD hS (Nat.le_of_ble_eq_true rfl) (Nat.le_of_ble_eq_true rfl) dX9_bolt_33
    · have hF := ob_t c_16 hF
      refine lv_bipush (v := (-2 : Int32)) hx hb dX9_bolt_19 (by decide) ?_
      exact rwN hx hb hr hlocks hF hK hP hD hS (Nat.le_of_ble_eq_true rfl) (Nat.le_of_ble_eq_true rfl) dX9_bolt_21
def wsR_X9_sew : List Cond := Cond.code yX9_sew cX9_sew 6 (some .int) :: wRa
theorem cw_X9_X2_cutRows_178 {R : Room} {s : State} {args : Array Value} {y : MethodName} {c : ByteArray} {n : Nat} {r : Option FieldType} (hts : ∀ w ∈ (Cond.code y c n r :: wRa), w.before args s = true) (hR : 2 + 1 ≤ R.frames ∧ 8 + (6 + 11) + 43 ≤ R.locals) : CallW R s args RX9 RX2 178 yX2_cutRows cX2_cutRows 6 (some (.array .int)) wsR_X2_cutRows { frames := 2, cells := 1, slots := 120, locals := 43 } 1 120 0 := cwV 0 hts (goodV wRa_good rm_X9_178 ri_X2_cutRows rs_X2_cutRows rn_X2 rc_X2_cutRows) rfl rfl rfl (by decide +kernel) hR
theorem cw_X9_X4_init_187 {R : Room} {s : State} {args : Array Value} {y : MethodName} {c : ByteArray} {n : Nat} {r : Option FieldType} (hts : ∀ w ∈ (Cond.code y c n r :: wRa), w.before args s = true) (hR : 1 + 1 ≤ R.frames ∧ 8 + (3 + 11) + 20 ≤ R.locals) : CallB R s args RX9 187 yX4_init cX4_init 3 none wsR_X4_init { frames := 1, cells := 0, slots := 0, locals := 20 } 0 0 2 ∧ (yX4_init).name = "<init>" ∧ (Cond.instanceMethod yX4_init).before args s = true := cwI 2 hts (goodC wRa_good rc_X4_init) rfl rfl rfl (hts _ (List.mem_cons_of_mem _ rn_X4)) (hts _ (List.mem_cons_of_mem _ rm_X9_187)) (hts _ (List.mem_cons_of_mem _ ri_X4_init)) rfl (by decide +kernel) hR
def FR_X9_sew (N : Nat) (σ : RS) (p1 : Int32) (p2 : Int32) (p3 : Int32) : Option (Int32 × RS) := ((FR_X9_boltAt σ p1).bind fun q_2 => (oc q_2 (some ((-1 : Int32), σ)) (fun c_9 => (gd (isK σ c_9 0) ((FR_X0_canLie σ c_9 p2 p3).bind fun q_18 => (if q_18 = 0 then (some ((-2 : Int32), σ)) else ((FR_X9_fitSleeves σ c_9).bind fun q_30 => (if q_30.1 = 0 then (some ((-3 : Int32), q_30.2)) else (if (rI q_30.2 905) < (30 : Int32) then (gd (isK q_30.2 c_9 0) ((pR q_30.2 c_9 0).bind fun r_57 => ((rV q_30.2 906).bind fun r_61 => ((FR_X2_spread q_30.2 r_57 r_61 (rI q_30.2 907) (rI q_30.2 908)).bind fun q_72 => ((FR_X2_lay q_72 p2 p3).bind fun q_81 => ((FR_X2_cutRows (N + 1) (nO q_81 N 0)).bind fun q_92 => (gd (isK q_92.2 c_9 0) (gd (isK q_92.2 N 0) ((FR_X0_init q_92.2 N q_92.1 (pI q_92.2 c_9 1) (pI q_92.2 c_9 2)).bind fun q_105 => (gd (inb p1 40) (gd (isK (rq q_105 902 p1 none) (N + 1) 11) ((rV (nO (rq q_105 902 p1 none) (N + 2) 4) 906).bind fun r_132 => (gd (isK (nO (rq q_105 902 p1 none) (N + 2) 4) r_132 11) (gd (decide ((pN (nO (rq q_105 902 p1 none) (N + 2) 4) r_132) ≤ 120)) (gd (isK (nA (nO (rq q_105 902 p1 none) (N + 2) 4) (N + 3) (pN (nO (rq q_105 902 p1 none) (N + 2) 4) r_132) (pA (nO (rq q_105 902 p1 none) (N + 2) 4) r_132)) (N + 2) 4) ((FR_X4_init (nA (nO (rq q_105 902 p1 none) (N + 2) 4) (N + 3) (pN (nO (rq q_105 902 p1 none) (N + 2) 4) r_132) (pA (nO (rq q_105 902 p1 none) (N + 2) 4) r_132)) (N + 2) N (N + 3)).bind fun q_141 => (gd (isK q_141 (N + 2) 4) (gd (inb (rI (rq q_105 902 p1 none) 905) 30) (some (((rI (ri (rq q_141 904 (rI (rq q_105 902 p1 none) 905) (some (N + 2))) 905 ((rI (rq q_141 904 (rI (rq q_105 902 p1 none) 905) (some (N + 2))) 905) + (1 : Int32))) 905) - (1 : Int32)), (ri (rq q_141 904 (rI (rq q_105 902 p1 none) 905) (some (N + 2))) 905 ((rI (rq q_141 904 (rI (rq q_105 902 p1 none) 905) (some (N + 2))) 905) + (1 : Int32))))))))))))))))))))))) else (some ((-4 : Int32), q_30.2)))))))))))
set_option maxHeartbeats 4000000 in
set_option maxRecDepth 100000 in
theorem cR_X9_sew (l : Launch) (D : va_G) (cs : Nat → ClassId) (ad tb : Nat → Nat) (A : Nat → Prop) (N : Nat) (hA0 : ∀ q, N ≤ q → A q) (σ : RS) (p1 : Int32) (p2 : Int32) (p3 : Int32) (q : (Int32 × RS)) (hF : FR_X9_sew N σ p1 p2 p3 = some q) : Met l yX9_sew wsR_X9_sew { frames := 3, cells := 4, slots := 248, locals := 80 } (va_Pc [.ref (ad 1009), .int p1, .int p2, .int p3] (preN N D cs ad tb A σ)) (va_Qi (fun x u => x = q.1 ∧ u = q.2) (posQ D cs ad A) A) 4 248 A := by
  refine Met.ofW (cc := cX9_sew) (maxL := 6) (ret := (some .int)) (by decide) rfl ?_
  intro p e s m args below meth c s₁ B hml hv
  obtain ⟨rfl, hN, hP, hK, hD, hZ⟩ := hv
  have hx := B.exec
  have hb := B.bytes
  have hr := B.returns
  have hts : ∀ w ∈ (Cond.code yX9_sew cX9_sew 6 (some .int) :: wRa), w.before ([.ref (ad 1009), .int p1, .int p2, .int p3] : List Value).toArray s = true := atoms_spec (ws := wsR_X9_sew) B.pre
  have hin : ∀ w ∈ wRa, w ∈ (Cond.code yX9_sew cX9_sew 6 (some .int) :: wRa) := fun w hw => List.mem_cons_of_mem _ hw
  have hown : s.vm.findClass RX9 = some m.cls := findClass_of_methodNamed B.named
  have hlocks := B.notSynchronized
  have hS : va_S A s.heap s.heap [] := va_S.rf
  have hA : ∀ q, s.heap.size ≤ q → A q := by rw [hN]; exact hA0
  have hl := lv_entry ([.ref (ad 1009), .int p1, .int p2, .int p3]) (n := 6) (Nat.le_of_ble_eq_true rfl)
  rw [lg_entry_eq]
  generalize (lg_sl ([.ref (ad 1009), .int p1, .int p2, .int p3]) ++ List.replicate (6 - (lg_sl ([.ref (ad 1009), .int p1, .int p2, .int p3])).length) Slot.unset).toArray = ls at hl ⊢
  have hl : lv_has ls 6 [(0, .ref (ad 1009)), (1, .int p1), (2, .int p2), (3, .int p3)] := hl
  unfold FR_X9_sew at hF
  refine lv_aload_n hx hb dX9_sew_0 rfl (lv_at hl 0 rfl) ?_
  refine lv_iload_n hx hb dX9_sew_1 rfl (lv_at hl 1 rfl) ?_
  obtain ⟨q_2, e_2, hF⟩ := ob_bd hF
  refine cqR (As := [.int p1]) (rest := []) ⟨hx, hb, hml, hown, hts⟩ (cR_X9_boltAt l D cs ad tb A σ p1 _ e_2) (cw_X9_X9_boltAt_122 hts ⟨Nat.le_of_ble_eq_true rfl, Nat.le_of_ble_eq_true rfl⟩) ⟨(Nat.le_of_ble_eq_true rfl), (Nat.le_of_ble_eq_true rfl)⟩ (rcF hK hP (ci := 9) rfl (ob_9 _ _ _)) hK hP hD hS hZ rfl hl.1 rfl (lv_room (Nat.le_of_ble_eq_true rfl)) dX9_sew_2 ?_
  refine asQ (i := 4) (lv' := [(4, va_rf q_2), (0, .ref (ad 1009)), (1, .int p1), (2, .int p2), (3, .int p3)]) hx hb dX9_sew_5 hl (by decide) rfl (fun ls hl => ?_)
  refine alQ hx hb dX9_sew_7 (lv_at hl 0 rfl) ?_
  refine nnQ (tgt := 14) hx hb dX9_sew_9 (by decide) (fun c_9 e_9 => ?_) (fun e_9 => ?_)
  · have hF := oc_s e_9 hF
    refine alQ hx hb dX9_sew_14 (lv_at hl 0 rfl) ?_
    refine rfS e_9 ?_
    refine lv_iload_n hx hb dX9_sew_16 rfl (lv_at hl 3 rfl) ?_
    refine lv_iload_n hx hb dX9_sew_17 rfl (lv_at hl 4 rfl) ?_
    obtain ⟨k_18_1, hF⟩ := ob_gd hF
    obtain ⟨q_18, e_18, hF⟩ := ob_bd hF
    refine crR (As := [.int p2, .int p3]) (rest := []) ⟨hx, hb, hml, hown, hts⟩ (cR_X0_canLie l D cs ad tb A σ c_9 p2 p3 _ e_18) (cw_X9_X0_canLie_145 hts ⟨Nat.le_of_ble_eq_true rfl, Nat.le_of_ble_eq_true rfl⟩) ⟨(Nat.le_of_ble_eq_true rfl), (Nat.le_of_ble_eq_true rfl)⟩ (rcP hK hP (ci := 0) rfl k_18_1 (pf_0 (isK_K k_18_1))) hK hP hD hS hZ rfl hl.1 rfl (lv_room (Nat.le_of_ble_eq_true rfl)) dX9_sew_18 ?_
    refine lv_if_ne (tgt := 27) hx hb dX9_sew_21 (by decide) (fun c_21 => ?_) (fun c_21 => ?_)
    · have hF := ob_f c_21 hF
      refine lv_aload_n hx hb dX9_sew_27 rfl (lv_at hl 1 rfl) ?_
      refine alQ hx hb dX9_sew_28 (lv_at hl 0 rfl) ?_
      refine rfS e_9 ?_
      obtain ⟨q_30, e_30, hF⟩ := ob_bd hF
      refine cwR (As := [.ref c_9]) (rest := []) ⟨hx, hb, hml, hown, hts⟩ (cR_X9_fitSleeves l D cs ad tb A σ c_9 _ e_30) (cw_X9_X9_fitSleeves_141 hts ⟨Nat.le_of_ble_eq_true rfl, Nat.le_of_ble_eq_true rfl⟩) ⟨(Nat.le_of_ble_eq_true rfl), (Nat.le_of_ble_eq_true rfl)⟩ (rcF hK hP (ci := 9) rfl (ob_9 _ _ _)) hK hP hD hS hZ rfl hl.1 rfl (lv_room (Nat.le_of_ble_eq_true rfl)) dX9_sew_30 (fun H locs hP hD hS => ?_)
      refine lv_if_ne (tgt := 39) hx hb dX9_sew_33 (by decide) (fun c_33 => ?_) (fun c_33 => ?_)
      · have hF := ob_f c_33 hF
        refine lv_aload_n hx hb dX9_sew_39 rfl (lv_at hl 1 rfl) ?_
        refine gF hx hb hts hin wo_9 rfl hown hK hP (ob_9 _ _ _) 5 (.int (rI q_30.2 905)) (by decide) rf_X9_175 rfl dX9_sew_40 ?_
        refine lv_bipush (v := (30 : Int32)) hx hb dX9_sew_43 (by decide) ?_
        refine lv_icmp_lt (tgt := 51) hx hb dX9_sew_45 (by decide) (fun c_45 => ?_) (fun c_45 => ?_)
        · have hF := ob_t c_45 hF
          refine lv_aload_n hx hb dX9_sew_51 rfl (lv_at hl 1 rfl) ?_
          refine gF hx hb hts hin wo_9 rfl hown hK hP (ob_9 _ _ _) 10 (.ref (ad 1002)) (by decide) rf_X9_57 rfl dX9_sew_52 ?_
          refine alQ hx hb dX9_sew_55 (lv_at hl 0 rfl) ?_
          refine rfS e_9 ?_
          obtain ⟨k_57_2, hF⟩ := ob_gd hF
          refine gP hx hb hts hin wo_0 rfl hown hK hP k_57_2 (pf_0 (isK_K k_57_2)) 0 (va_rf (pR q_30.2 c_9 0)) (by decide) rf_X9_126 rfl dX9_sew_57 ?_
          obtain ⟨r_57, o_57, hF⟩ := ob_bd hF
          refine rfS o_57 ?_
          refine lv_aload_n hx hb dX9_sew_60 rfl (lv_at hl 1 rfl) ?_
          refine gF hx hb hts hin wo_9 rfl hown hK hP (ob_9 _ _ _) 6 (va_rf (rV q_30.2 906)) (by decide) rf_X9_35 rfl dX9_sew_61 ?_
          obtain ⟨r_61, o_61, hF⟩ := ob_bd hF
          refine rfS o_61 ?_
          refine lv_aload_n hx hb dX9_sew_64 rfl (lv_at hl 1 rfl) ?_
          refine gF hx hb hts hin wo_9 rfl hown hK hP (ob_9 _ _ _) 7 (.int (rI q_30.2 907)) (by decide) rf_X9_39 rfl dX9_sew_65 ?_
          refine lv_aload_n hx hb dX9_sew_68 rfl (lv_at hl 1 rfl) ?_
          refine gF hx hb hts hin wo_9 rfl hown hK hP (ob_9 _ _ _) 8 (.int (rI q_30.2 908)) (by decide) rf_X9_43 rfl dX9_sew_69 ?_
          obtain ⟨q_72, e_72, hF⟩ := ob_bd hF
          refine cvR (As := [.ref r_57, .ref r_61, .int (rI q_30.2 907), .int (rI q_30.2 908)]) (rest := []) ⟨hx, hb, hml, hown, hts⟩ (cR_X2_spread l D cs ad tb A q_30.2 r_57 r_61 (rI q_30.2 907) (rI q_30.2 908) _ e_72) (cw_X9_X2_spread_149 hts ⟨Nat.le_of_ble_eq_true rfl, Nat.le_of_ble_eq_true rfl⟩) ⟨(Nat.le_of_ble_eq_true rfl), (Nat.le_of_ble_eq_true rfl)⟩ (rcF hK hP (ci := 2) rfl (ob_2 _ _ _)) hK hP hD hS hZ rfl hl.1 rfl (lv_room (Nat.le_of_ble_eq_true rfl)) dX9_sew_72 (fun H locs hP hD hS => ?_)
          refine lv_aload_n hx hb dX9_sew_75 rfl (lv_at hl 1 rfl) ?_
          refine gF hx hb hts hin wo_9 rfl hown hK hP (ob_9 _ _ _) 10 (.ref (ad 1002)) (by decide) rf_X9_57 rfl dX9_sew_76 ?_
          refine lv_iload_n hx hb dX9_sew_79 rfl (lv_at hl 3 rfl) ?_
          refine lv_iload_n hx hb dX9_sew_80 rfl (lv_at hl 4 rfl) ?_
          obtain ⟨q_81, e_81, hF⟩ := ob_bd hF
          refine cvR (As := [.int p2, .int p3]) (rest := []) ⟨hx, hb, hml, hown, hts⟩ (cR_X2_lay l D cs ad tb A q_72 p2 p3 _ e_81) (cw_X9_X2_lay_155 hts ⟨Nat.le_of_ble_eq_true rfl, Nat.le_of_ble_eq_true rfl⟩) ⟨(Nat.le_of_ble_eq_true rfl), (Nat.le_of_ble_eq_true rfl)⟩ (rcF hK hP (ci := 2) rfl (ob_2 _ _ _)) hK hP hD hS hZ rfl hl.1 rfl (lv_room (Nat.le_of_ble_eq_true rfl)) dX9_sew_81 (fun H locs hP hD hS => ?_)
          refine neO (fs := [.null, .int 0, .int 0]) (a := N) hx hb hts hin wo_0 rfl tyX0 tyX0_ok hown rl_X9_23 ro_X0 rn_X0 hK hP hD hS hA (fun j hj => by rcases (show j = 0 ∨ j = 1 ∨ j = 2 by omega) with rfl | rfl | rfl <;> rfl) (df_0 _ _) hS.1 (by omega) (Nat.le_of_ble_eq_true rfl) (Nat.le_of_ble_eq_true rfl) dX9_sew_84 (fun H hP hD hS => ?_)
          have kn_84 : isK (nO q_81 N 0) N 0 = true := isK_nO _ _ _
          refine lv_dup hx hb dX9_sew_87 rfl ?_
          refine lv_aload_n hx hb dX9_sew_88 rfl (lv_at hl 1 rfl) ?_
          refine gF hx hb hts hin wo_9 rfl hown hK hP (ob_9 _ _ _) 10 (.ref (ad 1002)) (by decide) rf_X9_57 rfl dX9_sew_89 ?_
          obtain ⟨q_92, e_92, hF⟩ := ob_bd hF
          refine caR (As := []) (rest := [.ref N, .ref N]) ⟨hx, hb, hml, hown, hts⟩ (cR_X2_cutRows l D cs ad tb A (N + 1) (fun q hq => hA q (by omega)) (nO q_81 N 0) _ e_92) (cw_X9_X2_cutRows_178 hts ⟨Nat.le_of_ble_eq_true rfl, Nat.le_of_ble_eq_true rfl⟩) ⟨(Nat.le_of_ble_eq_true rfl), (Nat.le_of_ble_eq_true rfl)⟩ (rcF hK hP (ci := 2) rfl (ob_2 _ _ _)) hK hP hD hS hZ (by have h7 := isK_low hP kn_84; omega) (by omega) rfl hl.1 rfl (lv_room (Nat.le_of_ble_eq_true rfl)) dX9_sew_92 (fun H locs hP hD hS => ?_)
          refine alQ hx hb dX9_sew_95 (lv_at hl 0 rfl) ?_
          refine rfS e_9 ?_
          obtain ⟨k_97_3, hF⟩ := ob_gd hF
          refine gP hx hb hts hin wo_0 rfl hown hK hP k_97_3 (pf_0 (isK_K k_97_3)) 1 (.int (pI q_92.2 c_9 1)) (by decide) rf_X9_127 rfl dX9_sew_97 ?_
          refine alQ hx hb dX9_sew_100 (lv_at hl 0 rfl) ?_
          refine rfS e_9 ?_
          refine gP hx hb hts hin wo_0 rfl hown hK hP k_97_3 (pf_0 (isK_K k_97_3)) 2 (.int (pI q_92.2 c_9 2)) (by decide) rf_X9_130 rfl dX9_sew_102 ?_
          obtain ⟨k_105_4, hF⟩ := ob_gd hF
          obtain ⟨q_105, e_105, hF⟩ := ob_bd hF
          refine ciR (As := [.ref q_92.1, .int (pI q_92.2 c_9 1), .int (pI q_92.2 c_9 2)]) (rest := [.ref N]) ⟨hx, hb, hml, hown, hts⟩ (cR_X0_init l D cs ad tb A q_92.2 N q_92.1 (pI q_92.2 c_9 1) (pI q_92.2 c_9 2) _ e_105) (cw_X9_X0_init_115 hts ⟨Nat.le_of_ble_eq_true rfl, Nat.le_of_ble_eq_true rfl⟩) ⟨(Nat.le_of_ble_eq_true rfl), (Nat.le_of_ble_eq_true rfl)⟩ hK hP hD hS hZ rfl hl.1 rfl (lv_room (Nat.le_of_ble_eq_true rfl)) dX9_sew_105 (fun H locs hP hD hS => ?_)
          refine lv_astore (i := 5) (lv' := [(5, .ref N), (4, va_rf q_2), (0, .ref (ad 1009)), (1, .int p1), (2, .int p2), (3, .int p3)]) hx hb dX9_sew_108 hl (by decide) (by simp [rf_cat]) (fun ls hl => ?_)
          refine lv_aload_n hx hb dX9_sew_110 rfl (lv_at hl 2 rfl) ?_
          refine gF hx hb hts hin wo_9 rfl hown hK hP (ob_9 _ _ _) 2 (.ref (ad 902)) (by decide) rf_X9_25 rfl dX9_sew_111 ?_
          refine lv_iload_n hx hb dX9_sew_114 rfl (lv_at hl 3 rfl) ?_
          refine lv_null hx hb dX9_sew_115 ?_
          obtain ⟨g_116, hF⟩ := ob_gd hF
          refine snA (C := "RobeHouse$Cloth") hx hb hK hP hD hS (ra_902 _ _ _) rfl (rs_902 _ _ _ _ _) g_116 dX9_sew_116 (fun H locs hP hD hS => ?_)
          refine lv_aload_n hx hb dX9_sew_117 rfl (lv_at hl 2 rfl) ?_
          refine gF hx hb hts hin wo_9 rfl hown hK hP (ob_9 _ _ _) 4 (.ref (ad 904)) (by decide) rf_X9_31 rfl dX9_sew_118 ?_
          refine lv_aload_n hx hb dX9_sew_121 rfl (lv_at hl 2 rfl) ?_
          refine gF hx hb hts hin wo_9 rfl hown hK hP (ob_9 _ _ _) 5 (.int (rI (rq q_105 902 p1 none) 905)) (by decide) rf_X9_175 rfl dX9_sew_122 ?_
          obtain ⟨k_125_5, hF⟩ := ob_gd hF
          refine neO (fs := [.null, .null, .null, .int 0, .int 0]) (a := (N + 2)) hx hb hts hin wo_4 rfl tyX4 tyX4_ok hown rl_X9_29 ro_X4 rn_X4 hK hP hD hS hA (fun j hj => by rcases (show j = 0 ∨ j = 1 ∨ j = 2 ∨ j = 3 ∨ j = 4 by omega) with rfl | rfl | rfl | rfl | rfl <;> rfl) (df_4 _ _) (by have h7 := isK_low hP k_125_5; omega) (by omega) (Nat.le_of_ble_eq_true rfl) (Nat.le_of_ble_eq_true rfl) dX9_sew_125 (fun H hP hD hS => ?_)
          have kn_125 : isK (nO (rq q_105 902 p1 none) (N + 2) 4) (N + 2) 4 = true := isK_nO _ _ _
          refine lv_dup hx hb dX9_sew_128 rfl ?_
          refine lv_aload hx hb dX9_sew_129 (lv_at hl 0 rfl) ?_
          refine lv_aload_n hx hb dX9_sew_131 rfl (lv_at hl 2 rfl) ?_
          refine gF hx hb hts hin wo_9 rfl hown hK hP (ob_9 _ _ _) 6 (va_rf (rV (nO (rq q_105 902 p1 none) (N + 2) 4) 906)) (by decide) rf_X9_35 rfl dX9_sew_132 ?_
          obtain ⟨r_132, o_132, hF⟩ := ob_bd hF
          refine rfS o_132 ?_
          obtain ⟨k_135_6, hF⟩ := ob_gd hF
          obtain ⟨j_135, hj_135⟩ := plP (cs := cs) (ad := ad) k_135_6
          obtain ⟨gb_135, hF⟩ := ob_gd hF
          refine clP (a := (N + 3)) (cap := 120) hx hb (hml.trans hl.1.symm) hown hts hin rm_X9_182 hZ hK hP hD hS hA hj_135 (of_decide_eq_true gb_135) (by have h7 := isK_low hP kn_125; omega) (by omega) (Nat.le_of_ble_eq_true rfl) (Nat.le_of_ble_eq_true rfl) (Nat.le_of_ble_eq_true rfl) (Nat.le_of_ble_eq_true rfl) dX9_sew_135 (fun H hP hD hS => ?_)
          have kn_135 : isK (nA (nO (rq q_105 902 p1 none) (N + 2) 4) (N + 3) (pN (nO (rq q_105 902 p1 none) (N + 2) 4) r_132) (pA (nO (rq q_105 902 p1 none) (N + 2) 4) r_132)) (N + 3) 11 = true := isK_nA _ _ _ _
          refine ctA hx hb hown hts hin rl_X9_183 hK hP kn_135 dX9_sew_138 ?_
          obtain ⟨k_141_7, hF⟩ := ob_gd hF
          obtain ⟨q_141, e_141, hF⟩ := ob_bd hF
          refine ciR (As := [.ref N, .ref (N + 3)]) (rest := [.ref (N + 2), .int (rI (rq q_105 902 p1 none) 905), .ref (ad 904)]) ⟨hx, hb, hml, hown, hts⟩ (cR_X4_init l D cs ad tb A (nA (nO (rq q_105 902 p1 none) (N + 2) 4) (N + 3) (pN (nO (rq q_105 902 p1 none) (N + 2) 4) r_132) (pA (nO (rq q_105 902 p1 none) (N + 2) 4) r_132)) (N + 2) N (N + 3) _ e_141) (cw_X9_X4_init_187 hts ⟨Nat.le_of_ble_eq_true rfl, Nat.le_of_ble_eq_true rfl⟩) ⟨(Nat.le_of_ble_eq_true rfl), (Nat.le_of_ble_eq_true rfl)⟩ hK hP hD hS hZ rfl hl.1 rfl (lv_room (Nat.le_of_ble_eq_true rfl)) dX9_sew_141 (fun H locs hP hD hS => ?_)
          obtain ⟨k_144_8, hF⟩ := ob_gd hF
          obtain ⟨g_144, hF⟩ := ob_gd hF
          refine stA hx hb hK hP hD hS (ra_904 _ _ _) rfl rfl k_144_8 (pf_4 (isK_K k_144_8)) (rs_904 _ _ _ _ _) g_144 dX9_sew_144 (fun H locs hP hD hS => ?_)
          refine lv_aload_n hx hb dX9_sew_145 rfl (lv_at hl 2 rfl) ?_
          refine lv_dup hx hb dX9_sew_146 rfl ?_
          refine gF hx hb hts hin wo_9 rfl hown hK hP (ob_9 _ _ _) 5 (.int (rI (rq q_141 904 (rI (rq q_105 902 p1 none) 905) (some (N + 2))) 905)) (by decide) rf_X9_175 rfl dX9_sew_147 ?_
          refine lv_iconst (v := (1 : Int32)) hx hb dX9_sew_150 (by decide) ?_
          refine lv_iadd hx hb dX9_sew_151 ?_
          refine pF (ty := .int) hx hb hts hin wo_9 rfl tyX9 tyX9_ok nmX9 hown hK hP hD hS (ob_9 _ _ _) 5 (by decide) rf_X9_175 rfl (by decide +kernel) rfl rfl (Nat.le_of_ble_eq_true rfl) (rp_905 _ _ _ _) dX9_sew_152 (fun H locs hP hD hS => ?_)
          refine lv_aload_n hx hb dX9_sew_155 rfl (lv_at hl 2 rfl) ?_
          refine gF hx hb hts hin wo_9 rfl hown hK hP (ob_9 _ _ _) 5 (.int (rI (ri (rq q_141 904 (rI (rq q_105 902 p1 none) 905) (some (N + 2))) 905 ((rI (rq q_141 904 (rI (rq q_105 902 p1 none) 905) (some (N + 2))) 905) + (1 : Int32))) 905)) (by decide) rf_X9_175 rfl dX9_sew_156 ?_
          refine lv_iconst (v := (1 : Int32)) hx hb dX9_sew_159 (by decide) ?_
          refine lv_isub hx hb dX9_sew_160 ?_
          exact rwN hx hb hr hlocks hF hK hP hD hS (Nat.le_of_ble_eq_true rfl) (Nat.le_of_ble_eq_true rfl) dX9_sew_161
        · have hF := ob_f c_45 hF
          refine lv_bipush (v := (-4 : Int32)) hx hb dX9_sew_48 (by decide) ?_
          exact rwN hx hb hr hlocks hF hK hP hD hS (Nat.le_of_ble_eq_true rfl) (Nat.le_of_ble_eq_true rfl) dX9_sew_50
      · have hF := ob_t c_33 hF
        refine lv_bipush (v := (-3 : Int32)) hx hb dX9_sew_36 (by decide) ?_
        exact rwN hx hb hr hlocks hF hK hP hD hS (Nat.le_of_ble_eq_true rfl) (Nat.le_of_ble_eq_true rfl) dX9_sew_38
    · have hF := ob_t c_21 hF
      refine lv_bipush (v := (-2 : Int32)) hx hb dX9_sew_24 (by decide) ?_
      exact rwN hx hb hr hlocks hF hK hP hD hS (Nat.le_of_ble_eq_true rfl) (Nat.le_of_ble_eq_true rfl) dX9_sew_26
  · have hF := oc_n e_9 hF
    refine lv_iconst (v := (-1 : Int32)) hx hb dX9_sew_12 (by decide) ?_
    exact rwN hx hb hr hlocks hF hK hP hD hS (Nat.le_of_ble_eq_true rfl) (Nat.le_of_ble_eq_true rfl) dX9_sew_13
