def wsR_J7_checkLength : List Cond := Cond.code yJ7_checkLength_df160 cJ7_checkLength_df160 2 none :: wRa
def FR_J7_checkLength (p0 : Int32) (p1 : Int32) : Option Unit := (if p0 ≤ p1 then (some ()) else none)
set_option maxHeartbeats 4000000 in
set_option maxRecDepth 100000 in
theorem cR_J7_checkLength (l : Launch) (p0 : Int32) (p1 : Int32) (q : Unit) (hF : FR_J7_checkLength p0 p1 = some q) : Met l yJ7_checkLength_df160 wsR_J7_checkLength { frames := 0, cells := 0, slots := 0, locals := 0 } (va_Pc [.int p0, .int p1] (fun _ => True)) (va_Sv (fun _ => True)) 0 0 (fun _ => False) := by
  refine Met.ofW (cc := cJ7_checkLength_df160) (maxL := 2) (ret := none) (by decide) rfl ?_
  intro p e s m args below meth c s₁ B hml hv
  obtain ⟨rfl, -⟩ := hv
  have hx := B.exec
  have hb := B.bytes
  have hr := B.returns
  have hts : ∀ w ∈ (Cond.code yJ7_checkLength_df160 cJ7_checkLength_df160 2 none :: wRa), w.before ([.int p0, .int p1] : List Value).toArray s = true := atoms_spec (ws := wsR_J7_checkLength) B.pre
  have hin : ∀ w ∈ wRa, w ∈ (Cond.code yJ7_checkLength_df160 cJ7_checkLength_df160 2 none :: wRa) := fun w hw => List.mem_cons_of_mem _ hw
  have hown : s.vm.findClass RJ7 = some m.cls := findClass_of_methodNamed B.named
  have hlocks := B.notSynchronized
  have hl := lv_entry ([.int p0, .int p1]) (n := 2) (Nat.le_of_ble_eq_true rfl)
  rw [lg_entry_eq]
  generalize (lg_sl ([.int p0, .int p1]) ++ List.replicate (2 - (lg_sl ([.int p0, .int p1])).length) Slot.unset).toArray = ls at hl ⊢
  have hl : lv_has ls 2 [(0, .int p0), (1, .int p1)] := hl
  unfold FR_J7_checkLength at hF
  refine lv_iload_n hx hb dJ7_checkLength_df160_0 rfl (lv_at hl 1 rfl) ?_
  refine lv_iload_n hx hb dJ7_checkLength_df160_1 rfl (lv_at hl 0 rfl) ?_
  refine lv_icmp_ge (tgt := 37) hx hb dJ7_checkLength_df160_2 (by decide) (fun c_2 => ?_) (fun c_2 => ?_)
  · have hF := ob_t c_2 hF
    exact rvS hx hb hr hlocks dJ7_checkLength_df160_37
  · have hF := ob_f c_2 hF
    exact nomatch hF
def wsR_J7_copyOfRangeInt : List Cond := Cond.code yJ7_copyOfRangeInt_feecc cJ7_copyOfRangeInt_feecc 5 (some (.array .int)) :: wRa
theorem cw_J7_J7_checkLength_343 {R : Room} {s : State} {args : Array Value} {y : MethodName} {c : ByteArray} {n : Nat} {r : Option FieldType} (hts : ∀ w ∈ (Cond.code y c n r :: wRa), w.before args s = true) (hR : 0 + 1 ≤ R.frames ∧ 8 + (2 + 11) + 0 ≤ R.locals) : CallB R s args RJ7 343 yJ7_checkLength_df160 cJ7_checkLength_df160 2 none wsR_J7_checkLength { frames := 0, cells := 0, slots := 0, locals := 0 } 0 0 2 ∧ (Cond.static yJ7_checkLength_df160).before args s = true := va_cwS 2 hts (goodS wRa_good rm_J7_343 rt_J7_checkLength_df160 rn_J7 rc_J7_checkLength_df160) rfl rfl rfl (by decide +kernel) hR
def FR_J7_copyOfRangeInt (N : Nat) (σ : RS) (p0 : Nat) (p1 : Int32) (p2 : Int32) : Option (Nat × RS) := ((FR_J7_checkLength p1 p2).bind fun q_2 => (gd (inc (p2 - p1) 120) (gd (isK (nA σ N ((p2 - p1).toNatClampNeg) (fun _ => 0)) p0 11) (gd (cpo p1 (0 : Int32) (if (p2 - p1) < ((Int32.ofNat (pN (nA σ N ((p2 - p1).toNatClampNeg) (fun _ => 0)) p0)) - p1) then (p2 - p1) else ((Int32.ofNat (pN (nA σ N ((p2 - p1).toNatClampNeg) (fun _ => 0)) p0)) - p1)) (pN (nA σ N ((p2 - p1).toNatClampNeg) (fun _ => 0)) p0) (pN (nA σ N ((p2 - p1).toNatClampNeg) (fun _ => 0)) N)) (some (N, (wc (nA σ N ((p2 - p1).toNatClampNeg) (fun _ => 0)) N (va_cpy (pA (nA σ N ((p2 - p1).toNatClampNeg) (fun _ => 0)) p0) (pA (nA σ N ((p2 - p1).toNatClampNeg) (fun _ => 0)) N) p1.toNatClampNeg (0 : Int32).toNatClampNeg (if (p2 - p1) < ((Int32.ofNat (pN (nA σ N ((p2 - p1).toNatClampNeg) (fun _ => 0)) p0)) - p1) then (p2 - p1) else ((Int32.ofNat (pN (nA σ N ((p2 - p1).toNatClampNeg) (fun _ => 0)) p0)) - p1)).toNatClampNeg))))))))
set_option maxHeartbeats 4000000 in
set_option maxRecDepth 100000 in
theorem cR_J7_copyOfRangeInt (l : Launch) (D : va_G) (cs : Nat → ClassId) (ad tb : Nat → Nat) (A : Nat → Prop) (N : Nat) (hA0 : ∀ q, N ≤ q → A q) (σ : RS) (p0 : Nat) (p1 : Int32) (p2 : Int32) (q : (Nat × RS)) (hF : FR_J7_copyOfRangeInt N σ p0 p1 p2 = some q) : Met l yJ7_copyOfRangeInt_feecc wsR_J7_copyOfRangeInt { frames := 1, cells := 1, slots := 120, locals := 80 } (va_Pc [.ref p0, .int p1, .int p2] (preN N D cs ad tb A σ)) (va_Qq (fun x u => x = some q.1 ∧ u = q.2) (posQ D cs ad A) A) 1 120 A := by
  refine Met.ofW (cc := cJ7_copyOfRangeInt_feecc) (maxL := 5) (ret := (some (.array .int))) (by decide) rfl ?_
  intro p e s m args below meth c s₁ B hml hv
  obtain ⟨rfl, hN, hP, hK, hD, hZ⟩ := hv
  have hx := B.exec
  have hb := B.bytes
  have hr := B.returns
  have hts : ∀ w ∈ (Cond.code yJ7_copyOfRangeInt_feecc cJ7_copyOfRangeInt_feecc 5 (some (.array .int)) :: wRa), w.before ([.ref p0, .int p1, .int p2] : List Value).toArray s = true := atoms_spec (ws := wsR_J7_copyOfRangeInt) B.pre
  have hin : ∀ w ∈ wRa, w ∈ (Cond.code yJ7_copyOfRangeInt_feecc cJ7_copyOfRangeInt_feecc 5 (some (.array .int)) :: wRa) := fun w hw => List.mem_cons_of_mem _ hw
  have hown : s.vm.findClass RJ7 = some m.cls := findClass_of_methodNamed B.named
  have hlocks := B.notSynchronized
  have hS : va_S A s.heap s.heap [] := va_S.rf
  have hA : ∀ q, s.heap.size ≤ q → A q := by rw [hN]; exact hA0
  have hl := lv_entry ([.ref p0, .int p1, .int p2]) (n := 5) (Nat.le_of_ble_eq_true rfl)
  rw [lg_entry_eq]
  generalize (lg_sl ([.ref p0, .int p1, .int p2]) ++ List.replicate (5 - (lg_sl ([.ref p0, .int p1, .int p2])).length) Slot.unset).toArray = ls at hl ⊢
  have hl : lv_has ls 5 [(0, .ref p0), (1, .int p1), (2, .int p2)] := hl
  unfold FR_J7_copyOfRangeInt at hF
  refine lv_iload_n hx hb dJ7_copyOfRangeInt_feecc_0 rfl (lv_at hl 1 rfl) ?_
  refine lv_iload_n hx hb dJ7_copyOfRangeInt_feecc_1 rfl (lv_at hl 2 rfl) ?_
  obtain ⟨q_2, e_2, hF⟩ := ob_bd hF
  refine csV (As := [.int p1, .int p2]) (rest := []) ⟨hx, hb, hml, hown, hts⟩ (cR_J7_checkLength l p1 p2 _ e_2) (cw_J7_J7_checkLength_343 hts ⟨Nat.le_of_ble_eq_true rfl, Nat.le_of_ble_eq_true rfl⟩) ⟨(Nat.le_of_ble_eq_true rfl), (Nat.le_of_ble_eq_true rfl)⟩ rfl hl.1 rfl (lv_room (Nat.le_of_ble_eq_true rfl)) dJ7_copyOfRangeInt_feecc_2 ?_
  refine lv_iload_n hx hb dJ7_copyOfRangeInt_feecc_5 rfl (lv_at hl 2 rfl) ?_
  refine lv_iload_n hx hb dJ7_copyOfRangeInt_feecc_6 rfl (lv_at hl 1 rfl) ?_
  refine lv_isub hx hb dJ7_copyOfRangeInt_feecc_7 ?_
  refine lv_istore_n (i := 3) (lv' := [(3, .int (p2 - p1)), (0, .ref p0), (1, .int p1), (2, .int p2)]) hx hb dJ7_copyOfRangeInt_feecc_8 rfl hl (by decide) rfl (fun ls hl => ?_)
  refine lv_iload_n hx hb dJ7_copyOfRangeInt_feecc_9 rfl (lv_at hl 0 rfl) ?_
  obtain ⟨g_10, hF⟩ := ob_gd hF
  refine neA (a := N) (cap := 120) hx hb hts hin hK hP hD hS hA g_10 (by decide) hS.1 (by omega) (Nat.le_of_ble_eq_true rfl) (Nat.le_of_ble_eq_true rfl) dJ7_copyOfRangeInt_feecc_10 (fun H hP hD hS => ?_)
  have kn_10 : isK (nA σ N ((p2 - p1).toNatClampNeg) (fun _ => 0)) N 11 = true := isK_nA _ _ _ _
  refine lv_astore (i := 4) (lv' := [(4, .ref N), (3, .int (p2 - p1)), (0, .ref p0), (1, .int p1), (2, .int p2)]) hx hb dJ7_copyOfRangeInt_feecc_12 hl (by decide) rfl (fun ls hl => ?_)
  refine lv_aload_n hx hb dJ7_copyOfRangeInt_feecc_14 rfl (lv_at hl 2 rfl) ?_
  refine lv_iload_n hx hb dJ7_copyOfRangeInt_feecc_15 rfl (lv_at hl 3 rfl) ?_
  refine lv_aload hx hb dJ7_copyOfRangeInt_feecc_16 (lv_at hl 0 rfl) ?_
  refine lv_iconst (v := (0 : Int32)) hx hb dJ7_copyOfRangeInt_feecc_18 (by decide) ?_
  refine lv_aload_n hx hb dJ7_copyOfRangeInt_feecc_19 rfl (lv_at hl 2 rfl) ?_
  obtain ⟨k_20_1, hF⟩ := ob_gd hF
  refine lnP (v := (Int32.ofNat (pN (nA σ N ((p2 - p1).toNatClampNeg) (fun _ => 0)) p0))) hx hb hK hP k_20_1 rfl dJ7_copyOfRangeInt_feecc_20 ?_
  refine lv_iload_n hx hb dJ7_copyOfRangeInt_feecc_21 rfl (lv_at hl 3 rfl) ?_
  refine lv_isub hx hb dJ7_copyOfRangeInt_feecc_22 ?_
  refine lv_iload_n hx hb dJ7_copyOfRangeInt_feecc_23 rfl (lv_at hl 1 rfl) ?_
  refine va_mmin hx hb (hml.trans hl.1.symm) hown (hts _ (hin _ rm_J7_304)) (hts _ (hin _ rt_min)) (hts _ (hin _ rn_math)) (hts _ (hin _ rc_min)) (Nat.le_of_ble_eq_true rfl) (Nat.le_of_ble_eq_true rfl) (Nat.le_of_ble_eq_true rfl) (Nat.le_of_ble_eq_true rfl) dJ7_copyOfRangeInt_feecc_24 ?_
  obtain ⟨j_27, hj_27⟩ := plP (cs := cs) (ad := ad) k_20_1
  obtain ⟨g_27, hF⟩ := ob_gd hF
  refine cpP hx hb (hml.trans hl.1.symm) hown hts hin rm_J7_150 hK hP hD hS hj_27 kn_10 g_27 (Nat.le_of_ble_eq_true rfl) (Nat.le_of_ble_eq_true rfl) dJ7_copyOfRangeInt_feecc_27 (fun H locs hP hD hS => ?_)
  refine lv_aload hx hb dJ7_copyOfRangeInt_feecc_30 (lv_at hl 0 rfl) ?_
  exact rqN hx hb hr (Or.inr ⟨_, rfl⟩) hlocks hF hK hP hD hS (Nat.le_of_ble_eq_true rfl) (Nat.le_of_ble_eq_true rfl) dJ7_copyOfRangeInt_feecc_32
def wsR_J7_copyOfRange : List Cond := Cond.code yJ7_copyOfRange_feecc cJ7_copyOfRange_feecc 3 (some (.array .int)) :: wRa
theorem cw_J7_J7_copyOfRangeInt_351 {R : Room} {s : State} {args : Array Value} {y : MethodName} {c : ByteArray} {n : Nat} {r : Option FieldType} (hts : ∀ w ∈ (Cond.code y c n r :: wRa), w.before args s = true) (hR : 1 + 1 ≤ R.frames ∧ 8 + (5 + 11) + 80 ≤ R.locals) : CallB R s args RJ7 351 yJ7_copyOfRangeInt_feecc cJ7_copyOfRangeInt_feecc 5 (some (.array .int)) wsR_J7_copyOfRangeInt { frames := 1, cells := 1, slots := 120, locals := 80 } 1 120 3 ∧ (Cond.static yJ7_copyOfRangeInt_feecc).before args s = true := va_cwS 3 hts (goodS wRa_good rm_J7_351 rt_J7_copyOfRangeInt_feecc rn_J7 rc_J7_copyOfRangeInt_feecc) rfl rfl rfl (by decide +kernel) hR
def FR_J7_copyOfRange_10 (N : Nat) (x0_10 : Nat) (x1_10 : Int32) (x2_10 : Int32) (σ_10 : RS) : Option (Nat × RS) := ((FR_J7_copyOfRangeInt N σ_10 x0_10 x1_10 x2_10).bind fun q_13 => (some (q_13.1, q_13.2)))
def FR_J7_copyOfRange (N : Nat) (σ : RS) (p0 : Nat) (p1 : Int32) (p2 : Int32) : Option (Nat × RS) := (if p1 = 0 then (gd (isK σ p0 11) (if p2 = (Int32.ofNat (pN σ p0)) then (gd (decide ((pN σ p0) ≤ 120)) (some (N, (nA σ N (pN σ p0) (pA σ p0))))) else (FR_J7_copyOfRange_10 N p0 p1 p2 σ))) else (FR_J7_copyOfRange_10 N p0 p1 p2 σ))
set_option maxHeartbeats 4000000 in
set_option maxRecDepth 100000 in
theorem cR_J7_copyOfRange (l : Launch) (D : va_G) (cs : Nat → ClassId) (ad tb : Nat → Nat) (A : Nat → Prop) (N : Nat) (hA0 : ∀ q, N ≤ q → A q) (σ : RS) (p0 : Nat) (p1 : Int32) (p2 : Int32) (q : (Nat × RS)) (hF : FR_J7_copyOfRange N σ p0 p1 p2 = some q) : Met l yJ7_copyOfRange_feecc wsR_J7_copyOfRange { frames := 2, cells := 1, slots := 120, locals := 104 } (va_Pc [.ref p0, .int p1, .int p2] (preN N D cs ad tb A σ)) (va_Qq (fun x u => x = some q.1 ∧ u = q.2) (posQ D cs ad A) A) 1 120 A := by
  refine Met.ofW (cc := cJ7_copyOfRange_feecc) (maxL := 3) (ret := (some (.array .int))) (by decide) rfl ?_
  intro p e s m args below meth c s₁ B hml hv
  obtain ⟨rfl, hN, hP, hK, hD, hZ⟩ := hv
  have hx := B.exec
  have hb := B.bytes
  have hr := B.returns
  have hts : ∀ w ∈ (Cond.code yJ7_copyOfRange_feecc cJ7_copyOfRange_feecc 3 (some (.array .int)) :: wRa), w.before ([.ref p0, .int p1, .int p2] : List Value).toArray s = true := atoms_spec (ws := wsR_J7_copyOfRange) B.pre
  have hin : ∀ w ∈ wRa, w ∈ (Cond.code yJ7_copyOfRange_feecc cJ7_copyOfRange_feecc 3 (some (.array .int)) :: wRa) := fun w hw => List.mem_cons_of_mem _ hw
  have hown : s.vm.findClass RJ7 = some m.cls := findClass_of_methodNamed B.named
  have hlocks := B.notSynchronized
  have hS : va_S A s.heap s.heap [] := va_S.rf
  have hA : ∀ q, s.heap.size ≤ q → A q := by rw [hN]; exact hA0
  have b_10 : ∀ (x0_10 : Nat) (x1_10 : Int32) (x2_10 : Int32) (σ_10 : RS) (H : Heap) (locs : List Loc) (ls : Array Slot), FR_J7_copyOfRange_10 N x0_10 x1_10 x2_10 σ_10 = some q → va_P D vwCl (wR cs ad σ_10) H → va_D A (wR cs ad σ_10) → va_S A s.heap H locs → lv_has ls 3 [(0, .ref x0_10), (1, .int x1_10), (2, .int x2_10)] → W p l e (headSpec wsR_J7_copyOfRange { frames := 2, cells := 1, slots := 120, locals := 104 }).room s m ([.ref p0, .int p1, .int p2] : List Value).toArray below meth c H locs 0 0 (MQ below (va_Qq (fun x u => x = some q.1 ∧ u = q.2) (posQ D cs ad A) A) ([.ref p0, .int p1, .int p2] : List Value).toArray s 1 120 A) (F0 m 10 ls []) := by
    intro x0_10 x1_10 x2_10 σ_10 H locs ls hF hP hD hS hl
    unfold FR_J7_copyOfRange_10 at hF
    refine lv_aload_n hx hb dJ7_copyOfRange_feecc_10 rfl (lv_at hl 0 rfl) ?_
    refine lv_iload_n hx hb dJ7_copyOfRange_feecc_11 rfl (lv_at hl 1 rfl) ?_
    refine lv_iload_n hx hb dJ7_copyOfRange_feecc_12 rfl (lv_at hl 2 rfl) ?_
    obtain ⟨q_13, e_13, hF⟩ := ob_bd hF
    refine cbR (As := [.ref x0_10, .int x1_10, .int x2_10]) (rest := []) ⟨hx, hb, hml, hown, hts⟩ (cR_J7_copyOfRangeInt l D cs ad tb A N (fun q hq => hA q (by omega)) σ_10 x0_10 x1_10 x2_10 _ e_13) (cw_J7_J7_copyOfRangeInt_351 hts ⟨Nat.le_of_ble_eq_true rfl, Nat.le_of_ble_eq_true rfl⟩) ⟨(Nat.le_of_ble_eq_true rfl), (Nat.le_of_ble_eq_true rfl)⟩  hK hP hD hS hZ hS.1 (by omega) rfl hl.1 rfl (lv_room (Nat.le_of_ble_eq_true rfl)) dJ7_copyOfRange_feecc_13 (fun H locs hP hD hS => ?_)
    exact rqN hx hb hr (Or.inr ⟨_, rfl⟩) hlocks hF hK hP hD hS (Nat.le_of_ble_eq_true rfl) (Nat.le_of_ble_eq_true rfl) dJ7_copyOfRange_feecc_16
  have hl := lv_entry ([.ref p0, .int p1, .int p2]) (n := 3) (Nat.le_of_ble_eq_true rfl)
  rw [lg_entry_eq]
  generalize (lg_sl ([.ref p0, .int p1, .int p2]) ++ List.replicate (3 - (lg_sl ([.ref p0, .int p1, .int p2])).length) Slot.unset).toArray = ls at hl ⊢
  have hl : lv_has ls 3 [(0, .ref p0), (1, .int p1), (2, .int p2)] := hl
  unfold FR_J7_copyOfRange at hF
  refine lv_iload_n hx hb dJ7_copyOfRange_feecc_0 rfl (lv_at hl 1 rfl) ?_
  refine lv_if_ne (tgt := 10) hx hb dJ7_copyOfRange_feecc_1 (by decide) (fun c_1 => ?_) (fun c_1 => ?_)
  · have hF := ob_f c_1 hF
    exact b_10 p0 p1 p2 σ _ _ _ hF hP hD hS hl
  · have hF := ob_t c_1 hF
    refine lv_iload_n hx hb dJ7_copyOfRange_feecc_4 rfl (lv_at hl 2 rfl) ?_
    refine lv_aload_n hx hb dJ7_copyOfRange_feecc_5 rfl (lv_at hl 0 rfl) ?_
    obtain ⟨k_6_1, hF⟩ := ob_gd hF
    refine lnP (v := (Int32.ofNat (pN σ p0))) hx hb hK hP k_6_1 rfl dJ7_copyOfRange_feecc_6 ?_
    refine lv_icmp_eq (tgt := 17) hx hb dJ7_copyOfRange_feecc_7 (by decide) (fun c_7 => ?_) (fun c_7 => ?_)
    · have hF := ob_t c_7 hF
      refine lv_aload_n hx hb dJ7_copyOfRange_feecc_17 rfl (lv_at hl 0 rfl) ?_
      obtain ⟨j_18, hj_18⟩ := plP (cs := cs) (ad := ad) k_6_1
      obtain ⟨gb_18, hF⟩ := ob_gd hF
      refine clP (a := N) (cap := 120) hx hb (hml.trans hl.1.symm) hown hts hin rm_J7_316 hZ hK hP hD hS hA hj_18 (of_decide_eq_true gb_18) hS.1 (by omega) (Nat.le_of_ble_eq_true rfl) (Nat.le_of_ble_eq_true rfl) (Nat.le_of_ble_eq_true rfl) (Nat.le_of_ble_eq_true rfl) dJ7_copyOfRange_feecc_18 (fun H hP hD hS => ?_)
      have kn_18 : isK (nA σ N (pN σ p0) (pA σ p0)) N 11 = true := isK_nA _ _ _ _
      refine ctA hx hb hown hts hin rl_J7_317 hK hP kn_18 dJ7_copyOfRange_feecc_21 ?_
      exact rqN hx hb hr (Or.inr ⟨_, rfl⟩) hlocks hF hK hP hD hS (Nat.le_of_ble_eq_true rfl) (Nat.le_of_ble_eq_true rfl) dJ7_copyOfRange_feecc_24
    · have hF := ob_f c_7 hF
      exact b_10 p0 p1 p2 σ _ _ _ hF hP hD hS hl
def wsR_X9_line : List Cond := Cond.code yX9_line cX9_line 7 (some .int) :: wRa
theorem cw_X9_J7_copyOfRange_232 {R : Room} {s : State} {args : Array Value} {y : MethodName} {c : ByteArray} {n : Nat} {r : Option FieldType} (hts : ∀ w ∈ (Cond.code y c n r :: wRa), w.before args s = true) (hR : 2 + 1 ≤ R.frames ∧ 8 + (3 + 11) + 104 ≤ R.locals) : CallB R s args RX9 232 yJ7_copyOfRange_feecc cJ7_copyOfRange_feecc 3 (some (.array .int)) wsR_J7_copyOfRange { frames := 2, cells := 1, slots := 120, locals := 104 } 1 120 3 ∧ (Cond.static yJ7_copyOfRange_feecc).before args s = true := va_cwS 3 hts (goodS wRa_good rm_X9_232 rt_J7_copyOfRange_feecc rn_J7 rc_J7_copyOfRange_feecc) rfl rfl rfl (by decide +kernel) hR
def FR_X9_line (N : Nat) (σ : RS) (p1 : Int32) (p2 : Int32) : Option (Int32 × RS) := ((FR_X9_robeAt σ p1).bind fun q_2 => ((FR_X9_boltAt σ p2).bind fun q_8 => (oc q_2 (some ((-1 : Int32), σ)) (fun c_14 => (oc q_8 (some ((-1 : Int32), σ)) (fun c_19 => (gd (isK σ c_14 4) ((pR σ c_14 0).bind fun r_25 => (gd (isK σ r_25 0) ((pR σ r_25 0).bind fun r_28 => (gd (isK σ r_28 11) (gd (isK σ c_19 0) ((pR σ c_19 0).bind fun r_36 => (gd (isK σ r_36 11) (oc (pR σ c_14 2) (if 0 ≤ ((Int32.ofNat (pN σ r_36)) - (Int32.ofNat (pN σ r_28))) then (if ((Int32.ofNat (pN σ r_36)) - (Int32.ofNat (pN σ r_28))) = 0 then (gd (inb p2 40) (some (((Int32.ofNat (pN σ r_36)) - (Int32.ofNat (pN σ r_28))), (rq (wr σ c_14 2 q_8) 902 p2 none)))) else (gd (isK (nO σ N 0) c_19 0) ((pR (nO σ N 0) c_19 0).bind fun r_88 => ((FR_copyOf_p (N + 1) (nO σ N 0) r_88 (Int32.ofNat (pN σ r_28))).bind fun q_93 => (gd (isK q_93.2 c_19 0) (gd (isK q_93.2 N 0) ((FR_X0_init q_93.2 N q_93.1 (pI q_93.2 c_19 1) (pI q_93.2 c_19 2)).bind fun q_106 => (gd (isK q_106 c_14 4) (gd (isK (wr q_106 c_14 2 (some N)) c_19 0) ((pR (wr q_106 c_14 2 (some N)) c_19 0).bind fun r_116 => (gd (isK (wr q_106 c_14 2 (some N)) (N + 1) 11) ((FR_J7_copyOfRange (N + 2) (wr q_106 c_14 2 (some N)) r_116 (Int32.ofNat (pN σ r_28)) ((Int32.ofNat (pN σ r_28)) + ((Int32.ofNat (pN σ r_36)) - (Int32.ofNat (pN σ r_28))))).bind fun q_126 => (gd (isK q_126.2 c_19 0) (some (((Int32.ofNat (pN σ r_36)) - (Int32.ofNat (pN σ r_28))), (wr q_126.2 c_19 0 (some q_126.1))))))))))))))))) else (some ((-3 : Int32), σ))) (fun c_49 => (some ((-3 : Int32), σ))))))))))))))))))
set_option maxHeartbeats 4000000 in
set_option maxRecDepth 100000 in
theorem cR_X9_line (l : Launch) (D : va_G) (cs : Nat → ClassId) (ad tb : Nat → Nat) (A : Nat → Prop) (N : Nat) (hA0 : ∀ q, N ≤ q → A q) (σ : RS) (p1 : Int32) (p2 : Int32) (q : (Int32 × RS)) (hF : FR_X9_line N σ p1 p2 = some q) : Met l yX9_line wsR_X9_line { frames := 3, cells := 3, slots := 243, locals := 126 } (va_Pc [.ref (ad 1009), .int p1, .int p2] (preN N D cs ad tb A σ)) (va_Qi (fun x u => x = q.1 ∧ u = q.2) (posQ D cs ad A) A) 3 243 A := by
  refine Met.ofW (cc := cX9_line) (maxL := 7) (ret := (some .int)) (by decide) rfl ?_
  intro p e s m args below meth c s₁ B hml hv
  obtain ⟨rfl, hN, hP, hK, hD, hZ⟩ := hv
  have hx := B.exec
  have hb := B.bytes
  have hr := B.returns
  have hts : ∀ w ∈ (Cond.code yX9_line cX9_line 7 (some .int) :: wRa), w.before ([.ref (ad 1009), .int p1, .int p2] : List Value).toArray s = true := atoms_spec (ws := wsR_X9_line) B.pre
  have hin : ∀ w ∈ wRa, w ∈ (Cond.code yX9_line cX9_line 7 (some .int) :: wRa) := fun w hw => List.mem_cons_of_mem _ hw
  have hown : s.vm.findClass RX9 = some m.cls := findClass_of_methodNamed B.named
  have hlocks := B.notSynchronized
  have hS : va_S A s.heap s.heap [] := va_S.rf
  have hA : ∀ q, s.heap.size ≤ q → A q := by rw [hN]; exact hA0
  have hl := lv_entry ([.ref (ad 1009), .int p1, .int p2]) (n := 7) (Nat.le_of_ble_eq_true rfl)
  rw [lg_entry_eq]
  generalize (lg_sl ([.ref (ad 1009), .int p1, .int p2]) ++ List.replicate (7 - (lg_sl ([.ref (ad 1009), .int p1, .int p2])).length) Slot.unset).toArray = ls at hl ⊢
  have hl : lv_has ls 7 [(0, .ref (ad 1009)), (1, .int p1), (2, .int p2)] := hl
  unfold FR_X9_line at hF
  refine lv_aload_n hx hb dX9_line_0 rfl (lv_at hl 0 rfl) ?_
  refine lv_iload_n hx hb dX9_line_1 rfl (lv_at hl 1 rfl) ?_
  obtain ⟨q_2, e_2, hF⟩ := ob_bd hF
  refine cqR (As := [.int p1]) (rest := []) ⟨hx, hb, hml, hown, hts⟩ (cR_X9_robeAt l D cs ad tb A σ p1 _ e_2) (cw_X9_X9_robeAt_190 hts ⟨Nat.le_of_ble_eq_true rfl, Nat.le_of_ble_eq_true rfl⟩) ⟨(Nat.le_of_ble_eq_true rfl), (Nat.le_of_ble_eq_true rfl)⟩ (rcF hK hP (ci := 9) rfl (ob_9 _ _ _)) hK hP hD hS hZ rfl hl.1 rfl (lv_room (Nat.le_of_ble_eq_true rfl)) dX9_line_2 ?_
  refine asQ_n (i := 3) (lv' := [(3, va_rf q_2), (0, .ref (ad 1009)), (1, .int p1), (2, .int p2)]) hx hb dX9_line_5 rfl hl (by decide) rfl (fun ls hl => ?_)
  refine lv_aload_n hx hb dX9_line_6 rfl (lv_at hl 1 rfl) ?_
  refine lv_iload_n hx hb dX9_line_7 rfl (lv_at hl 3 rfl) ?_
  obtain ⟨q_8, e_8, hF⟩ := ob_bd hF
  refine cqR (As := [.int p2]) (rest := []) ⟨hx, hb, hml, hown, hts⟩ (cR_X9_boltAt l D cs ad tb A σ p2 _ e_8) (cw_X9_X9_boltAt_122 hts ⟨Nat.le_of_ble_eq_true rfl, Nat.le_of_ble_eq_true rfl⟩) ⟨(Nat.le_of_ble_eq_true rfl), (Nat.le_of_ble_eq_true rfl)⟩ (rcF hK hP (ci := 9) rfl (ob_9 _ _ _)) hK hP hD hS hZ rfl hl.1 rfl (lv_room (Nat.le_of_ble_eq_true rfl)) dX9_line_8 ?_
  refine asQ (i := 4) (lv' := [(4, va_rf q_8), (3, va_rf q_2), (0, .ref (ad 1009)), (1, .int p1), (2, .int p2)]) hx hb dX9_line_11 hl (by decide) (by simp [rf_cat]) (fun ls hl => ?_)
  refine alQ_n hx hb dX9_line_13 rfl (lv_at hl 1 rfl) ?_
  refine nlQ (tgt := 22) hx hb dX9_line_14 (by decide) (fun e_14 => ?_) (fun c_14 e_14 => ?_)
  · have hF := oc_n e_14 hF
    refine lv_iconst (v := (-1 : Int32)) hx hb dX9_line_22 (by decide) ?_
    exact rwN hx hb hr hlocks hF hK hP hD hS (Nat.le_of_ble_eq_true rfl) (Nat.le_of_ble_eq_true rfl) dX9_line_23
  · have hF := oc_s e_14 hF
    refine alQ hx hb dX9_line_17 (lv_at hl 0 rfl) ?_
    refine nnQ (tgt := 24) hx hb dX9_line_19 (by decide) (fun c_19 e_19 => ?_) (fun e_19 => ?_)
    · have hF := oc_s e_19 hF
      refine alQ_n hx hb dX9_line_24 rfl (lv_at hl 1 rfl) ?_
      refine rfS e_14 ?_
      obtain ⟨k_25_1, hF⟩ := ob_gd hF
      refine gP hx hb hts hin wo_4 rfl hown hK hP k_25_1 (pf_4 (isK_K k_25_1)) 0 (va_rf (pR σ c_14 0)) (by decide) rf_X9_194 rfl dX9_line_25 ?_
      obtain ⟨r_25, o_25, hF⟩ := ob_bd hF
      refine rfS o_25 ?_
      obtain ⟨k_28_2, hF⟩ := ob_gd hF
      refine gP hx hb hts hin wo_0 rfl hown hK hP k_28_2 (pf_0 (isK_K k_28_2)) 0 (va_rf (pR σ r_25 0)) (by decide) rf_X9_126 rfl dX9_line_28 ?_
      obtain ⟨r_28, o_28, hF⟩ := ob_bd hF
      refine rfS o_28 ?_
      obtain ⟨k_31_3, hF⟩ := ob_gd hF
      refine lnP (v := (Int32.ofNat (pN σ r_28))) hx hb hK hP k_31_3 rfl dX9_line_31 ?_
      refine lv_istore (i := 5) (lv' := [(5, .int (Int32.ofNat (pN σ r_28))), (4, va_rf q_8), (3, va_rf q_2), (0, .ref (ad 1009)), (1, .int p1), (2, .int p2)]) hx hb dX9_line_32 hl (by decide) (by simp [rf_cat]) (fun ls hl => ?_)
      refine alQ hx hb dX9_line_34 (lv_at hl 1 rfl) ?_
      refine rfS e_19 ?_
      obtain ⟨k_36_4, hF⟩ := ob_gd hF
      refine gP hx hb hts hin wo_0 rfl hown hK hP k_36_4 (pf_0 (isK_K k_36_4)) 0 (va_rf (pR σ c_19 0)) (by decide) rf_X9_126 rfl dX9_line_36 ?_
      obtain ⟨r_36, o_36, hF⟩ := ob_bd hF
      refine rfS o_36 ?_
      obtain ⟨k_39_5, hF⟩ := ob_gd hF
      refine lnP (v := (Int32.ofNat (pN σ r_36))) hx hb hK hP k_39_5 rfl dX9_line_39 ?_
      refine lv_iload hx hb dX9_line_40 (lv_at hl 0 rfl) ?_
      refine lv_isub hx hb dX9_line_42 ?_
      refine lv_istore (i := 6) (lv' := [(6, .int ((Int32.ofNat (pN σ r_36)) - (Int32.ofNat (pN σ r_28)))), (5, .int (Int32.ofNat (pN σ r_28))), (4, va_rf q_8), (3, va_rf q_2), (0, .ref (ad 1009)), (1, .int p1), (2, .int p2)]) hx hb dX9_line_43 hl (by decide) rfl (fun ls hl => ?_)
      refine alQ_n hx hb dX9_line_45 rfl (lv_at hl 3 rfl) ?_
      refine rfS e_14 ?_
      refine gP hx hb hts hin wo_4 rfl hown hK hP k_25_1 (pf_4 (isK_K k_25_1)) 2 (va_rf (pR σ c_14 2)) (by decide) rf_X9_201 rfl dX9_line_46 ?_
      refine nnQ (tgt := 57) hx hb dX9_line_49 (by decide) (fun c_49 e_49 => ?_) (fun e_49 => ?_)
      · have hF := oc_s e_49 hF
        refine lv_bipush (v := (-3 : Int32)) hx hb dX9_line_57 (by decide) ?_
        exact rwN hx hb hr hlocks hF hK hP hD hS (Nat.le_of_ble_eq_true rfl) (Nat.le_of_ble_eq_true rfl) dX9_line_59
      · have hF := oc_n e_49 hF
        refine lv_iload hx hb dX9_line_52 (lv_at hl 0 rfl) ?_
        refine lv_if_ge (tgt := 60) hx hb dX9_line_54 (by decide) (fun c_54 => ?_) (fun c_54 => ?_)
        · have hF := ob_t c_54 hF
          refine lv_iload hx hb dX9_line_60 (lv_at hl 0 rfl) ?_
          refine lv_if_ne (tgt := 81) hx hb dX9_line_62 (by decide) (fun c_62 => ?_) (fun c_62 => ?_)
          · have hF := ob_f c_62 hF
            refine alQ_n hx hb dX9_line_81 rfl (lv_at hl 3 rfl) ?_
            refine rfS e_14 ?_
            refine neO (fs := [.null, .int 0, .int 0]) (a := N) hx hb hts hin wo_0 rfl tyX0 tyX0_ok hown rl_X9_23 ro_X0 rn_X0 hK hP hD hS hA (fun j hj => by rcases (show j = 0 ∨ j = 1 ∨ j = 2 by omega) with rfl | rfl | rfl <;> rfl) (df_0 _ _) hS.1 (by omega) (Nat.le_of_ble_eq_true rfl) (Nat.le_of_ble_eq_true rfl) dX9_line_82 (fun H hP hD hS => ?_)
            have kn_82 : isK (nO σ N 0) N 0 = true := isK_nO _ _ _
            refine lv_dup hx hb dX9_line_85 rfl ?_
            refine alQ hx hb dX9_line_86 (lv_at hl 2 rfl) ?_
            refine rfS e_19 ?_
            obtain ⟨k_88_6, hF⟩ := ob_gd hF
            refine gP hx hb hts hin wo_0 rfl hown hK hP k_88_6 (pf_0 (isK_K k_88_6)) 0 (va_rf (pR (nO σ N 0) c_19 0)) (by decide) rf_X9_126 rfl dX9_line_88 ?_
            obtain ⟨r_88, o_88, hF⟩ := ob_bd hF
            refine rfS o_88 ?_
            refine lv_iload hx hb dX9_line_91 (lv_at hl 1 rfl) ?_
            obtain ⟨q_93, e_93, hF⟩ := ob_bd hF
            refine cbR (As := [.ref r_88, .int (Int32.ofNat (pN σ r_28))]) (rest := [.ref N, .ref N, .ref c_14]) ⟨hx, hb, hml, hown, hts⟩ (cR_copyOf_p l D cs ad tb A (N + 1) (fun q hq => hA q (by omega)) (nO σ N 0) r_88 (Int32.ofNat (pN σ r_28)) _ e_93) (cw_X9_J7_copyOf_p_109 hts ⟨Nat.le_of_ble_eq_true rfl, Nat.le_of_ble_eq_true rfl⟩) ⟨(Nat.le_of_ble_eq_true rfl), (Nat.le_of_ble_eq_true rfl)⟩  hK hP hD hS hZ (by have h7 := isK_low hP kn_82; omega) (by omega) rfl hl.1 rfl (lv_room (Nat.le_of_ble_eq_true rfl)) dX9_line_93 (fun H locs hP hD hS => ?_)
            refine alQ hx hb dX9_line_96 (lv_at hl 2 rfl) ?_
            refine rfS e_19 ?_
            obtain ⟨k_98_7, hF⟩ := ob_gd hF
            refine gP hx hb hts hin wo_0 rfl hown hK hP k_98_7 (pf_0 (isK_K k_98_7)) 1 (.int (pI q_93.2 c_19 1)) (by decide) rf_X9_127 rfl dX9_line_98 ?_
            refine alQ hx hb dX9_line_101 (lv_at hl 2 rfl) ?_
            refine rfS e_19 ?_
            refine gP hx hb hts hin wo_0 rfl hown hK hP k_98_7 (pf_0 (isK_K k_98_7)) 2 (.int (pI q_93.2 c_19 2)) (by decide) rf_X9_130 rfl dX9_line_103 ?_
            obtain ⟨k_106_8, hF⟩ := ob_gd hF
            obtain ⟨q_106, e_106, hF⟩ := ob_bd hF
            refine ciR (As := [.ref q_93.1, .int (pI q_93.2 c_19 1), .int (pI q_93.2 c_19 2)]) (rest := [.ref N, .ref c_14]) ⟨hx, hb, hml, hown, hts⟩ (cR_X0_init l D cs ad tb A q_93.2 N q_93.1 (pI q_93.2 c_19 1) (pI q_93.2 c_19 2) _ e_106) (cw_X9_X0_init_115 hts ⟨Nat.le_of_ble_eq_true rfl, Nat.le_of_ble_eq_true rfl⟩) ⟨(Nat.le_of_ble_eq_true rfl), (Nat.le_of_ble_eq_true rfl)⟩ hK hP hD hS hZ rfl hl.1 rfl (lv_room (Nat.le_of_ble_eq_true rfl)) dX9_line_106 (fun H locs hP hD hS => ?_)
            obtain ⟨k_109_9, hF⟩ := ob_gd hF
            refine pP (ρ2 := (wr q_106 c_14 2 (some N))) (ty := .object "RobeHouse$Cloth") hx hb hts hin wo_4 rfl tyX4 tyX4_ok nmX4 hown hK hP hD hS k_109_9 (pf_4 (isK_K k_109_9)) 2 (by decide) rf_X9_201 rfl (by decide +kernel) rfl rfl (Nat.le_of_ble_eq_true rfl) (xR_wr _ _ _ _ _ _) (pL_wr _ _ _ _) (pw_4_2 (ρ := q_106) (isK_K k_109_9) (some N)) dX9_line_109 (fun H locs hP hD hS => ?_)
            refine alQ hx hb dX9_line_112 (lv_at hl 2 rfl) ?_
            refine rfS e_19 ?_
            refine alQ hx hb dX9_line_114 (lv_at hl 2 rfl) ?_
            refine rfS e_19 ?_
            obtain ⟨k_116_10, hF⟩ := ob_gd hF
            refine gP hx hb hts hin wo_0 rfl hown hK hP k_116_10 (pf_0 (isK_K k_116_10)) 0 (va_rf (pR (wr q_106 c_14 2 (some N)) c_19 0)) (by decide) rf_X9_126 rfl dX9_line_116 ?_
            obtain ⟨r_116, o_116, hF⟩ := ob_bd hF
            refine rfS o_116 ?_
            refine lv_iload hx hb dX9_line_119 (lv_at hl 1 rfl) ?_
            refine lv_iload hx hb dX9_line_121 (lv_at hl 1 rfl) ?_
            refine lv_iload hx hb dX9_line_123 (lv_at hl 0 rfl) ?_
            refine lv_iadd hx hb dX9_line_125 ?_
            obtain ⟨k_126_11, hF⟩ := ob_gd hF
            obtain ⟨q_126, e_126, hF⟩ := ob_bd hF
            refine cbR (As := [.ref r_116, .int (Int32.ofNat (pN σ r_28)), .int ((Int32.ofNat (pN σ r_28)) + ((Int32.ofNat (pN σ r_36)) - (Int32.ofNat (pN σ r_28))))]) (rest := [.ref c_19]) ⟨hx, hb, hml, hown, hts⟩ (cR_J7_copyOfRange l D cs ad tb A (N + 2) (fun q hq => hA q (by omega)) (wr q_106 c_14 2 (some N)) r_116 (Int32.ofNat (pN σ r_28)) ((Int32.ofNat (pN σ r_28)) + ((Int32.ofNat (pN σ r_36)) - (Int32.ofNat (pN σ r_28)))) _ e_126) (cw_X9_J7_copyOfRange_232 hts ⟨Nat.le_of_ble_eq_true rfl, Nat.le_of_ble_eq_true rfl⟩) ⟨(Nat.le_of_ble_eq_true rfl), (Nat.le_of_ble_eq_true rfl)⟩  hK hP hD hS hZ (by have h7 := isK_low hP k_126_11; omega) (by omega) rfl hl.1 rfl (lv_room (Nat.le_of_ble_eq_true rfl)) dX9_line_126 (fun H locs hP hD hS => ?_)
            obtain ⟨k_129_12, hF⟩ := ob_gd hF
            refine pP (ρ2 := (wr q_126.2 c_19 0 (some q_126.1))) (ty := .array .int) hx hb hts hin wo_0 rfl tyX0 tyX0_ok nmX0 hown hK hP hD hS k_129_12 (pf_0 (isK_K k_129_12)) 0 (by decide) rf_X9_126 rfl (by decide +kernel) rfl rfl (Nat.le_of_ble_eq_true rfl) (xR_wr _ _ _ _ _ _) (pL_wr _ _ _ _) (pw_0_0 (ρ := q_126.2) (isK_K k_129_12) (some q_126.1)) dX9_line_129 (fun H locs hP hD hS => ?_)
            refine lv_iload hx hb dX9_line_132 (lv_at hl 0 rfl) ?_
            exact rwN hx hb hr hlocks hF hK hP hD hS (Nat.le_of_ble_eq_true rfl) (Nat.le_of_ble_eq_true rfl) dX9_line_134
          · have hF := ob_t c_62 hF
            refine alQ_n hx hb dX9_line_65 rfl (lv_at hl 3 rfl) ?_
            refine rfS e_14 ?_
            refine alQ hx hb dX9_line_66 (lv_at hl 2 rfl) ?_
            refine pP (ρ2 := (wr σ c_14 2 q_8)) (ty := .object "RobeHouse$Cloth") hx hb hts hin wo_4 rfl tyX4 tyX4_ok nmX4 hown hK hP hD hS k_25_1 (pf_4 (isK_K k_25_1)) 2 (by decide) rf_X9_201 rfl (by decide +kernel) (by cases q_8 <;> rfl) (by cases q_8 <;> rfl) (Nat.le_of_ble_eq_true rfl) (xR_wr _ _ _ _ _ _) (pL_wr _ _ _ _) (pw_4_2 (ρ := σ) (isK_K k_25_1) q_8) dX9_line_68 (fun H locs hP hD hS => ?_)
            refine lv_aload_n hx hb dX9_line_71 rfl (lv_at hl 4 rfl) ?_
            refine gF hx hb hts hin wo_9 rfl hown hK hP (ob_9 _ _ _) 2 (.ref (ad 902)) (by decide) rf_X9_25 rfl dX9_line_72 ?_
            refine lv_iload_n hx hb dX9_line_75 rfl (lv_at hl 6 rfl) ?_
            refine lv_null hx hb dX9_line_76 ?_
            obtain ⟨g_77, hF⟩ := ob_gd hF
            refine snA (C := "RobeHouse$Cloth") hx hb hK hP hD hS (ra_902 _ _ _) rfl (rs_902 _ _ _ _ _) g_77 dX9_line_77 (fun H locs hP hD hS => ?_)
            refine lv_goto (tgt := 132) hx hb dX9_line_78 (by decide) ?_
            refine lv_iload hx hb dX9_line_132 (lv_at hl 0 rfl) ?_
            exact rwN hx hb hr hlocks hF hK hP hD hS (Nat.le_of_ble_eq_true rfl) (Nat.le_of_ble_eq_true rfl) dX9_line_134
        · have hF := ob_f c_54 hF
          refine lv_bipush (v := (-3 : Int32)) hx hb dX9_line_57 (by decide) ?_
          exact rwN hx hb hr hlocks hF hK hP hD hS (Nat.le_of_ble_eq_true rfl) (Nat.le_of_ble_eq_true rfl) dX9_line_59
    · have hF := oc_n e_19 hF
      refine lv_iconst (v := (-1 : Int32)) hx hb dX9_line_22 (by decide) ?_
      exact rwN hx hb hr hlocks hF hK hP hD hS (Nat.le_of_ble_eq_true rfl) (Nat.le_of_ble_eq_true rfl) dX9_line_23
