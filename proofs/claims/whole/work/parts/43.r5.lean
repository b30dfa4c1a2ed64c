def wsR_X9_ugly : List Cond := Cond.code yX9_ugly cX9_ugly 5 (some .int) :: wRa
theorem cw_X9_X0_canLie_145 {R : Room} {s : State} {args : Array Value} {y : MethodName} {c : ByteArray} {n : Nat} {r : Option FieldType} (hts : ∀ w ∈ (Cond.code y c n r :: wRa), w.before args s = true) (hR : 2 + 1 ≤ R.frames ∧ 8 + (5 + 11) + 47 ≤ R.locals) : CallW R s args RX9 RX0 145 yX0_canLie cX0_canLie 5 (some .boolean) wsR_X0_canLie { frames := 2, cells := 0, slots := 0, locals := 47 } 0 0 2 := cwV 2 hts (goodV wRa_good rm_X9_145 ri_X0_canLie rs_X0_canLie rn_X0 rc_X0_canLie) rfl rfl rfl (by decide +kernel) hR
theorem cw_X9_X2_spread_149 {R : Room} {s : State} {args : Array Value} {y : MethodName} {c : ByteArray} {n : Nat} {r : Option FieldType} (hts : ∀ w ∈ (Cond.code y c n r :: wRa), w.before args s = true) (hR : 2 + 1 ≤ R.frames ∧ 8 + (6 + 11) + 45 ≤ R.locals) : CallW R s args RX9 RX2 149 yX2_spread cX2_spread 6 none wsR_X2_spread { frames := 2, cells := 0, slots := 0, locals := 45 } 0 0 4 := cwV 4 hts (goodV wRa_good rm_X9_149 ri_X2_spread rs_X2_spread rn_X2 rc_X2_spread) rfl rfl rfl (by decide +kernel) hR
theorem cw_X9_X2_lay_155 {R : Room} {s : State} {args : Array Value} {y : MethodName} {c : ByteArray} {n : Nat} {r : Option FieldType} (hts : ∀ w ∈ (Cond.code y c n r :: wRa), w.before args s = true) (hR : 2 + 1 ≤ R.frames ∧ 8 + (6 + 11) + 47 ≤ R.locals) : CallW R s args RX9 RX2 155 yX2_lay cX2_lay 6 none wsR_X2_lay { frames := 2, cells := 0, slots := 0, locals := 47 } 0 0 2 := cwV 2 hts (goodV wRa_good rm_X9_155 ri_X2_lay rs_X2_lay rn_X2 rc_X2_lay) rfl rfl rfl (by decide +kernel) hR
theorem cw_X9_X2_uglySum_159 {R : Room} {s : State} {args : Array Value} {y : MethodName} {c : ByteArray} {n : Nat} {r : Option FieldType} (hts : ∀ w ∈ (Cond.code y c n r :: wRa), w.before args s = true) (hR : 3 + 1 ≤ R.frames ∧ 8 + (3 + 11) + 79 ≤ R.locals) : CallW R s args RX9 RX2 159 yX2_uglySum cX2_uglySum 3 (some .int) wsR_X2_uglySum { frames := 3, cells := 0, slots := 0, locals := 79 } 0 0 0 := cwV 0 hts (goodV wRa_good rm_X9_159 ri_X2_uglySum rs_X2_uglySum rn_X2 rc_X2_uglySum) rfl rfl rfl (by decide +kernel) hR
def FR_X9_ugly (σ : RS) (p1 : Int32) (p2 : Int32) (p3 : Int32) : Option (Int32 × RS) := ((FR_X9_boltAt σ p1).bind fun q_2 => (oc q_2 (some ((-1 : Int32), σ)) (fun c_9 => (gd (isK σ c_9 0) ((FR_X0_canLie σ c_9 p2 p3).bind fun q_18 => (if q_18 = 0 then (some ((-2 : Int32), σ)) else ((FR_X9_fitSleeves σ c_9).bind fun q_30 => (if q_30.1 = 0 then (some ((-3 : Int32), q_30.2)) else (gd (isK q_30.2 c_9 0) ((pR q_30.2 c_9 0).bind fun r_45 => ((rV q_30.2 906).bind fun r_49 => ((FR_X2_spread q_30.2 r_45 r_49 (rI q_30.2 907) (rI q_30.2 908)).bind fun q_60 => ((FR_X2_lay q_60 p2 p3).bind fun q_69 => ((FR_X2_uglySum q_69).bind fun q_76 => (some (q_76, q_69))))))))))))))))
set_option maxHeartbeats 4000000 in
set_option maxRecDepth 100000 in
theorem cR_X9_ugly (l : Launch) (D : va_G) (cs : Nat → ClassId) (ad tb : Nat → Nat) (A : Nat → Prop) (σ : RS) (p1 : Int32) (p2 : Int32) (p3 : Int32) (q : (Int32 × RS)) (hF : FR_X9_ugly σ p1 p2 p3 = some q) : Met l yX9_ugly wsR_X9_ugly { frames := 4, cells := 0, slots := 0, locals := 101 } (va_Pc [.ref (ad 1009), .int p1, .int p2, .int p3] (preQ D cs ad tb A σ)) (va_Qi (fun x u => x = q.1 ∧ u = q.2) (posQ D cs ad A) A) 0 0 A := by
  refine Met.ofW (cc := cX9_ugly) (maxL := 5) (ret := (some .int)) (by decide) rfl ?_
  intro p e s m args below meth c s₁ B hml hv
  obtain ⟨rfl, hP, hK, hD, hZ⟩ := hv
  have hx := B.exec
  have hb := B.bytes
  have hr := B.returns
  have hts : ∀ w ∈ (Cond.code yX9_ugly cX9_ugly 5 (some .int) :: wRa), w.before ([.ref (ad 1009), .int p1, .int p2, .int p3] : List Value).toArray s = true := atoms_spec (ws := wsR_X9_ugly) B.pre
  have hin : ∀ w ∈ wRa, w ∈ (Cond.code yX9_ugly cX9_ugly 5 (some .int) :: wRa) := fun w hw => List.mem_cons_of_mem _ hw
  have hown : s.vm.findClass RX9 = some m.cls := findClass_of_methodNamed B.named
  have hlocks := B.notSynchronized
  have hS : va_S A s.heap s.heap [] := va_S.rf
  have hl := lv_entry ([.ref (ad 1009), .int p1, .int p2, .int p3]) (n := 5) (Nat.le_of_ble_eq_true rfl)
  rw [lg_entry_eq]
  generalize (lg_sl ([.ref (ad 1009), .int p1, .int p2, .int p3]) ++ List.replicate (5 - (lg_sl ([.ref (ad 1009), .int p1, .int p2, .int p3])).length) Slot.unset).toArray = ls at hl ⊢
  have hl : lv_has ls 5 [(0, .ref (ad 1009)), (1, .int p1), (2, .int p2), (3, .int p3)] := hl
  unfold FR_X9_ugly at hF
  refine lv_aload_n hx hb dX9_ugly_0 rfl (lv_at hl 0 rfl) ?_
  refine lv_iload_n hx hb dX9_ugly_1 rfl (lv_at hl 1 rfl) ?_
  obtain ⟨q_2, e_2, hF⟩ := ob_bd hF
  refine cqR (As := [.int p1]) (rest := []) ⟨hx, hb, hml, hown, hts⟩ (cR_X9_boltAt l D cs ad tb A σ p1 _ e_2) (cw_X9_X9_boltAt_122 hts ⟨Nat.le_of_ble_eq_true rfl, Nat.le_of_ble_eq_true rfl⟩) ⟨Nat.zero_le _, Nat.zero_le _⟩ (rcF hK hP (ci := 9) rfl (ob_9 _ _ _)) hK hP hD hS hZ rfl hl.1 rfl (lv_room (Nat.le_of_ble_eq_true rfl)) dX9_ugly_2 ?_
  refine asQ (i := 4) (lv' := [(4, va_rf q_2), (0, .ref (ad 1009)), (1, .int p1), (2, .int p2), (3, .int p3)]) hx hb dX9_ugly_5 hl (by decide) rfl (fun ls hl => ?_)
  refine alQ hx hb dX9_ugly_7 (lv_at hl 0 rfl) ?_
  refine nnQ (tgt := 14) hx hb dX9_ugly_9 (by decide) (fun c_9 e_9 => ?_) (fun e_9 => ?_)
  · have hF := oc_s e_9 hF
    refine alQ hx hb dX9_ugly_14 (lv_at hl 0 rfl) ?_
    refine rfS e_9 ?_
    refine lv_iload_n hx hb dX9_ugly_16 rfl (lv_at hl 3 rfl) ?_
    refine lv_iload_n hx hb dX9_ugly_17 rfl (lv_at hl 4 rfl) ?_
    obtain ⟨k_18_1, hF⟩ := ob_gd hF
    obtain ⟨q_18, e_18, hF⟩ := ob_bd hF
    refine crR (As := [.int p2, .int p3]) (rest := []) ⟨hx, hb, hml, hown, hts⟩ (cR_X0_canLie l D cs ad tb A σ c_9 p2 p3 _ e_18) (cw_X9_X0_canLie_145 hts ⟨Nat.le_of_ble_eq_true rfl, Nat.le_of_ble_eq_true rfl⟩) ⟨Nat.zero_le _, Nat.zero_le _⟩ (rcP hK hP (ci := 0) rfl k_18_1 (pf_0 (isK_K k_18_1))) hK hP hD hS hZ rfl hl.1 rfl (lv_room (Nat.le_of_ble_eq_true rfl)) dX9_ugly_18 ?_
    refine lv_if_ne (tgt := 27) hx hb dX9_ugly_21 (by decide) (fun c_21 => ?_) (fun c_21 => ?_)
    · have hF := ob_f c_21 hF
      refine lv_aload_n hx hb dX9_ugly_27 rfl (lv_at hl 1 rfl) ?_
      refine alQ hx hb dX9_ugly_28 (lv_at hl 0 rfl) ?_
      refine rfS e_9 ?_
      obtain ⟨q_30, e_30, hF⟩ := ob_bd hF
      refine cwR (As := [.ref c_9]) (rest := []) ⟨hx, hb, hml, hown, hts⟩ (cR_X9_fitSleeves l D cs ad tb A σ c_9 _ e_30) (cw_X9_X9_fitSleeves_141 hts ⟨Nat.le_of_ble_eq_true rfl, Nat.le_of_ble_eq_true rfl⟩) ⟨Nat.zero_le _, Nat.zero_le _⟩ (rcF hK hP (ci := 9) rfl (ob_9 _ _ _)) hK hP hD hS hZ rfl hl.1 rfl (lv_room (Nat.le_of_ble_eq_true rfl)) dX9_ugly_30 (fun H locs hP hD hS => ?_)
      refine lv_if_ne (tgt := 39) hx hb dX9_ugly_33 (by decide) (fun c_33 => ?_) (fun c_33 => ?_)
      · have hF := ob_f c_33 hF
        refine lv_aload_n hx hb dX9_ugly_39 rfl (lv_at hl 1 rfl) ?_
        refine gF hx hb hts hin wo_9 rfl hown hK hP (ob_9 _ _ _) 10 (.ref (ad 1002)) (by decide) rf_X9_57 rfl dX9_ugly_40 ?_
        refine alQ hx hb dX9_ugly_43 (lv_at hl 0 rfl) ?_
        refine rfS e_9 ?_
        obtain ⟨k_45_2, hF⟩ := ob_gd hF
        refine gP hx hb hts hin wo_0 rfl hown hK hP k_45_2 (pf_0 (isK_K k_45_2)) 0 (va_rf (pR q_30.2 c_9 0)) (by decide) rf_X9_126 rfl dX9_ugly_45 ?_
        obtain ⟨r_45, o_45, hF⟩ := ob_bd hF
        refine rfS o_45 ?_
        refine lv_aload_n hx hb dX9_ugly_48 rfl (lv_at hl 1 rfl) ?_
        refine gF hx hb hts hin wo_9 rfl hown hK hP (ob_9 _ _ _) 6 (va_rf (rV q_30.2 906)) (by decide) rf_X9_35 rfl dX9_ugly_49 ?_
        obtain ⟨r_49, o_49, hF⟩ := ob_bd hF
        refine rfS o_49 ?_
        refine lv_aload_n hx hb dX9_ugly_52 rfl (lv_at hl 1 rfl) ?_
        refine gF hx hb hts hin wo_9 rfl hown hK hP (ob_9 _ _ _) 7 (.int (rI q_30.2 907)) (by decide) rf_X9_39 rfl dX9_ugly_53 ?_
        refine lv_aload_n hx hb dX9_ugly_56 rfl (lv_at hl 1 rfl) ?_
        refine gF hx hb hts hin wo_9 rfl hown hK hP (ob_9 _ _ _) 8 (.int (rI q_30.2 908)) (by decide) rf_X9_43 rfl dX9_ugly_57 ?_
        obtain ⟨q_60, e_60, hF⟩ := ob_bd hF
        refine cvR (As := [.ref r_45, .ref r_49, .int (rI q_30.2 907), .int (rI q_30.2 908)]) (rest := []) ⟨hx, hb, hml, hown, hts⟩ (cR_X2_spread l D cs ad tb A q_30.2 r_45 r_49 (rI q_30.2 907) (rI q_30.2 908) _ e_60) (cw_X9_X2_spread_149 hts ⟨Nat.le_of_ble_eq_true rfl, Nat.le_of_ble_eq_true rfl⟩) ⟨Nat.zero_le _, Nat.zero_le _⟩ (rcF hK hP (ci := 2) rfl (ob_2 _ _ _)) hK hP hD hS hZ rfl hl.1 rfl (lv_room (Nat.le_of_ble_eq_true rfl)) dX9_ugly_60 (fun H locs hP hD hS => ?_)
        refine lv_aload_n hx hb dX9_ugly_63 rfl (lv_at hl 1 rfl) ?_
        refine gF hx hb hts hin wo_9 rfl hown hK hP (ob_9 _ _ _) 10 (.ref (ad 1002)) (by decide) rf_X9_57 rfl dX9_ugly_64 ?_
        refine lv_iload_n hx hb dX9_ugly_67 rfl (lv_at hl 3 rfl) ?_
        refine lv_iload_n hx hb dX9_ugly_68 rfl (lv_at hl 4 rfl) ?_
        obtain ⟨q_69, e_69, hF⟩ := ob_bd hF
        refine cvR (As := [.int p2, .int p3]) (rest := []) ⟨hx, hb, hml, hown, hts⟩ (cR_X2_lay l D cs ad tb A q_60 p2 p3 _ e_69) (cw_X9_X2_lay_155 hts ⟨Nat.le_of_ble_eq_true rfl, Nat.le_of_ble_eq_true rfl⟩) ⟨Nat.zero_le _, Nat.zero_le _⟩ (rcF hK hP (ci := 2) rfl (ob_2 _ _ _)) hK hP hD hS hZ rfl hl.1 rfl (lv_room (Nat.le_of_ble_eq_true rfl)) dX9_ugly_69 (fun H locs hP hD hS => ?_)
        refine lv_aload_n hx hb dX9_ugly_72 rfl (lv_at hl 1 rfl) ?_
        refine gF hx hb hts hin wo_9 rfl hown hK hP (ob_9 _ _ _) 10 (.ref (ad 1002)) (by decide) rf_X9_57 rfl dX9_ugly_73 ?_
        obtain ⟨q_76, e_76, hF⟩ := ob_bd hF
        refine crR (As := []) (rest := []) ⟨hx, hb, hml, hown, hts⟩ (cR_X2_uglySum l D cs ad tb A q_69 _ e_76) (cw_X9_X2_uglySum_159 hts ⟨Nat.le_of_ble_eq_true rfl, Nat.le_of_ble_eq_true rfl⟩) ⟨Nat.zero_le _, Nat.zero_le _⟩ (rcF hK hP (ci := 2) rfl (ob_2 _ _ _)) hK hP hD hS hZ rfl hl.1 rfl (lv_room (Nat.le_of_ble_eq_true rfl)) dX9_ugly_76 ?_
        exact rwR hx hb hr hlocks hF hK hP hD hS dX9_ugly_79
      · have hF := ob_t c_33 hF
        refine lv_bipush (v := (-3 : Int32)) hx hb dX9_ugly_36 (by decide) ?_
        exact rwR hx hb hr hlocks hF hK hP hD hS dX9_ugly_38
    · have hF := ob_t c_21 hF
      refine lv_bipush (v := (-2 : Int32)) hx hb dX9_ugly_24 (by decide) ?_
      exact rwR hx hb hr hlocks hF hK hP hD hS dX9_ugly_26
  · have hF := oc_n e_9 hF
    refine lv_iconst (v := (-1 : Int32)) hx hb dX9_ugly_12 (by decide) ?_
    exact rwR hx hb hr hlocks hF hK hP hD hS dX9_ugly_13
def wsR_X9_best : List Cond := Cond.code yX9_best cX9_best 3 (some .int) :: wRa
theorem cw_X9_X7_find_162 {R : Room} {s : State} {args : Array Value} {y : MethodName} {c : ByteArray} {n : Nat} {r : Option FieldType} (hts : ∀ w ∈ (Cond.code y c n r :: wRa), w.before args s = true) (hR : 14 + 1 ≤ R.frames ∧ 8 + (2 + 11) + 402 ≤ R.locals) : CallW R s args RX9 RX7 162 yX7_find cX7_find 2 none wsR_X7_find { frames := 14, cells := 0, slots := 0, locals := 402 } 0 0 1 := cwV 1 hts (goodV wRa_good rm_X9_162 ri_X7_find rs_X7_find rn_X7 rc_X7_find) rfl rfl rfl (by decide +kernel) hR
def FR_X9_best_63 (t1_63 : Int32) (σ_63 : RS) : Option (Int32 × RS) := ((FR_X7_find σ_63 t1_63).bind fun q_63 => (some ((rI (ri (ri q_63 911 (rI q_63 708)) 912 (rI (ri q_63 911 (rI q_63 708)) 709)) 707), (ri (ri q_63 911 (rI q_63 708)) 912 (rI (ri q_63 911 (rI q_63 708)) 709)))))
def FR_X9_best (σ : RS) (p1 : Int32) : Option (Int32 × RS) := ((FR_X9_boltAt σ p1).bind fun q_2 => (oc q_2 (some ((-1 : Int32), σ)) (fun c_7 => ((FR_X9_fitSleeves σ c_7).bind fun q_14 => (if q_14.1 = 0 then (some ((-3 : Int32), q_14.2)) else (gd (isK q_14.2 c_7 0) ((pR q_14.2 c_7 0).bind fun r_28 => ((rV q_14.2 906).bind fun r_32 => ((FR_X2_spread q_14.2 r_28 r_32 (rI q_14.2 907) (rI q_14.2 908)).bind fun q_43 => (gd (isK q_43 c_7 0) (if (pI q_43 c_7 2) = (1 : Int32) then (FR_X9_best_63 (1 : Int32) q_43) else (FR_X9_best_63 (0 : Int32) q_43))))))))))))
set_option maxHeartbeats 4000000 in
set_option maxRecDepth 100000 in
theorem cR_X9_best (l : Launch) (D : va_G) (cs : Nat → ClassId) (ad tb : Nat → Nat) (A : Nat → Prop) (σ : RS) (p1 : Int32) (q : (Int32 × RS)) (hF : FR_X9_best σ p1 = some q) : Met l yX9_best wsR_X9_best { frames := 15, cells := 0, slots := 0, locals := 423 } (va_Pc [.ref (ad 1009), .int p1] (preQ D cs ad tb A σ)) (va_Qi (fun x u => x = q.1 ∧ u = q.2) (posQ D cs ad A) A) 0 0 A := by
  refine Met.ofW (cc := cX9_best) (maxL := 3) (ret := (some .int)) (by decide) rfl ?_
  intro p e s m args below meth c s₁ B hml hv
  obtain ⟨rfl, hP, hK, hD, hZ⟩ := hv
  have hx := B.exec
  have hb := B.bytes
  have hr := B.returns
  have hts : ∀ w ∈ (Cond.code yX9_best cX9_best 3 (some .int) :: wRa), w.before ([.ref (ad 1009), .int p1] : List Value).toArray s = true := atoms_spec (ws := wsR_X9_best) B.pre
  have hin : ∀ w ∈ wRa, w ∈ (Cond.code yX9_best cX9_best 3 (some .int) :: wRa) := fun w hw => List.mem_cons_of_mem _ hw
  have hown : s.vm.findClass RX9 = some m.cls := findClass_of_methodNamed B.named
  have hlocks := B.notSynchronized
  have hS : va_S A s.heap s.heap [] := va_S.rf
  have b_63 : ∀ (t1_63 : Int32) (σ_63 : RS) (H : Heap) (locs : List Loc) (ls : Array Slot), FR_X9_best_63 t1_63 σ_63 = some q → va_P D vwCl (wR cs ad σ_63) H → va_D A (wR cs ad σ_63) → va_S A s.heap H locs → lv_has ls 3 [(0, .ref (ad 1009))] → W p l e (headSpec wsR_X9_best { frames := 15, cells := 0, slots := 0, locals := 423 }).room s m ([.ref (ad 1009), .int p1] : List Value).toArray below meth c H locs 0 0 (MQ below (va_Qi (fun x u => x = q.1 ∧ u = q.2) (posQ D cs ad A) A) ([.ref (ad 1009), .int p1] : List Value).toArray s 0 0 A) (F0 m 63 ls [.int t1_63, .ref (ad 1007)]) := by
    intro t1_63 σ_63 H locs ls hF hP hD hS hl
    unfold FR_X9_best_63 at hF
    obtain ⟨q_63, e_63, hF⟩ := ob_bd hF
    refine cvR (As := [.int t1_63]) (rest := []) ⟨hx, hb, hml, hown, hts⟩ (cR_X7_find l D cs ad tb A σ_63 t1_63 _ e_63) (cw_X9_X7_find_162 hts ⟨Nat.le_of_ble_eq_true rfl, Nat.le_of_ble_eq_true rfl⟩) ⟨Nat.zero_le _, Nat.zero_le _⟩ (rcF hK hP (ci := 7) rfl (ob_7 _ _ _)) hK hP hD hS hZ rfl hl.1 rfl (lv_room (Nat.le_of_ble_eq_true rfl)) dX9_best_63 (fun H locs hP hD hS => ?_)
    refine lv_aload_n hx hb dX9_best_66 rfl (lv_at hl 0 rfl) ?_
    refine lv_aload_n hx hb dX9_best_67 rfl (lv_at hl 0 rfl) ?_
    refine gF hx hb hts hin wo_9 rfl hown hK hP (ob_9 _ _ _) 9 (.ref (ad 1007)) (by decide) rf_X9_49 rfl dX9_best_68 ?_
    refine gF hx hb hts hin wo_7 rfl hown hK hP (ob_7 _ _ _) 8 (.int (rI q_63 708)) (by decide) rf_X9_166 rfl dX9_best_71 ?_
    refine pF (ty := .int) hx hb hts hin wo_9 rfl tyX9 tyX9_ok nmX9 hown hK hP hD hS (ob_9 _ _ _) 11 (by decide) rf_X9_58 rfl (by decide +kernel) rfl rfl (Nat.le_of_ble_eq_true rfl) (rp_911 _ _ _ _) dX9_best_74 (fun H locs hP hD hS => ?_)
    refine lv_aload_n hx hb dX9_best_77 rfl (lv_at hl 0 rfl) ?_
    refine lv_aload_n hx hb dX9_best_78 rfl (lv_at hl 0 rfl) ?_
    refine gF hx hb hts hin wo_9 rfl hown hK hP (ob_9 _ _ _) 9 (.ref (ad 1007)) (by decide) rf_X9_49 rfl dX9_best_79 ?_
    refine gF hx hb hts hin wo_7 rfl hown hK hP (ob_7 _ _ _) 9 (.int (rI (ri q_63 911 (rI q_63 708)) 709)) (by decide) rf_X9_169 rfl dX9_best_82 ?_
    refine pF (ty := .int) hx hb hts hin wo_9 rfl tyX9 tyX9_ok nmX9 hown hK hP hD hS (ob_9 _ _ _) 12 (by decide) rf_X9_61 rfl (by decide +kernel) rfl rfl (Nat.le_of_ble_eq_true rfl) (rp_912 _ _ _ _) dX9_best_85 (fun H locs hP hD hS => ?_)
    refine lv_aload_n hx hb dX9_best_88 rfl (lv_at hl 0 rfl) ?_
    refine gF hx hb hts hin wo_9 rfl hown hK hP (ob_9 _ _ _) 9 (.ref (ad 1007)) (by decide) rf_X9_49 rfl dX9_best_89 ?_
    refine gF hx hb hts hin wo_7 rfl hown hK hP (ob_7 _ _ _) 7 (.int (rI (ri (ri q_63 911 (rI q_63 708)) 912 (rI (ri q_63 911 (rI q_63 708)) 709)) 707)) (by decide) rf_X9_172 rfl dX9_best_92 ?_
    exact rwR hx hb hr hlocks hF hK hP hD hS dX9_best_95
  have hl := lv_entry ([.ref (ad 1009), .int p1]) (n := 3) (Nat.le_of_ble_eq_true rfl)
  rw [lg_entry_eq]
  generalize (lg_sl ([.ref (ad 1009), .int p1]) ++ List.replicate (3 - (lg_sl ([.ref (ad 1009), .int p1])).length) Slot.unset).toArray = ls at hl ⊢
  have hl : lv_has ls 3 [(0, .ref (ad 1009)), (1, .int p1)] := hl
  unfold FR_X9_best at hF
  refine lv_aload_n hx hb dX9_best_0 rfl (lv_at hl 0 rfl) ?_
  refine lv_iload_n hx hb dX9_best_1 rfl (lv_at hl 1 rfl) ?_
  obtain ⟨q_2, e_2, hF⟩ := ob_bd hF
  refine cqR (As := [.int p1]) (rest := []) ⟨hx, hb, hml, hown, hts⟩ (cR_X9_boltAt l D cs ad tb A σ p1 _ e_2) (cw_X9_X9_boltAt_122 hts ⟨Nat.le_of_ble_eq_true rfl, Nat.le_of_ble_eq_true rfl⟩) ⟨Nat.zero_le _, Nat.zero_le _⟩ (rcF hK hP (ci := 9) rfl (ob_9 _ _ _)) hK hP hD hS hZ rfl hl.1 rfl (lv_room (Nat.le_of_ble_eq_true rfl)) dX9_best_2 ?_
  refine asQ_n (i := 2) (lv' := [(2, va_rf q_2), (0, .ref (ad 1009)), (1, .int p1)]) hx hb dX9_best_5 rfl hl (by decide) rfl (fun ls hl => ?_)
  refine alQ_n hx hb dX9_best_6 rfl (lv_at hl 0 rfl) ?_
  refine nnQ (tgt := 12) hx hb dX9_best_7 (by decide) (fun c_7 e_7 => ?_) (fun e_7 => ?_)
  · have hF := oc_s e_7 hF
    refine lv_aload_n hx hb dX9_best_12 rfl (lv_at hl 1 rfl) ?_
    refine alQ_n hx hb dX9_best_13 rfl (lv_at hl 0 rfl) ?_
    refine rfS e_7 ?_
    obtain ⟨q_14, e_14, hF⟩ := ob_bd hF
    refine cwR (As := [.ref c_7]) (rest := []) ⟨hx, hb, hml, hown, hts⟩ (cR_X9_fitSleeves l D cs ad tb A σ c_7 _ e_14) (cw_X9_X9_fitSleeves_141 hts ⟨Nat.le_of_ble_eq_true rfl, Nat.le_of_ble_eq_true rfl⟩) ⟨Nat.zero_le _, Nat.zero_le _⟩ (rcF hK hP (ci := 9) rfl (ob_9 _ _ _)) hK hP hD hS hZ rfl hl.1 rfl (lv_room (Nat.le_of_ble_eq_true rfl)) dX9_best_14 (fun H locs hP hD hS => ?_)
    refine lv_if_ne (tgt := 23) hx hb dX9_best_17 (by decide) (fun c_17 => ?_) (fun c_17 => ?_)
    · have hF := ob_f c_17 hF
      refine lv_aload_n hx hb dX9_best_23 rfl (lv_at hl 1 rfl) ?_
      refine gF hx hb hts hin wo_9 rfl hown hK hP (ob_9 _ _ _) 10 (.ref (ad 1002)) (by decide) rf_X9_57 rfl dX9_best_24 ?_
      refine alQ_n hx hb dX9_best_27 rfl (lv_at hl 0 rfl) ?_
      refine rfS e_7 ?_
      obtain ⟨k_28_1, hF⟩ := ob_gd hF
      refine gP hx hb hts hin wo_0 rfl hown hK hP k_28_1 (pf_0 (isK_K k_28_1)) 0 (va_rf (pR q_14.2 c_7 0)) (by decide) rf_X9_126 rfl dX9_best_28 ?_
      obtain ⟨r_28, o_28, hF⟩ := ob_bd hF
      refine rfS o_28 ?_
      refine lv_aload_n hx hb dX9_best_31 rfl (lv_at hl 1 rfl) ?_
      refine gF hx hb hts hin wo_9 rfl hown hK hP (ob_9 _ _ _) 6 (va_rf (rV q_14.2 906)) (by decide) rf_X9_35 rfl dX9_best_32 ?_
      obtain ⟨r_32, o_32, hF⟩ := ob_bd hF
      refine rfS o_32 ?_
      refine lv_aload_n hx hb dX9_best_35 rfl (lv_at hl 1 rfl) ?_
      refine gF hx hb hts hin wo_9 rfl hown hK hP (ob_9 _ _ _) 7 (.int (rI q_14.2 907)) (by decide) rf_X9_39 rfl dX9_best_36 ?_
      refine lv_aload_n hx hb dX9_best_39 rfl (lv_at hl 1 rfl) ?_
      refine gF hx hb hts hin wo_9 rfl hown hK hP (ob_9 _ _ _) 8 (.int (rI q_14.2 908)) (by decide) rf_X9_43 rfl dX9_best_40 ?_
      obtain ⟨q_43, e_43, hF⟩ := ob_bd hF
      refine cvR (As := [.ref r_28, .ref r_32, .int (rI q_14.2 907), .int (rI q_14.2 908)]) (rest := []) ⟨hx, hb, hml, hown, hts⟩ (cR_X2_spread l D cs ad tb A q_14.2 r_28 r_32 (rI q_14.2 907) (rI q_14.2 908) _ e_43) (cw_X9_X2_spread_149 hts ⟨Nat.le_of_ble_eq_true rfl, Nat.le_of_ble_eq_true rfl⟩) ⟨Nat.zero_le _, Nat.zero_le _⟩ (rcF hK hP (ci := 2) rfl (ob_2 _ _ _)) hK hP hD hS hZ rfl hl.1 rfl (lv_room (Nat.le_of_ble_eq_true rfl)) dX9_best_43 (fun H locs hP hD hS => ?_)
      refine lv_aload_n hx hb dX9_best_46 rfl (lv_at hl 1 rfl) ?_
      refine gF hx hb hts hin wo_9 rfl hown hK hP (ob_9 _ _ _) 9 (.ref (ad 1007)) (by decide) rf_X9_49 rfl dX9_best_47 ?_
      refine alQ_n hx hb dX9_best_50 rfl (lv_at hl 0 rfl) ?_
      refine rfS e_7 ?_
      obtain ⟨k_51_2, hF⟩ := ob_gd hF
      refine gP hx hb hts hin wo_0 rfl hown hK hP k_51_2 (pf_0 (isK_K k_51_2)) 2 (.int (pI q_43 c_7 2)) (by decide) rf_X9_130 rfl dX9_best_51 ?_
      refine lv_iconst (v := (1 : Int32)) hx hb dX9_best_54 (by decide) ?_
      refine lv_icmp_ne (tgt := 62) hx hb dX9_best_55 (by decide) (fun c_55 => ?_) (fun c_55 => ?_)
      · have hF := ob_f c_55 hF
        refine lv_iconst (v := (0 : Int32)) hx hb dX9_best_62 (by decide) ?_
        exact b_63 (0 : Int32) q_43 _ _ _ hF hP hD hS (lv_sub hl [1] rfl)
      · have hF := ob_t c_55 hF
        refine lv_iconst (v := (1 : Int32)) hx hb dX9_best_58 (by decide) ?_
        refine lv_goto (tgt := 63) hx hb dX9_best_59 (by decide) ?_
        exact b_63 (1 : Int32) q_43 _ _ _ hF hP hD hS (lv_sub hl [1] rfl)
    · have hF := ob_t c_17 hF
      refine lv_bipush (v := (-3 : Int32)) hx hb dX9_best_20 (by decide) ?_
      exact rwR hx hb hr hlocks hF hK hP hD hS dX9_best_22
  · have hF := oc_n e_7 hF
    refine lv_iconst (v := (-1 : Int32)) hx hb dX9_best_10 (by decide) ?_
    exact rwR hx hb hr hlocks hF hK hP hD hS dX9_best_11
def wsR_X9_laid : List Cond := Cond.code yX9_laid cX9_laid 2 (some .int) :: wRa
def FR_X9_laid (σ : RS) (p1 : Int32) : Option Int32 := (if p1 = (0 : Int32) then (some (rI σ 911)) else (if p1 = (1 : Int32) then (some (rI σ 912)) else (some (-1 : Int32))))
set_option maxHeartbeats 4000000 in
set_option maxRecDepth 100000 in
theorem cR_X9_laid (l : Launch) (D : va_G) (cs : Nat → ClassId) (ad tb : Nat → Nat) (A : Nat → Prop) (σ : RS) (p1 : Int32) (q : Int32) (hF : FR_X9_laid σ p1 = some q) : Met l yX9_laid wsR_X9_laid { frames := 0, cells := 0, slots := 0, locals := 0 } (va_Pc [.ref (ad 1009), .int p1] (preQ D cs ad tb A σ)) (vp_Si (fun x => x = q)) 0 0 (fun _ => False) := by
  refine Met.ofW (cc := cX9_laid) (maxL := 2) (ret := (some .int)) (by decide) rfl ?_
  intro p e s m args below meth c s₁ B hml hv
  obtain ⟨rfl, hP, hK, hD, hZ⟩ := hv
  have hx := B.exec
  have hb := B.bytes
  have hr := B.returns
  have hts : ∀ w ∈ (Cond.code yX9_laid cX9_laid 2 (some .int) :: wRa), w.before ([.ref (ad 1009), .int p1] : List Value).toArray s = true := atoms_spec (ws := wsR_X9_laid) B.pre
  have hin : ∀ w ∈ wRa, w ∈ (Cond.code yX9_laid cX9_laid 2 (some .int) :: wRa) := fun w hw => List.mem_cons_of_mem _ hw
  have hown : s.vm.findClass RX9 = some m.cls := findClass_of_methodNamed B.named
  have hlocks := B.notSynchronized
  have hS : va_S A s.heap s.heap [] := va_S.rf
  have hl := lv_entry ([.ref (ad 1009), .int p1]) (n := 2) (Nat.le_of_ble_eq_true rfl)
  rw [lg_entry_eq]
  generalize (lg_sl ([.ref (ad 1009), .int p1]) ++ List.replicate (2 - (lg_sl ([.ref (ad 1009), .int p1])).length) Slot.unset).toArray = ls at hl ⊢
  have hl : lv_has ls 2 [(0, .ref (ad 1009)), (1, .int p1)] := hl
  unfold FR_X9_laid at hF
  refine lv_iload_n hx hb dX9_laid_0 rfl (lv_at hl 1 rfl) ?_
  by_cases c_1_0 : p1 = (0 : Int32)
  · have hF := ob_t c_1_0 hF
    refine lv_lookup (off := 27) (tgt := 28) hx hb dX9_laid_1 (by decide) (by rw [c_1_0]; decide) (by decide) ?_
    refine lv_aload_n hx hb dX9_laid_28 rfl (lv_at hl 0 rfl) ?_
    refine gF hx hb hts hin wo_9 rfl hown hK hP (ob_9 _ _ _) 11 (.int (rI σ 911)) (by decide) rf_X9_58 rfl dX9_laid_29 ?_
    exact rrM hx hb hr hlocks hF dX9_laid_32
  · have hF := ob_f c_1_0 hF
    by_cases c_1_1 : p1 = (1 : Int32)
    · have hF := ob_t c_1_1 hF
      refine lv_lookup (off := 32) (tgt := 33) hx hb dX9_laid_1 (by decide) (by rw [c_1_1]; decide) (by decide) ?_
      refine lv_aload_n hx hb dX9_laid_33 rfl (lv_at hl 0 rfl) ?_
      refine gF hx hb hts hin wo_9 rfl hown hK hP (ob_9 _ _ _) 12 (.int (rI σ 912)) (by decide) rf_X9_61 rfl dX9_laid_34 ?_
      exact rrM hx hb hr hlocks hF dX9_laid_37
    · have hF := ob_f c_1_1 hF
      refine lv_lookup (off := 37) (tgt := 38) hx hb dX9_laid_1 (by decide) (by have a0 : ¬ p1.toInt = 0 := ob_ti c_1_0; have a1 : ¬ p1.toInt = 1 := ob_ti c_1_1; have b0 : ¬ (0 : Int) = p1.toInt := fun e => a0 e.symm; have b1 : ¬ (1 : Int) = p1.toInt := fun e => a1 e.symm; generalize p1.toInt = zz at b0 b1 ⊢; simp [Op.lookupswitch.offset, b0, b1]) (by decide) ?_
      refine lv_iconst (v := (-1 : Int32)) hx hb dX9_laid_38 (by decide) ?_
      exact rrM hx hb hr hlocks hF dX9_laid_39
def wsR_X9_robeAt : List Cond := Cond.code yX9_robeAt cX9_robeAt 2 (some (.object "RobeHouse$Robe")) :: wRa
def FR_X9_robeAt (σ : RS) (p1 : Int32) : Option (Option Nat) := ((FR_X9_within p1 (0 : Int32) (29 : Int32)).bind fun q_4 => (if q_4 = 0 then (some none) else (gd (inb p1 30) (some (rQ σ 904 p1.toNatClampNeg)))))
set_option maxHeartbeats 4000000 in
set_option maxRecDepth 100000 in
theorem cR_X9_robeAt (l : Launch) (D : va_G) (cs : Nat → ClassId) (ad tb : Nat → Nat) (A : Nat → Prop) (σ : RS) (p1 : Int32) (q : (Option Nat)) (hF : FR_X9_robeAt σ p1 = some q) : Met l yX9_robeAt wsR_X9_robeAt { frames := 1, cells := 0, slots := 0, locals := 22 } (va_Pc [.ref (ad 1009), .int p1] (preQ D cs ad tb A σ)) (va_Sq (fun x => x = q)) 0 0 (fun _ => False) := by
  refine Met.ofW (cc := cX9_robeAt) (maxL := 2) (ret := (some (.object "RobeHouse$Robe"))) (by decide) rfl ?_
  intro p e s m args below meth c s₁ B hml hv
  obtain ⟨rfl, hP, hK, hD, hZ⟩ := hv
  have hx := B.exec
  have hb := B.bytes
  have hr := B.returns
  have hts : ∀ w ∈ (Cond.code yX9_robeAt cX9_robeAt 2 (some (.object "RobeHouse$Robe")) :: wRa), w.before ([.ref (ad 1009), .int p1] : List Value).toArray s = true := atoms_spec (ws := wsR_X9_robeAt) B.pre
  have hin : ∀ w ∈ wRa, w ∈ (Cond.code yX9_robeAt cX9_robeAt 2 (some (.object "RobeHouse$Robe")) :: wRa) := fun w hw => List.mem_cons_of_mem _ hw
  have hown : s.vm.findClass RX9 = some m.cls := findClass_of_methodNamed B.named
  have hlocks := B.notSynchronized
  have hS : va_S A s.heap s.heap [] := va_S.rf
  have hl := lv_entry ([.ref (ad 1009), .int p1]) (n := 2) (Nat.le_of_ble_eq_true rfl)
  rw [lg_entry_eq]
  generalize (lg_sl ([.ref (ad 1009), .int p1]) ++ List.replicate (2 - (lg_sl ([.ref (ad 1009), .int p1])).length) Slot.unset).toArray = ls at hl ⊢
  have hl : lv_has ls 2 [(0, .ref (ad 1009)), (1, .int p1)] := hl
  unfold FR_X9_robeAt at hF
  refine lv_iload_n hx hb dX9_robeAt_0 rfl (lv_at hl 1 rfl) ?_
  refine lv_iconst (v := (0 : Int32)) hx hb dX9_robeAt_1 (by decide) ?_
  refine lv_bipush (v := (29 : Int32)) hx hb dX9_robeAt_2 (by decide) ?_
  obtain ⟨q_4, e_4, hF⟩ := ob_bd hF
  refine csR (As := [.int p1, .int (0 : Int32), .int (29 : Int32)]) (rest := []) ⟨hx, hb, hml, hown, hts⟩ (cR_X9_within l p1 (0 : Int32) (29 : Int32) _ e_4) (cw_X9_X9_within_88 hts ⟨Nat.le_of_ble_eq_true rfl, Nat.le_of_ble_eq_true rfl⟩) ⟨Nat.zero_le _, Nat.zero_le _⟩ rfl hl.1 rfl (lv_room (Nat.le_of_ble_eq_true rfl)) dX9_robeAt_4 ?_
  refine lv_if_eq (tgt := 19) hx hb dX9_robeAt_7 (by decide) (fun c_7 => ?_) (fun c_7 => ?_)
  · have hF := ob_t c_7 hF
    refine lv_null hx hb dX9_robeAt_19 ?_
    exact rqR hx hb hr (Or.inl ⟨_, rfl⟩) hlocks hF dX9_robeAt_20
  · have hF := ob_f c_7 hF
    refine lv_aload_n hx hb dX9_robeAt_10 rfl (lv_at hl 0 rfl) ?_
    refine gF hx hb hts hin wo_9 rfl hown hK hP (ob_9 _ _ _) 4 (.ref (ad 904)) (by decide) rf_X9_31 rfl dX9_robeAt_11 ?_
    refine lv_iload_n hx hb dX9_robeAt_14 rfl (lv_at hl 1 rfl) ?_
    obtain ⟨g_15, hF⟩ := ob_gd hF
    refine ldA (C := "RobeHouse$Robe") hx hb hK hP (ra_904 _ _ _) rfl (rQ σ 904 p1.toNatClampNeg) g_15 rfl dX9_robeAt_15 ?_
    refine lv_goto (tgt := 20) hx hb dX9_robeAt_16 (by decide) ?_
    exact rqR hx hb hr (Or.inl ⟨_, rfl⟩) hlocks hF dX9_robeAt_20
def wsR_X9_spreadRobe : List Cond := Cond.code yX9_spreadRobe cX9_spreadRobe 2 none :: wRa
def FR_X9_spreadRobe (σ : RS) (p1 : Nat) : Option RS := (gd (isK σ p1 4) ((pR σ p1 0).bind fun r_5 => (gd (isK σ r_5 0) ((pR σ r_5 0).bind fun r_8 => ((pR σ p1 1).bind fun r_12 => ((FR_X2_spread σ r_8 r_12 (rI σ 907) (rI σ 908)).bind fun q_23 => ((FR_X2_lay q_23 (1865 : Int32) (0 : Int32)).bind fun q_34 => (some q_34))))))))
set_option maxHeartbeats 4000000 in
set_option maxRecDepth 100000 in
theorem cR_X9_spreadRobe (l : Launch) (D : va_G) (cs : Nat → ClassId) (ad tb : Nat → Nat) (A : Nat → Prop) (σ : RS) (p1 : Nat) (q : RS) (hF : FR_X9_spreadRobe σ p1 = some q) : Met l yX9_spreadRobe wsR_X9_spreadRobe { frames := 3, cells := 0, slots := 0, locals := 72 } (va_Pc [.ref (ad 1009), .ref p1] (preQ D cs ad tb A σ)) (va_Qv (fun u => u = q) (posQ D cs ad A) A) 0 0 A := by
  refine Met.ofW (cc := cX9_spreadRobe) (maxL := 2) (ret := none) (by decide) rfl ?_
  intro p e s m args below meth c s₁ B hml hv
  obtain ⟨rfl, hP, hK, hD, hZ⟩ := hv
  have hx := B.exec
  have hb := B.bytes
  have hr := B.returns
  have hts : ∀ w ∈ (Cond.code yX9_spreadRobe cX9_spreadRobe 2 none :: wRa), w.before ([.ref (ad 1009), .ref p1] : List Value).toArray s = true := atoms_spec (ws := wsR_X9_spreadRobe) B.pre
  have hin : ∀ w ∈ wRa, w ∈ (Cond.code yX9_spreadRobe cX9_spreadRobe 2 none :: wRa) := fun w hw => List.mem_cons_of_mem _ hw
  have hown : s.vm.findClass RX9 = some m.cls := findClass_of_methodNamed B.named
  have hlocks := B.notSynchronized
  have hS : va_S A s.heap s.heap [] := va_S.rf
  have hl := lv_entry ([.ref (ad 1009), .ref p1]) (n := 2) (Nat.le_of_ble_eq_true rfl)
  rw [lg_entry_eq]
  generalize (lg_sl ([.ref (ad 1009), .ref p1]) ++ List.replicate (2 - (lg_sl ([.ref (ad 1009), .ref p1])).length) Slot.unset).toArray = ls at hl ⊢
  have hl : lv_has ls 2 [(0, .ref (ad 1009)), (1, .ref p1)] := hl
  unfold FR_X9_spreadRobe at hF
  refine lv_aload_n hx hb dX9_spreadRobe_0 rfl (lv_at hl 0 rfl) ?_
  refine gF hx hb hts hin wo_9 rfl hown hK hP (ob_9 _ _ _) 10 (.ref (ad 1002)) (by decide) rf_X9_57 rfl dX9_spreadRobe_1 ?_
  refine lv_aload_n hx hb dX9_spreadRobe_4 rfl (lv_at hl 1 rfl) ?_
  obtain ⟨k_5_1, hF⟩ := ob_gd hF
  refine gP hx hb hts hin wo_4 rfl hown hK hP k_5_1 (pf_4 (isK_K k_5_1)) 0 (va_rf (pR σ p1 0)) (by decide) rf_X9_194 rfl dX9_spreadRobe_5 ?_
  obtain ⟨r_5, o_5, hF⟩ := ob_bd hF
  refine rfS o_5 ?_
  obtain ⟨k_8_2, hF⟩ := ob_gd hF
  refine gP hx hb hts hin wo_0 rfl hown hK hP k_8_2 (pf_0 (isK_K k_8_2)) 0 (va_rf (pR σ r_5 0)) (by decide) rf_X9_126 rfl dX9_spreadRobe_8 ?_
  obtain ⟨r_8, o_8, hF⟩ := ob_bd hF
  refine rfS o_8 ?_
  refine lv_aload_n hx hb dX9_spreadRobe_11 rfl (lv_at hl 1 rfl) ?_
  refine gP hx hb hts hin wo_4 rfl hown hK hP k_5_1 (pf_4 (isK_K k_5_1)) 1 (va_rf (pR σ p1 1)) (by decide) rf_X9_198 rfl dX9_spreadRobe_12 ?_
  obtain ⟨r_12, o_12, hF⟩ := ob_bd hF
  refine rfS o_12 ?_
  refine lv_aload_n hx hb dX9_spreadRobe_15 rfl (lv_at hl 0 rfl) ?_
  refine gF hx hb hts hin wo_9 rfl hown hK hP (ob_9 _ _ _) 7 (.int (rI σ 907)) (by decide) rf_X9_39 rfl dX9_spreadRobe_16 ?_
  refine lv_aload_n hx hb dX9_spreadRobe_19 rfl (lv_at hl 0 rfl) ?_
  refine gF hx hb hts hin wo_9 rfl hown hK hP (ob_9 _ _ _) 8 (.int (rI σ 908)) (by decide) rf_X9_43 rfl dX9_spreadRobe_20 ?_
  obtain ⟨q_23, e_23, hF⟩ := ob_bd hF
  refine cvR (As := [.ref r_8, .ref r_12, .int (rI σ 907), .int (rI σ 908)]) (rest := []) ⟨hx, hb, hml, hown, hts⟩ (cR_X2_spread l D cs ad tb A σ r_8 r_12 (rI σ 907) (rI σ 908) _ e_23) (cw_X9_X2_spread_149 hts ⟨Nat.le_of_ble_eq_true rfl, Nat.le_of_ble_eq_true rfl⟩) ⟨Nat.zero_le _, Nat.zero_le _⟩ (rcF hK hP (ci := 2) rfl (ob_2 _ _ _)) hK hP hD hS hZ rfl hl.1 rfl (lv_room (Nat.le_of_ble_eq_true rfl)) dX9_spreadRobe_23 (fun H locs hP hD hS => ?_)
  refine lv_aload_n hx hb dX9_spreadRobe_26 rfl (lv_at hl 0 rfl) ?_
  refine gF hx hb hts hin wo_9 rfl hown hK hP (ob_9 _ _ _) 10 (.ref (ad 1002)) (by decide) rf_X9_57 rfl dX9_spreadRobe_27 ?_
  refine lv_sipush (v := (1865 : Int32)) hx hb dX9_spreadRobe_30 (by decide) ?_
  refine lv_iconst (v := (0 : Int32)) hx hb dX9_spreadRobe_33 (by decide) ?_
  obtain ⟨q_34, e_34, hF⟩ := ob_bd hF
  refine cvR (As := [.int (1865 : Int32), .int (0 : Int32)]) (rest := []) ⟨hx, hb, hml, hown, hts⟩ (cR_X2_lay l D cs ad tb A q_23 (1865 : Int32) (0 : Int32) _ e_34) (cw_X9_X2_lay_155 hts ⟨Nat.le_of_ble_eq_true rfl, Nat.le_of_ble_eq_true rfl⟩) ⟨Nat.zero_le _, Nat.zero_le _⟩ (rcF hK hP (ci := 2) rfl (ob_2 _ _ _)) hK hP hD hS hZ rfl hl.1 rfl (lv_room (Nat.le_of_ble_eq_true rfl)) dX9_spreadRobe_34 (fun H locs hP hD hS => ?_)
  exact rvR hx hb hr hlocks hF hK hP hD hS dX9_spreadRobe_37
def wsR_X9_robe : List Cond := Cond.code yX9_robe cX9_robe 4 (some .int) :: wRa
theorem cw_X9_X9_robeAt_190 {R : Room} {s : State} {args : Array Value} {y : MethodName} {c : ByteArray} {n : Nat} {r : Option FieldType} (hts : ∀ w ∈ (Cond.code y c n r :: wRa), w.before args s = true) (hR : 1 + 1 ≤ R.frames ∧ 8 + (2 + 11) + 22 ≤ R.locals) : CallW R s args RX9 RX9 190 yX9_robeAt cX9_robeAt 2 (some (.object "RobeHouse$Robe")) wsR_X9_robeAt { frames := 1, cells := 0, slots := 0, locals := 22 } 0 0 1 := cwV 1 hts (goodV wRa_good rm_X9_190 ri_X9_robeAt rs_X9_robeAt rn_X9 rc_X9_robeAt) rfl rfl rfl (by decide +kernel) hR
theorem cw_X9_X4_liningRows_204 {R : Room} {s : State} {args : Array Value} {y : MethodName} {c : ByteArray} {n : Nat} {r : Option FieldType} (hts : ∀ w ∈ (Cond.code y c n r :: wRa), w.before args s = true) (hR : 0 + 1 ≤ R.frames ∧ 8 + (1 + 11) + 0 ≤ R.locals) : CallW R s args RX9 RX4 204 yX4_liningRows cX4_liningRows 1 (some .int) wsR_X4_liningRows { frames := 0, cells := 0, slots := 0, locals := 0 } 0 0 0 := cwV 0 hts (goodV wRa_good rm_X9_204 ri_X4_liningRows rs_X4_liningRows rn_X4 rc_X4_liningRows) rfl rfl rfl (by decide +kernel) hR
theorem cw_X9_X9_spreadRobe_213 {R : Room} {s : State} {args : Array Value} {y : MethodName} {c : ByteArray} {n : Nat} {r : Option FieldType} (hts : ∀ w ∈ (Cond.code y c n r :: wRa), w.before args s = true) (hR : 3 + 1 ≤ R.frames ∧ 8 + (2 + 11) + 72 ≤ R.locals) : CallW R s args RX9 RX9 213 yX9_spreadRobe cX9_spreadRobe 2 none wsR_X9_spreadRobe { frames := 3, cells := 0, slots := 0, locals := 72 } 0 0 1 := cwV 1 hts (goodV wRa_good rm_X9_213 ri_X9_spreadRobe rs_X9_spreadRobe rn_X9 rc_X9_spreadRobe) rfl rfl rfl (by decide +kernel) hR
theorem cw_X9_X2_shownSum_217 {R : Room} {s : State} {args : Array Value} {y : MethodName} {c : ByteArray} {n : Nat} {r : Option FieldType} (hts : ∀ w ∈ (Cond.code y c n r :: wRa), w.before args s = true) (hR : 1 + 1 ≤ R.frames ∧ 8 + (3 + 11) + 23 ≤ R.locals) : CallW R s args RX9 RX2 217 yX2_shownSum cX2_shownSum 3 (some .int) wsR_X2_shownSum { frames := 1, cells := 0, slots := 0, locals := 23 } 0 0 0 := cwV 0 hts (goodV wRa_good rm_X9_217 ri_X2_shownSum rs_X2_shownSum rn_X2 rc_X2_shownSum) rfl rfl rfl (by decide +kernel) hR
def FR_X9_robe (σ : RS) (p1 : Int32) (p2 : Int32) : Option (Int32 × RS) := ((FR_X9_robeAt σ p1).bind fun q_2 => (oc q_2 (some ((-1 : Int32), σ)) (fun c_7 => (if p2 = (0 : Int32) then (gd (isK σ c_7 4) ((pR σ c_7 0).bind fun r_69 => (gd (isK σ r_69 0) (some ((pI σ r_69 1), σ))))) else (if p2 = (1 : Int32) then (gd (isK σ c_7 4) ((pR σ c_7 1).bind fun r_77 => (gd (isK σ r_77 11) (gd (inb (2 : Int32) (pN σ r_77)) (some ((pA σ r_77 (2 : Int32).toNatClampNeg), σ)))))) else (if p2 = (2 : Int32) then (gd (isK σ c_7 4) ((pR σ c_7 1).bind fun r_84 => (gd (isK σ r_84 11) (gd (inb (0 : Int32) (pN σ r_84)) (some ((pA σ r_84 (0 : Int32).toNatClampNeg), σ)))))) else (if p2 = (3 : Int32) then (gd (isK σ c_7 4) ((pR σ c_7 1).bind fun r_91 => (gd (isK σ r_91 11) (gd (inb (4 : Int32) (pN σ r_91)) (some ((pA σ r_91 (4 : Int32).toNatClampNeg), σ)))))) else (if p2 = (4 : Int32) then (gd (isK σ c_7 4) ((pR σ c_7 1).bind fun r_98 => (gd (isK σ r_98 11) (gd (inb (5 : Int32) (pN σ r_98)) (some ((pA σ r_98 (5 : Int32).toNatClampNeg), σ)))))) else (if p2 = (5 : Int32) then (gd (isK σ c_7 4) (oc (pR σ c_7 2) (some ((0 : Int32), σ)) (fun c_108 => (some ((1 : Int32), σ))))) else (if p2 = (6 : Int32) then (gd (isK σ c_7 4) ((FR_X4_liningRows σ c_7).bind fun q_118 => (some (q_118, σ)))) else (if p2 = (7 : Int32) then (gd (isK σ c_7 4) (some ((pI σ c_7 3), σ))) else (if p2 = (8 : Int32) then (gd (isK σ c_7 4) (some ((pI σ c_7 4), σ))) else (if p2 = (9 : Int32) then ((FR_X9_spreadRobe σ c_7).bind fun q_134 => ((FR_X2_shownSum q_134).bind fun q_141 => (some (q_141, q_134)))) else (some ((-1 : Int32), σ)))))))))))))))
set_option maxHeartbeats 4000000 in
set_option maxRecDepth 100000 in
theorem cR_X9_robe (l : Launch) (D : va_G) (cs : Nat → ClassId) (ad tb : Nat → Nat) (A : Nat → Prop) (σ : RS) (p1 : Int32) (p2 : Int32) (q : (Int32 × RS)) (hF : FR_X9_robe σ p1 p2 = some q) : Met l yX9_robe wsR_X9_robe { frames := 4, cells := 0, slots := 0, locals := 93 } (va_Pc [.ref (ad 1009), .int p1, .int p2] (preQ D cs ad tb A σ)) (va_Qi (fun x u => x = q.1 ∧ u = q.2) (posQ D cs ad A) A) 0 0 A := by
  refine Met.ofW (cc := cX9_robe) (maxL := 4) (ret := (some .int)) (by decide) rfl ?_
  intro p e s m args below meth c s₁ B hml hv
  obtain ⟨rfl, hP, hK, hD, hZ⟩ := hv
  have hx := B.exec
  have hb := B.bytes
  have hr := B.returns
  have hts : ∀ w ∈ (Cond.code yX9_robe cX9_robe 4 (some .int) :: wRa), w.before ([.ref (ad 1009), .int p1, .int p2] : List Value).toArray s = true := atoms_spec (ws := wsR_X9_robe) B.pre
  have hin : ∀ w ∈ wRa, w ∈ (Cond.code yX9_robe cX9_robe 4 (some .int) :: wRa) := fun w hw => List.mem_cons_of_mem _ hw
  have hown : s.vm.findClass RX9 = some m.cls := findClass_of_methodNamed B.named
  have hlocks := B.notSynchronized
  have hS : va_S A s.heap s.heap [] := va_S.rf
  have hl := lv_entry ([.ref (ad 1009), .int p1, .int p2]) (n := 4) (Nat.le_of_ble_eq_true rfl)
  rw [lg_entry_eq]
  generalize (lg_sl ([.ref (ad 1009), .int p1, .int p2]) ++ List.replicate (4 - (lg_sl ([.ref (ad 1009), .int p1, .int p2])).length) Slot.unset).toArray = ls at hl ⊢
  have hl : lv_has ls 4 [(0, .ref (ad 1009)), (1, .int p1), (2, .int p2)] := hl
  unfold FR_X9_robe at hF
  refine lv_aload_n hx hb dX9_robe_0 rfl (lv_at hl 0 rfl) ?_
  refine lv_iload_n hx hb dX9_robe_1 rfl (lv_at hl 1 rfl) ?_
  obtain ⟨q_2, e_2, hF⟩ := ob_bd hF
  refine cqR (As := [.int p1]) (rest := []) ⟨hx, hb, hml, hown, hts⟩ (cR_X9_robeAt l D cs ad tb A σ p1 _ e_2) (cw_X9_X9_robeAt_190 hts ⟨Nat.le_of_ble_eq_true rfl, Nat.le_of_ble_eq_true rfl⟩) ⟨Nat.zero_le _, Nat.zero_le _⟩ (rcF hK hP (ci := 9) rfl (ob_9 _ _ _)) hK hP hD hS hZ rfl hl.1 rfl (lv_room (Nat.le_of_ble_eq_true rfl)) dX9_robe_2 ?_
  refine asQ_n (i := 3) (lv' := [(3, va_rf q_2), (0, .ref (ad 1009)), (1, .int p1), (2, .int p2)]) hx hb dX9_robe_5 rfl hl (by decide) rfl (fun ls hl => ?_)
  refine alQ_n hx hb dX9_robe_6 rfl (lv_at hl 0 rfl) ?_
  refine nnQ (tgt := 12) hx hb dX9_robe_7 (by decide) (fun c_7 e_7 => ?_) (fun e_7 => ?_)
  · have hF := oc_s e_7 hF
    refine lv_iload_n hx hb dX9_robe_12 rfl (lv_at hl 3 rfl) ?_
    by_cases c_13_0 : p2 = (0 : Int32)
    · have hF := ob_t c_13_0 hF
      refine lv_tableIn (off := 55) (tgt := 68) hx hb dX9_robe_13 (by rw [c_13_0]; decide) (by rw [c_13_0]; decide) (by rw [c_13_0]; rfl) (by decide) ?_
      refine alQ_n hx hb dX9_robe_68 rfl (lv_at hl 0 rfl) ?_
      refine rfS e_7 ?_
      obtain ⟨k_69_1, hF⟩ := ob_gd hF
      refine gP hx hb hts hin wo_4 rfl hown hK hP k_69_1 (pf_4 (isK_K k_69_1)) 0 (va_rf (pR σ c_7 0)) (by decide) rf_X9_194 rfl dX9_robe_69 ?_
      obtain ⟨r_69, o_69, hF⟩ := ob_bd hF
      refine rfS o_69 ?_
      obtain ⟨k_72_2, hF⟩ := ob_gd hF
      refine gP hx hb hts hin wo_0 rfl hown hK hP k_72_2 (pf_0 (isK_K k_72_2)) 1 (.int (pI σ r_69 1)) (by decide) rf_X9_127 rfl dX9_robe_72 ?_
      exact rwR hx hb hr hlocks hF hK hP hD hS dX9_robe_75
    · have hF := ob_f c_13_0 hF
      by_cases c_13_1 : p2 = (1 : Int32)
      · have hF := ob_t c_13_1 hF
        refine lv_tableIn (off := 63) (tgt := 76) hx hb dX9_robe_13 (by rw [c_13_1]; decide) (by rw [c_13_1]; decide) (by rw [c_13_1]; rfl) (by decide) ?_
        refine alQ_n hx hb dX9_robe_76 rfl (lv_at hl 0 rfl) ?_
        refine rfS e_7 ?_
        obtain ⟨k_77_3, hF⟩ := ob_gd hF
        refine gP hx hb hts hin wo_4 rfl hown hK hP k_77_3 (pf_4 (isK_K k_77_3)) 1 (va_rf (pR σ c_7 1)) (by decide) rf_X9_198 rfl dX9_robe_77 ?_
        obtain ⟨r_77, o_77, hF⟩ := ob_bd hF
        refine rfS o_77 ?_
        refine lv_iconst (v := (2 : Int32)) hx hb dX9_robe_80 (by decide) ?_
        obtain ⟨k_81_4, hF⟩ := ob_gd hF
        obtain ⟨g_81, hF⟩ := ob_gd hF
        refine ldP hx hb hK hP k_81_4 (pA σ r_77 (2 : Int32).toNatClampNeg) g_81 rfl dX9_robe_81 ?_
        exact rwR hx hb hr hlocks hF hK hP hD hS dX9_robe_82
      · have hF := ob_f c_13_1 hF
        by_cases c_13_2 : p2 = (2 : Int32)
        · have hF := ob_t c_13_2 hF
          refine lv_tableIn (off := 70) (tgt := 83) hx hb dX9_robe_13 (by rw [c_13_2]; decide) (by rw [c_13_2]; decide) (by rw [c_13_2]; rfl) (by decide) ?_
          refine alQ_n hx hb dX9_robe_83 rfl (lv_at hl 0 rfl) ?_
          refine rfS e_7 ?_
          obtain ⟨k_84_5, hF⟩ := ob_gd hF
          refine gP hx hb hts hin wo_4 rfl hown hK hP k_84_5 (pf_4 (isK_K k_84_5)) 1 (va_rf (pR σ c_7 1)) (by decide) rf_X9_198 rfl dX9_robe_84 ?_
          obtain ⟨r_84, o_84, hF⟩ := ob_bd hF
          refine rfS o_84 ?_
          refine lv_iconst (v := (0 : Int32)) hx hb dX9_robe_87 (by decide) ?_
          obtain ⟨k_88_6, hF⟩ := ob_gd hF
          obtain ⟨g_88, hF⟩ := ob_gd hF
          refine ldP hx hb hK hP k_88_6 (pA σ r_84 (0 : Int32).toNatClampNeg) g_88 rfl dX9_robe_88 ?_
          exact rwR hx hb hr hlocks hF hK hP hD hS dX9_robe_89
        · have hF := ob_f c_13_2 hF
          by_cases c_13_3 : p2 = (3 : Int32)
          · have hF := ob_t c_13_3 hF
            refine lv_tableIn (off := 77) (tgt := 90) hx hb dX9_robe_13 (by rw [c_13_3]; decide) (by rw [c_13_3]; decide) (by rw [c_13_3]; rfl) (by decide) ?_
            refine alQ_n hx hb dX9_robe_90 rfl (lv_at hl 0 rfl) ?_
            refine rfS e_7 ?_
            obtain ⟨k_91_7, hF⟩ := ob_gd hF
            refine gP hx hb hts hin wo_4 rfl hown hK hP k_91_7 (pf_4 (isK_K k_91_7)) 1 (va_rf (pR σ c_7 1)) (by decide) rf_X9_198 rfl dX9_robe_91 ?_
            obtain ⟨r_91, o_91, hF⟩ := ob_bd hF
            refine rfS o_91 ?_
            refine lv_iconst (v := (4 : Int32)) hx hb dX9_robe_94 (by decide) ?_
            obtain ⟨k_95_8, hF⟩ := ob_gd hF
            obtain ⟨g_95, hF⟩ := ob_gd hF
            refine ldP hx hb hK hP k_95_8 (pA σ r_91 (4 : Int32).toNatClampNeg) g_95 rfl dX9_robe_95 ?_
            exact rwR hx hb hr hlocks hF hK hP hD hS dX9_robe_96
          · have hF := ob_f c_13_3 hF
            by_cases c_13_4 : p2 = (4 : Int32)
            · have hF := ob_t c_13_4 hF
              refine lv_tableIn (off := 84) (tgt := 97) hx hb dX9_robe_13 (by rw [c_13_4]; decide) (by rw [c_13_4]; decide) (by rw [c_13_4]; rfl) (by decide) ?_
              refine alQ_n hx hb dX9_robe_97 rfl (lv_at hl 0 rfl) ?_
              refine rfS e_7 ?_
              obtain ⟨k_98_9, hF⟩ := ob_gd hF
              refine gP hx hb hts hin wo_4 rfl hown hK hP k_98_9 (pf_4 (isK_K k_98_9)) 1 (va_rf (pR σ c_7 1)) (by decide) rf_X9_198 rfl dX9_robe_98 ?_
              obtain ⟨r_98, o_98, hF⟩ := ob_bd hF
              refine rfS o_98 ?_
              refine lv_iconst (v := (5 : Int32)) hx hb dX9_robe_101 (by decide) ?_
              obtain ⟨k_102_10, hF⟩ := ob_gd hF
              obtain ⟨g_102, hF⟩ := ob_gd hF
              refine ldP hx hb hK hP k_102_10 (pA σ r_98 (5 : Int32).toNatClampNeg) g_102 rfl dX9_robe_102 ?_
              exact rwR hx hb hr hlocks hF hK hP hD hS dX9_robe_103
            · have hF := ob_f c_13_4 hF
              by_cases c_13_5 : p2 = (5 : Int32)
              · have hF := ob_t c_13_5 hF
                refine lv_tableIn (off := 91) (tgt := 104) hx hb dX9_robe_13 (by rw [c_13_5]; decide) (by rw [c_13_5]; decide) (by rw [c_13_5]; rfl) (by decide) ?_
                refine alQ_n hx hb dX9_robe_104 rfl (lv_at hl 0 rfl) ?_
                refine rfS e_7 ?_
                obtain ⟨k_105_11, hF⟩ := ob_gd hF
                refine gP hx hb hts hin wo_4 rfl hown hK hP k_105_11 (pf_4 (isK_K k_105_11)) 2 (va_rf (pR σ c_7 2)) (by decide) rf_X9_201 rfl dX9_robe_105 ?_
                refine nnQ (tgt := 115) hx hb dX9_robe_108 (by decide) (fun c_108 e_108 => ?_) (fun e_108 => ?_)
                · have hF := oc_s e_108 hF
                  refine lv_iconst (v := (1 : Int32)) hx hb dX9_robe_115 (by decide) ?_
                  exact rwR hx hb hr hlocks hF hK hP hD hS dX9_robe_116
                · have hF := oc_n e_108 hF
                  refine lv_iconst (v := (0 : Int32)) hx hb dX9_robe_111 (by decide) ?_
                  refine lv_goto (tgt := 116) hx hb dX9_robe_112 (by decide) ?_
                  exact rwR hx hb hr hlocks hF hK hP hD hS dX9_robe_116
              · have hF := ob_f c_13_5 hF
                by_cases c_13_6 : p2 = (6 : Int32)
                · have hF := ob_t c_13_6 hF
                  refine lv_tableIn (off := 104) (tgt := 117) hx hb dX9_robe_13 (by rw [c_13_6]; decide) (by rw [c_13_6]; decide) (by rw [c_13_6]; rfl) (by decide) ?_
                  refine alQ_n hx hb dX9_robe_117 rfl (lv_at hl 0 rfl) ?_
                  refine rfS e_7 ?_
                  obtain ⟨k_118_12, hF⟩ := ob_gd hF
                  obtain ⟨q_118, e_118, hF⟩ := ob_bd hF
                  refine crR (As := []) (rest := []) ⟨hx, hb, hml, hown, hts⟩ (cR_X4_liningRows l D cs ad tb A σ c_7 _ e_118) (cw_X9_X4_liningRows_204 hts ⟨Nat.le_of_ble_eq_true rfl, Nat.le_of_ble_eq_true rfl⟩) ⟨Nat.zero_le _, Nat.zero_le _⟩ (rcP hK hP (ci := 4) rfl k_118_12 (pf_4 (isK_K k_118_12))) hK hP hD hS hZ rfl hl.1 rfl (lv_room (Nat.le_of_ble_eq_true rfl)) dX9_robe_118 ?_
                  exact rwR hx hb hr hlocks hF hK hP hD hS dX9_robe_121
                · have hF := ob_f c_13_6 hF
                  by_cases c_13_7 : p2 = (7 : Int32)
                  · have hF := ob_t c_13_7 hF
                    refine lv_tableIn (off := 109) (tgt := 122) hx hb dX9_robe_13 (by rw [c_13_7]; decide) (by rw [c_13_7]; decide) (by rw [c_13_7]; rfl) (by decide) ?_
                    refine alQ_n hx hb dX9_robe_122 rfl (lv_at hl 0 rfl) ?_
                    refine rfS e_7 ?_
                    obtain ⟨k_123_13, hF⟩ := ob_gd hF
                    refine gP hx hb hts hin wo_4 rfl hown hK hP k_123_13 (pf_4 (isK_K k_123_13)) 3 (.int (pI σ c_7 3)) (by decide) rf_X9_207 rfl dX9_robe_123 ?_
                    exact rwR hx hb hr hlocks hF hK hP hD hS dX9_robe_126
                  · have hF := ob_f c_13_7 hF
                    by_cases c_13_8 : p2 = (8 : Int32)
                    · have hF := ob_t c_13_8 hF
                      refine lv_tableIn (off := 114) (tgt := 127) hx hb dX9_robe_13 (by rw [c_13_8]; decide) (by rw [c_13_8]; decide) (by rw [c_13_8]; rfl) (by decide) ?_
                      refine alQ_n hx hb dX9_robe_127 rfl (lv_at hl 0 rfl) ?_
                      refine rfS e_7 ?_
                      obtain ⟨k_128_14, hF⟩ := ob_gd hF
                      refine gP hx hb hts hin wo_4 rfl hown hK hP k_128_14 (pf_4 (isK_K k_128_14)) 4 (.int (pI σ c_7 4)) (by decide) rf_X9_210 rfl dX9_robe_128 ?_
                      exact rwR hx hb hr hlocks hF hK hP hD hS dX9_robe_131
                    · have hF := ob_f c_13_8 hF
                      by_cases c_13_9 : p2 = (9 : Int32)
                      · have hF := ob_t c_13_9 hF
                        refine lv_tableIn (off := 119) (tgt := 132) hx hb dX9_robe_13 (by rw [c_13_9]; decide) (by rw [c_13_9]; decide) (by rw [c_13_9]; rfl) (by decide) ?_
                        refine lv_aload_n hx hb dX9_robe_132 rfl (lv_at hl 1 rfl) ?_
                        refine alQ_n hx hb dX9_robe_133 rfl (lv_at hl 0 rfl) ?_
                        refine rfS e_7 ?_
                        obtain ⟨q_134, e_134, hF⟩ := ob_bd hF
                        refine cvR (As := [.ref c_7]) (rest := []) ⟨hx, hb, hml, hown, hts⟩ (cR_X9_spreadRobe l D cs ad tb A σ c_7 _ e_134) (cw_X9_X9_spreadRobe_213 hts ⟨Nat.le_of_ble_eq_true rfl, Nat.le_of_ble_eq_true rfl⟩) ⟨Nat.zero_le _, Nat.zero_le _⟩ (rcF hK hP (ci := 9) rfl (ob_9 _ _ _)) hK hP hD hS hZ rfl hl.1 rfl (lv_room (Nat.le_of_ble_eq_true rfl)) dX9_robe_134 (fun H locs hP hD hS => ?_)
                        refine lv_aload_n hx hb dX9_robe_137 rfl (lv_at hl 1 rfl) ?_
                        refine gF hx hb hts hin wo_9 rfl hown hK hP (ob_9 _ _ _) 10 (.ref (ad 1002)) (by decide) rf_X9_57 rfl dX9_robe_138 ?_
                        obtain ⟨q_141, e_141, hF⟩ := ob_bd hF
                        refine crR (As := []) (rest := []) ⟨hx, hb, hml, hown, hts⟩ (cR_X2_shownSum l D cs ad tb A q_134 _ e_141) (cw_X9_X2_shownSum_217 hts ⟨Nat.le_of_ble_eq_true rfl, Nat.le_of_ble_eq_true rfl⟩) ⟨Nat.zero_le _, Nat.zero_le _⟩ (rcF hK hP (ci := 2) rfl (ob_2 _ _ _)) hK hP hD hS hZ rfl hl.1 rfl (lv_room (Nat.le_of_ble_eq_true rfl)) dX9_robe_141 ?_
                        exact rwR hx hb hr hlocks hF hK hP hD hS dX9_robe_144
                      · have hF := ob_f c_13_9 hF
                        refine lv_tableOut (tgt := 145) hx hb dX9_robe_13 (by have a0 : ¬ p2.toInt = 0 := ob_ti c_13_0; have a1 : ¬ p2.toInt = 1 := ob_ti c_13_1; have a2 : ¬ p2.toInt = 2 := ob_ti c_13_2; have a3 : ¬ p2.toInt = 3 := ob_ti c_13_3; have a4 : ¬ p2.toInt = 4 := ob_ti c_13_4; have a5 : ¬ p2.toInt = 5 := ob_ti c_13_5; have a6 : ¬ p2.toInt = 6 := ob_ti c_13_6; have a7 : ¬ p2.toInt = 7 := ob_ti c_13_7; have a8 : ¬ p2.toInt = 8 := ob_ti c_13_8; have a9 : ¬ p2.toInt = 9 := ob_ti c_13_9; omega) (by decide) ?_
                        refine lv_iconst (v := (-1 : Int32)) hx hb dX9_robe_145 (by decide) ?_
                        exact rwR hx hb hr hlocks hF hK hP hD hS dX9_robe_146
  · have hF := oc_n e_7 hF
    refine lv_iconst (v := (-1 : Int32)) hx hb dX9_robe_10 (by decide) ?_
    exact rwR hx hb hr hlocks hF hK hP hD hS dX9_robe_11
def wsR_X9_piece : List Cond := Cond.code yX9_piece cX9_piece 6 (some .int) :: wRa
theorem cw_X9_X4_startOf_220 {R : Room} {s : State} {args : Array Value} {y : MethodName} {c : ByteArray} {n : Nat} {r : Option FieldType} (hts : ∀ w ∈ (Cond.code y c n r :: wRa), w.before args s = true) (hR : 0 + 1 ≤ R.frames ∧ 8 + (4 + 11) + 0 ≤ R.locals) : CallW R s args RX9 RX4 220 yX4_startOf cX4_startOf 4 (some .int) wsR_X4_startOf { frames := 0, cells := 0, slots := 0, locals := 0 } 0 0 1 := cwV 1 hts (goodV wRa_good rm_X9_220 ri_X4_startOf rs_X4_startOf rn_X4 rc_X4_startOf) rfl rfl rfl (by decide +kernel) hR
def FR_X9_piece (σ : RS) (p1 : Int32) (p2 : Int32) (p3 : Int32) (p4 : Int32) : Option Int32 := ((FR_X9_robeAt σ p1).bind fun q_2 => (oc q_2 (some (-1 : Int32)) (fun c_9 => ((FR_X9_within p2 (0 : Int32) (5 : Int32)).bind fun q_15 => (if q_15 = 0 then (some (-1 : Int32)) else (gd (isK σ c_9 4) ((pR σ c_9 1).bind fun r_25 => (gd (isK σ r_25 11) (gd (inb p2 (pN σ r_25)) ((FR_X9_within p3 (0 : Int32) ((pA σ r_25 p2.toNatClampNeg) - (1 : Int32))).bind fun q_32 => (if q_32 = 0 then (some (-1 : Int32)) else ((pR σ c_9 0).bind fun r_42 => ((FR_X4_startOf σ c_9 p2).bind fun q_48 => (gd (isK σ r_42 0) ((FR_X0_partOf σ r_42 (q_48 + p3) p4).bind fun q_55 => (some q_55))))))))))))))))
set_option maxHeartbeats 4000000 in
set_option maxRecDepth 100000 in
theorem cR_X9_piece (l : Launch) (D : va_G) (cs : Nat → ClassId) (ad tb : Nat → Nat) (A : Nat → Prop) (σ : RS) (p1 : Int32) (p2 : Int32) (p3 : Int32) (p4 : Int32) (q : Int32) (hF : FR_X9_piece σ p1 p2 p3 p4 = some q) : Met l yX9_piece wsR_X9_piece { frames := 2, cells := 0, slots := 0, locals := 43 } (va_Pc [.ref (ad 1009), .int p1, .int p2, .int p3, .int p4] (preQ D cs ad tb A σ)) (vp_Si (fun x => x = q)) 0 0 (fun _ => False) := by
  refine Met.ofW (cc := cX9_piece) (maxL := 6) (ret := (some .int)) (by decide) rfl ?_
  intro p e s m args below meth c s₁ B hml hv
  obtain ⟨rfl, hP, hK, hD, hZ⟩ := hv
  have hx := B.exec
  have hb := B.bytes
  have hr := B.returns
  have hts : ∀ w ∈ (Cond.code yX9_piece cX9_piece 6 (some .int) :: wRa), w.before ([.ref (ad 1009), .int p1, .int p2, .int p3, .int p4] : List Value).toArray s = true := atoms_spec (ws := wsR_X9_piece) B.pre
  have hin : ∀ w ∈ wRa, w ∈ (Cond.code yX9_piece cX9_piece 6 (some .int) :: wRa) := fun w hw => List.mem_cons_of_mem _ hw
  have hown : s.vm.findClass RX9 = some m.cls := findClass_of_methodNamed B.named
  have hlocks := B.notSynchronized
  have hS : va_S A s.heap s.heap [] := va_S.rf
  have hl := lv_entry ([.ref (ad 1009), .int p1, .int p2, .int p3, .int p4]) (n := 6) (Nat.le_of_ble_eq_true rfl)
  rw [lg_entry_eq]
  generalize (lg_sl ([.ref (ad 1009), .int p1, .int p2, .int p3, .int p4]) ++ List.replicate (6 - (lg_sl ([.ref (ad 1009), .int p1, .int p2, .int p3, .int p4])).length) Slot.unset).toArray = ls at hl ⊢
  have hl : lv_has ls 6 [(0, .ref (ad 1009)), (1, .int p1), (2, .int p2), (3, .int p3), (4, .int p4)] := hl
  unfold FR_X9_piece at hF
  refine lv_aload_n hx hb dX9_piece_0 rfl (lv_at hl 0 rfl) ?_
  refine lv_iload_n hx hb dX9_piece_1 rfl (lv_at hl 1 rfl) ?_
  obtain ⟨q_2, e_2, hF⟩ := ob_bd hF
  refine cqR (As := [.int p1]) (rest := []) ⟨hx, hb, hml, hown, hts⟩ (cR_X9_robeAt l D cs ad tb A σ p1 _ e_2) (cw_X9_X9_robeAt_190 hts ⟨Nat.le_of_ble_eq_true rfl, Nat.le_of_ble_eq_true rfl⟩) ⟨Nat.zero_le _, Nat.zero_le _⟩ (rcF hK hP (ci := 9) rfl (ob_9 _ _ _)) hK hP hD hS hZ rfl hl.1 rfl (lv_room (Nat.le_of_ble_eq_true rfl)) dX9_piece_2 ?_
  refine asQ (i := 5) (lv' := [(5, va_rf q_2), (0, .ref (ad 1009)), (1, .int p1), (2, .int p2), (3, .int p3), (4, .int p4)]) hx hb dX9_piece_5 hl (by decide) rfl (fun ls hl => ?_)
  refine alQ hx hb dX9_piece_7 (lv_at hl 0 rfl) ?_
  refine nlQ (tgt := 38) hx hb dX9_piece_9 (by decide) (fun e_9 => ?_) (fun c_9 e_9 => ?_)
  · have hF := oc_n e_9 hF
    refine lv_iconst (v := (-1 : Int32)) hx hb dX9_piece_38 (by decide) ?_
    exact rrM hx hb hr hlocks hF dX9_piece_39
  · have hF := oc_s e_9 hF
    refine lv_iload_n hx hb dX9_piece_12 rfl (lv_at hl 3 rfl) ?_
    refine lv_iconst (v := (0 : Int32)) hx hb dX9_piece_13 (by decide) ?_
    refine lv_iconst (v := (5 : Int32)) hx hb dX9_piece_14 (by decide) ?_
    obtain ⟨q_15, e_15, hF⟩ := ob_bd hF
    refine csR (As := [.int p2, .int (0 : Int32), .int (5 : Int32)]) (rest := []) ⟨hx, hb, hml, hown, hts⟩ (cR_X9_within l p2 (0 : Int32) (5 : Int32) _ e_15) (cw_X9_X9_within_88 hts ⟨Nat.le_of_ble_eq_true rfl, Nat.le_of_ble_eq_true rfl⟩) ⟨Nat.zero_le _, Nat.zero_le _⟩ rfl hl.1 rfl (lv_room (Nat.le_of_ble_eq_true rfl)) dX9_piece_15 ?_
    refine lv_if_eq (tgt := 38) hx hb dX9_piece_18 (by decide) (fun c_18 => ?_) (fun c_18 => ?_)
    · have hF := ob_t c_18 hF
      refine lv_iconst (v := (-1 : Int32)) hx hb dX9_piece_38 (by decide) ?_
      exact rrM hx hb hr hlocks hF dX9_piece_39
    · have hF := ob_f c_18 hF
      refine lv_iload_n hx hb dX9_piece_21 rfl (lv_at hl 4 rfl) ?_
      refine lv_iconst (v := (0 : Int32)) hx hb dX9_piece_22 (by decide) ?_
      refine alQ hx hb dX9_piece_23 (lv_at hl 0 rfl) ?_
      refine rfS e_9 ?_
      obtain ⟨k_25_1, hF⟩ := ob_gd hF
      refine gP hx hb hts hin wo_4 rfl hown hK hP k_25_1 (pf_4 (isK_K k_25_1)) 1 (va_rf (pR σ c_9 1)) (by decide) rf_X9_198 rfl dX9_piece_25 ?_
      obtain ⟨r_25, o_25, hF⟩ := ob_bd hF
      refine rfS o_25 ?_
      refine lv_iload_n hx hb dX9_piece_28 rfl (lv_at hl 3 rfl) ?_
      obtain ⟨k_29_2, hF⟩ := ob_gd hF
      obtain ⟨g_29, hF⟩ := ob_gd hF
      refine ldP hx hb hK hP k_29_2 (pA σ r_25 p2.toNatClampNeg) g_29 rfl dX9_piece_29 ?_
      refine lv_iconst (v := (1 : Int32)) hx hb dX9_piece_30 (by decide) ?_
      refine lv_isub hx hb dX9_piece_31 ?_
      obtain ⟨q_32, e_32, hF⟩ := ob_bd hF
      refine csR (As := [.int p3, .int (0 : Int32), .int ((pA σ r_25 p2.toNatClampNeg) - (1 : Int32))]) (rest := []) ⟨hx, hb, hml, hown, hts⟩ (cR_X9_within l p3 (0 : Int32) ((pA σ r_25 p2.toNatClampNeg) - (1 : Int32)) _ e_32) (cw_X9_X9_within_88 hts ⟨Nat.le_of_ble_eq_true rfl, Nat.le_of_ble_eq_true rfl⟩) ⟨Nat.zero_le _, Nat.zero_le _⟩ rfl hl.1 rfl (lv_room (Nat.le_of_ble_eq_true rfl)) dX9_piece_32 ?_
      refine lv_if_ne (tgt := 40) hx hb dX9_piece_35 (by decide) (fun c_35 => ?_) (fun c_35 => ?_)
      · have hF := ob_f c_35 hF
        refine alQ hx hb dX9_piece_40 (lv_at hl 0 rfl) ?_
        refine rfS e_9 ?_
        refine gP hx hb hts hin wo_4 rfl hown hK hP k_25_1 (pf_4 (isK_K k_25_1)) 0 (va_rf (pR σ c_9 0)) (by decide) rf_X9_194 rfl dX9_piece_42 ?_
        obtain ⟨r_42, o_42, hF⟩ := ob_bd hF
        refine rfS o_42 ?_
        refine alQ hx hb dX9_piece_45 (lv_at hl 0 rfl) ?_
        refine rfS e_9 ?_
        refine lv_iload_n hx hb dX9_piece_47 rfl (lv_at hl 3 rfl) ?_
        obtain ⟨q_48, e_48, hF⟩ := ob_bd hF
        refine crR (As := [.int p2]) (rest := [.ref r_42]) ⟨hx, hb, hml, hown, hts⟩ (cR_X4_startOf l D cs ad tb A σ c_9 p2 _ e_48) (cw_X9_X4_startOf_220 hts ⟨Nat.le_of_ble_eq_true rfl, Nat.le_of_ble_eq_true rfl⟩) ⟨Nat.zero_le _, Nat.zero_le _⟩ (rcP hK hP (ci := 4) rfl k_25_1 (pf_4 (isK_K k_25_1))) hK hP hD hS hZ rfl hl.1 rfl (lv_room (Nat.le_of_ble_eq_true rfl)) dX9_piece_48 ?_
        refine lv_iload_n hx hb dX9_piece_51 rfl (lv_at hl 4 rfl) ?_
        refine lv_iadd hx hb dX9_piece_52 ?_
        refine lv_iload hx hb dX9_piece_53 (lv_at hl 5 rfl) ?_
        obtain ⟨k_55_3, hF⟩ := ob_gd hF
        obtain ⟨q_55, e_55, hF⟩ := ob_bd hF
        refine crR (As := [.int (q_48 + p3), .int p4]) (rest := []) ⟨hx, hb, hml, hown, hts⟩ (cR_X0_partOf l D cs ad tb A σ r_42 (q_48 + p3) p4 _ e_55) (cw_X9_X0_partOf_133 hts ⟨Nat.le_of_ble_eq_true rfl, Nat.le_of_ble_eq_true rfl⟩) ⟨Nat.zero_le _, Nat.zero_le _⟩ (rcP hK hP (ci := 0) rfl k_55_3 (pf_0 (isK_K k_55_3))) hK hP hD hS hZ rfl hl.1 rfl (lv_room (Nat.le_of_ble_eq_true rfl)) dX9_piece_55 ?_
        exact rrM hx hb hr hlocks hF dX9_piece_58
      · have hF := ob_t c_35 hF
        refine lv_iconst (v := (-1 : Int32)) hx hb dX9_piece_38 (by decide) ?_
        exact rrM hx hb hr hlocks hF dX9_piece_39
def wsR_X9_miss : List Cond := Cond.code yX9_miss cX9_miss 4 (some .int) :: wRa
theorem cw_X9_X2_missOf_223 {R : Room} {s : State} {args : Array Value} {y : MethodName} {c : ByteArray} {n : Nat} {r : Option FieldType} (hts : ∀ w ∈ (Cond.code y c n r :: wRa), w.before args s = true) (hR : 2 + 1 ≤ R.frames ∧ 8 + (2 + 11) + 58 ≤ R.locals) : CallW R s args RX9 RX2 223 yX2_missOf cX2_missOf 2 (some .int) wsR_X2_missOf { frames := 2, cells := 0, slots := 0, locals := 58 } 0 0 1 := cwV 1 hts (goodV wRa_good rm_X9_223 ri_X2_missOf rs_X2_missOf rn_X2 rc_X2_missOf) rfl rfl rfl (by decide +kernel) hR
def FR_X9_miss (σ : RS) (p1 : Int32) (p2 : Int32) : Option (Int32 × RS) := ((FR_X9_robeAt σ p1).bind fun q_2 => (oc q_2 (some ((-1 : Int32), σ)) (fun c_7 => ((FR_X9_within p2 (0 : Int32) (4 : Int32)).bind fun q_13 => (if q_13 = 0 then (some ((-1 : Int32), σ)) else ((FR_X9_spreadRobe σ c_7).bind fun q_23 => ((FR_X2_missOf q_23 p2).bind fun q_31 => (some (q_31, q_23)))))))))
set_option maxHeartbeats 4000000 in
set_option maxRecDepth 100000 in
theorem cR_X9_miss (l : Launch) (D : va_G) (cs : Nat → ClassId) (ad tb : Nat → Nat) (A : Nat → Prop) (σ : RS) (p1 : Int32) (p2 : Int32) (q : (Int32 × RS)) (hF : FR_X9_miss σ p1 p2 = some q) : Met l yX9_miss wsR_X9_miss { frames := 4, cells := 0, slots := 0, locals := 93 } (va_Pc [.ref (ad 1009), .int p1, .int p2] (preQ D cs ad tb A σ)) (va_Qi (fun x u => x = q.1 ∧ u = q.2) (posQ D cs ad A) A) 0 0 A := by
  refine Met.ofW (cc := cX9_miss) (maxL := 4) (ret := (some .int)) (by decide) rfl ?_
  intro p e s m args below meth c s₁ B hml hv
  obtain ⟨rfl, hP, hK, hD, hZ⟩ := hv
  have hx := B.exec
  have hb := B.bytes
  have hr := B.returns
  have hts : ∀ w ∈ (Cond.code yX9_miss cX9_miss 4 (some .int) :: wRa), w.before ([.ref (ad 1009), .int p1, .int p2] : List Value).toArray s = true := atoms_spec (ws := wsR_X9_miss) B.pre
  have hin : ∀ w ∈ wRa, w ∈ (Cond.code yX9_miss cX9_miss 4 (some .int) :: wRa) := fun w hw => List.mem_cons_of_mem _ hw
  have hown : s.vm.findClass RX9 = some m.cls := findClass_of_methodNamed B.named
  have hlocks := B.notSynchronized
  have hS : va_S A s.heap s.heap [] := va_S.rf
  have hl := lv_entry ([.ref (ad 1009), .int p1, .int p2]) (n := 4) (Nat.le_of_ble_eq_true rfl)
  rw [lg_entry_eq]
  generalize (lg_sl ([.ref (ad 1009), .int p1, .int p2]) ++ List.replicate (4 - (lg_sl ([.ref (ad 1009), .int p1, .int p2])).length) Slot.unset).toArray = ls at hl ⊢
  have hl : lv_has ls 4 [(0, .ref (ad 1009)), (1, .int p1), (2, .int p2)] := hl
  unfold FR_X9_miss at hF
  refine lv_aload_n hx hb dX9_miss_0 rfl (lv_at hl 0 rfl) ?_
  refine lv_iload_n hx hb dX9_miss_1 rfl (lv_at hl 1 rfl) ?_
  obtain ⟨q_2, e_2, hF⟩ := ob_bd hF
  refine cqR (As := [.int p1]) (rest := []) ⟨hx, hb, hml, hown, hts⟩ (cR_X9_robeAt l D cs ad tb A σ p1 _ e_2) (cw_X9_X9_robeAt_190 hts ⟨Nat.le_of_ble_eq_true rfl, Nat.le_of_ble_eq_true rfl⟩) ⟨Nat.zero_le _, Nat.zero_le _⟩ (rcF hK hP (ci := 9) rfl (ob_9 _ _ _)) hK hP hD hS hZ rfl hl.1 rfl (lv_room (Nat.le_of_ble_eq_true rfl)) dX9_miss_2 ?_
  refine asQ_n (i := 3) (lv' := [(3, va_rf q_2), (0, .ref (ad 1009)), (1, .int p1), (2, .int p2)]) hx hb dX9_miss_5 rfl hl (by decide) rfl (fun ls hl => ?_)
  refine alQ_n hx hb dX9_miss_6 rfl (lv_at hl 0 rfl) ?_
  refine nlQ (tgt := 19) hx hb dX9_miss_7 (by decide) (fun e_7 => ?_) (fun c_7 e_7 => ?_)
  · have hF := oc_n e_7 hF
    refine lv_iconst (v := (-1 : Int32)) hx hb dX9_miss_19 (by decide) ?_
    exact rwR hx hb hr hlocks hF hK hP hD hS dX9_miss_20
  · have hF := oc_s e_7 hF
    refine lv_iload_n hx hb dX9_miss_10 rfl (lv_at hl 3 rfl) ?_
    refine lv_iconst (v := (0 : Int32)) hx hb dX9_miss_11 (by decide) ?_
    refine lv_iconst (v := (4 : Int32)) hx hb dX9_miss_12 (by decide) ?_
    obtain ⟨q_13, e_13, hF⟩ := ob_bd hF
    refine csR (As := [.int p2, .int (0 : Int32), .int (4 : Int32)]) (rest := []) ⟨hx, hb, hml, hown, hts⟩ (cR_X9_within l p2 (0 : Int32) (4 : Int32) _ e_13) (cw_X9_X9_within_88 hts ⟨Nat.le_of_ble_eq_true rfl, Nat.le_of_ble_eq_true rfl⟩) ⟨Nat.zero_le _, Nat.zero_le _⟩ rfl hl.1 rfl (lv_room (Nat.le_of_ble_eq_true rfl)) dX9_miss_13 ?_
    refine lv_if_ne (tgt := 21) hx hb dX9_miss_16 (by decide) (fun c_16 => ?_) (fun c_16 => ?_)
    · have hF := ob_f c_16 hF
      refine lv_aload_n hx hb dX9_miss_21 rfl (lv_at hl 1 rfl) ?_
      refine alQ_n hx hb dX9_miss_22 rfl (lv_at hl 0 rfl) ?_
      refine rfS e_7 ?_
      obtain ⟨q_23, e_23, hF⟩ := ob_bd hF
      refine cvR (As := [.ref c_7]) (rest := []) ⟨hx, hb, hml, hown, hts⟩ (cR_X9_spreadRobe l D cs ad tb A σ c_7 _ e_23) (cw_X9_X9_spreadRobe_213 hts ⟨Nat.le_of_ble_eq_true rfl, Nat.le_of_ble_eq_true rfl⟩) ⟨Nat.zero_le _, Nat.zero_le _⟩ (rcF hK hP (ci := 9) rfl (ob_9 _ _ _)) hK hP hD hS hZ rfl hl.1 rfl (lv_room (Nat.le_of_ble_eq_true rfl)) dX9_miss_23 (fun H locs hP hD hS => ?_)
      refine lv_aload_n hx hb dX9_miss_26 rfl (lv_at hl 1 rfl) ?_
      refine gF hx hb hts hin wo_9 rfl hown hK hP (ob_9 _ _ _) 10 (.ref (ad 1002)) (by decide) rf_X9_57 rfl dX9_miss_27 ?_
      refine lv_iload_n hx hb dX9_miss_30 rfl (lv_at hl 3 rfl) ?_
      obtain ⟨q_31, e_31, hF⟩ := ob_bd hF
      refine crR (As := [.int p2]) (rest := []) ⟨hx, hb, hml, hown, hts⟩ (cR_X2_missOf l D cs ad tb A q_23 p2 _ e_31) (cw_X9_X2_missOf_223 hts ⟨Nat.le_of_ble_eq_true rfl, Nat.le_of_ble_eq_true rfl⟩) ⟨Nat.zero_le _, Nat.zero_le _⟩ (rcF hK hP (ci := 2) rfl (ob_2 _ _ _)) hK hP hD hS hZ rfl hl.1 rfl (lv_room (Nat.le_of_ble_eq_true rfl)) dX9_miss_31 ?_
      exact rwR hx hb hr hlocks hF hK hP hD hS dX9_miss_34
    · have hF := ob_t c_16 hF
      refine lv_iconst (v := (-1 : Int32)) hx hb dX9_miss_19 (by decide) ?_
      exact rwR hx hb hr hlocks hF hK hP hD hS dX9_miss_20
def wsR_X9_wear : List Cond := Cond.code yX9_wear cX9_wear 3 (some .int) :: wRa
theorem cw_X9_X4_wearOnce_226 {R : Room} {s : State} {args : Array Value} {y : MethodName} {c : ByteArray} {n : Nat} {r : Option FieldType} (hts : ∀ w ∈ (Cond.code y c n r :: wRa), w.before args s = true) (hR : 1 + 1 ≤ R.frames ∧ 8 + (5 + 11) + 22 ≤ R.locals) : CallW R s args RX9 RX4 226 yX4_wearOnce cX4_wearOnce 5 (some .int) wsR_X4_wearOnce { frames := 1, cells := 0, slots := 0, locals := 22 } 0 0 0 := cwV 0 hts (goodV wRa_good rm_X9_226 ri_X4_wearOnce rs_X4_wearOnce rn_X4 rc_X4_wearOnce) rfl rfl rfl (by decide +kernel) hR
def FR_X9_wear (σ : RS) (p1 : Int32) : Option (Int32 × RS) := ((FR_X9_robeAt σ p1).bind fun q_2 => (oc q_2 (some ((-1 : Int32), σ)) (fun c_7 => (gd (isK σ c_7 4) ((FR_X4_wearOnce σ c_7).bind fun q_13 => (some (q_13.1, q_13.2)))))))
set_option maxHeartbeats 4000000 in
set_option maxRecDepth 100000 in
theorem cR_X9_wear (l : Launch) (D : va_G) (cs : Nat → ClassId) (ad tb : Nat → Nat) (A : Nat → Prop) (σ : RS) (p1 : Int32) (q : (Int32 × RS)) (hF : FR_X9_wear σ p1 = some q) : Met l yX9_wear wsR_X9_wear { frames := 2, cells := 0, slots := 0, locals := 46 } (va_Pc [.ref (ad 1009), .int p1] (preQ D cs ad tb A σ)) (va_Qi (fun x u => x = q.1 ∧ u = q.2) (posQ D cs ad A) A) 0 0 A := by
  refine Met.ofW (cc := cX9_wear) (maxL := 3) (ret := (some .int)) (by decide) rfl ?_
  intro p e s m args below meth c s₁ B hml hv
  obtain ⟨rfl, hP, hK, hD, hZ⟩ := hv
  have hx := B.exec
  have hb := B.bytes
  have hr := B.returns
  have hts : ∀ w ∈ (Cond.code yX9_wear cX9_wear 3 (some .int) :: wRa), w.before ([.ref (ad 1009), .int p1] : List Value).toArray s = true := atoms_spec (ws := wsR_X9_wear) B.pre
  have hin : ∀ w ∈ wRa, w ∈ (Cond.code yX9_wear cX9_wear 3 (some .int) :: wRa) := fun w hw => List.mem_cons_of_mem _ hw
  have hown : s.vm.findClass RX9 = some m.cls := findClass_of_methodNamed B.named
  have hlocks := B.notSynchronized
  have hS : va_S A s.heap s.heap [] := va_S.rf
  have hl := lv_entry ([.ref (ad 1009), .int p1]) (n := 3) (Nat.le_of_ble_eq_true rfl)
  rw [lg_entry_eq]
  generalize (lg_sl ([.ref (ad 1009), .int p1]) ++ List.replicate (3 - (lg_sl ([.ref (ad 1009), .int p1])).length) Slot.unset).toArray = ls at hl ⊢
  have hl : lv_has ls 3 [(0, .ref (ad 1009)), (1, .int p1)] := hl
  unfold FR_X9_wear at hF
  refine lv_aload_n hx hb dX9_wear_0 rfl (lv_at hl 0 rfl) ?_
  refine lv_iload_n hx hb dX9_wear_1 rfl (lv_at hl 1 rfl) ?_
  obtain ⟨q_2, e_2, hF⟩ := ob_bd hF
  refine cqR (As := [.int p1]) (rest := []) ⟨hx, hb, hml, hown, hts⟩ (cR_X9_robeAt l D cs ad tb A σ p1 _ e_2) (cw_X9_X9_robeAt_190 hts ⟨Nat.le_of_ble_eq_true rfl, Nat.le_of_ble_eq_true rfl⟩) ⟨Nat.zero_le _, Nat.zero_le _⟩ (rcF hK hP (ci := 9) rfl (ob_9 _ _ _)) hK hP hD hS hZ rfl hl.1 rfl (lv_room (Nat.le_of_ble_eq_true rfl)) dX9_wear_2 ?_
  refine asQ_n (i := 2) (lv' := [(2, va_rf q_2), (0, .ref (ad 1009)), (1, .int p1)]) hx hb dX9_wear_5 rfl hl (by decide) rfl (fun ls hl => ?_)
  refine alQ_n hx hb dX9_wear_6 rfl (lv_at hl 0 rfl) ?_
  refine nnQ (tgt := 12) hx hb dX9_wear_7 (by decide) (fun c_7 e_7 => ?_) (fun e_7 => ?_)
  · have hF := oc_s e_7 hF
    refine alQ_n hx hb dX9_wear_12 rfl (lv_at hl 0 rfl) ?_
    refine rfS e_7 ?_
    obtain ⟨k_13_1, hF⟩ := ob_gd hF
    obtain ⟨q_13, e_13, hF⟩ := ob_bd hF
    refine cwR (As := []) (rest := []) ⟨hx, hb, hml, hown, hts⟩ (cR_X4_wearOnce l D cs ad tb A σ c_7 _ e_13) (cw_X9_X4_wearOnce_226 hts ⟨Nat.le_of_ble_eq_true rfl, Nat.le_of_ble_eq_true rfl⟩) ⟨Nat.zero_le _, Nat.zero_le _⟩ (rcP hK hP (ci := 4) rfl k_13_1 (pf_4 (isK_K k_13_1))) hK hP hD hS hZ rfl hl.1 rfl (lv_room (Nat.le_of_ble_eq_true rfl)) dX9_wear_13 (fun H locs hP hD hS => ?_)
    exact rwR hx hb hr hlocks hF hK hP hD hS dX9_wear_16
  · have hF := oc_n e_7 hF
    refine lv_iconst (v := (-1 : Int32)) hx hb dX9_wear_10 (by decide) ?_
    exact rwR hx hb hr hlocks hF hK hP hD hS dX9_wear_11
def wsR_X9_unline : List Cond := Cond.code yX9_unline cX9_unline 4 (some .int) :: wRa
theorem cw_X9_X9_keepBolt_118 {R : Room} {s : State} {args : Array Value} {y : MethodName} {c : ByteArray} {n : Nat} {r : Option FieldType} (hts : ∀ w ∈ (Cond.code y c n r :: wRa), w.before args s = true) (hR : 0 + 1 ≤ R.frames ∧ 8 + (2 + 11) + 0 ≤ R.locals) : CallW R s args RX9 RX9 118 yX9_keepBolt cX9_keepBolt 2 (some .int) wsR_X9_keepBolt { frames := 0, cells := 0, slots := 0, locals := 0 } 0 0 1 := cwV 1 hts (goodV wRa_good rm_X9_118 ri_X9_keepBolt rs_X9_keepBolt rn_X9 rc_X9_keepBolt) rfl rfl rfl (by decide +kernel) hR
def FR_X9_unline (σ : RS) (p1 : Int32) : Option (Int32 × RS) := ((FR_X9_robeAt σ p1).bind fun q_2 => (oc q_2 (some ((-1 : Int32), σ)) (fun c_7 => (gd (isK σ c_7 4) (oc (pR σ c_7 2) (some ((-3 : Int32), σ)) (fun c_16 => (if (rI σ 903) < (40 : Int32) then ((FR_X9_keepBolt (wr σ c_7 2 none) c_16).bind fun q_46 => (some (q_46.1, q_46.2))) else (some ((-4 : Int32), σ)))))))))
set_option maxHeartbeats 4000000 in
set_option maxRecDepth 100000 in
theorem cR_X9_unline (l : Launch) (D : va_G) (cs : Nat → ClassId) (ad tb : Nat → Nat) (A : Nat → Prop) (σ : RS) (p1 : Int32) (q : (Int32 × RS)) (hF : FR_X9_unline σ p1 = some q) : Met l yX9_unline wsR_X9_unline { frames := 2, cells := 0, slots := 0, locals := 43 } (va_Pc [.ref (ad 1009), .int p1] (preQ D cs ad tb A σ)) (va_Qi (fun x u => x = q.1 ∧ u = q.2) (posQ D cs ad A) A) 0 0 A := by
  refine Met.ofW (cc := cX9_unline) (maxL := 4) (ret := (some .int)) (by decide) rfl ?_
  intro p e s m args below meth c s₁ B hml hv
  obtain ⟨rfl, hP, hK, hD, hZ⟩ := hv
  have hx := B.exec
  have hb := B.bytes
  have hr := B.returns
  have hts : ∀ w ∈ (Cond.code yX9_unline cX9_unline 4 (some .int) :: wRa), w.before ([.ref (ad 1009), .int p1] : List Value).toArray s = true := atoms_spec (ws := wsR_X9_unline) B.pre
  have hin : ∀ w ∈ wRa, w ∈ (Cond.code yX9_unline cX9_unline 4 (some .int) :: wRa) := fun w hw => List.mem_cons_of_mem _ hw
  have hown : s.vm.findClass RX9 = some m.cls := findClass_of_methodNamed B.named
  have hlocks := B.notSynchronized
  have hS : va_S A s.heap s.heap [] := va_S.rf
  have hl := lv_entry ([.ref (ad 1009), .int p1]) (n := 4) (Nat.le_of_ble_eq_true rfl)
  rw [lg_entry_eq]
  generalize (lg_sl ([.ref (ad 1009), .int p1]) ++ List.replicate (4 - (lg_sl ([.ref (ad 1009), .int p1])).length) Slot.unset).toArray = ls at hl ⊢
  have hl : lv_has ls 4 [(0, .ref (ad 1009)), (1, .int p1)] := hl
  unfold FR_X9_unline at hF
  refine lv_aload_n hx hb dX9_unline_0 rfl (lv_at hl 0 rfl) ?_
  refine lv_iload_n hx hb dX9_unline_1 rfl (lv_at hl 1 rfl) ?_
  obtain ⟨q_2, e_2, hF⟩ := ob_bd hF
  refine cqR (As := [.int p1]) (rest := []) ⟨hx, hb, hml, hown, hts⟩ (cR_X9_robeAt l D cs ad tb A σ p1 _ e_2) (cw_X9_X9_robeAt_190 hts ⟨Nat.le_of_ble_eq_true rfl, Nat.le_of_ble_eq_true rfl⟩) ⟨Nat.zero_le _, Nat.zero_le _⟩ (rcF hK hP (ci := 9) rfl (ob_9 _ _ _)) hK hP hD hS hZ rfl hl.1 rfl (lv_room (Nat.le_of_ble_eq_true rfl)) dX9_unline_2 ?_
  refine asQ_n (i := 2) (lv' := [(2, va_rf q_2), (0, .ref (ad 1009)), (1, .int p1)]) hx hb dX9_unline_5 rfl hl (by decide) rfl (fun ls hl => ?_)
  refine alQ_n hx hb dX9_unline_6 rfl (lv_at hl 0 rfl) ?_
  refine nnQ (tgt := 12) hx hb dX9_unline_7 (by decide) (fun c_7 e_7 => ?_) (fun e_7 => ?_)
  · have hF := oc_s e_7 hF
    refine alQ_n hx hb dX9_unline_12 rfl (lv_at hl 0 rfl) ?_
    refine rfS e_7 ?_
    obtain ⟨k_13_1, hF⟩ := ob_gd hF
    refine gP hx hb hts hin wo_4 rfl hown hK hP k_13_1 (pf_4 (isK_K k_13_1)) 2 (va_rf (pR σ c_7 2)) (by decide) rf_X9_201 rfl dX9_unline_13 ?_
    refine nnQ (tgt := 22) hx hb dX9_unline_16 (by decide) (fun c_16 e_16 => ?_) (fun e_16 => ?_)
    · have hF := oc_s e_16 hF
      refine lv_aload_n hx hb dX9_unline_22 rfl (lv_at hl 1 rfl) ?_
      refine gF hx hb hts hin wo_9 rfl hown hK hP (ob_9 _ _ _) 3 (.int (rI σ 903)) (by decide) rf_X9_99 rfl dX9_unline_23 ?_
      refine lv_bipush (v := (40 : Int32)) hx hb dX9_unline_26 (by decide) ?_
      refine lv_icmp_lt (tgt := 34) hx hb dX9_unline_28 (by decide) (fun c_28 => ?_) (fun c_28 => ?_)
      · have hF := ob_t c_28 hF
        refine alQ_n hx hb dX9_unline_34 rfl (lv_at hl 0 rfl) ?_
        refine rfS e_7 ?_
        refine gP hx hb hts hin wo_4 rfl hown hK hP k_13_1 (pf_4 (isK_K k_13_1)) 2 (va_rf (pR σ c_7 2)) (by decide) rf_X9_201 rfl dX9_unline_35 ?_
        refine asQ_n (i := 3) (lv' := [(3, va_rf (pR σ c_7 2)), (2, va_rf q_2), (0, .ref (ad 1009)), (1, .int p1)]) hx hb dX9_unline_38 rfl hl (by decide) (by simp [rf_cat]) (fun ls hl => ?_)
        refine alQ_n hx hb dX9_unline_39 rfl (lv_at hl 1 rfl) ?_
        refine rfS e_7 ?_
        refine lv_null hx hb dX9_unline_40 ?_
        refine pP (ρ2 := (wr σ c_7 2 none)) (ty := .object "RobeHouse$Cloth") hx hb hts hin wo_4 rfl tyX4 tyX4_ok nmX4 hown hK hP hD hS k_13_1 (pf_4 (isK_K k_13_1)) 2 (by decide) rf_X9_201 rfl (by decide +kernel) rfl rfl (Nat.le_of_ble_eq_true rfl) (xR_wr _ _ _ _ _ _) (pL_wr _ _ _ _) (pw_4_2 (ρ := σ) (isK_K k_13_1) none) dX9_unline_41 (fun H locs hP hD hS => ?_)
        refine lv_aload_n hx hb dX9_unline_44 rfl (lv_at hl 2 rfl) ?_
        refine alQ_n hx hb dX9_unline_45 rfl (lv_at hl 0 rfl) ?_
        refine rfS e_16 ?_
        obtain ⟨q_46, e_46, hF⟩ := ob_bd hF
        refine cwR (As := [.ref c_16]) (rest := []) ⟨hx, hb, hml, hown, hts⟩ (cR_X9_keepBolt l D cs ad tb A (wr σ c_7 2 none) c_16 _ e_46) (cw_X9_X9_keepBolt_118 hts ⟨Nat.le_of_ble_eq_true rfl, Nat.le_of_ble_eq_true rfl⟩) ⟨Nat.zero_le _, Nat.zero_le _⟩ (rcF hK hP (ci := 9) rfl (ob_9 _ _ _)) hK hP hD hS hZ rfl hl.1 rfl (lv_room (Nat.le_of_ble_eq_true rfl)) dX9_unline_46 (fun H locs hP hD hS => ?_)
        exact rwR hx hb hr hlocks hF hK hP hD hS dX9_unline_49
      · have hF := ob_f c_28 hF
        refine lv_bipush (v := (-4 : Int32)) hx hb dX9_unline_31 (by decide) ?_
        exact rwR hx hb hr hlocks hF hK hP hD hS dX9_unline_33
    · have hF := oc_n e_16 hF
      refine lv_bipush (v := (-3 : Int32)) hx hb dX9_unline_19 (by decide) ?_
      exact rwR hx hb hr hlocks hF hK hP hD hS dX9_unline_21
  · have hF := oc_n e_7 hF
    refine lv_iconst (v := (-1 : Int32)) hx hb dX9_unline_10 (by decide) ?_
    exact rwR hx hb hr hlocks hF hK hP hD hS dX9_unline_11
def wsR_X9_chest : List Cond := Cond.code yX9_chest cX9_chest 5 (some .int) :: wRa
def FR_X9_chest (σ : RS) (p1 : Int32) (p2 : Int32) : Option (Int32 × RS) := ((FR_X9_robeAt σ p1).bind fun q_2 => (oc q_2 (some ((-5 : Int32), σ)) (fun c_7 => ((FR_X9_within p2 (-1 : Int32) (3 : Int32)).bind fun q_13 => (if q_13 = 0 then (some ((-5 : Int32), σ)) else (gd (isK σ c_7 4) (if (pI σ c_7 4) = (-1 : Int32) then (some ((pI σ c_7 3), (wi σ c_7 3 p2))) else (some ((-3 : Int32), σ)))))))))
set_option maxHeartbeats 4000000 in
set_option maxRecDepth 100000 in
theorem cR_X9_chest (l : Launch) (D : va_G) (cs : Nat → ClassId) (ad tb : Nat → Nat) (A : Nat → Prop) (σ : RS) (p1 : Int32) (p2 : Int32) (q : (Int32 × RS)) (hF : FR_X9_chest σ p1 p2 = some q) : Met l yX9_chest wsR_X9_chest { frames := 2, cells := 0, slots := 0, locals := 43 } (va_Pc [.ref (ad 1009), .int p1, .int p2] (preQ D cs ad tb A σ)) (va_Qi (fun x u => x = q.1 ∧ u = q.2) (posQ D cs ad A) A) 0 0 A := by
  refine Met.ofW (cc := cX9_chest) (maxL := 5) (ret := (some .int)) (by decide) rfl ?_
  intro p e s m args below meth c s₁ B hml hv
  obtain ⟨rfl, hP, hK, hD, hZ⟩ := hv
  have hx := B.exec
  have hb := B.bytes
  have hr := B.returns
  have hts : ∀ w ∈ (Cond.code yX9_chest cX9_chest 5 (some .int) :: wRa), w.before ([.ref (ad 1009), .int p1, .int p2] : List Value).toArray s = true := atoms_spec (ws := wsR_X9_chest) B.pre
  have hin : ∀ w ∈ wRa, w ∈ (Cond.code yX9_chest cX9_chest 5 (some .int) :: wRa) := fun w hw => List.mem_cons_of_mem _ hw
  have hown : s.vm.findClass RX9 = some m.cls := findClass_of_methodNamed B.named
  have hlocks := B.notSynchronized
  have hS : va_S A s.heap s.heap [] := va_S.rf
  have hl := lv_entry ([.ref (ad 1009), .int p1, .int p2]) (n := 5) (Nat.le_of_ble_eq_true rfl)
  rw [lg_entry_eq]
  generalize (lg_sl ([.ref (ad 1009), .int p1, .int p2]) ++ List.replicate (5 - (lg_sl ([.ref (ad 1009), .int p1, .int p2])).length) Slot.unset).toArray = ls at hl ⊢
  have hl : lv_has ls 5 [(0, .ref (ad 1009)), (1, .int p1), (2, .int p2)] := hl
  unfold FR_X9_chest at hF
  refine lv_aload_n hx hb dX9_chest_0 rfl (lv_at hl 0 rfl) ?_
  refine lv_iload_n hx hb dX9_chest_1 rfl (lv_at hl 1 rfl) ?_
  obtain ⟨q_2, e_2, hF⟩ := ob_bd hF
  refine cqR (As := [.int p1]) (rest := []) ⟨hx, hb, hml, hown, hts⟩ (cR_X9_robeAt l D cs ad tb A σ p1 _ e_2) (cw_X9_X9_robeAt_190 hts ⟨Nat.le_of_ble_eq_true rfl, Nat.le_of_ble_eq_true rfl⟩) ⟨Nat.zero_le _, Nat.zero_le _⟩ (rcF hK hP (ci := 9) rfl (ob_9 _ _ _)) hK hP hD hS hZ rfl hl.1 rfl (lv_room (Nat.le_of_ble_eq_true rfl)) dX9_chest_2 ?_
  refine asQ_n (i := 3) (lv' := [(3, va_rf q_2), (0, .ref (ad 1009)), (1, .int p1), (2, .int p2)]) hx hb dX9_chest_5 rfl hl (by decide) rfl (fun ls hl => ?_)
  refine alQ_n hx hb dX9_chest_6 rfl (lv_at hl 0 rfl) ?_
  refine nlQ (tgt := 19) hx hb dX9_chest_7 (by decide) (fun e_7 => ?_) (fun c_7 e_7 => ?_)
  · have hF := oc_n e_7 hF
    refine lv_bipush (v := (-5 : Int32)) hx hb dX9_chest_19 (by decide) ?_
    exact rwR hx hb hr hlocks hF hK hP hD hS dX9_chest_21
  · have hF := oc_s e_7 hF
    refine lv_iload_n hx hb dX9_chest_10 rfl (lv_at hl 3 rfl) ?_
    refine lv_iconst (v := (-1 : Int32)) hx hb dX9_chest_11 (by decide) ?_
    refine lv_iconst (v := (3 : Int32)) hx hb dX9_chest_12 (by decide) ?_
    obtain ⟨q_13, e_13, hF⟩ := ob_bd hF
    refine csR (As := [.int p2, .int (-1 : Int32), .int (3 : Int32)]) (rest := []) ⟨hx, hb, hml, hown, hts⟩ (cR_X9_within l p2 (-1 : Int32) (3 : Int32) _ e_13) (cw_X9_X9_within_88 hts ⟨Nat.le_of_ble_eq_true rfl, Nat.le_of_ble_eq_true rfl⟩) ⟨Nat.zero_le _, Nat.zero_le _⟩ rfl hl.1 rfl (lv_room (Nat.le_of_ble_eq_true rfl)) dX9_chest_13 ?_
    refine lv_if_ne (tgt := 22) hx hb dX9_chest_16 (by decide) (fun c_16 => ?_) (fun c_16 => ?_)
    · have hF := ob_f c_16 hF
      refine alQ_n hx hb dX9_chest_22 rfl (lv_at hl 0 rfl) ?_
      refine rfS e_7 ?_
      obtain ⟨k_23_1, hF⟩ := ob_gd hF
      refine gP hx hb hts hin wo_4 rfl hown hK hP k_23_1 (pf_4 (isK_K k_23_1)) 4 (.int (pI σ c_7 4)) (by decide) rf_X9_210 rfl dX9_chest_23 ?_
      refine lv_iconst (v := (-1 : Int32)) hx hb dX9_chest_26 (by decide) ?_
      refine lv_icmp_eq (tgt := 33) hx hb dX9_chest_27 (by decide) (fun c_27 => ?_) (fun c_27 => ?_)
      · have hF := ob_t c_27 hF
        refine alQ_n hx hb dX9_chest_33 rfl (lv_at hl 0 rfl) ?_
        refine rfS e_7 ?_
        refine gP hx hb hts hin wo_4 rfl hown hK hP k_23_1 (pf_4 (isK_K k_23_1)) 3 (.int (pI σ c_7 3)) (by decide) rf_X9_207 rfl dX9_chest_34 ?_
        refine lv_istore (i := 4) (lv' := [(4, .int (pI σ c_7 3)), (3, va_rf q_2), (0, .ref (ad 1009)), (1, .int p1), (2, .int p2)]) hx hb dX9_chest_37 hl (by decide) (by simp [rf_cat]) (fun ls hl => ?_)
        refine alQ_n hx hb dX9_chest_39 rfl (lv_at hl 1 rfl) ?_
        refine rfS e_7 ?_
        refine lv_iload_n hx hb dX9_chest_40 rfl (lv_at hl 4 rfl) ?_
        refine pP (ρ2 := (wi σ c_7 3 p2)) (ty := .int) hx hb hts hin wo_4 rfl tyX4 tyX4_ok nmX4 hown hK hP hD hS k_23_1 (pf_4 (isK_K k_23_1)) 3 (by decide) rf_X9_207 rfl (by decide +kernel) rfl rfl (Nat.le_of_ble_eq_true rfl) (xR_wi _ _ _ _ _ _) (pL_wi _ _ _ _) (pw_4_3 (ρ := σ) (isK_K k_23_1) _) dX9_chest_41 (fun H locs hP hD hS => ?_)
        refine lv_iload hx hb dX9_chest_44 (lv_at hl 0 rfl) ?_
        exact rwR hx hb hr hlocks hF hK hP hD hS dX9_chest_46
      · have hF := ob_f c_27 hF
        refine lv_bipush (v := (-3 : Int32)) hx hb dX9_chest_30 (by decide) ?_
        exact rwR hx hb hr hlocks hF hK hP hD hS dX9_chest_32
    · have hF := ob_t c_16 hF
      refine lv_bipush (v := (-5 : Int32)) hx hb dX9_chest_19 (by decide) ?_
      exact rwR hx hb hr hlocks hF hK hP hD hS dX9_chest_21
