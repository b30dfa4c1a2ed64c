def wsR_X0_init : List Cond := Cond.code yX0_init cX0_init 4 none :: wRa
def FR_X0_init (σ : RS) (a0 : Nat) (p1 : Nat) (p2 : Int32) (p3 : Int32) : Option RS := (gd (isK σ a0 0) (some (wi (wi (wr σ a0 0 (some p1)) a0 1 p2) a0 2 p3)))
set_option maxHeartbeats 4000000 in
set_option maxRecDepth 100000 in
theorem cR_X0_init (l : Launch) (D : va_G) (cs : Nat → ClassId) (ad tb : Nat → Nat) (A : Nat → Prop) (σ : RS) (a0 : Nat) (p1 : Nat) (p2 : Int32) (p3 : Int32) (q : RS) (hF : FR_X0_init σ a0 p1 p2 p3 = some q) : Met l yX0_init wsR_X0_init { frames := 1, cells := 0, slots := 0, locals := 20 } (va_Pc [.ref a0, .ref p1, .int p2, .int p3] (preQ D cs ad tb A σ)) (va_Qv (fun u => u = q) (posQ D cs ad A) A) 0 0 A := by
  refine Met.ofW (cc := cX0_init) (maxL := 4) (ret := none) (by decide) rfl ?_
  intro p e s m args below meth c s₁ B hml hv
  obtain ⟨rfl, hP, hK, hD, hZ⟩ := hv
  have hx := B.exec
  have hb := B.bytes
  have hr := B.returns
  have hts : ∀ w ∈ (Cond.code yX0_init cX0_init 4 none :: wRa), w.before ([.ref a0, .ref p1, .int p2, .int p3] : List Value).toArray s = true := atoms_spec (ws := wsR_X0_init) B.pre
  have hin : ∀ w ∈ wRa, w ∈ (Cond.code yX0_init cX0_init 4 none :: wRa) := fun w hw => List.mem_cons_of_mem _ hw
  have hown : s.vm.findClass RX0 = some m.cls := findClass_of_methodNamed B.named
  have hlocks := B.notSynchronized
  have hS : va_S A s.heap s.heap [] := va_S.rf
  have hin2 : meth.name = "<init>" := (name_of_methodNamed B.named B.method).1
  have hl := lv_entry ([.ref a0, .ref p1, .int p2, .int p3]) (n := 4) (Nat.le_of_ble_eq_true rfl)
  rw [lg_entry_eq]
  generalize (lg_sl ([.ref a0, .ref p1, .int p2, .int p3]) ++ List.replicate (4 - (lg_sl ([.ref a0, .ref p1, .int p2, .int p3])).length) Slot.unset).toArray = ls at hl ⊢
  have hl : lv_has ls 4 [(0, .ref a0), (1, .ref p1), (2, .int p2), (3, .int p3)] := hl
  unfold FR_X0_init at hF
  refine lv_aload_n hx hb dX0_init_0 rfl (lv_at hl 0 rfl) ?_
  refine W.objInit hx hb hown (hts _ (hin _ rm_X0_3)) (hts _ (hin _ rx_1)) (hts _ (hin _ rx_2)) rfl (by rw [hml]; exact hl.1) rfl dX0_init_1 (Nat.le_of_ble_eq_true rfl) (Nat.le_of_ble_eq_true rfl) ?_
  refine W.eq (g2 := F0 m 4 ls []) rfl ?_
  refine lv_aload_n hx hb dX0_init_4 rfl (lv_at hl 0 rfl) ?_
  refine lv_aload_n hx hb dX0_init_5 rfl (lv_at hl 1 rfl) ?_
  obtain ⟨k_6_1, hF⟩ := ob_gd hF
  refine pP (ρ2 := (wr σ a0 0 (some p1))) (ty := .array .int) hx hb hts hin wo_0 rfl tyX0 tyX0_ok nmX0 hown hK hP hD hS k_6_1 (pf_0 (isK_K k_6_1)) 0 (by decide) rf_X0_9 rfl (by decide +kernel) rfl rfl (Nat.le_of_ble_eq_true rfl) (xR_wr _ _ _ _ _ _) (pL_wr _ _ _ _) (pw_0_0 (ρ := σ) (isK_K k_6_1) (some p1)) dX0_init_6 (fun H locs hP hD hS => ?_)
  refine lv_aload_n hx hb dX0_init_9 rfl (lv_at hl 0 rfl) ?_
  refine lv_iload_n hx hb dX0_init_10 rfl (lv_at hl 2 rfl) ?_
  refine pP (ρ2 := (wi (wr σ a0 0 (some p1)) a0 1 p2)) (ty := .int) hx hb hts hin wo_0 rfl tyX0 tyX0_ok nmX0 hown hK hP hD hS (isK_wr k_6_1) (pf_0 (isK_K (isK_wr k_6_1))) 1 (by decide) rf_X0_15 rfl (by decide +kernel) rfl rfl (Nat.le_of_ble_eq_true rfl) (xR_wi _ _ _ _ _ _) (pL_wi _ _ _ _) (pw_0_1 (ρ := (wr σ a0 0 (some p1))) (isK_K (isK_wr k_6_1)) _) dX0_init_11 (fun H locs hP hD hS => ?_)
  refine lv_aload_n hx hb dX0_init_14 rfl (lv_at hl 0 rfl) ?_
  refine lv_iload_n hx hb dX0_init_15 rfl (lv_at hl 3 rfl) ?_
  refine pPF (ρ2 := (wi (wi (wr σ a0 0 (some p1)) a0 1 p2) a0 2 p3)) (ty := .int) hx hb hts hin wo_0 rfl tyX0 tyX0_ok nmX0 hown hK hP hD hS (isK_wi (isK_wr k_6_1)) (pf_0 (isK_K (isK_wi (isK_wr k_6_1)))) 2 (by decide) rf_X0_19 rfl hin2 rfl (by decide +kernel) rfl rfl (Nat.le_of_ble_eq_true rfl) (xR_wi _ _ _ _ _ _) (pL_wi _ _ _ _) (pw_0_2 (ρ := (wi (wr σ a0 0 (some p1)) a0 1 p2)) (isK_K (isK_wi (isK_wr k_6_1))) _) dX0_init_16 (fun H locs hP hD hS => ?_)
  exact rvR hx hb hr hlocks hF hK hP hD hS dX0_init_19
def wsR_X4_init : List Cond := Cond.code yX4_init cX4_init 3 none :: wRa
def FR_X4_init (σ : RS) (a0 : Nat) (p1 : Nat) (p2 : Nat) : Option RS := (gd (isK σ a0 4) (some (wr (wr (wi (wi (wr σ a0 2 none) a0 3 (-1 : Int32)) a0 4 (-1 : Int32)) a0 0 (some p1)) a0 1 (some p2))))
set_option maxHeartbeats 4000000 in
set_option maxRecDepth 100000 in
theorem cR_X4_init (l : Launch) (D : va_G) (cs : Nat → ClassId) (ad tb : Nat → Nat) (A : Nat → Prop) (σ : RS) (a0 : Nat) (p1 : Nat) (p2 : Nat) (q : RS) (hF : FR_X4_init σ a0 p1 p2 = some q) : Met l yX4_init wsR_X4_init { frames := 1, cells := 0, slots := 0, locals := 20 } (va_Pc [.ref a0, .ref p1, .ref p2] (preQ D cs ad tb A σ)) (va_Qv (fun u => u = q) (posQ D cs ad A) A) 0 0 A := by
  refine Met.ofW (cc := cX4_init) (maxL := 3) (ret := none) (by decide) rfl ?_
  intro p e s m args below meth c s₁ B hml hv
  obtain ⟨rfl, hP, hK, hD, hZ⟩ := hv
  have hx := B.exec
  have hb := B.bytes
  have hr := B.returns
  have hts : ∀ w ∈ (Cond.code yX4_init cX4_init 3 none :: wRa), w.before ([.ref a0, .ref p1, .ref p2] : List Value).toArray s = true := atoms_spec (ws := wsR_X4_init) B.pre
  have hin : ∀ w ∈ wRa, w ∈ (Cond.code yX4_init cX4_init 3 none :: wRa) := fun w hw => List.mem_cons_of_mem _ hw
  have hown : s.vm.findClass RX4 = some m.cls := findClass_of_methodNamed B.named
  have hlocks := B.notSynchronized
  have hS : va_S A s.heap s.heap [] := va_S.rf
  have hin2 : meth.name = "<init>" := (name_of_methodNamed B.named B.method).1
  have hl := lv_entry ([.ref a0, .ref p1, .ref p2]) (n := 3) (Nat.le_of_ble_eq_true rfl)
  rw [lg_entry_eq]
  generalize (lg_sl ([.ref a0, .ref p1, .ref p2]) ++ List.replicate (3 - (lg_sl ([.ref a0, .ref p1, .ref p2])).length) Slot.unset).toArray = ls at hl ⊢
  have hl : lv_has ls 3 [(0, .ref a0), (1, .ref p1), (2, .ref p2)] := hl
  unfold FR_X4_init at hF
  refine lv_aload_n hx hb dX4_init_0 rfl (lv_at hl 0 rfl) ?_
  refine W.objInit hx hb hown (hts _ (hin _ rm_X4_3)) (hts _ (hin _ rx_1)) (hts _ (hin _ rx_2)) rfl (by rw [hml]; exact hl.1) rfl dX4_init_1 (Nat.le_of_ble_eq_true rfl) (Nat.le_of_ble_eq_true rfl) ?_
  refine W.eq (g2 := F0 m 4 ls []) rfl ?_
  refine lv_aload_n hx hb dX4_init_4 rfl (lv_at hl 0 rfl) ?_
  refine lv_null hx hb dX4_init_5 ?_
  obtain ⟨k_6_1, hF⟩ := ob_gd hF
  refine pP (ρ2 := (wr σ a0 2 none)) (ty := .object "RobeHouse$Cloth") hx hb hts hin wo_4 rfl tyX4 tyX4_ok nmX4 hown hK hP hD hS k_6_1 (pf_4 (isK_K k_6_1)) 2 (by decide) rf_X4_9 rfl (by decide +kernel) rfl rfl (Nat.le_of_ble_eq_true rfl) (xR_wr _ _ _ _ _ _) (pL_wr _ _ _ _) (pw_4_2 (ρ := σ) (isK_K k_6_1) none) dX4_init_6 (fun H locs hP hD hS => ?_)
  refine lv_aload_n hx hb dX4_init_9 rfl (lv_at hl 0 rfl) ?_
  refine lv_iconst (v := (-1 : Int32)) hx hb dX4_init_10 (by decide) ?_
  refine pP (ρ2 := (wi (wr σ a0 2 none) a0 3 (-1 : Int32))) (ty := .int) hx hb hts hin wo_4 rfl tyX4 tyX4_ok nmX4 hown hK hP hD hS (isK_wr k_6_1) (pf_4 (isK_K (isK_wr k_6_1))) 3 (by decide) rf_X4_15 rfl (by decide +kernel) rfl rfl (Nat.le_of_ble_eq_true rfl) (xR_wi _ _ _ _ _ _) (pL_wi _ _ _ _) (pw_4_3 (ρ := (wr σ a0 2 none)) (isK_K (isK_wr k_6_1)) _) dX4_init_11 (fun H locs hP hD hS => ?_)
  refine lv_aload_n hx hb dX4_init_14 rfl (lv_at hl 0 rfl) ?_
  refine lv_iconst (v := (-1 : Int32)) hx hb dX4_init_15 (by decide) ?_
  refine pP (ρ2 := (wi (wi (wr σ a0 2 none) a0 3 (-1 : Int32)) a0 4 (-1 : Int32))) (ty := .int) hx hb hts hin wo_4 rfl tyX4 tyX4_ok nmX4 hown hK hP hD hS (isK_wi (isK_wr k_6_1)) (pf_4 (isK_K (isK_wi (isK_wr k_6_1)))) 4 (by decide) rf_X4_19 rfl (by decide +kernel) rfl rfl (Nat.le_of_ble_eq_true rfl) (xR_wi _ _ _ _ _ _) (pL_wi _ _ _ _) (pw_4_4 (ρ := (wi (wr σ a0 2 none) a0 3 (-1 : Int32))) (isK_K (isK_wi (isK_wr k_6_1))) _) dX4_init_16 (fun H locs hP hD hS => ?_)
  refine lv_aload_n hx hb dX4_init_19 rfl (lv_at hl 0 rfl) ?_
  refine lv_aload_n hx hb dX4_init_20 rfl (lv_at hl 1 rfl) ?_
  refine pPF (ρ2 := (wr (wi (wi (wr σ a0 2 none) a0 3 (-1 : Int32)) a0 4 (-1 : Int32)) a0 0 (some p1))) (ty := .object "RobeHouse$Cloth") hx hb hts hin wo_4 rfl tyX4 tyX4_ok nmX4 hown hK hP hD hS (isK_wi (isK_wi (isK_wr k_6_1))) (pf_4 (isK_K (isK_wi (isK_wi (isK_wr k_6_1))))) 0 (by decide) rf_X4_22 rfl hin2 rfl (by decide +kernel) rfl rfl (Nat.le_of_ble_eq_true rfl) (xR_wr _ _ _ _ _ _) (pL_wr _ _ _ _) (pw_4_0 (ρ := (wi (wi (wr σ a0 2 none) a0 3 (-1 : Int32)) a0 4 (-1 : Int32))) (isK_K (isK_wi (isK_wi (isK_wr k_6_1)))) (some p1)) dX4_init_21 (fun H locs hP hD hS => ?_)
  refine lv_aload_n hx hb dX4_init_24 rfl (lv_at hl 0 rfl) ?_
  refine lv_aload_n hx hb dX4_init_25 rfl (lv_at hl 2 rfl) ?_
  refine pPF (ρ2 := (wr (wr (wi (wi (wr σ a0 2 none) a0 3 (-1 : Int32)) a0 4 (-1 : Int32)) a0 0 (some p1)) a0 1 (some p2))) (ty := .array .int) hx hb hts hin wo_4 rfl tyX4 tyX4_ok nmX4 hown hK hP hD hS (isK_wr (isK_wi (isK_wi (isK_wr k_6_1)))) (pf_4 (isK_K (isK_wr (isK_wi (isK_wi (isK_wr k_6_1)))))) 1 (by decide) rf_X4_25 rfl hin2 rfl (by decide +kernel) rfl rfl (Nat.le_of_ble_eq_true rfl) (xR_wr _ _ _ _ _ _) (pL_wr _ _ _ _) (pw_4_1 (ρ := (wr (wi (wi (wr σ a0 2 none) a0 3 (-1 : Int32)) a0 4 (-1 : Int32)) a0 0 (some p1))) (isK_K (isK_wr (isK_wi (isK_wi (isK_wr k_6_1))))) (some p2)) dX4_init_26 (fun H locs hP hD hS => ?_)
  exact rvR hx hb hr hlocks hF hK hP hD hS dX4_init_29
def wsR_X2_cutRows : List Cond := Cond.code yX2_cutRows cX2_cutRows 6 (some (.array .int)) :: wRa
theorem cw_X2_X2_placeOf_57 {R : Room} {s : State} {args : Array Value} {y : MethodName} {c : ByteArray} {n : Nat} {r : Option FieldType} (hts : ∀ w ∈ (Cond.code y c n r :: wRa), w.before args s = true) (hR : 1 + 1 ≤ R.frames ∧ 8 + (3 + 11) + 21 ≤ R.locals) : CallW R s args RX2 RX2 57 yX2_placeOf cX2_placeOf 3 (some .int) wsR_X2_placeOf { frames := 1, cells := 0, slots := 0, locals := 21 } 0 0 2 := cwV 2 hts (goodV wRa_good rm_X2_57 ri_X2_placeOf rs_X2_placeOf rn_X2 rc_X2_placeOf) rfl rfl rfl (by decide +kernel) hR
theorem cw_X2_X2_isOnCloth_60 {R : Room} {s : State} {args : Array Value} {y : MethodName} {c : ByteArray} {n : Nat} {r : Option FieldType} (hts : ∀ w ∈ (Cond.code y c n r :: wRa), w.before args s = true) (hR : 0 + 1 ≤ R.frames ∧ 8 + (2 + 11) + 0 ≤ R.locals) : CallW R s args RX2 RX2 60 yX2_isOnCloth cX2_isOnCloth 2 (some .boolean) wsR_X2_isOnCloth { frames := 0, cells := 0, slots := 0, locals := 0 } 0 0 1 := cwV 1 hts (goodV wRa_good rm_X2_60 ri_X2_isOnCloth rs_X2_isOnCloth rn_X2 rc_X2_isOnCloth) rfl rfl rfl (by decide +kernel) hR
def FR_X2_cutRows_21 (N : Nat) (K_77 : Int32 → RS → Option (Nat × RS)) (x1_21 : Nat) (x3_21 : Int32) : Nat → Int32 → Int32 → RS → Option (Nat × RS)
  | 0, _, _, _ => none
  | n_21 + 1, x2_21, x4_21, σ_21 => ((rV σ_21 201).bind fun r_24 => (gd (isK σ_21 r_24 11) (gd (inb x3_21 (pN σ_21 r_24)) (if (pA σ_21 r_24 x3_21.toNatClampNeg) ≤ x4_21 then (K_77 x2_21 σ_21) else ((FR_X2_placeOf σ_21 x3_21 x4_21).bind fun q_36 => ((FR_X2_isOnCloth σ_21 x2_21).bind fun q_43 => (if q_43 = 0 then (FR_X2_cutRows_21 N K_77 x1_21 x3_21 n_21 (x2_21 + (1 : Int32)) (x4_21 + (1 : Int32)) σ_21) else ((FR_X2_isOnCloth σ_21 q_36).bind fun q_52 => (if q_52 = 0 then (FR_X2_cutRows_21 N K_77 x1_21 x3_21 n_21 (x2_21 + (1 : Int32)) (x4_21 + (1 : Int32)) σ_21) else ((rV σ_21 200).bind fun r_61 => (gd (isK σ_21 r_61 11) (gd (inb q_36 (pN σ_21 r_61)) (gd (isK σ_21 x1_21 11) (gd (inb x2_21 (pN σ_21 x1_21)) (FR_X2_cutRows_21 N K_77 x1_21 x3_21 n_21 (x2_21 + (1 : Int32)) (x4_21 + (1 : Int32)) (wa σ_21 x1_21 x2_21 (pA σ_21 r_61 q_36.toNatClampNeg)))))))))))))))))
def FR_X2_cutRows_77 (N : Nat) (K_12 : Int32 → Int32 → RS → Option (Nat × RS)) (x1_77 : Nat) (x2_77 : Int32) (x3_77 : Int32) (σ_77 : RS) : Option (Nat × RS) := (K_12 x2_77 (x3_77 + (1 : Int32)) σ_77)
def FR_X2_cutRows_12 (N : Nat) (x1_12 : Nat) : Nat → Int32 → Int32 → RS → Option (Nat × RS)
  | 0, _, _, _ => none
  | n_12 + 1, x2_12, x3_12, σ_12 => (if (6 : Int32) ≤ x3_12 then (some (x1_12, σ_12)) else (FR_X2_cutRows_21 N (fun x2_77 σ_77 => FR_X2_cutRows_77 N (fun x2_12 x3_12 σ_12 => FR_X2_cutRows_12 N  x1_12 n_12 x2_12 x3_12 σ_12) x1_12 x2_77 x3_12 σ_77) x1_12 x3_12 fu x2_12 (0 : Int32) σ_12))
def FR_X2_cutRows (N : Nat) (σ : RS) : Option (Nat × RS) := ((rV σ 200).bind fun r_1 => (gd (isK σ r_1 11) (gd (inc (Int32.ofNat (pN σ r_1)) 120) (FR_X2_cutRows_12 N N fu (0 : Int32) (0 : Int32) (nA σ N ((Int32.ofNat (pN σ r_1)).toNatClampNeg) (fun _ => 0))))))
set_option maxHeartbeats 4000000 in
set_option maxRecDepth 100000 in
theorem cR_X2_cutRows (l : Launch) (D : va_G) (cs : Nat → ClassId) (ad tb : Nat → Nat) (A : Nat → Prop) (N : Nat) (hA0 : ∀ q, N ≤ q → A q) (σ : RS) (q : (Nat × RS)) (hF : FR_X2_cutRows N σ = some q) : Met l yX2_cutRows wsR_X2_cutRows { frames := 2, cells := 1, slots := 120, locals := 43 } (va_Pc [.ref (ad 1002)] (preN N D cs ad tb A σ)) (va_Qq (fun x u => x = some q.1 ∧ u = q.2) (posQ D cs ad A) A) 1 120 A := by
  refine Met.ofW (cc := cX2_cutRows) (maxL := 6) (ret := (some (.array .int))) (by decide) rfl ?_
  intro p e s m args below meth c s₁ B hml hv
  obtain ⟨rfl, hN, hP, hK, hD, hZ⟩ := hv
  have hx := B.exec
  have hb := B.bytes
  have hr := B.returns
  have hts : ∀ w ∈ (Cond.code yX2_cutRows cX2_cutRows 6 (some (.array .int)) :: wRa), w.before ([.ref (ad 1002)] : List Value).toArray s = true := atoms_spec (ws := wsR_X2_cutRows) B.pre
  have hin : ∀ w ∈ wRa, w ∈ (Cond.code yX2_cutRows cX2_cutRows 6 (some (.array .int)) :: wRa) := fun w hw => List.mem_cons_of_mem _ hw
  have hown : s.vm.findClass RX2 = some m.cls := findClass_of_methodNamed B.named
  have hlocks := B.notSynchronized
  have hS : va_S A s.heap s.heap [] := va_S.rf
  have hA : ∀ q, s.heap.size ≤ q → A q := by rw [hN]; exact hA0
  have b_21 : ∀ (x1_21 : Nat) (x3_21 : Int32) (K_77 : Int32 → RS → Option (Nat × RS)) (k_77 : ∀ (x2_77 : Int32) (σ_77 : RS) (H : Heap) (locs : List Loc) (ls : Array Slot), K_77 x2_77 σ_77 = some q → va_P D vwCl (wR cs ad σ_77) H → va_D A (wR cs ad σ_77) → va_S A s.heap H locs → lv_has ls 6 [(0, .ref (ad 1002)), (1, .ref x1_21), (2, .int x2_77), (3, .int x3_21)] → W p l e (headSpec wsR_X2_cutRows { frames := 2, cells := 1, slots := 120, locals := 43 }).room s m ([.ref (ad 1002)] : List Value).toArray below meth c H locs 1 120 (MQ below (va_Qq (fun x u => x = some q.1 ∧ u = q.2) (posQ D cs ad A) A) ([.ref (ad 1002)] : List Value).toArray s 1 120 A) (F0 m 77 ls [])) (n_21 : Nat) (x2_21 : Int32) (x4_21 : Int32) (σ_21 : RS) (H : Heap) (locs : List Loc) (ls : Array Slot), FR_X2_cutRows_21 N K_77 x1_21 x3_21 n_21 x2_21 x4_21 σ_21 = some q → va_P D vwCl (wR cs ad σ_21) H → va_D A (wR cs ad σ_21) → va_S A s.heap H locs → lv_has ls 6 [(0, .ref (ad 1002)), (1, .ref x1_21), (2, .int x2_21), (3, .int x3_21), (4, .int x4_21)] → W p l e (headSpec wsR_X2_cutRows { frames := 2, cells := 1, slots := 120, locals := 43 }).room s m ([.ref (ad 1002)] : List Value).toArray below meth c H locs 1 120 (MQ below (va_Qq (fun x u => x = some q.1 ∧ u = q.2) (posQ D cs ad A) A) ([.ref (ad 1002)] : List Value).toArray s 1 120 A) (F0 m 21 ls []) := by
    intro x1_21 x3_21 K_77 k_77
    intro n_21
    induction n_21 with
    | zero =>
      intro x2_21 x4_21 σ_21 H locs ls hF hP hD hS hl
      exact absurd hF (by simp [FR_X2_cutRows_21])
    | succ n_21 ih_21 =>
      intro x2_21 x4_21 σ_21 H locs ls hF hP hD hS hl
      rw [FR_X2_cutRows_21] at hF
      refine lv_iload hx hb dX2_cutRows_21 (lv_at hl 4 rfl) ?_
      refine lv_aload_n hx hb dX2_cutRows_23 rfl (lv_at hl 0 rfl) ?_
      refine gF hx hb hts hin wo_2 rfl hown hK hP (ob_2 _ _ _) 1 (va_rf (rV σ_21 201)) (by decide) rf_X2_15 rfl dX2_cutRows_24 ?_
      obtain ⟨r_24, o_24, hF⟩ := ob_bd hF
      refine rfS o_24 ?_
      refine lv_iload_n hx hb dX2_cutRows_27 rfl (lv_at hl 3 rfl) ?_
      obtain ⟨k_28_2, hF⟩ := ob_gd hF
      obtain ⟨g_28, hF⟩ := ob_gd hF
      refine ldP hx hb hK hP k_28_2 (pA σ_21 r_24 x3_21.toNatClampNeg) g_28 rfl dX2_cutRows_28 ?_
      refine lv_icmp_ge (tgt := 77) hx hb dX2_cutRows_29 (by decide) (fun c_29 => ?_) (fun c_29 => ?_)
      · have hF := ob_t c_29 hF
        exact k_77 x2_21 σ_21 _ _ _ hF hP hD hS (lv_sub hl [0, 1, 2, 3] rfl)
      · have hF := ob_f c_29 hF
        refine lv_aload_n hx hb dX2_cutRows_32 rfl (lv_at hl 0 rfl) ?_
        refine lv_iload_n hx hb dX2_cutRows_33 rfl (lv_at hl 3 rfl) ?_
        refine lv_iload hx hb dX2_cutRows_34 (lv_at hl 4 rfl) ?_
        obtain ⟨q_36, e_36, hF⟩ := ob_bd hF
        refine crR (As := [.int x3_21, .int x4_21]) (rest := []) ⟨hx, hb, hml, hown, hts⟩ (cR_X2_placeOf l D cs ad tb A σ_21 x3_21 x4_21 _ e_36) (cw_X2_X2_placeOf_57 hts ⟨Nat.le_of_ble_eq_true rfl, Nat.le_of_ble_eq_true rfl⟩) ⟨(Nat.le_of_ble_eq_true rfl), (Nat.le_of_ble_eq_true rfl)⟩ (rcF hK hP (ci := 2) rfl (ob_2 _ _ _)) hK hP hD hS hZ rfl hl.1 rfl (lv_room (Nat.le_of_ble_eq_true rfl)) dX2_cutRows_36 ?_
        refine lv_istore (i := 5) (lv' := [(5, .int q_36), (0, .ref (ad 1002)), (1, .ref x1_21), (2, .int x2_21), (3, .int x3_21), (4, .int x4_21)]) hx hb dX2_cutRows_39 hl (by decide) rfl (fun ls hl => ?_)
        refine lv_aload_n hx hb dX2_cutRows_41 rfl (lv_at hl 1 rfl) ?_
        refine lv_iload_n hx hb dX2_cutRows_42 rfl (lv_at hl 3 rfl) ?_
        obtain ⟨q_43, e_43, hF⟩ := ob_bd hF
        refine crR (As := [.int x2_21]) (rest := []) ⟨hx, hb, hml, hown, hts⟩ (cR_X2_isOnCloth l D cs ad tb A σ_21 x2_21 _ e_43) (cw_X2_X2_isOnCloth_60 hts ⟨Nat.le_of_ble_eq_true rfl, Nat.le_of_ble_eq_true rfl⟩) ⟨(Nat.le_of_ble_eq_true rfl), (Nat.le_of_ble_eq_true rfl)⟩ (rcF hK hP (ci := 2) rfl (ob_2 _ _ _)) hK hP hD hS hZ rfl hl.1 rfl (lv_room (Nat.le_of_ble_eq_true rfl)) dX2_cutRows_43 ?_
        refine lv_if_eq (tgt := 68) hx hb dX2_cutRows_46 (by decide) (fun c_46 => ?_) (fun c_46 => ?_)
        · have hF := ob_t c_46 hF
          refine lv_iinc (v := x2_21 + (1 : Int32)) (lv' := [(2, .int (x2_21 + (1 : Int32))), (5, .int q_36), (0, .ref (ad 1002)), (1, .ref x1_21), (3, .int x3_21), (4, .int x4_21)]) hx hb dX2_cutRows_68 hl (k := 3) rfl rfl (by decide) rfl (fun ls hl => ?_)
          refine lv_iinc (v := x4_21 + (1 : Int32)) (lv' := [(4, .int (x4_21 + (1 : Int32))), (2, .int (x2_21 + (1 : Int32))), (5, .int q_36), (0, .ref (ad 1002)), (1, .ref x1_21), (3, .int x3_21)]) hx hb dX2_cutRows_71 hl (k := 5) rfl rfl (by decide) rfl (fun ls hl => ?_)
          refine lv_goto (tgt := 21) hx hb dX2_cutRows_74 (by decide) ?_
          exact ih_21 (x2_21 + (1 : Int32)) (x4_21 + (1 : Int32)) σ_21 _ _ _ hF hP hD hS (lv_sub hl [3, 4, 1, 5, 0] rfl)
        · have hF := ob_f c_46 hF
          refine lv_aload_n hx hb dX2_cutRows_49 rfl (lv_at hl 1 rfl) ?_
          refine lv_iload hx hb dX2_cutRows_50 (lv_at hl 0 rfl) ?_
          obtain ⟨q_52, e_52, hF⟩ := ob_bd hF
          refine crR (As := [.int q_36]) (rest := []) ⟨hx, hb, hml, hown, hts⟩ (cR_X2_isOnCloth l D cs ad tb A σ_21 q_36 _ e_52) (cw_X2_X2_isOnCloth_60 hts ⟨Nat.le_of_ble_eq_true rfl, Nat.le_of_ble_eq_true rfl⟩) ⟨(Nat.le_of_ble_eq_true rfl), (Nat.le_of_ble_eq_true rfl)⟩ (rcF hK hP (ci := 2) rfl (ob_2 _ _ _)) hK hP hD hS hZ rfl hl.1 rfl (lv_room (Nat.le_of_ble_eq_true rfl)) dX2_cutRows_52 ?_
          refine lv_if_eq (tgt := 68) hx hb dX2_cutRows_55 (by decide) (fun c_55 => ?_) (fun c_55 => ?_)
          · have hF := ob_t c_55 hF
            refine lv_iinc (v := x2_21 + (1 : Int32)) (lv' := [(2, .int (x2_21 + (1 : Int32))), (5, .int q_36), (0, .ref (ad 1002)), (1, .ref x1_21), (3, .int x3_21), (4, .int x4_21)]) hx hb dX2_cutRows_68 hl (k := 3) rfl rfl (by decide) rfl (fun ls hl => ?_)
            refine lv_iinc (v := x4_21 + (1 : Int32)) (lv' := [(4, .int (x4_21 + (1 : Int32))), (2, .int (x2_21 + (1 : Int32))), (5, .int q_36), (0, .ref (ad 1002)), (1, .ref x1_21), (3, .int x3_21)]) hx hb dX2_cutRows_71 hl (k := 5) rfl rfl (by decide) rfl (fun ls hl => ?_)
            refine lv_goto (tgt := 21) hx hb dX2_cutRows_74 (by decide) ?_
            exact ih_21 (x2_21 + (1 : Int32)) (x4_21 + (1 : Int32)) σ_21 _ _ _ hF hP hD hS (lv_sub hl [3, 4, 1, 5, 0] rfl)
          · have hF := ob_f c_55 hF
            refine lv_aload_n hx hb dX2_cutRows_58 rfl (lv_at hl 2 rfl) ?_
            refine lv_iload_n hx hb dX2_cutRows_59 rfl (lv_at hl 3 rfl) ?_
            refine lv_aload_n hx hb dX2_cutRows_60 rfl (lv_at hl 1 rfl) ?_
            refine gF hx hb hts hin wo_2 rfl hown hK hP (ob_2 _ _ _) 0 (va_rf (rV σ_21 200)) (by decide) rf_X2_9 rfl dX2_cutRows_61 ?_
            obtain ⟨r_61, o_61, hF⟩ := ob_bd hF
            refine rfS o_61 ?_
            refine lv_iload hx hb dX2_cutRows_64 (lv_at hl 0 rfl) ?_
            obtain ⟨k_66_3, hF⟩ := ob_gd hF
            obtain ⟨g_66, hF⟩ := ob_gd hF
            refine ldP hx hb hK hP k_66_3 (pA σ_21 r_61 q_36.toNatClampNeg) g_66 rfl dX2_cutRows_66 ?_
            obtain ⟨k_67_4, hF⟩ := ob_gd hF
            obtain ⟨g_67, hF⟩ := ob_gd hF
            refine stP hx hb hK hP hD hS k_67_4 g_67 dX2_cutRows_67 (fun H locs hP hD hS => ?_)
            refine lv_iinc (v := x2_21 + (1 : Int32)) (lv' := [(2, .int (x2_21 + (1 : Int32))), (5, .int q_36), (0, .ref (ad 1002)), (1, .ref x1_21), (3, .int x3_21), (4, .int x4_21)]) hx hb dX2_cutRows_68 hl (k := 3) rfl rfl (by decide) rfl (fun ls hl => ?_)
            refine lv_iinc (v := x4_21 + (1 : Int32)) (lv' := [(4, .int (x4_21 + (1 : Int32))), (2, .int (x2_21 + (1 : Int32))), (5, .int q_36), (0, .ref (ad 1002)), (1, .ref x1_21), (3, .int x3_21)]) hx hb dX2_cutRows_71 hl (k := 5) rfl rfl (by decide) rfl (fun ls hl => ?_)
            refine lv_goto (tgt := 21) hx hb dX2_cutRows_74 (by decide) ?_
            exact ih_21 (x2_21 + (1 : Int32)) (x4_21 + (1 : Int32)) (wa σ_21 x1_21 x2_21 (pA σ_21 r_61 q_36.toNatClampNeg)) _ _ _ hF hP hD hS (lv_sub hl [3, 4, 1, 5, 0] rfl)
  have b_77 : ∀ (x1_77 : Nat) (x2_77 : Int32) (x3_77 : Int32) (K_12 : Int32 → Int32 → RS → Option (Nat × RS)) (k_12 : ∀ (x2_12 : Int32) (x3_12 : Int32) (σ_12 : RS) (H : Heap) (locs : List Loc) (ls : Array Slot), K_12 x2_12 x3_12 σ_12 = some q → va_P D vwCl (wR cs ad σ_12) H → va_D A (wR cs ad σ_12) → va_S A s.heap H locs → lv_has ls 6 [(0, .ref (ad 1002)), (1, .ref x1_77), (2, .int x2_12), (3, .int x3_12)] → W p l e (headSpec wsR_X2_cutRows { frames := 2, cells := 1, slots := 120, locals := 43 }).room s m ([.ref (ad 1002)] : List Value).toArray below meth c H locs 1 120 (MQ below (va_Qq (fun x u => x = some q.1 ∧ u = q.2) (posQ D cs ad A) A) ([.ref (ad 1002)] : List Value).toArray s 1 120 A) (F0 m 12 ls [])) (σ_77 : RS) (H : Heap) (locs : List Loc) (ls : Array Slot), FR_X2_cutRows_77 N K_12 x1_77 x2_77 x3_77 σ_77 = some q → va_P D vwCl (wR cs ad σ_77) H → va_D A (wR cs ad σ_77) → va_S A s.heap H locs → lv_has ls 6 [(0, .ref (ad 1002)), (1, .ref x1_77), (2, .int x2_77), (3, .int x3_77)] → W p l e (headSpec wsR_X2_cutRows { frames := 2, cells := 1, slots := 120, locals := 43 }).room s m ([.ref (ad 1002)] : List Value).toArray below meth c H locs 1 120 (MQ below (va_Qq (fun x u => x = some q.1 ∧ u = q.2) (posQ D cs ad A) A) ([.ref (ad 1002)] : List Value).toArray s 1 120 A) (F0 m 77 ls []) := by
    intro x1_77 x2_77 x3_77 K_12 k_12 σ_77 H locs ls hF hP hD hS hl
    unfold FR_X2_cutRows_77 at hF
    refine lv_iinc (v := x3_77 + (1 : Int32)) (lv' := [(3, .int (x3_77 + (1 : Int32))), (0, .ref (ad 1002)), (1, .ref x1_77), (2, .int x2_77)]) hx hb dX2_cutRows_77 hl (k := 3) rfl rfl (by decide) rfl (fun ls hl => ?_)
    refine lv_goto (tgt := 12) hx hb dX2_cutRows_80 (by decide) ?_
    exact k_12 x2_77 (x3_77 + (1 : Int32)) σ_77 _ _ _ hF hP hD hS (lv_sub hl [1, 2, 3, 0] rfl)
  have b_12 : ∀ (x1_12 : Nat) (n_12 : Nat) (x2_12 : Int32) (x3_12 : Int32) (σ_12 : RS) (H : Heap) (locs : List Loc) (ls : Array Slot), FR_X2_cutRows_12 N x1_12 n_12 x2_12 x3_12 σ_12 = some q → va_P D vwCl (wR cs ad σ_12) H → va_D A (wR cs ad σ_12) → va_S A s.heap H locs → lv_has ls 6 [(0, .ref (ad 1002)), (1, .ref x1_12), (2, .int x2_12), (3, .int x3_12)] → W p l e (headSpec wsR_X2_cutRows { frames := 2, cells := 1, slots := 120, locals := 43 }).room s m ([.ref (ad 1002)] : List Value).toArray below meth c H locs 1 120 (MQ below (va_Qq (fun x u => x = some q.1 ∧ u = q.2) (posQ D cs ad A) A) ([.ref (ad 1002)] : List Value).toArray s 1 120 A) (F0 m 12 ls []) := by
    intro x1_12
    intro n_12
    induction n_12 with
    | zero =>
      intro x2_12 x3_12 σ_12 H locs ls hF hP hD hS hl
      exact absurd hF (by simp [FR_X2_cutRows_12])
    | succ n_12 ih_12 =>
      intro x2_12 x3_12 σ_12 H locs ls hF hP hD hS hl
      rw [FR_X2_cutRows_12] at hF
      refine lv_iload_n hx hb dX2_cutRows_12 rfl (lv_at hl 3 rfl) ?_
      refine lv_bipush (v := (6 : Int32)) hx hb dX2_cutRows_13 (by decide) ?_
      refine lv_icmp_ge (tgt := 83) hx hb dX2_cutRows_15 (by decide) (fun c_15 => ?_) (fun c_15 => ?_)
      · have hF := ob_t c_15 hF
        refine lv_aload_n hx hb dX2_cutRows_83 rfl (lv_at hl 1 rfl) ?_
        exact rqN hx hb hr (Or.inr ⟨_, rfl⟩) hlocks hF hK hP hD hS (Nat.le_of_ble_eq_true rfl) (Nat.le_of_ble_eq_true rfl) dX2_cutRows_84
      · have hF := ob_f c_15 hF
        refine lv_iconst (v := (0 : Int32)) hx hb dX2_cutRows_18 (by decide) ?_
        refine lv_istore (i := 4) (lv' := [(4, .int (0 : Int32)), (0, .ref (ad 1002)), (1, .ref x1_12), (2, .int x2_12), (3, .int x3_12)]) hx hb dX2_cutRows_19 hl (by decide) rfl (fun ls hl => ?_)
        exact b_21 x1_12 x3_12 (fun x2_77 σ_77 => FR_X2_cutRows_77 N (fun x2_12 x3_12 σ_12 => FR_X2_cutRows_12 N  x1_12 n_12 x2_12 x3_12 σ_12) x1_12 x2_77 x3_12 σ_77) (fun x2_77 σ_77 => b_77 x1_12 x2_77 x3_12 (fun x2_12 x3_12 σ_12 => FR_X2_cutRows_12 N  x1_12 n_12 x2_12 x3_12 σ_12) ih_12 σ_77) fu x2_12 (0 : Int32) σ_12 _ _ _ hF hP hD hS (lv_sub hl [1, 2, 3, 4, 0] rfl)
  have hl := lv_entry ([.ref (ad 1002)]) (n := 6) (Nat.le_of_ble_eq_true rfl)
  rw [lg_entry_eq]
  generalize (lg_sl ([.ref (ad 1002)]) ++ List.replicate (6 - (lg_sl ([.ref (ad 1002)])).length) Slot.unset).toArray = ls at hl ⊢
  have hl : lv_has ls 6 [(0, .ref (ad 1002))] := hl
  unfold FR_X2_cutRows at hF
  refine lv_aload_n hx hb dX2_cutRows_0 rfl (lv_at hl 0 rfl) ?_
  refine gF hx hb hts hin wo_2 rfl hown hK hP (ob_2 _ _ _) 0 (va_rf (rV σ 200)) (by decide) rf_X2_9 rfl dX2_cutRows_1 ?_
  obtain ⟨r_1, o_1, hF⟩ := ob_bd hF
  refine rfS o_1 ?_
  obtain ⟨k_4_1, hF⟩ := ob_gd hF
  refine lnP (v := (Int32.ofNat (pN σ r_1))) hx hb hK hP k_4_1 rfl dX2_cutRows_4 ?_
  obtain ⟨g_5, hF⟩ := ob_gd hF
  refine neA (a := N) (cap := 120) hx hb hts hin hK hP hD hS hA g_5 (by decide) hS.1 (by omega) (Nat.le_of_ble_eq_true rfl) (Nat.le_of_ble_eq_true rfl) dX2_cutRows_5 (fun H hP hD hS => ?_)
  have kn_5 : isK (nA σ N ((Int32.ofNat (pN σ r_1)).toNatClampNeg) (fun _ => 0)) N 11 = true := isK_nA _ _ _ _
  refine lv_astore_n (i := 1) (lv' := [(1, .ref N), (0, .ref (ad 1002))]) hx hb dX2_cutRows_7 rfl hl (by decide) rfl (fun ls hl => ?_)
  refine lv_iconst (v := (0 : Int32)) hx hb dX2_cutRows_8 (by decide) ?_
  refine lv_istore_n (i := 2) (lv' := [(2, .int (0 : Int32)), (1, .ref N), (0, .ref (ad 1002))]) hx hb dX2_cutRows_9 rfl hl (by decide) rfl (fun ls hl => ?_)
  refine lv_iconst (v := (0 : Int32)) hx hb dX2_cutRows_10 (by decide) ?_
  refine lv_istore_n (i := 3) (lv' := [(3, .int (0 : Int32)), (2, .int (0 : Int32)), (1, .ref N), (0, .ref (ad 1002))]) hx hb dX2_cutRows_11 rfl hl (by decide) rfl (fun ls hl => ?_)
  exact b_12 N fu (0 : Int32) (0 : Int32) (nA σ N ((Int32.ofNat (pN σ r_1)).toNatClampNeg) (fun _ => 0)) _ _ _ hF hP hD hS (lv_sub hl [3, 2, 1, 0] rfl)
def wsR_X2_joinRows : List Cond := Cond.code yX2_joinRows cX2_joinRows 6 (some (.array .int)) :: wRa
def FR_X2_joinRows_21 (N : Nat) (K_77 : Int32 → RS → Option (Nat × RS)) (x1_21 : Nat) (x3_21 : Int32) : Nat → Int32 → Int32 → RS → Option (Nat × RS)
  | 0, _, _, _ => none
  | n_21 + 1, x2_21, x4_21, σ_21 => ((rV σ_21 201).bind fun r_24 => (gd (isK σ_21 r_24 11) (gd (inb x3_21 (pN σ_21 r_24)) (if (pA σ_21 r_24 x3_21.toNatClampNeg) ≤ x4_21 then (K_77 x2_21 σ_21) else ((FR_X2_placeOf σ_21 x3_21 x4_21).bind fun q_36 => ((FR_X2_isOnCloth σ_21 x2_21).bind fun q_43 => (if q_43 = 0 then (FR_X2_joinRows_21 N K_77 x1_21 x3_21 n_21 (x2_21 + (1 : Int32)) (x4_21 + (1 : Int32)) σ_21) else ((FR_X2_isOnCloth σ_21 q_36).bind fun q_52 => (if q_52 = 0 then (FR_X2_joinRows_21 N K_77 x1_21 x3_21 n_21 (x2_21 + (1 : Int32)) (x4_21 + (1 : Int32)) σ_21) else ((rV σ_21 200).bind fun r_62 => (gd (isK σ_21 r_62 11) (gd (inb x2_21 (pN σ_21 r_62)) (gd (isK σ_21 x1_21 11) (gd (inb q_36 (pN σ_21 x1_21)) (FR_X2_joinRows_21 N K_77 x1_21 x3_21 n_21 (x2_21 + (1 : Int32)) (x4_21 + (1 : Int32)) (wa σ_21 x1_21 q_36 (pA σ_21 r_62 x2_21.toNatClampNeg)))))))))))))))))
def FR_X2_joinRows_77 (N : Nat) (K_12 : Int32 → Int32 → RS → Option (Nat × RS)) (x1_77 : Nat) (x2_77 : Int32) (x3_77 : Int32) (σ_77 : RS) : Option (Nat × RS) := (K_12 x2_77 (x3_77 + (1 : Int32)) σ_77)
def FR_X2_joinRows_12 (N : Nat) (x1_12 : Nat) : Nat → Int32 → Int32 → RS → Option (Nat × RS)
  | 0, _, _, _ => none
  | n_12 + 1, x2_12, x3_12, σ_12 => (if (6 : Int32) ≤ x3_12 then (some (x1_12, σ_12)) else (FR_X2_joinRows_21 N (fun x2_77 σ_77 => FR_X2_joinRows_77 N (fun x2_12 x3_12 σ_12 => FR_X2_joinRows_12 N  x1_12 n_12 x2_12 x3_12 σ_12) x1_12 x2_77 x3_12 σ_77) x1_12 x3_12 fu x2_12 (0 : Int32) σ_12))
def FR_X2_joinRows (N : Nat) (σ : RS) : Option (Nat × RS) := ((rV σ 200).bind fun r_1 => (gd (isK σ r_1 11) (gd (inc (Int32.ofNat (pN σ r_1)) 120) (FR_X2_joinRows_12 N N fu (0 : Int32) (0 : Int32) (nA σ N ((Int32.ofNat (pN σ r_1)).toNatClampNeg) (fun _ => 0))))))
set_option maxHeartbeats 4000000 in
set_option maxRecDepth 100000 in
theorem cR_X2_joinRows (l : Launch) (D : va_G) (cs : Nat → ClassId) (ad tb : Nat → Nat) (A : Nat → Prop) (N : Nat) (hA0 : ∀ q, N ≤ q → A q) (σ : RS) (q : (Nat × RS)) (hF : FR_X2_joinRows N σ = some q) : Met l yX2_joinRows wsR_X2_joinRows { frames := 2, cells := 1, slots := 120, locals := 43 } (va_Pc [.ref (ad 1002)] (preN N D cs ad tb A σ)) (va_Qq (fun x u => x = some q.1 ∧ u = q.2) (posQ D cs ad A) A) 1 120 A := by
  refine Met.ofW (cc := cX2_joinRows) (maxL := 6) (ret := (some (.array .int))) (by decide) rfl ?_
  intro p e s m args below meth c s₁ B hml hv
  obtain ⟨rfl, hN, hP, hK, hD, hZ⟩ := hv
  have hx := B.exec
  have hb := B.bytes
  have hr := B.returns
  have hts : ∀ w ∈ (Cond.code yX2_joinRows cX2_joinRows 6 (some (.array .int)) :: wRa), w.before ([.ref (ad 1002)] : List Value).toArray s = true := atoms_spec (ws := wsR_X2_joinRows) B.pre
  have hin : ∀ w ∈ wRa, w ∈ (Cond.code yX2_joinRows cX2_joinRows 6 (some (.array .int)) :: wRa) := fun w hw => List.mem_cons_of_mem _ hw
  have hown : s.vm.findClass RX2 = some m.cls := findClass_of_methodNamed B.named
  have hlocks := B.notSynchronized
  have hS : va_S A s.heap s.heap [] := va_S.rf
  have hA : ∀ q, s.heap.size ≤ q → A q := by rw [hN]; exact hA0
  have b_21 : ∀ (x1_21 : Nat) (x3_21 : Int32) (K_77 : Int32 → RS → Option (Nat × RS)) (k_77 : ∀ (x2_77 : Int32) (σ_77 : RS) (H : Heap) (locs : List Loc) (ls : Array Slot), K_77 x2_77 σ_77 = some q → va_P D vwCl (wR cs ad σ_77) H → va_D A (wR cs ad σ_77) → va_S A s.heap H locs → lv_has ls 6 [(0, .ref (ad 1002)), (1, .ref x1_21), (2, .int x2_77), (3, .int x3_21)] → W p l e (headSpec wsR_X2_joinRows { frames := 2, cells := 1, slots := 120, locals := 43 }).room s m ([.ref (ad 1002)] : List Value).toArray below meth c H locs 1 120 (MQ below (va_Qq (fun x u => x = some q.1 ∧ u = q.2) (posQ D cs ad A) A) ([.ref (ad 1002)] : List Value).toArray s 1 120 A) (F0 m 77 ls [])) (n_21 : Nat) (x2_21 : Int32) (x4_21 : Int32) (σ_21 : RS) (H : Heap) (locs : List Loc) (ls : Array Slot), FR_X2_joinRows_21 N K_77 x1_21 x3_21 n_21 x2_21 x4_21 σ_21 = some q → va_P D vwCl (wR cs ad σ_21) H → va_D A (wR cs ad σ_21) → va_S A s.heap H locs → lv_has ls 6 [(0, .ref (ad 1002)), (1, .ref x1_21), (2, .int x2_21), (3, .int x3_21), (4, .int x4_21)] → W p l e (headSpec wsR_X2_joinRows { frames := 2, cells := 1, slots := 120, locals := 43 }).room s m ([.ref (ad 1002)] : List Value).toArray below meth c H locs 1 120 (MQ below (va_Qq (fun x u => x = some q.1 ∧ u = q.2) (posQ D cs ad A) A) ([.ref (ad 1002)] : List Value).toArray s 1 120 A) (F0 m 21 ls []) := by
    intro x1_21 x3_21 K_77 k_77
    intro n_21
    induction n_21 with
    | zero =>
      intro x2_21 x4_21 σ_21 H locs ls hF hP hD hS hl
      exact absurd hF (by simp [FR_X2_joinRows_21])
    | succ n_21 ih_21 =>
      intro x2_21 x4_21 σ_21 H locs ls hF hP hD hS hl
      rw [FR_X2_joinRows_21] at hF
      refine lv_iload hx hb dX2_joinRows_21 (lv_at hl 4 rfl) ?_
      refine lv_aload_n hx hb dX2_joinRows_23 rfl (lv_at hl 0 rfl) ?_
      refine gF hx hb hts hin wo_2 rfl hown hK hP (ob_2 _ _ _) 1 (va_rf (rV σ_21 201)) (by decide) rf_X2_15 rfl dX2_joinRows_24 ?_
      obtain ⟨r_24, o_24, hF⟩ := ob_bd hF
      refine rfS o_24 ?_
      refine lv_iload_n hx hb dX2_joinRows_27 rfl (lv_at hl 3 rfl) ?_
      obtain ⟨k_28_2, hF⟩ := ob_gd hF
      obtain ⟨g_28, hF⟩ := ob_gd hF
      refine ldP hx hb hK hP k_28_2 (pA σ_21 r_24 x3_21.toNatClampNeg) g_28 rfl dX2_joinRows_28 ?_
      refine lv_icmp_ge (tgt := 77) hx hb dX2_joinRows_29 (by decide) (fun c_29 => ?_) (fun c_29 => ?_)
      · have hF := ob_t c_29 hF
        exact k_77 x2_21 σ_21 _ _ _ hF hP hD hS (lv_sub hl [0, 1, 2, 3] rfl)
      · have hF := ob_f c_29 hF
        refine lv_aload_n hx hb dX2_joinRows_32 rfl (lv_at hl 0 rfl) ?_
        refine lv_iload_n hx hb dX2_joinRows_33 rfl (lv_at hl 3 rfl) ?_
        refine lv_iload hx hb dX2_joinRows_34 (lv_at hl 4 rfl) ?_
        obtain ⟨q_36, e_36, hF⟩ := ob_bd hF
        refine crR (As := [.int x3_21, .int x4_21]) (rest := []) ⟨hx, hb, hml, hown, hts⟩ (cR_X2_placeOf l D cs ad tb A σ_21 x3_21 x4_21 _ e_36) (cw_X2_X2_placeOf_57 hts ⟨Nat.le_of_ble_eq_true rfl, Nat.le_of_ble_eq_true rfl⟩) ⟨(Nat.le_of_ble_eq_true rfl), (Nat.le_of_ble_eq_true rfl)⟩ (rcF hK hP (ci := 2) rfl (ob_2 _ _ _)) hK hP hD hS hZ rfl hl.1 rfl (lv_room (Nat.le_of_ble_eq_true rfl)) dX2_joinRows_36 ?_
        refine lv_istore (i := 5) (lv' := [(5, .int q_36), (0, .ref (ad 1002)), (1, .ref x1_21), (2, .int x2_21), (3, .int x3_21), (4, .int x4_21)]) hx hb dX2_joinRows_39 hl (by decide) rfl (fun ls hl => ?_)
        refine lv_aload_n hx hb dX2_joinRows_41 rfl (lv_at hl 1 rfl) ?_
        refine lv_iload_n hx hb dX2_joinRows_42 rfl (lv_at hl 3 rfl) ?_
        obtain ⟨q_43, e_43, hF⟩ := ob_bd hF
        refine crR (As := [.int x2_21]) (rest := []) ⟨hx, hb, hml, hown, hts⟩ (cR_X2_isOnCloth l D cs ad tb A σ_21 x2_21 _ e_43) (cw_X2_X2_isOnCloth_60 hts ⟨Nat.le_of_ble_eq_true rfl, Nat.le_of_ble_eq_true rfl⟩) ⟨(Nat.le_of_ble_eq_true rfl), (Nat.le_of_ble_eq_true rfl)⟩ (rcF hK hP (ci := 2) rfl (ob_2 _ _ _)) hK hP hD hS hZ rfl hl.1 rfl (lv_room (Nat.le_of_ble_eq_true rfl)) dX2_joinRows_43 ?_
        refine lv_if_eq (tgt := 68) hx hb dX2_joinRows_46 (by decide) (fun c_46 => ?_) (fun c_46 => ?_)
        · have hF := ob_t c_46 hF
          refine lv_iinc (v := x2_21 + (1 : Int32)) (lv' := [(2, .int (x2_21 + (1 : Int32))), (5, .int q_36), (0, .ref (ad 1002)), (1, .ref x1_21), (3, .int x3_21), (4, .int x4_21)]) hx hb dX2_joinRows_68 hl (k := 3) rfl rfl (by decide) rfl (fun ls hl => ?_)
          refine lv_iinc (v := x4_21 + (1 : Int32)) (lv' := [(4, .int (x4_21 + (1 : Int32))), (2, .int (x2_21 + (1 : Int32))), (5, .int q_36), (0, .ref (ad 1002)), (1, .ref x1_21), (3, .int x3_21)]) hx hb dX2_joinRows_71 hl (k := 5) rfl rfl (by decide) rfl (fun ls hl => ?_)
          refine lv_goto (tgt := 21) hx hb dX2_joinRows_74 (by decide) ?_
          exact ih_21 (x2_21 + (1 : Int32)) (x4_21 + (1 : Int32)) σ_21 _ _ _ hF hP hD hS (lv_sub hl [3, 4, 1, 5, 0] rfl)
        · have hF := ob_f c_46 hF
          refine lv_aload_n hx hb dX2_joinRows_49 rfl (lv_at hl 1 rfl) ?_
          refine lv_iload hx hb dX2_joinRows_50 (lv_at hl 0 rfl) ?_
          obtain ⟨q_52, e_52, hF⟩ := ob_bd hF
          refine crR (As := [.int q_36]) (rest := []) ⟨hx, hb, hml, hown, hts⟩ (cR_X2_isOnCloth l D cs ad tb A σ_21 q_36 _ e_52) (cw_X2_X2_isOnCloth_60 hts ⟨Nat.le_of_ble_eq_true rfl, Nat.le_of_ble_eq_true rfl⟩) ⟨(Nat.le_of_ble_eq_true rfl), (Nat.le_of_ble_eq_true rfl)⟩ (rcF hK hP (ci := 2) rfl (ob_2 _ _ _)) hK hP hD hS hZ rfl hl.1 rfl (lv_room (Nat.le_of_ble_eq_true rfl)) dX2_joinRows_52 ?_
          refine lv_if_eq (tgt := 68) hx hb dX2_joinRows_55 (by decide) (fun c_55 => ?_) (fun c_55 => ?_)
          · have hF := ob_t c_55 hF
            refine lv_iinc (v := x2_21 + (1 : Int32)) (lv' := [(2, .int (x2_21 + (1 : Int32))), (5, .int q_36), (0, .ref (ad 1002)), (1, .ref x1_21), (3, .int x3_21), (4, .int x4_21)]) hx hb dX2_joinRows_68 hl (k := 3) rfl rfl (by decide) rfl (fun ls hl => ?_)
            refine lv_iinc (v := x4_21 + (1 : Int32)) (lv' := [(4, .int (x4_21 + (1 : Int32))), (2, .int (x2_21 + (1 : Int32))), (5, .int q_36), (0, .ref (ad 1002)), (1, .ref x1_21), (3, .int x3_21)]) hx hb dX2_joinRows_71 hl (k := 5) rfl rfl (by decide) rfl (fun ls hl => ?_)
            refine lv_goto (tgt := 21) hx hb dX2_joinRows_74 (by decide) ?_
            exact ih_21 (x2_21 + (1 : Int32)) (x4_21 + (1 : Int32)) σ_21 _ _ _ hF hP hD hS (lv_sub hl [3, 4, 1, 5, 0] rfl)
          · have hF := ob_f c_55 hF
            refine lv_aload_n hx hb dX2_joinRows_58 rfl (lv_at hl 2 rfl) ?_
            refine lv_iload hx hb dX2_joinRows_59 (lv_at hl 0 rfl) ?_
            refine lv_aload_n hx hb dX2_joinRows_61 rfl (lv_at hl 1 rfl) ?_
            refine gF hx hb hts hin wo_2 rfl hown hK hP (ob_2 _ _ _) 0 (va_rf (rV σ_21 200)) (by decide) rf_X2_9 rfl dX2_joinRows_62 ?_
            obtain ⟨r_62, o_62, hF⟩ := ob_bd hF
            refine rfS o_62 ?_
            refine lv_iload_n hx hb dX2_joinRows_65 rfl (lv_at hl 3 rfl) ?_
            obtain ⟨k_66_3, hF⟩ := ob_gd hF
            obtain ⟨g_66, hF⟩ := ob_gd hF
            refine ldP hx hb hK hP k_66_3 (pA σ_21 r_62 x2_21.toNatClampNeg) g_66 rfl dX2_joinRows_66 ?_
            obtain ⟨k_67_4, hF⟩ := ob_gd hF
            obtain ⟨g_67, hF⟩ := ob_gd hF
            refine stP hx hb hK hP hD hS k_67_4 g_67 dX2_joinRows_67 (fun H locs hP hD hS => ?_)
            refine lv_iinc (v := x2_21 + (1 : Int32)) (lv' := [(2, .int (x2_21 + (1 : Int32))), (5, .int q_36), (0, .ref (ad 1002)), (1, .ref x1_21), (3, .int x3_21), (4, .int x4_21)]) hx hb dX2_joinRows_68 hl (k := 3) rfl rfl (by decide) rfl (fun ls hl => ?_)
            refine lv_iinc (v := x4_21 + (1 : Int32)) (lv' := [(4, .int (x4_21 + (1 : Int32))), (2, .int (x2_21 + (1 : Int32))), (5, .int q_36), (0, .ref (ad 1002)), (1, .ref x1_21), (3, .int x3_21)]) hx hb dX2_joinRows_71 hl (k := 5) rfl rfl (by decide) rfl (fun ls hl => ?_)
            refine lv_goto (tgt := 21) hx hb dX2_joinRows_74 (by decide) ?_
            exact ih_21 (x2_21 + (1 : Int32)) (x4_21 + (1 : Int32)) (wa σ_21 x1_21 q_36 (pA σ_21 r_62 x2_21.toNatClampNeg)) _ _ _ hF hP hD hS (lv_sub hl [3, 4, 1, 5, 0] rfl)
  have b_77 : ∀ (x1_77 : Nat) (x2_77 : Int32) (x3_77 : Int32) (K_12 : Int32 → Int32 → RS → Option (Nat × RS)) (k_12 : ∀ (x2_12 : Int32) (x3_12 : Int32) (σ_12 : RS) (H : Heap) (locs : List Loc) (ls : Array Slot), K_12 x2_12 x3_12 σ_12 = some q → va_P D vwCl (wR cs ad σ_12) H → va_D A (wR cs ad σ_12) → va_S A s.heap H locs → lv_has ls 6 [(0, .ref (ad 1002)), (1, .ref x1_77), (2, .int x2_12), (3, .int x3_12)] → W p l e (headSpec wsR_X2_joinRows { frames := 2, cells := 1, slots := 120, locals := 43 }).room s m ([.ref (ad 1002)] : List Value).toArray below meth c H locs 1 120 (MQ below (va_Qq (fun x u => x = some q.1 ∧ u = q.2) (posQ D cs ad A) A) ([.ref (ad 1002)] : List Value).toArray s 1 120 A) (F0 m 12 ls [])) (σ_77 : RS) (H : Heap) (locs : List Loc) (ls : Array Slot), FR_X2_joinRows_77 N K_12 x1_77 x2_77 x3_77 σ_77 = some q → va_P D vwCl (wR cs ad σ_77) H → va_D A (wR cs ad σ_77) → va_S A s.heap H locs → lv_has ls 6 [(0, .ref (ad 1002)), (1, .ref x1_77), (2, .int x2_77), (3, .int x3_77)] → W p l e (headSpec wsR_X2_joinRows { frames := 2, cells := 1, slots := 120, locals := 43 }).room s m ([.ref (ad 1002)] : List Value).toArray below meth c H locs 1 120 (MQ below (va_Qq (fun x u => x = some q.1 ∧ u = q.2) (posQ D cs ad A) A) ([.ref (ad 1002)] : List Value).toArray s 1 120 A) (F0 m 77 ls []) := by
    intro x1_77 x2_77 x3_77 K_12 k_12 σ_77 H locs ls hF hP hD hS hl
    unfold FR_X2_joinRows_77 at hF
    refine lv_iinc (v := x3_77 + (1 : Int32)) (lv' := [(3, .int (x3_77 + (1 : Int32))), (0, .ref (ad 1002)), (1, .ref x1_77), (2, .int x2_77)]) hx hb dX2_joinRows_77 hl (k := 3) rfl rfl (by decide) rfl (fun ls hl => ?_)
    refine lv_goto (tgt := 12) hx hb dX2_joinRows_80 (by decide) ?_
    exact k_12 x2_77 (x3_77 + (1 : Int32)) σ_77 _ _ _ hF hP hD hS (lv_sub hl [1, 2, 3, 0] rfl)
  have b_12 : ∀ (x1_12 : Nat) (n_12 : Nat) (x2_12 : Int32) (x3_12 : Int32) (σ_12 : RS) (H : Heap) (locs : List Loc) (ls : Array Slot), FR_X2_joinRows_12 N x1_12 n_12 x2_12 x3_12 σ_12 = some q → va_P D vwCl (wR cs ad σ_12) H → va_D A (wR cs ad σ_12) → va_S A s.heap H locs → lv_has ls 6 [(0, .ref (ad 1002)), (1, .ref x1_12), (2, .int x2_12), (3, .int x3_12)] → W p l e (headSpec wsR_X2_joinRows { frames := 2, cells := 1, slots := 120, locals := 43 }).room s m ([.ref (ad 1002)] : List Value).toArray below meth c H locs 1 120 (MQ below (va_Qq (fun x u => x = some q.1 ∧ u = q.2) (posQ D cs ad A) A) ([.ref (ad 1002)] : List Value).toArray s 1 120 A) (F0 m 12 ls []) := by
    intro x1_12
    intro n_12
    induction n_12 with
    | zero =>
      intro x2_12 x3_12 σ_12 H locs ls hF hP hD hS hl
      exact absurd hF (by simp [FR_X2_joinRows_12])
    | succ n_12 ih_12 =>
      intro x2_12 x3_12 σ_12 H locs ls hF hP hD hS hl
      rw [FR_X2_joinRows_12] at hF
      refine lv_iload_n hx hb dX2_joinRows_12 rfl (lv_at hl 3 rfl) ?_
      refine lv_bipush (v := (6 : Int32)) hx hb dX2_joinRows_13 (by decide) ?_
      refine lv_icmp_ge (tgt := 83) hx hb dX2_joinRows_15 (by decide) (fun c_15 => ?_) (fun c_15 => ?_)
      · have hF := ob_t c_15 hF
        refine lv_aload_n hx hb dX2_joinRows_83 rfl (lv_at hl 1 rfl) ?_
        exact rqN hx hb hr (Or.inr ⟨_, rfl⟩) hlocks hF hK hP hD hS (Nat.le_of_ble_eq_true rfl) (Nat.le_of_ble_eq_true rfl) dX2_joinRows_84
      · have hF := ob_f c_15 hF
        refine lv_iconst (v := (0 : Int32)) hx hb dX2_joinRows_18 (by decide) ?_
        refine lv_istore (i := 4) (lv' := [(4, .int (0 : Int32)), (0, .ref (ad 1002)), (1, .ref x1_12), (2, .int x2_12), (3, .int x3_12)]) hx hb dX2_joinRows_19 hl (by decide) rfl (fun ls hl => ?_)
        exact b_21 x1_12 x3_12 (fun x2_77 σ_77 => FR_X2_joinRows_77 N (fun x2_12 x3_12 σ_12 => FR_X2_joinRows_12 N  x1_12 n_12 x2_12 x3_12 σ_12) x1_12 x2_77 x3_12 σ_77) (fun x2_77 σ_77 => b_77 x1_12 x2_77 x3_12 (fun x2_12 x3_12 σ_12 => FR_X2_joinRows_12 N  x1_12 n_12 x2_12 x3_12 σ_12) ih_12 σ_77) fu x2_12 (0 : Int32) σ_12 _ _ _ hF hP hD hS (lv_sub hl [1, 2, 3, 4, 0] rfl)
  have hl := lv_entry ([.ref (ad 1002)]) (n := 6) (Nat.le_of_ble_eq_true rfl)
  rw [lg_entry_eq]
  generalize (lg_sl ([.ref (ad 1002)]) ++ List.replicate (6 - (lg_sl ([.ref (ad 1002)])).length) Slot.unset).toArray = ls at hl ⊢
  have hl : lv_has ls 6 [(0, .ref (ad 1002))] := hl
  unfold FR_X2_joinRows at hF
  refine lv_aload_n hx hb dX2_joinRows_0 rfl (lv_at hl 0 rfl) ?_
  refine gF hx hb hts hin wo_2 rfl hown hK hP (ob_2 _ _ _) 0 (va_rf (rV σ 200)) (by decide) rf_X2_9 rfl dX2_joinRows_1 ?_
  obtain ⟨r_1, o_1, hF⟩ := ob_bd hF
  refine rfS o_1 ?_
  obtain ⟨k_4_1, hF⟩ := ob_gd hF
  refine lnP (v := (Int32.ofNat (pN σ r_1))) hx hb hK hP k_4_1 rfl dX2_joinRows_4 ?_
  obtain ⟨g_5, hF⟩ := ob_gd hF
  refine neA (a := N) (cap := 120) hx hb hts hin hK hP hD hS hA g_5 (by decide) hS.1 (by omega) (Nat.le_of_ble_eq_true rfl) (Nat.le_of_ble_eq_true rfl) dX2_joinRows_5 (fun H hP hD hS => ?_)
  have kn_5 : isK (nA σ N ((Int32.ofNat (pN σ r_1)).toNatClampNeg) (fun _ => 0)) N 11 = true := isK_nA _ _ _ _
  refine lv_astore_n (i := 1) (lv' := [(1, .ref N), (0, .ref (ad 1002))]) hx hb dX2_joinRows_7 rfl hl (by decide) rfl (fun ls hl => ?_)
  refine lv_iconst (v := (0 : Int32)) hx hb dX2_joinRows_8 (by decide) ?_
  refine lv_istore_n (i := 2) (lv' := [(2, .int (0 : Int32)), (1, .ref N), (0, .ref (ad 1002))]) hx hb dX2_joinRows_9 rfl hl (by decide) rfl (fun ls hl => ?_)
  refine lv_iconst (v := (0 : Int32)) hx hb dX2_joinRows_10 (by decide) ?_
  refine lv_istore_n (i := 3) (lv' := [(3, .int (0 : Int32)), (2, .int (0 : Int32)), (1, .ref N), (0, .ref (ad 1002))]) hx hb dX2_joinRows_11 rfl hl (by decide) rfl (fun ls hl => ?_)
  exact b_12 N fu (0 : Int32) (0 : Int32) (nA σ N ((Int32.ofNat (pN σ r_1)).toNatClampNeg) (fun _ => 0)) _ _ _ hF hP hD hS (lv_sub hl [3, 2, 1, 0] rfl)
def wsR_X9_unpick : List Cond := Cond.code yX9_unpick cX9_unpick 5 (some .int) :: wRa
theorem cw_X9_X2_joinRows_229 {R : Room} {s : State} {args : Array Value} {y : MethodName} {c : ByteArray} {n : Nat} {r : Option FieldType} (hts : ∀ w ∈ (Cond.code y c n r :: wRa), w.before args s = true) (hR : 2 + 1 ≤ R.frames ∧ 8 + (6 + 11) + 43 ≤ R.locals) : CallW R s args RX9 RX2 229 yX2_joinRows cX2_joinRows 6 (some (.array .int)) wsR_X2_joinRows { frames := 2, cells := 1, slots := 120, locals := 43 } 1 120 0 := cwV 0 hts (goodV wRa_good rm_X9_229 ri_X2_joinRows rs_X2_joinRows rn_X2 rc_X2_joinRows) rfl rfl rfl (by decide +kernel) hR
theorem cw_X9_X0_init_115 {R : Room} {s : State} {args : Array Value} {y : MethodName} {c : ByteArray} {n : Nat} {r : Option FieldType} (hts : ∀ w ∈ (Cond.code y c n r :: wRa), w.before args s = true) (hR : 1 + 1 ≤ R.frames ∧ 8 + (4 + 11) + 20 ≤ R.locals) : CallB R s args RX9 115 yX0_init cX0_init 4 none wsR_X0_init { frames := 1, cells := 0, slots := 0, locals := 20 } 0 0 3 ∧ (yX0_init).name = "<init>" ∧ (Cond.instanceMethod yX0_init).before args s = true := cwI 3 hts (goodC wRa_good rc_X0_init) rfl rfl rfl (hts _ (List.mem_cons_of_mem _ rn_X0)) (hts _ (List.mem_cons_of_mem _ rm_X9_115)) (hts _ (List.mem_cons_of_mem _ ri_X0_init)) rfl (by decide +kernel) hR
def FR_X9_unpick (N : Nat) (σ : RS) (p1 : Int32) (p2 : Int32) (p3 : Int32) : Option (Int32 × RS) := ((FR_X9_robeAt σ p1).bind fun q_2 => (oc q_2 (some ((-1 : Int32), σ)) (fun c_9 => (gd (isK σ c_9 4) ((pR σ c_9 0).bind fun r_16 => (gd (isK σ r_16 0) ((FR_X0_canLie σ r_16 p2 p3).bind fun q_21 => (if q_21 = 0 then (some ((-2 : Int32), σ)) else (if (pI σ c_9 4) = (-1 : Int32) then (oc (pR σ c_9 2) (if (rI σ 903) < (40 : Int32) then ((pR σ r_16 0).bind fun r_71 => ((pR σ c_9 1).bind fun r_76 => ((FR_X2_spread σ r_71 r_76 (rI σ 907) (rI σ 908)).bind fun q_87 => ((FR_X2_lay q_87 p2 p3).bind fun q_96 => (gd (inb p1 30) ((FR_X2_joinRows (N + 1) (nO (rq q_96 904 p1 none) N 0)).bind fun q_115 => (gd (isK q_115.2 c_9 4) ((pR q_115.2 c_9 0).bind fun r_120 => (gd (isK q_115.2 r_120 0) (gd (isK q_115.2 N 0) ((FR_X0_init q_115.2 N q_115.1 (pI q_115.2 r_120 1) (pI q_115.2 r_120 2)).bind fun q_134 => ((FR_X9_keepBolt q_134 N).bind fun q_137 => (some (q_137.1, q_137.2)))))))))))))) else (some ((-4 : Int32), σ))) (fun c_44 => (some ((-3 : Int32), σ)))) else (some ((-3 : Int32), σ)))))))))))
set_option maxHeartbeats 4000000 in
set_option maxRecDepth 100000 in
theorem cR_X9_unpick (l : Launch) (D : va_G) (cs : Nat → ClassId) (ad tb : Nat → Nat) (A : Nat → Prop) (N : Nat) (hA0 : ∀ q, N ≤ q → A q) (σ : RS) (p1 : Int32) (p2 : Int32) (p3 : Int32) (q : (Int32 × RS)) (hF : FR_X9_unpick N σ p1 p2 p3 = some q) : Met l yX9_unpick wsR_X9_unpick { frames := 3, cells := 2, slots := 123, locals := 72 } (va_Pc [.ref (ad 1009), .int p1, .int p2, .int p3] (preN N D cs ad tb A σ)) (va_Qi (fun x u => x = q.1 ∧ u = q.2) (posQ D cs ad A) A) 2 123 A := by
  refine Met.ofW (cc := cX9_unpick) (maxL := 5) (ret := (some .int)) (by decide) rfl ?_
  intro p e s m args below meth c s₁ B hml hv
  obtain ⟨rfl, hN, hP, hK, hD, hZ⟩ := hv
  have hx := B.exec
  have hb := B.bytes
  have hr := B.returns
  have hts : ∀ w ∈ (Cond.code yX9_unpick cX9_unpick 5 (some .int) :: wRa), w.before ([.ref (ad 1009), .int p1, .int p2, .int p3] : List Value).toArray s = true := atoms_spec (ws := wsR_X9_unpick) B.pre
  have hin : ∀ w ∈ wRa, w ∈ (Cond.code yX9_unpick cX9_unpick 5 (some .int) :: wRa) := fun w hw => List.mem_cons_of_mem _ hw
  have hown : s.vm.findClass RX9 = some m.cls := findClass_of_methodNamed B.named
  have hlocks := B.notSynchronized
  have hS : va_S A s.heap s.heap [] := va_S.rf
  have hA : ∀ q, s.heap.size ≤ q → A q := by rw [hN]; exact hA0
  have hl := lv_entry ([.ref (ad 1009), .int p1, .int p2, .int p3]) (n := 5) (Nat.le_of_ble_eq_true rfl)
  rw [lg_entry_eq]
  generalize (lg_sl ([.ref (ad 1009), .int p1, .int p2, .int p3]) ++ List.replicate (5 - (lg_sl ([.ref (ad 1009), .int p1, .int p2, .int p3])).length) Slot.unset).toArray = ls at hl ⊢
  have hl : lv_has ls 5 [(0, .ref (ad 1009)), (1, .int p1), (2, .int p2), (3, .int p3)] := hl
  unfold FR_X9_unpick at hF
  refine lv_aload_n hx hb dX9_unpick_0 rfl (lv_at hl 0 rfl) ?_
  refine lv_iload_n hx hb dX9_unpick_1 rfl (lv_at hl 1 rfl) ?_
  obtain ⟨q_2, e_2, hF⟩ := ob_bd hF
  refine cqR (As := [.int p1]) (rest := []) ⟨hx, hb, hml, hown, hts⟩ (cR_X9_robeAt l D cs ad tb A σ p1 _ e_2) (cw_X9_X9_robeAt_190 hts ⟨Nat.le_of_ble_eq_true rfl, Nat.le_of_ble_eq_true rfl⟩) ⟨(Nat.le_of_ble_eq_true rfl), (Nat.le_of_ble_eq_true rfl)⟩ (rcF hK hP (ci := 9) rfl (ob_9 _ _ _)) hK hP hD hS hZ rfl hl.1 rfl (lv_room (Nat.le_of_ble_eq_true rfl)) dX9_unpick_2 ?_
  refine asQ (i := 4) (lv' := [(4, va_rf q_2), (0, .ref (ad 1009)), (1, .int p1), (2, .int p2), (3, .int p3)]) hx hb dX9_unpick_5 hl (by decide) rfl (fun ls hl => ?_)
  refine alQ hx hb dX9_unpick_7 (lv_at hl 0 rfl) ?_
  refine nnQ (tgt := 14) hx hb dX9_unpick_9 (by decide) (fun c_9 e_9 => ?_) (fun e_9 => ?_)
  · have hF := oc_s e_9 hF
    refine alQ hx hb dX9_unpick_14 (lv_at hl 0 rfl) ?_
    refine rfS e_9 ?_
    obtain ⟨k_16_1, hF⟩ := ob_gd hF
    refine gP hx hb hts hin wo_4 rfl hown hK hP k_16_1 (pf_4 (isK_K k_16_1)) 0 (va_rf (pR σ c_9 0)) (by decide) rf_X9_194 rfl dX9_unpick_16 ?_
    obtain ⟨r_16, o_16, hF⟩ := ob_bd hF
    refine rfS o_16 ?_
    refine lv_iload_n hx hb dX9_unpick_19 rfl (lv_at hl 3 rfl) ?_
    refine lv_iload_n hx hb dX9_unpick_20 rfl (lv_at hl 4 rfl) ?_
    obtain ⟨k_21_2, hF⟩ := ob_gd hF
    obtain ⟨q_21, e_21, hF⟩ := ob_bd hF
    refine crR (As := [.int p2, .int p3]) (rest := []) ⟨hx, hb, hml, hown, hts⟩ (cR_X0_canLie l D cs ad tb A σ r_16 p2 p3 _ e_21) (cw_X9_X0_canLie_145 hts ⟨Nat.le_of_ble_eq_true rfl, Nat.le_of_ble_eq_true rfl⟩) ⟨(Nat.le_of_ble_eq_true rfl), (Nat.le_of_ble_eq_true rfl)⟩ (rcP hK hP (ci := 0) rfl k_21_2 (pf_0 (isK_K k_21_2))) hK hP hD hS hZ rfl hl.1 rfl (lv_room (Nat.le_of_ble_eq_true rfl)) dX9_unpick_21 ?_
    refine lv_if_ne (tgt := 30) hx hb dX9_unpick_24 (by decide) (fun c_24 => ?_) (fun c_24 => ?_)
    · have hF := ob_f c_24 hF
      refine alQ hx hb dX9_unpick_30 (lv_at hl 0 rfl) ?_
      refine rfS e_9 ?_
      refine gP hx hb hts hin wo_4 rfl hown hK hP k_16_1 (pf_4 (isK_K k_16_1)) 4 (.int (pI σ c_9 4)) (by decide) rf_X9_210 rfl dX9_unpick_32 ?_
      refine lv_iconst (v := (-1 : Int32)) hx hb dX9_unpick_35 (by decide) ?_
      refine lv_icmp_ne (tgt := 47) hx hb dX9_unpick_36 (by decide) (fun c_36 => ?_) (fun c_36 => ?_)
      · have hF := ob_f c_36 hF
        refine lv_bipush (v := (-3 : Int32)) hx hb dX9_unpick_47 (by decide) ?_
        exact rwN hx hb hr hlocks hF hK hP hD hS (Nat.le_of_ble_eq_true rfl) (Nat.le_of_ble_eq_true rfl) dX9_unpick_49
      · have hF := ob_t c_36 hF
        refine alQ hx hb dX9_unpick_39 (lv_at hl 0 rfl) ?_
        refine rfS e_9 ?_
        refine gP hx hb hts hin wo_4 rfl hown hK hP k_16_1 (pf_4 (isK_K k_16_1)) 2 (va_rf (pR σ c_9 2)) (by decide) rf_X9_201 rfl dX9_unpick_41 ?_
        refine nlQ (tgt := 50) hx hb dX9_unpick_44 (by decide) (fun e_44 => ?_) (fun c_44 e_44 => ?_)
        · have hF := oc_n e_44 hF
          refine lv_aload_n hx hb dX9_unpick_50 rfl (lv_at hl 1 rfl) ?_
          refine gF hx hb hts hin wo_9 rfl hown hK hP (ob_9 _ _ _) 3 (.int (rI σ 903)) (by decide) rf_X9_99 rfl dX9_unpick_51 ?_
          refine lv_bipush (v := (40 : Int32)) hx hb dX9_unpick_54 (by decide) ?_
          refine lv_icmp_lt (tgt := 62) hx hb dX9_unpick_56 (by decide) (fun c_56 => ?_) (fun c_56 => ?_)
          · have hF := ob_t c_56 hF
            refine lv_aload_n hx hb dX9_unpick_62 rfl (lv_at hl 1 rfl) ?_
            refine gF hx hb hts hin wo_9 rfl hown hK hP (ob_9 _ _ _) 10 (.ref (ad 1002)) (by decide) rf_X9_57 rfl dX9_unpick_63 ?_
            refine alQ hx hb dX9_unpick_66 (lv_at hl 0 rfl) ?_
            refine rfS e_9 ?_
            refine gP hx hb hts hin wo_4 rfl hown hK hP k_16_1 (pf_4 (isK_K k_16_1)) 0 (va_rf (pR σ c_9 0)) (by decide) rf_X9_194 rfl dX9_unpick_68 ?_
            refine rfS o_16 ?_
            refine gP hx hb hts hin wo_0 rfl hown hK hP k_21_2 (pf_0 (isK_K k_21_2)) 0 (va_rf (pR σ r_16 0)) (by decide) rf_X9_126 rfl dX9_unpick_71 ?_
            obtain ⟨r_71, o_71, hF⟩ := ob_bd hF
            refine rfS o_71 ?_
            refine alQ hx hb dX9_unpick_74 (lv_at hl 0 rfl) ?_
            refine rfS e_9 ?_
            refine gP hx hb hts hin wo_4 rfl hown hK hP k_16_1 (pf_4 (isK_K k_16_1)) 1 (va_rf (pR σ c_9 1)) (by decide) rf_X9_198 rfl dX9_unpick_76 ?_
            obtain ⟨r_76, o_76, hF⟩ := ob_bd hF
            refine rfS o_76 ?_
            refine lv_aload_n hx hb dX9_unpick_79 rfl (lv_at hl 1 rfl) ?_
            refine gF hx hb hts hin wo_9 rfl hown hK hP (ob_9 _ _ _) 7 (.int (rI σ 907)) (by decide) rf_X9_39 rfl dX9_unpick_80 ?_
            refine lv_aload_n hx hb dX9_unpick_83 rfl (lv_at hl 1 rfl) ?_
            refine gF hx hb hts hin wo_9 rfl hown hK hP (ob_9 _ _ _) 8 (.int (rI σ 908)) (by decide) rf_X9_43 rfl dX9_unpick_84 ?_
            obtain ⟨q_87, e_87, hF⟩ := ob_bd hF
            refine cvR (As := [.ref r_71, .ref r_76, .int (rI σ 907), .int (rI σ 908)]) (rest := []) ⟨hx, hb, hml, hown, hts⟩ (cR_X2_spread l D cs ad tb A σ r_71 r_76 (rI σ 907) (rI σ 908) _ e_87) (cw_X9_X2_spread_149 hts ⟨Nat.le_of_ble_eq_true rfl, Nat.le_of_ble_eq_true rfl⟩) ⟨(Nat.le_of_ble_eq_true rfl), (Nat.le_of_ble_eq_true rfl)⟩ (rcF hK hP (ci := 2) rfl (ob_2 _ _ _)) hK hP hD hS hZ rfl hl.1 rfl (lv_room (Nat.le_of_ble_eq_true rfl)) dX9_unpick_87 (fun H locs hP hD hS => ?_)
            refine lv_aload_n hx hb dX9_unpick_90 rfl (lv_at hl 1 rfl) ?_
            refine gF hx hb hts hin wo_9 rfl hown hK hP (ob_9 _ _ _) 10 (.ref (ad 1002)) (by decide) rf_X9_57 rfl dX9_unpick_91 ?_
            refine lv_iload_n hx hb dX9_unpick_94 rfl (lv_at hl 3 rfl) ?_
            refine lv_iload_n hx hb dX9_unpick_95 rfl (lv_at hl 4 rfl) ?_
            obtain ⟨q_96, e_96, hF⟩ := ob_bd hF
            refine cvR (As := [.int p2, .int p3]) (rest := []) ⟨hx, hb, hml, hown, hts⟩ (cR_X2_lay l D cs ad tb A q_87 p2 p3 _ e_96) (cw_X9_X2_lay_155 hts ⟨Nat.le_of_ble_eq_true rfl, Nat.le_of_ble_eq_true rfl⟩) ⟨(Nat.le_of_ble_eq_true rfl), (Nat.le_of_ble_eq_true rfl)⟩ (rcF hK hP (ci := 2) rfl (ob_2 _ _ _)) hK hP hD hS hZ rfl hl.1 rfl (lv_room (Nat.le_of_ble_eq_true rfl)) dX9_unpick_96 (fun H locs hP hD hS => ?_)
            refine lv_aload_n hx hb dX9_unpick_99 rfl (lv_at hl 1 rfl) ?_
            refine gF hx hb hts hin wo_9 rfl hown hK hP (ob_9 _ _ _) 4 (.ref (ad 904)) (by decide) rf_X9_31 rfl dX9_unpick_100 ?_
            refine lv_iload_n hx hb dX9_unpick_103 rfl (lv_at hl 2 rfl) ?_
            refine lv_null hx hb dX9_unpick_104 ?_
            obtain ⟨g_105, hF⟩ := ob_gd hF
            refine snA (C := "RobeHouse$Robe") hx hb hK hP hD hS (ra_904 _ _ _) rfl (rs_904 _ _ _ _ _) g_105 dX9_unpick_105 (fun H locs hP hD hS => ?_)
            refine lv_aload_n hx hb dX9_unpick_106 rfl (lv_at hl 1 rfl) ?_
            refine neO (fs := [.null, .int 0, .int 0]) (a := N) hx hb hts hin wo_0 rfl tyX0 tyX0_ok hown rl_X9_23 ro_X0 rn_X0 hK hP hD hS hA (fun j hj => by rcases (show j = 0 ∨ j = 1 ∨ j = 2 by omega) with rfl | rfl | rfl <;> rfl) (df_0 _ _) hS.1 (by omega) (Nat.le_of_ble_eq_true rfl) (Nat.le_of_ble_eq_true rfl) dX9_unpick_107 (fun H hP hD hS => ?_)
            have kn_107 : isK (nO (rq q_96 904 p1 none) N 0) N 0 = true := isK_nO _ _ _
            refine lv_dup hx hb dX9_unpick_110 rfl ?_
            refine lv_aload_n hx hb dX9_unpick_111 rfl (lv_at hl 1 rfl) ?_
            refine gF hx hb hts hin wo_9 rfl hown hK hP (ob_9 _ _ _) 10 (.ref (ad 1002)) (by decide) rf_X9_57 rfl dX9_unpick_112 ?_
            obtain ⟨q_115, e_115, hF⟩ := ob_bd hF
            refine caR (As := []) (rest := [.ref N, .ref N, .ref (ad 1009)]) ⟨hx, hb, hml, hown, hts⟩ (cR_X2_joinRows l D cs ad tb A (N + 1) (fun q hq => hA q (by omega)) (nO (rq q_96 904 p1 none) N 0) _ e_115) (cw_X9_X2_joinRows_229 hts ⟨Nat.le_of_ble_eq_true rfl, Nat.le_of_ble_eq_true rfl⟩) ⟨(Nat.le_of_ble_eq_true rfl), (Nat.le_of_ble_eq_true rfl)⟩ (rcF hK hP (ci := 2) rfl (ob_2 _ _ _)) hK hP hD hS hZ (by have h7 := isK_low hP kn_107; omega) (by omega) rfl hl.1 rfl (lv_room (Nat.le_of_ble_eq_true rfl)) dX9_unpick_115 (fun H locs hP hD hS => ?_)
            refine alQ hx hb dX9_unpick_118 (lv_at hl 0 rfl) ?_
            refine rfS e_9 ?_
            obtain ⟨k_120_3, hF⟩ := ob_gd hF
            refine gP hx hb hts hin wo_4 rfl hown hK hP k_120_3 (pf_4 (isK_K k_120_3)) 0 (va_rf (pR q_115.2 c_9 0)) (by decide) rf_X9_194 rfl dX9_unpick_120 ?_
            obtain ⟨r_120, o_120, hF⟩ := ob_bd hF
            refine rfS o_120 ?_
            obtain ⟨k_123_4, hF⟩ := ob_gd hF
            refine gP hx hb hts hin wo_0 rfl hown hK hP k_123_4 (pf_0 (isK_K k_123_4)) 1 (.int (pI q_115.2 r_120 1)) (by decide) rf_X9_127 rfl dX9_unpick_123 ?_
            refine alQ hx hb dX9_unpick_126 (lv_at hl 0 rfl) ?_
            refine rfS e_9 ?_
            refine gP hx hb hts hin wo_4 rfl hown hK hP k_120_3 (pf_4 (isK_K k_120_3)) 0 (va_rf (pR q_115.2 c_9 0)) (by decide) rf_X9_194 rfl dX9_unpick_128 ?_
            refine rfS o_120 ?_
            refine gP hx hb hts hin wo_0 rfl hown hK hP k_123_4 (pf_0 (isK_K k_123_4)) 2 (.int (pI q_115.2 r_120 2)) (by decide) rf_X9_130 rfl dX9_unpick_131 ?_
            obtain ⟨k_134_5, hF⟩ := ob_gd hF
            obtain ⟨q_134, e_134, hF⟩ := ob_bd hF
            refine ciR (As := [.ref q_115.1, .int (pI q_115.2 r_120 1), .int (pI q_115.2 r_120 2)]) (rest := [.ref N, .ref (ad 1009)]) ⟨hx, hb, hml, hown, hts⟩ (cR_X0_init l D cs ad tb A q_115.2 N q_115.1 (pI q_115.2 r_120 1) (pI q_115.2 r_120 2) _ e_134) (cw_X9_X0_init_115 hts ⟨Nat.le_of_ble_eq_true rfl, Nat.le_of_ble_eq_true rfl⟩) ⟨(Nat.le_of_ble_eq_true rfl), (Nat.le_of_ble_eq_true rfl)⟩ hK hP hD hS hZ rfl hl.1 rfl (lv_room (Nat.le_of_ble_eq_true rfl)) dX9_unpick_134 (fun H locs hP hD hS => ?_)
            obtain ⟨q_137, e_137, hF⟩ := ob_bd hF
            refine cwR (As := [.ref N]) (rest := []) ⟨hx, hb, hml, hown, hts⟩ (cR_X9_keepBolt l D cs ad tb A q_134 N _ e_137) (cw_X9_X9_keepBolt_118 hts ⟨Nat.le_of_ble_eq_true rfl, Nat.le_of_ble_eq_true rfl⟩) ⟨(Nat.le_of_ble_eq_true rfl), (Nat.le_of_ble_eq_true rfl)⟩ (rcF hK hP (ci := 9) rfl (ob_9 _ _ _)) hK hP hD hS hZ rfl hl.1 rfl (lv_room (Nat.le_of_ble_eq_true rfl)) dX9_unpick_137 (fun H locs hP hD hS => ?_)
            exact rwN hx hb hr hlocks hF hK hP hD hS (Nat.le_of_ble_eq_true rfl) (Nat.le_of_ble_eq_true rfl) dX9_unpick_140
          · have hF := ob_f c_56 hF
            refine lv_bipush (v := (-4 : Int32)) hx hb dX9_unpick_59 (by decide) ?_
            exact rwN hx hb hr hlocks hF hK hP hD hS (Nat.le_of_ble_eq_true rfl) (Nat.le_of_ble_eq_true rfl) dX9_unpick_61
        · have hF := oc_s e_44 hF
          refine lv_bipush (v := (-3 : Int32)) hx hb dX9_unpick_47 (by decide) ?_
          exact rwN hx hb hr hlocks hF hK hP hD hS (Nat.le_of_ble_eq_true rfl) (Nat.le_of_ble_eq_true rfl) dX9_unpick_49
    · have hF := ob_t c_24 hF
      refine lv_bipush (v := (-2 : Int32)) hx hb dX9_unpick_27 (by decide) ?_
      exact rwN hx hb hr hlocks hF hK hP hD hS (Nat.le_of_ble_eq_true rfl) (Nat.le_of_ble_eq_true rfl) dX9_unpick_29
  · have hF := oc_n e_9 hF
    refine lv_iconst (v := (-1 : Int32)) hx hb dX9_unpick_12 (by decide) ?_
    exact rwN hx hb hr hlocks hF hK hP hD hS (Nat.le_of_ble_eq_true rfl) (Nat.le_of_ble_eq_true rfl) dX9_unpick_13
