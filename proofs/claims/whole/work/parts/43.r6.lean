def wsR_X9_person : List Cond := Cond.code yX9_person cX9_person 6 (some .int) :: wRa
def FR_X9_person_56 (x2_56 : Int32) (x3_56 : Int32) (x4_56 : Option Nat) (t0_56 : Int32) (σ_56 : RS) : Option (Int32 × RS) := (x4_56.bind fun r_58 => (gd (isK σ_56 r_58 3) (some (t0_56, (wi (wi (wi σ_56 r_58 0 (1 : Int32)) r_58 1 x2_56) r_58 2 x3_56)))))
def FR_X9_person (σ : RS) (p1 : Int32) (p2 : Int32) (p3 : Int32) : Option (Int32 × RS) := ((FR_X9_within p1 (0 : Int32) (9 : Int32)).bind fun q_4 => (if q_4 = 0 then (some ((-1 : Int32), σ)) else ((FR_X9_within p2 (0 : Int32) (99 : Int32)).bind fun q_16 => (if q_16 = 0 then (some ((-2 : Int32), σ)) else ((FR_X9_within p3 (0 : Int32) (9 : Int32)).bind fun q_26 => (if q_26 = 0 then (some ((-2 : Int32), σ)) else (gd (inb p1 10) ((rQ σ 914 p1.toNatClampNeg).bind fun r_43 => (gd (isK σ r_43 3) (if (pI σ r_43 0) = 0 then (FR_X9_person_56 p2 p3 (rQ σ 914 p1.toNatClampNeg) (1 : Int32) σ) else (FR_X9_person_56 p2 p3 (rQ σ 914 p1.toNatClampNeg) (0 : Int32) σ)))))))))))
set_option maxHeartbeats 4000000 in
set_option maxRecDepth 100000 in
theorem cR_X9_person (l : Launch) (D : va_G) (cs : Nat → ClassId) (ad tb : Nat → Nat) (A : Nat → Prop) (σ : RS) (p1 : Int32) (p2 : Int32) (p3 : Int32) (q : (Int32 × RS)) (hF : FR_X9_person σ p1 p2 p3 = some q) : Met l yX9_person wsR_X9_person { frames := 1, cells := 0, slots := 0, locals := 22 } (va_Pc [.ref (ad 1009), .int p1, .int p2, .int p3] (preQ D cs ad tb A σ)) (va_Qi (fun x u => x = q.1 ∧ u = q.2) (posQ D cs ad A) A) 0 0 A := by
  refine Met.ofW (cc := cX9_person) (maxL := 6) (ret := (some .int)) (by decide) rfl ?_
  intro p e s m args below meth c s₁ B hml hv
  obtain ⟨rfl, hP, hK, hD, hZ⟩ := hv
  have hx := B.exec
  have hb := B.bytes
  have hr := B.returns
  have hts : ∀ w ∈ (Cond.code yX9_person cX9_person 6 (some .int) :: wRa), w.before ([.ref (ad 1009), .int p1, .int p2, .int p3] : List Value).toArray s = true := atoms_spec (ws := wsR_X9_person) B.pre
  have hin : ∀ w ∈ wRa, w ∈ (Cond.code yX9_person cX9_person 6 (some .int) :: wRa) := fun w hw => List.mem_cons_of_mem _ hw
  have hown : s.vm.findClass RX9 = some m.cls := findClass_of_methodNamed B.named
  have hlocks := B.notSynchronized
  have hS : va_S A s.heap s.heap [] := va_S.rf
  have b_56 : ∀ (x2_56 : Int32) (x3_56 : Int32) (x4_56 : Option Nat) (t0_56 : Int32) (σ_56 : RS) (H : Heap) (locs : List Loc) (ls : Array Slot), FR_X9_person_56 x2_56 x3_56 x4_56 t0_56 σ_56 = some q → va_P D vwCl (wR cs ad σ_56) H → va_D A (wR cs ad σ_56) → va_S A s.heap H locs → lv_has ls 6 [(0, .ref (ad 1009)), (2, .int x2_56), (3, .int x3_56), (4, va_rf x4_56)] → W p l e (headSpec wsR_X9_person { frames := 1, cells := 0, slots := 0, locals := 22 }).room s m ([.ref (ad 1009), .int p1, .int p2, .int p3] : List Value).toArray below meth c H locs 0 0 (MQ below (va_Qi (fun x u => x = q.1 ∧ u = q.2) (posQ D cs ad A) A) ([.ref (ad 1009), .int p1, .int p2, .int p3] : List Value).toArray s 0 0 A) (F0 m 56 ls [.int t0_56]) := by
    intro x2_56 x3_56 x4_56 t0_56 σ_56 H locs ls hF hP hD hS hl
    unfold FR_X9_person_56 at hF
    refine lv_istore (i := 5) (lv' := [(5, .int t0_56), (0, .ref (ad 1009)), (2, .int x2_56), (3, .int x3_56), (4, va_rf x4_56)]) hx hb dX9_person_56 hl (by decide) (by simp [rf_cat]) (fun ls hl => ?_)
    refine alQ hx hb dX9_person_58 (lv_at hl 4 rfl) ?_
    obtain ⟨r_58, o_58, hF⟩ := ob_bd hF
    refine rfS o_58 ?_
    refine lv_iconst (v := (1 : Int32)) hx hb dX9_person_60 (by decide) ?_
    obtain ⟨k_61_2, hF⟩ := ob_gd hF
    refine pP (ρ2 := (wi σ_56 r_58 0 (1 : Int32))) (ty := .boolean) hx hb hts hin wo_3 rfl tyX3 tyX3_ok nmX3 hown hK hP hD hS k_61_2 (pf_3 (isK_K k_61_2)) 0 (by decide) rf_X9_247 rfl (by decide +kernel) rfl rfl (Nat.le_of_ble_eq_true rfl) (xR_wi _ _ _ _ _ _) (pL_wi _ _ _ _) (pw_3_0 (ρ := σ_56) (isK_K k_61_2) _) dX9_person_61 (fun H locs hP hD hS => ?_)
    refine alQ hx hb dX9_person_64 (lv_at hl 4 rfl) ?_
    refine rfS o_58 ?_
    refine lv_iload_n hx hb dX9_person_66 rfl (lv_at hl 2 rfl) ?_
    refine pP (ρ2 := (wi (wi σ_56 r_58 0 (1 : Int32)) r_58 1 x2_56)) (ty := .int) hx hb hts hin wo_3 rfl tyX3 tyX3_ok nmX3 hown hK hP hD hS (isK_wi k_61_2) (pf_3 (isK_K (isK_wi k_61_2))) 1 (by decide) rf_X9_251 rfl (by decide +kernel) rfl rfl (Nat.le_of_ble_eq_true rfl) (xR_wi _ _ _ _ _ _) (pL_wi _ _ _ _) (pw_3_1 (ρ := (wi σ_56 r_58 0 (1 : Int32))) (isK_K (isK_wi k_61_2)) _) dX9_person_67 (fun H locs hP hD hS => ?_)
    refine alQ hx hb dX9_person_70 (lv_at hl 4 rfl) ?_
    refine rfS o_58 ?_
    refine lv_iload_n hx hb dX9_person_72 rfl (lv_at hl 3 rfl) ?_
    refine pP (ρ2 := (wi (wi (wi σ_56 r_58 0 (1 : Int32)) r_58 1 x2_56) r_58 2 x3_56)) (ty := .int) hx hb hts hin wo_3 rfl tyX3 tyX3_ok nmX3 hown hK hP hD hS (isK_wi (isK_wi k_61_2)) (pf_3 (isK_K (isK_wi (isK_wi k_61_2)))) 2 (by decide) rf_X9_254 rfl (by decide +kernel) rfl rfl (Nat.le_of_ble_eq_true rfl) (xR_wi _ _ _ _ _ _) (pL_wi _ _ _ _) (pw_3_2 (ρ := (wi (wi σ_56 r_58 0 (1 : Int32)) r_58 1 x2_56)) (isK_K (isK_wi (isK_wi k_61_2))) _) dX9_person_73 (fun H locs hP hD hS => ?_)
    refine lv_iload hx hb dX9_person_76 (lv_at hl 0 rfl) ?_
    exact rwR hx hb hr hlocks hF hK hP hD hS dX9_person_78
  have hl := lv_entry ([.ref (ad 1009), .int p1, .int p2, .int p3]) (n := 6) (Nat.le_of_ble_eq_true rfl)
  rw [lg_entry_eq]
  generalize (lg_sl ([.ref (ad 1009), .int p1, .int p2, .int p3]) ++ List.replicate (6 - (lg_sl ([.ref (ad 1009), .int p1, .int p2, .int p3])).length) Slot.unset).toArray = ls at hl ⊢
  have hl : lv_has ls 6 [(0, .ref (ad 1009)), (1, .int p1), (2, .int p2), (3, .int p3)] := hl
  unfold FR_X9_person at hF
  refine lv_iload_n hx hb dX9_person_0 rfl (lv_at hl 1 rfl) ?_
  refine lv_iconst (v := (0 : Int32)) hx hb dX9_person_1 (by decide) ?_
  refine lv_bipush (v := (9 : Int32)) hx hb dX9_person_2 (by decide) ?_
  obtain ⟨q_4, e_4, hF⟩ := ob_bd hF
  refine csR (As := [.int p1, .int (0 : Int32), .int (9 : Int32)]) (rest := []) ⟨hx, hb, hml, hown, hts⟩ (cR_X9_within l p1 (0 : Int32) (9 : Int32) _ e_4) (cw_X9_X9_within_88 hts ⟨Nat.le_of_ble_eq_true rfl, Nat.le_of_ble_eq_true rfl⟩) ⟨Nat.zero_le _, Nat.zero_le _⟩ rfl hl.1 rfl (lv_room (Nat.le_of_ble_eq_true rfl)) dX9_person_4 ?_
  refine lv_if_ne (tgt := 12) hx hb dX9_person_7 (by decide) (fun c_7 => ?_) (fun c_7 => ?_)
  · have hF := ob_f c_7 hF
    refine lv_iload_n hx hb dX9_person_12 rfl (lv_at hl 2 rfl) ?_
    refine lv_iconst (v := (0 : Int32)) hx hb dX9_person_13 (by decide) ?_
    refine lv_bipush (v := (99 : Int32)) hx hb dX9_person_14 (by decide) ?_
    obtain ⟨q_16, e_16, hF⟩ := ob_bd hF
    refine csR (As := [.int p2, .int (0 : Int32), .int (99 : Int32)]) (rest := []) ⟨hx, hb, hml, hown, hts⟩ (cR_X9_within l p2 (0 : Int32) (99 : Int32) _ e_16) (cw_X9_X9_within_88 hts ⟨Nat.le_of_ble_eq_true rfl, Nat.le_of_ble_eq_true rfl⟩) ⟨Nat.zero_le _, Nat.zero_le _⟩ rfl hl.1 rfl (lv_room (Nat.le_of_ble_eq_true rfl)) dX9_person_16 ?_
    refine lv_if_eq (tgt := 32) hx hb dX9_person_19 (by decide) (fun c_19 => ?_) (fun c_19 => ?_)
    · have hF := ob_t c_19 hF
      refine lv_bipush (v := (-2 : Int32)) hx hb dX9_person_32 (by decide) ?_
      exact rwR hx hb hr hlocks hF hK hP hD hS dX9_person_34
    · have hF := ob_f c_19 hF
      refine lv_iload_n hx hb dX9_person_22 rfl (lv_at hl 3 rfl) ?_
      refine lv_iconst (v := (0 : Int32)) hx hb dX9_person_23 (by decide) ?_
      refine lv_bipush (v := (9 : Int32)) hx hb dX9_person_24 (by decide) ?_
      obtain ⟨q_26, e_26, hF⟩ := ob_bd hF
      refine csR (As := [.int p3, .int (0 : Int32), .int (9 : Int32)]) (rest := []) ⟨hx, hb, hml, hown, hts⟩ (cR_X9_within l p3 (0 : Int32) (9 : Int32) _ e_26) (cw_X9_X9_within_88 hts ⟨Nat.le_of_ble_eq_true rfl, Nat.le_of_ble_eq_true rfl⟩) ⟨Nat.zero_le _, Nat.zero_le _⟩ rfl hl.1 rfl (lv_room (Nat.le_of_ble_eq_true rfl)) dX9_person_26 ?_
      refine lv_if_ne (tgt := 35) hx hb dX9_person_29 (by decide) (fun c_29 => ?_) (fun c_29 => ?_)
      · have hF := ob_f c_29 hF
        refine lv_aload_n hx hb dX9_person_35 rfl (lv_at hl 0 rfl) ?_
        refine gF hx hb hts hin wo_9 rfl hown hK hP (ob_9 _ _ _) 14 (.ref (ad 914)) (by decide) rf_X9_72 rfl dX9_person_36 ?_
        refine lv_iload_n hx hb dX9_person_39 rfl (lv_at hl 1 rfl) ?_
        obtain ⟨g_40, hF⟩ := ob_gd hF
        refine ldA (C := "RobeHouse$Person") hx hb hK hP (ra_914 _ _ _) rfl (rQ σ 914 p1.toNatClampNeg) g_40 rfl dX9_person_40 ?_
        refine asQ (i := 4) (lv' := [(4, va_rf (rQ σ 914 p1.toNatClampNeg)), (0, .ref (ad 1009)), (1, .int p1), (2, .int p2), (3, .int p3)]) hx hb dX9_person_41 hl (by decide) rfl (fun ls hl => ?_)
        refine alQ hx hb dX9_person_43 (lv_at hl 0 rfl) ?_
        obtain ⟨r_43, o_43, hF⟩ := ob_bd hF
        refine rfS o_43 ?_
        obtain ⟨k_45_1, hF⟩ := ob_gd hF
        refine gP hx hb hts hin wo_3 rfl hown hK hP k_45_1 (pf_3 (isK_K k_45_1)) 0 (.int (pI σ r_43 0)) (by decide) rf_X9_247 rfl dX9_person_45 ?_
        refine lv_if_eq (tgt := 55) hx hb dX9_person_48 (by decide) (fun c_48 => ?_) (fun c_48 => ?_)
        · have hF := ob_t c_48 hF
          refine lv_iconst (v := (1 : Int32)) hx hb dX9_person_55 (by decide) ?_
          exact b_56 p2 p3 (rQ σ 914 p1.toNatClampNeg) (1 : Int32) σ _ _ _ hF hP hD hS (lv_sub hl [1, 3, 4, 0] rfl)
        · have hF := ob_f c_48 hF
          refine lv_iconst (v := (0 : Int32)) hx hb dX9_person_51 (by decide) ?_
          refine lv_goto (tgt := 56) hx hb dX9_person_52 (by decide) ?_
          exact b_56 p2 p3 (rQ σ 914 p1.toNatClampNeg) (0 : Int32) σ _ _ _ hF hP hD hS (lv_sub hl [1, 3, 4, 0] rfl)
      · have hF := ob_t c_29 hF
        refine lv_bipush (v := (-2 : Int32)) hx hb dX9_person_32 (by decide) ?_
        exact rwR hx hb hr hlocks hF hK hP hD hS dX9_person_34
  · have hF := ob_t c_7 hF
    refine lv_iconst (v := (-1 : Int32)) hx hb dX9_person_10 (by decide) ?_
    exact rwR hx hb hr hlocks hF hK hP hD hS dX9_person_11
def wsR_X9_personAt : List Cond := Cond.code yX9_personAt cX9_personAt 2 (some (.object "RobeHouse$Person")) :: wRa
def FR_X9_personAt (σ : RS) (p1 : Int32) : Option (Option Nat) := ((FR_X9_within p1 (0 : Int32) (9 : Int32)).bind fun q_4 => (if q_4 = 0 then (some none) else (gd (inb p1 10) ((rQ σ 914 p1.toNatClampNeg).bind fun r_15 => (gd (isK σ r_15 3) (if (pI σ r_15 0) = 0 then (some none) else (gd (inb p1 10) (some (rQ σ 914 p1.toNatClampNeg)))))))))
set_option maxHeartbeats 4000000 in
set_option maxRecDepth 100000 in
theorem cR_X9_personAt (l : Launch) (D : va_G) (cs : Nat → ClassId) (ad tb : Nat → Nat) (A : Nat → Prop) (σ : RS) (p1 : Int32) (q : (Option Nat)) (hF : FR_X9_personAt σ p1 = some q) : Met l yX9_personAt wsR_X9_personAt { frames := 1, cells := 0, slots := 0, locals := 22 } (va_Pc [.ref (ad 1009), .int p1] (preQ D cs ad tb A σ)) (va_Sq (fun x => x = q)) 0 0 (fun _ => False) := by
  refine Met.ofW (cc := cX9_personAt) (maxL := 2) (ret := (some (.object "RobeHouse$Person"))) (by decide) rfl ?_
  intro p e s m args below meth c s₁ B hml hv
  obtain ⟨rfl, hP, hK, hD, hZ⟩ := hv
  have hx := B.exec
  have hb := B.bytes
  have hr := B.returns
  have hts : ∀ w ∈ (Cond.code yX9_personAt cX9_personAt 2 (some (.object "RobeHouse$Person")) :: wRa), w.before ([.ref (ad 1009), .int p1] : List Value).toArray s = true := atoms_spec (ws := wsR_X9_personAt) B.pre
  have hin : ∀ w ∈ wRa, w ∈ (Cond.code yX9_personAt cX9_personAt 2 (some (.object "RobeHouse$Person")) :: wRa) := fun w hw => List.mem_cons_of_mem _ hw
  have hown : s.vm.findClass RX9 = some m.cls := findClass_of_methodNamed B.named
  have hlocks := B.notSynchronized
  have hS : va_S A s.heap s.heap [] := va_S.rf
  have hl := lv_entry ([.ref (ad 1009), .int p1]) (n := 2) (Nat.le_of_ble_eq_true rfl)
  rw [lg_entry_eq]
  generalize (lg_sl ([.ref (ad 1009), .int p1]) ++ List.replicate (2 - (lg_sl ([.ref (ad 1009), .int p1])).length) Slot.unset).toArray = ls at hl ⊢
  have hl : lv_has ls 2 [(0, .ref (ad 1009)), (1, .int p1)] := hl
  unfold FR_X9_personAt at hF
  refine lv_iload_n hx hb dX9_personAt_0 rfl (lv_at hl 1 rfl) ?_
  refine lv_iconst (v := (0 : Int32)) hx hb dX9_personAt_1 (by decide) ?_
  refine lv_bipush (v := (9 : Int32)) hx hb dX9_personAt_2 (by decide) ?_
  obtain ⟨q_4, e_4, hF⟩ := ob_bd hF
  refine csR (As := [.int p1, .int (0 : Int32), .int (9 : Int32)]) (rest := []) ⟨hx, hb, hml, hown, hts⟩ (cR_X9_within l p1 (0 : Int32) (9 : Int32) _ e_4) (cw_X9_X9_within_88 hts ⟨Nat.le_of_ble_eq_true rfl, Nat.le_of_ble_eq_true rfl⟩) ⟨Nat.zero_le _, Nat.zero_le _⟩ rfl hl.1 rfl (lv_room (Nat.le_of_ble_eq_true rfl)) dX9_personAt_4 ?_
  refine lv_if_eq (tgt := 31) hx hb dX9_personAt_7 (by decide) (fun c_7 => ?_) (fun c_7 => ?_)
  · have hF := ob_t c_7 hF
    refine lv_null hx hb dX9_personAt_31 ?_
    exact rqR hx hb hr (Or.inl ⟨_, rfl⟩) hlocks hF dX9_personAt_32
  · have hF := ob_f c_7 hF
    refine lv_aload_n hx hb dX9_personAt_10 rfl (lv_at hl 0 rfl) ?_
    refine gF hx hb hts hin wo_9 rfl hown hK hP (ob_9 _ _ _) 14 (.ref (ad 914)) (by decide) rf_X9_72 rfl dX9_personAt_11 ?_
    refine lv_iload_n hx hb dX9_personAt_14 rfl (lv_at hl 1 rfl) ?_
    obtain ⟨g_15, hF⟩ := ob_gd hF
    refine ldA (C := "RobeHouse$Person") hx hb hK hP (ra_914 _ _ _) rfl (rQ σ 914 p1.toNatClampNeg) g_15 rfl dX9_personAt_15 ?_
    obtain ⟨r_15, o_15, hF⟩ := ob_bd hF
    refine rfS o_15 ?_
    obtain ⟨k_16_1, hF⟩ := ob_gd hF
    refine gP hx hb hts hin wo_3 rfl hown hK hP k_16_1 (pf_3 (isK_K k_16_1)) 0 (.int (pI σ r_15 0)) (by decide) rf_X9_247 rfl dX9_personAt_16 ?_
    refine lv_if_eq (tgt := 31) hx hb dX9_personAt_19 (by decide) (fun c_19 => ?_) (fun c_19 => ?_)
    · have hF := ob_t c_19 hF
      refine lv_null hx hb dX9_personAt_31 ?_
      exact rqR hx hb hr (Or.inl ⟨_, rfl⟩) hlocks hF dX9_personAt_32
    · have hF := ob_f c_19 hF
      refine lv_aload_n hx hb dX9_personAt_22 rfl (lv_at hl 0 rfl) ?_
      refine gF hx hb hts hin wo_9 rfl hown hK hP (ob_9 _ _ _) 14 (.ref (ad 914)) (by decide) rf_X9_72 rfl dX9_personAt_23 ?_
      refine lv_iload_n hx hb dX9_personAt_26 rfl (lv_at hl 1 rfl) ?_
      obtain ⟨g_27, hF⟩ := ob_gd hF
      refine ldA (C := "RobeHouse$Person") hx hb hK hP (ra_914 _ _ _) rfl (rQ σ 914 p1.toNatClampNeg) g_27 rfl dX9_personAt_27 ?_
      refine lv_goto (tgt := 32) hx hb dX9_personAt_28 (by decide) ?_
      exact rqR hx hb hr (Or.inl ⟨_, rfl⟩) hlocks hF dX9_personAt_32
def wsR_X9_canWear : List Cond := Cond.code yX9_canWear cX9_canWear 4 (some .boolean) :: wRa
theorem cw_X9_X6_hold_302 {R : Room} {s : State} {args : Array Value} {y : MethodName} {c : ByteArray} {n : Nat} {r : Option FieldType} (hts : ∀ w ∈ (Cond.code y c n r :: wRa), w.before args s = true) (hR : 1 + 1 ≤ R.frames ∧ 8 + (3 + 11) + 23 ≤ R.locals) : CallW R s args RX9 RX6 302 yX6_hold cX6_hold 3 (some .boolean) wsR_X6_hold { frames := 1, cells := 0, slots := 0, locals := 23 } 0 0 1 := cwV 1 hts (goodV wRa_good rm_X9_302 ri_X6_hold rs_X6_hold rn_X6 rc_X6_hold) rfl rfl rfl (by decide +kernel) hR
def FR_X9_canWear_71 (x1_71 : Nat) (t1_71 : Int32) (t2_71 : Int32) (σ_71 : RS) : Option (Int32 × RS) := (gd (inb t1_71 6) (gd (isK (ra σ_71 916 t1_71 t2_71) x1_71 4) ((pR (ra σ_71 916 t1_71 t2_71) x1_71 1).bind fun r_78 => (gd (isK (ra σ_71 916 t1_71 t2_71) r_78 11) (gd (inb (2 : Int32) (pN (ra σ_71 916 t1_71 t2_71) r_78)) (gd (inb (5 : Int32) 6) (gd (inb (pI (ra (ra σ_71 916 t1_71 t2_71) 916 (5 : Int32) (pA (ra σ_71 916 t1_71 t2_71) r_78 (2 : Int32).toNatClampNeg)) x1_71 3) 4) ((rQ (ra (ra σ_71 916 t1_71 t2_71) 916 (5 : Int32) (pA (ra σ_71 916 t1_71 t2_71) r_78 (2 : Int32).toNatClampNeg)) 913 (pI (ra (ra σ_71 916 t1_71 t2_71) 916 (5 : Int32) (pA (ra σ_71 916 t1_71 t2_71) r_78 (2 : Int32).toNatClampNeg)) x1_71 3).toNatClampNeg).bind fun r_92 => (gd (isK (ra (ra σ_71 916 t1_71 t2_71) 916 (5 : Int32) (pA (ra σ_71 916 t1_71 t2_71) r_78 (2 : Int32).toNatClampNeg)) r_92 6) ((FR_X6_hold (ra (ra σ_71 916 t1_71 t2_71) 916 (5 : Int32) (pA (ra σ_71 916 t1_71 t2_71) r_78 (2 : Int32).toNatClampNeg)) r_92).bind fun q_97 => (gd (isB q_97) (some (q_97, (ra (ra σ_71 916 t1_71 t2_71) 916 (5 : Int32) (pA (ra σ_71 916 t1_71 t2_71) r_78 (2 : Int32).toNatClampNeg)))))))))))))))
def FR_X9_canWear (σ : RS) (p1 : Nat) (p2 : Nat) (p3 : Int32) : Option (Int32 × RS) := (gd (isK σ p1 4) ((FR_X9_within (pI σ p1 3) (0 : Int32) (3 : Int32)).bind fun q_6 => (if q_6 = 0 then (some ((0 : Int32), σ)) else (gd (inb (0 : Int32) 6) (gd (isK (ra σ 916 (0 : Int32) p3) p2 3) (gd (inb (1 : Int32) 6) (gd (inb (2 : Int32) 6) ((pR (ra (ra (ra σ 916 (0 : Int32) p3) 916 (1 : Int32) (pI (ra σ 916 (0 : Int32) p3) p2 1)) 916 (2 : Int32) (pI (ra (ra σ 916 (0 : Int32) p3) 916 (1 : Int32) (pI (ra σ 916 (0 : Int32) p3) p2 1)) p2 2)) p1 0).bind fun r_47 => (gd (isK (ra (ra (ra σ 916 (0 : Int32) p3) 916 (1 : Int32) (pI (ra σ 916 (0 : Int32) p3) p2 1)) 916 (2 : Int32) (pI (ra (ra σ 916 (0 : Int32) p3) 916 (1 : Int32) (pI (ra σ 916 (0 : Int32) p3) p2 1)) p2 2)) r_47 0) (gd (inb (3 : Int32) 6) (oc (pR (ra (ra (ra (ra σ 916 (0 : Int32) p3) 916 (1 : Int32) (pI (ra σ 916 (0 : Int32) p3) p2 1)) 916 (2 : Int32) (pI (ra (ra σ 916 (0 : Int32) p3) 916 (1 : Int32) (pI (ra σ 916 (0 : Int32) p3) p2 1)) p2 2)) 916 (3 : Int32) (pI (ra (ra (ra σ 916 (0 : Int32) p3) 916 (1 : Int32) (pI (ra σ 916 (0 : Int32) p3) p2 1)) 916 (2 : Int32) (pI (ra (ra σ 916 (0 : Int32) p3) 916 (1 : Int32) (pI (ra σ 916 (0 : Int32) p3) p2 1)) p2 2)) r_47 1)) p1 2) (FR_X9_canWear_71 p1 (4 : Int32) (0 : Int32) (ra (ra (ra (ra σ 916 (0 : Int32) p3) 916 (1 : Int32) (pI (ra σ 916 (0 : Int32) p3) p2 1)) 916 (2 : Int32) (pI (ra (ra σ 916 (0 : Int32) p3) 916 (1 : Int32) (pI (ra σ 916 (0 : Int32) p3) p2 1)) p2 2)) 916 (3 : Int32) (pI (ra (ra (ra σ 916 (0 : Int32) p3) 916 (1 : Int32) (pI (ra σ 916 (0 : Int32) p3) p2 1)) 916 (2 : Int32) (pI (ra (ra σ 916 (0 : Int32) p3) 916 (1 : Int32) (pI (ra σ 916 (0 : Int32) p3) p2 1)) p2 2)) r_47 1))) (fun c_63 => (FR_X9_canWear_71 p1 (4 : Int32) (1 : Int32) (ra (ra (ra (ra σ 916 (0 : Int32) p3) 916 (1 : Int32) (pI (ra σ 916 (0 : Int32) p3) p2 1)) 916 (2 : Int32) (pI (ra (ra σ 916 (0 : Int32) p3) 916 (1 : Int32) (pI (ra σ 916 (0 : Int32) p3) p2 1)) p2 2)) 916 (3 : Int32) (pI (ra (ra (ra σ 916 (0 : Int32) p3) 916 (1 : Int32) (pI (ra σ 916 (0 : Int32) p3) p2 1)) 916 (2 : Int32) (pI (ra (ra σ 916 (0 : Int32) p3) 916 (1 : Int32) (pI (ra σ 916 (0 : Int32) p3) p2 1)) p2 2)) r_47 1)))))))))))))))
set_option maxHeartbeats 4000000 in
set_option maxRecDepth 100000 in
theorem cR_X9_canWear (l : Launch) (D : va_G) (cs : Nat → ClassId) (ad tb : Nat → Nat) (A : Nat → Prop) (σ : RS) (p1 : Nat) (p2 : Nat) (p3 : Int32) (q : (Int32 × RS)) (hF : FR_X9_canWear σ p1 p2 p3 = some q) : Met l yX9_canWear wsR_X9_canWear { frames := 2, cells := 0, slots := 0, locals := 45 } (va_Pc [.ref (ad 1009), .ref p1, .ref p2, .int p3] (preQ D cs ad tb A σ)) (va_Qi (fun x u => x = q.1 ∧ u = q.2) (posQ D cs ad A) A) 0 0 A := by
  refine Met.ofW (cc := cX9_canWear) (maxL := 4) (ret := (some .boolean)) (by decide) rfl ?_
  intro p e s m args below meth c s₁ B hml hv
  obtain ⟨rfl, hP, hK, hD, hZ⟩ := hv
  have hx := B.exec
  have hb := B.bytes
  have hr := B.returns
  have hts : ∀ w ∈ (Cond.code yX9_canWear cX9_canWear 4 (some .boolean) :: wRa), w.before ([.ref (ad 1009), .ref p1, .ref p2, .int p3] : List Value).toArray s = true := atoms_spec (ws := wsR_X9_canWear) B.pre
  have hin : ∀ w ∈ wRa, w ∈ (Cond.code yX9_canWear cX9_canWear 4 (some .boolean) :: wRa) := fun w hw => List.mem_cons_of_mem _ hw
  have hown : s.vm.findClass RX9 = some m.cls := findClass_of_methodNamed B.named
  have hlocks := B.notSynchronized
  have hS : va_S A s.heap s.heap [] := va_S.rf
  have b_71 : ∀ (x1_71 : Nat) (t1_71 : Int32) (t2_71 : Int32) (σ_71 : RS) (H : Heap) (locs : List Loc) (ls : Array Slot), FR_X9_canWear_71 x1_71 t1_71 t2_71 σ_71 = some q → va_P D vwCl (wR cs ad σ_71) H → va_D A (wR cs ad σ_71) → va_S A s.heap H locs → lv_has ls 4 [(0, .ref (ad 1009)), (1, .ref x1_71)] → W p l e (headSpec wsR_X9_canWear { frames := 2, cells := 0, slots := 0, locals := 45 }).room s m ([.ref (ad 1009), .ref p1, .ref p2, .int p3] : List Value).toArray below meth c H locs 0 0 (MQ below (va_Qi (fun x u => x = q.1 ∧ u = q.2) (posQ D cs ad A) A) ([.ref (ad 1009), .ref p1, .ref p2, .int p3] : List Value).toArray s 0 0 A) (F0 m 71 ls [.int t2_71, .int t1_71, .ref (ad 916)]) := by
    intro x1_71 t1_71 t2_71 σ_71 H locs ls hF hP hD hS hl
    unfold FR_X9_canWear_71 at hF
    obtain ⟨g_71, hF⟩ := ob_gd hF
    refine stF hx hb hK hP hD hS (ra_916 _ _ _) (rs_916 _ _ _ _ _) g_71 dX9_canWear_71 (fun H locs hP hD hS => ?_)
    refine lv_aload_n hx hb dX9_canWear_72 rfl (lv_at hl 0 rfl) ?_
    refine gF hx hb hts hin wo_9 rfl hown hK hP (ob_9 _ _ _) 16 (.ref (ad 916)) (by decide) rf_X9_83 rfl dX9_canWear_73 ?_
    refine lv_iconst (v := (5 : Int32)) hx hb dX9_canWear_76 (by decide) ?_
    refine lv_aload_n hx hb dX9_canWear_77 rfl (lv_at hl 1 rfl) ?_
    obtain ⟨k_78_4, hF⟩ := ob_gd hF
    refine gP hx hb hts hin wo_4 rfl hown hK hP k_78_4 (pf_4 (isK_K k_78_4)) 1 (va_rf (pR (ra σ_71 916 t1_71 t2_71) x1_71 1)) (by decide) rf_X9_198 rfl dX9_canWear_78 ?_
    obtain ⟨r_78, o_78, hF⟩ := ob_bd hF
    refine rfS o_78 ?_
    refine lv_iconst (v := (2 : Int32)) hx hb dX9_canWear_81 (by decide) ?_
    obtain ⟨k_82_5, hF⟩ := ob_gd hF
    obtain ⟨g_82, hF⟩ := ob_gd hF
    refine ldP hx hb hK hP k_82_5 (pA (ra σ_71 916 t1_71 t2_71) r_78 (2 : Int32).toNatClampNeg) g_82 rfl dX9_canWear_82 ?_
    obtain ⟨g_83, hF⟩ := ob_gd hF
    refine stF hx hb hK hP hD hS (ra_916 _ _ _) (rs_916 _ _ _ _ _) g_83 dX9_canWear_83 (fun H locs hP hD hS => ?_)
    refine lv_aload_n hx hb dX9_canWear_84 rfl (lv_at hl 0 rfl) ?_
    refine gF hx hb hts hin wo_9 rfl hown hK hP (ob_9 _ _ _) 13 (.ref (ad 913)) (by decide) rf_X9_66 rfl dX9_canWear_85 ?_
    refine lv_aload_n hx hb dX9_canWear_88 rfl (lv_at hl 1 rfl) ?_
    refine gP hx hb hts hin wo_4 rfl hown hK hP (isK_ra k_78_4) (pf_4 (isK_K (isK_ra k_78_4))) 3 (.int (pI (ra (ra σ_71 916 t1_71 t2_71) 916 (5 : Int32) (pA (ra σ_71 916 t1_71 t2_71) r_78 (2 : Int32).toNatClampNeg)) x1_71 3)) (by decide) rf_X9_207 rfl dX9_canWear_89 ?_
    obtain ⟨g_92, hF⟩ := ob_gd hF
    refine ldA (C := "RobeHouse$Rules") hx hb hK hP (ra_913 _ _ _) rfl (rQ (ra (ra σ_71 916 t1_71 t2_71) 916 (5 : Int32) (pA (ra σ_71 916 t1_71 t2_71) r_78 (2 : Int32).toNatClampNeg)) 913 (pI (ra (ra σ_71 916 t1_71 t2_71) 916 (5 : Int32) (pA (ra σ_71 916 t1_71 t2_71) r_78 (2 : Int32).toNatClampNeg)) x1_71 3).toNatClampNeg) g_92 rfl dX9_canWear_92 ?_
    obtain ⟨r_92, o_92, hF⟩ := ob_bd hF
    refine rfS o_92 ?_
    refine lv_aload_n hx hb dX9_canWear_93 rfl (lv_at hl 0 rfl) ?_
    refine gF hx hb hts hin wo_9 rfl hown hK hP (ob_9 _ _ _) 16 (.ref (ad 916)) (by decide) rf_X9_83 rfl dX9_canWear_94 ?_
    obtain ⟨k_97_6, hF⟩ := ob_gd hF
    obtain ⟨q_97, e_97, hF⟩ := ob_bd hF
    refine crR (As := [.ref (ad 916)]) (rest := []) ⟨hx, hb, hml, hown, hts⟩ (cR_X6_hold l D cs ad tb A (ra (ra σ_71 916 t1_71 t2_71) 916 (5 : Int32) (pA (ra σ_71 916 t1_71 t2_71) r_78 (2 : Int32).toNatClampNeg)) r_92 _ e_97) (cw_X9_X6_hold_302 hts ⟨Nat.le_of_ble_eq_true rfl, Nat.le_of_ble_eq_true rfl⟩) ⟨Nat.zero_le _, Nat.zero_le _⟩ (rcP hK hP (ci := 6) rfl k_97_6 (pf_6 (isK_K k_97_6))) hK hP hD hS hZ rfl hl.1 rfl (lv_room (Nat.le_of_ble_eq_true rfl)) dX9_canWear_97 ?_
    obtain ⟨z_r, hF⟩ := ob_gd hF
    exact rxR hx hb hr hlocks (isB_n z_r) hF hK hP hD hS dX9_canWear_100
  have hl := lv_entry ([.ref (ad 1009), .ref p1, .ref p2, .int p3]) (n := 4) (Nat.le_of_ble_eq_true rfl)
  rw [lg_entry_eq]
  generalize (lg_sl ([.ref (ad 1009), .ref p1, .ref p2, .int p3]) ++ List.replicate (4 - (lg_sl ([.ref (ad 1009), .ref p1, .ref p2, .int p3])).length) Slot.unset).toArray = ls at hl ⊢
  have hl : lv_has ls 4 [(0, .ref (ad 1009)), (1, .ref p1), (2, .ref p2), (3, .int p3)] := hl
  unfold FR_X9_canWear at hF
  refine lv_aload_n hx hb dX9_canWear_0 rfl (lv_at hl 1 rfl) ?_
  obtain ⟨k_1_1, hF⟩ := ob_gd hF
  refine gP hx hb hts hin wo_4 rfl hown hK hP k_1_1 (pf_4 (isK_K k_1_1)) 3 (.int (pI σ p1 3)) (by decide) rf_X9_207 rfl dX9_canWear_1 ?_
  refine lv_iconst (v := (0 : Int32)) hx hb dX9_canWear_4 (by decide) ?_
  refine lv_iconst (v := (3 : Int32)) hx hb dX9_canWear_5 (by decide) ?_
  obtain ⟨q_6, e_6, hF⟩ := ob_bd hF
  refine csR (As := [.int (pI σ p1 3), .int (0 : Int32), .int (3 : Int32)]) (rest := []) ⟨hx, hb, hml, hown, hts⟩ (cR_X9_within l (pI σ p1 3) (0 : Int32) (3 : Int32) _ e_6) (cw_X9_X9_within_88 hts ⟨Nat.le_of_ble_eq_true rfl, Nat.le_of_ble_eq_true rfl⟩) ⟨Nat.zero_le _, Nat.zero_le _⟩ rfl hl.1 rfl (lv_room (Nat.le_of_ble_eq_true rfl)) dX9_canWear_6 ?_
  refine lv_if_ne (tgt := 14) hx hb dX9_canWear_9 (by decide) (fun c_9 => ?_) (fun c_9 => ?_)
  · have hF := ob_f c_9 hF
    refine lv_aload_n hx hb dX9_canWear_14 rfl (lv_at hl 0 rfl) ?_
    refine gF hx hb hts hin wo_9 rfl hown hK hP (ob_9 _ _ _) 16 (.ref (ad 916)) (by decide) rf_X9_83 rfl dX9_canWear_15 ?_
    refine lv_iconst (v := (0 : Int32)) hx hb dX9_canWear_18 (by decide) ?_
    refine lv_iload_n hx hb dX9_canWear_19 rfl (lv_at hl 3 rfl) ?_
    obtain ⟨g_20, hF⟩ := ob_gd hF
    refine stF hx hb hK hP hD hS (ra_916 _ _ _) (rs_916 _ _ _ _ _) g_20 dX9_canWear_20 (fun H locs hP hD hS => ?_)
    refine lv_aload_n hx hb dX9_canWear_21 rfl (lv_at hl 0 rfl) ?_
    refine gF hx hb hts hin wo_9 rfl hown hK hP (ob_9 _ _ _) 16 (.ref (ad 916)) (by decide) rf_X9_83 rfl dX9_canWear_22 ?_
    refine lv_iconst (v := (1 : Int32)) hx hb dX9_canWear_25 (by decide) ?_
    refine lv_aload_n hx hb dX9_canWear_26 rfl (lv_at hl 2 rfl) ?_
    obtain ⟨k_27_2, hF⟩ := ob_gd hF
    refine gP hx hb hts hin wo_3 rfl hown hK hP k_27_2 (pf_3 (isK_K k_27_2)) 1 (.int (pI (ra σ 916 (0 : Int32) p3) p2 1)) (by decide) rf_X9_251 rfl dX9_canWear_27 ?_
    obtain ⟨g_30, hF⟩ := ob_gd hF
    refine stF hx hb hK hP hD hS (ra_916 _ _ _) (rs_916 _ _ _ _ _) g_30 dX9_canWear_30 (fun H locs hP hD hS => ?_)
    refine lv_aload_n hx hb dX9_canWear_31 rfl (lv_at hl 0 rfl) ?_
    refine gF hx hb hts hin wo_9 rfl hown hK hP (ob_9 _ _ _) 16 (.ref (ad 916)) (by decide) rf_X9_83 rfl dX9_canWear_32 ?_
    refine lv_iconst (v := (2 : Int32)) hx hb dX9_canWear_35 (by decide) ?_
    refine lv_aload_n hx hb dX9_canWear_36 rfl (lv_at hl 2 rfl) ?_
    refine gP hx hb hts hin wo_3 rfl hown hK hP (isK_ra k_27_2) (pf_3 (isK_K (isK_ra k_27_2))) 2 (.int (pI (ra (ra σ 916 (0 : Int32) p3) 916 (1 : Int32) (pI (ra σ 916 (0 : Int32) p3) p2 1)) p2 2)) (by decide) rf_X9_254 rfl dX9_canWear_37 ?_
    obtain ⟨g_40, hF⟩ := ob_gd hF
    refine stF hx hb hK hP hD hS (ra_916 _ _ _) (rs_916 _ _ _ _ _) g_40 dX9_canWear_40 (fun H locs hP hD hS => ?_)
    refine lv_aload_n hx hb dX9_canWear_41 rfl (lv_at hl 0 rfl) ?_
    refine gF hx hb hts hin wo_9 rfl hown hK hP (ob_9 _ _ _) 16 (.ref (ad 916)) (by decide) rf_X9_83 rfl dX9_canWear_42 ?_
    refine lv_iconst (v := (3 : Int32)) hx hb dX9_canWear_45 (by decide) ?_
    refine lv_aload_n hx hb dX9_canWear_46 rfl (lv_at hl 1 rfl) ?_
    refine gP hx hb hts hin wo_4 rfl hown hK hP (isK_ra (isK_ra (isK_ra k_1_1))) (pf_4 (isK_K (isK_ra (isK_ra (isK_ra k_1_1))))) 0 (va_rf (pR (ra (ra (ra σ 916 (0 : Int32) p3) 916 (1 : Int32) (pI (ra σ 916 (0 : Int32) p3) p2 1)) 916 (2 : Int32) (pI (ra (ra σ 916 (0 : Int32) p3) 916 (1 : Int32) (pI (ra σ 916 (0 : Int32) p3) p2 1)) p2 2)) p1 0)) (by decide) rf_X9_194 rfl dX9_canWear_47 ?_
    obtain ⟨r_47, o_47, hF⟩ := ob_bd hF
    refine rfS o_47 ?_
    obtain ⟨k_50_3, hF⟩ := ob_gd hF
    refine gP hx hb hts hin wo_0 rfl hown hK hP k_50_3 (pf_0 (isK_K k_50_3)) 1 (.int (pI (ra (ra (ra σ 916 (0 : Int32) p3) 916 (1 : Int32) (pI (ra σ 916 (0 : Int32) p3) p2 1)) 916 (2 : Int32) (pI (ra (ra σ 916 (0 : Int32) p3) 916 (1 : Int32) (pI (ra σ 916 (0 : Int32) p3) p2 1)) p2 2)) r_47 1)) (by decide) rf_X9_127 rfl dX9_canWear_50 ?_
    obtain ⟨g_53, hF⟩ := ob_gd hF
    refine stF hx hb hK hP hD hS (ra_916 _ _ _) (rs_916 _ _ _ _ _) g_53 dX9_canWear_53 (fun H locs hP hD hS => ?_)
    refine lv_aload_n hx hb dX9_canWear_54 rfl (lv_at hl 0 rfl) ?_
    refine gF hx hb hts hin wo_9 rfl hown hK hP (ob_9 _ _ _) 16 (.ref (ad 916)) (by decide) rf_X9_83 rfl dX9_canWear_55 ?_
    refine lv_iconst (v := (4 : Int32)) hx hb dX9_canWear_58 (by decide) ?_
    refine lv_aload_n hx hb dX9_canWear_59 rfl (lv_at hl 1 rfl) ?_
    refine gP hx hb hts hin wo_4 rfl hown hK hP (isK_ra (isK_ra (isK_ra (isK_ra k_1_1)))) (pf_4 (isK_K (isK_ra (isK_ra (isK_ra (isK_ra k_1_1)))))) 2 (va_rf (pR (ra (ra (ra (ra σ 916 (0 : Int32) p3) 916 (1 : Int32) (pI (ra σ 916 (0 : Int32) p3) p2 1)) 916 (2 : Int32) (pI (ra (ra σ 916 (0 : Int32) p3) 916 (1 : Int32) (pI (ra σ 916 (0 : Int32) p3) p2 1)) p2 2)) 916 (3 : Int32) (pI (ra (ra (ra σ 916 (0 : Int32) p3) 916 (1 : Int32) (pI (ra σ 916 (0 : Int32) p3) p2 1)) 916 (2 : Int32) (pI (ra (ra σ 916 (0 : Int32) p3) 916 (1 : Int32) (pI (ra σ 916 (0 : Int32) p3) p2 1)) p2 2)) r_47 1)) p1 2)) (by decide) rf_X9_201 rfl dX9_canWear_60 ?_
    refine nnQ (tgt := 70) hx hb dX9_canWear_63 (by decide) (fun c_63 e_63 => ?_) (fun e_63 => ?_)
    · have hF := oc_s e_63 hF
      refine lv_iconst (v := (1 : Int32)) hx hb dX9_canWear_70 (by decide) ?_
      exact b_71 p1 (4 : Int32) (1 : Int32) (ra (ra (ra (ra σ 916 (0 : Int32) p3) 916 (1 : Int32) (pI (ra σ 916 (0 : Int32) p3) p2 1)) 916 (2 : Int32) (pI (ra (ra σ 916 (0 : Int32) p3) 916 (1 : Int32) (pI (ra σ 916 (0 : Int32) p3) p2 1)) p2 2)) 916 (3 : Int32) (pI (ra (ra (ra σ 916 (0 : Int32) p3) 916 (1 : Int32) (pI (ra σ 916 (0 : Int32) p3) p2 1)) 916 (2 : Int32) (pI (ra (ra σ 916 (0 : Int32) p3) 916 (1 : Int32) (pI (ra σ 916 (0 : Int32) p3) p2 1)) p2 2)) r_47 1)) _ _ _ hF hP hD hS (lv_sub hl [0, 1] rfl)
    · have hF := oc_n e_63 hF
      refine lv_iconst (v := (0 : Int32)) hx hb dX9_canWear_66 (by decide) ?_
      refine lv_goto (tgt := 71) hx hb dX9_canWear_67 (by decide) ?_
      exact b_71 p1 (4 : Int32) (0 : Int32) (ra (ra (ra (ra σ 916 (0 : Int32) p3) 916 (1 : Int32) (pI (ra σ 916 (0 : Int32) p3) p2 1)) 916 (2 : Int32) (pI (ra (ra σ 916 (0 : Int32) p3) 916 (1 : Int32) (pI (ra σ 916 (0 : Int32) p3) p2 1)) p2 2)) 916 (3 : Int32) (pI (ra (ra (ra σ 916 (0 : Int32) p3) 916 (1 : Int32) (pI (ra σ 916 (0 : Int32) p3) p2 1)) 916 (2 : Int32) (pI (ra (ra σ 916 (0 : Int32) p3) 916 (1 : Int32) (pI (ra σ 916 (0 : Int32) p3) p2 1)) p2 2)) r_47 1)) _ _ _ hF hP hD hS (lv_sub hl [0, 1] rfl)
  · have hF := ob_t c_9 hF
    refine lv_iconst (v := (0 : Int32)) hx hb dX9_canWear_12 (by decide) ?_
    exact rxR hx hb hr hlocks rfl hF hK hP hD hS dX9_canWear_13
def wsR_X9_may : List Cond := Cond.code yX9_may cX9_may 6 (some .int) :: wRa
theorem cw_X9_X9_personAt_257 {R : Room} {s : State} {args : Array Value} {y : MethodName} {c : ByteArray} {n : Nat} {r : Option FieldType} (hts : ∀ w ∈ (Cond.code y c n r :: wRa), w.before args s = true) (hR : 1 + 1 ≤ R.frames ∧ 8 + (2 + 11) + 22 ≤ R.locals) : CallW R s args RX9 RX9 257 yX9_personAt cX9_personAt 2 (some (.object "RobeHouse$Person")) wsR_X9_personAt { frames := 1, cells := 0, slots := 0, locals := 22 } 0 0 1 := cwV 1 hts (goodV wRa_good rm_X9_257 ri_X9_personAt rs_X9_personAt rn_X9 rc_X9_personAt) rfl rfl rfl (by decide +kernel) hR
theorem cw_X9_X4_isAtHand_261 {R : Room} {s : State} {args : Array Value} {y : MethodName} {c : ByteArray} {n : Nat} {r : Option FieldType} (hts : ∀ w ∈ (Cond.code y c n r :: wRa), w.before args s = true) (hR : 0 + 1 ≤ R.frames ∧ 8 + (1 + 11) + 0 ≤ R.locals) : CallW R s args RX9 RX4 261 yX4_isAtHand cX4_isAtHand 1 (some .boolean) wsR_X4_isAtHand { frames := 0, cells := 0, slots := 0, locals := 0 } 0 0 0 := cwV 0 hts (goodV wRa_good rm_X9_261 ri_X4_isAtHand rs_X4_isAtHand rn_X4 rc_X4_isAtHand) rfl rfl rfl (by decide +kernel) hR
theorem cw_X9_X9_canWear_265 {R : Room} {s : State} {args : Array Value} {y : MethodName} {c : ByteArray} {n : Nat} {r : Option FieldType} (hts : ∀ w ∈ (Cond.code y c n r :: wRa), w.before args s = true) (hR : 2 + 1 ≤ R.frames ∧ 8 + (4 + 11) + 45 ≤ R.locals) : CallW R s args RX9 RX9 265 yX9_canWear cX9_canWear 4 (some .boolean) wsR_X9_canWear { frames := 2, cells := 0, slots := 0, locals := 45 } 0 0 3 := cwV 3 hts (goodV wRa_good rm_X9_265 ri_X9_canWear rs_X9_canWear rn_X9 rc_X9_canWear) rfl rfl rfl (by decide +kernel) hR
def FR_X9_may (σ : RS) (p1 : Int32) (p2 : Int32) (p3 : Int32) : Option (Int32 × RS) := ((FR_X9_robeAt σ p1).bind fun q_2 => ((FR_X9_personAt σ p2).bind fun q_9 => (oc q_2 (some ((-1 : Int32), σ)) (fun c_16 => (oc q_9 (some ((-1 : Int32), σ)) (fun c_21 => ((FR_X9_within p3 (0 : Int32) (3 : Int32)).bind fun q_29 => (if q_29 = 0 then (some ((-2 : Int32), σ)) else (gd (isK σ c_16 4) ((FR_X4_isAtHand σ c_16).bind fun q_40 => (if q_40 = 0 then (some ((-3 : Int32), σ)) else ((FR_X9_canWear σ c_16 c_21 p3).bind fun q_55 => (if q_55.1 = 0 then (some ((0 : Int32), q_55.2)) else (some ((1 : Int32), q_55.2)))))))))))))))
set_option maxHeartbeats 4000000 in
set_option maxRecDepth 100000 in
theorem cR_X9_may (l : Launch) (D : va_G) (cs : Nat → ClassId) (ad tb : Nat → Nat) (A : Nat → Prop) (σ : RS) (p1 : Int32) (p2 : Int32) (p3 : Int32) (q : (Int32 × RS)) (hF : FR_X9_may σ p1 p2 p3 = some q) : Met l yX9_may wsR_X9_may { frames := 3, cells := 0, slots := 0, locals := 68 } (va_Pc [.ref (ad 1009), .int p1, .int p2, .int p3] (preQ D cs ad tb A σ)) (va_Qi (fun x u => x = q.1 ∧ u = q.2) (posQ D cs ad A) A) 0 0 A := by
  refine Met.ofW (cc := cX9_may) (maxL := 6) (ret := (some .int)) (by decide) rfl ?_
  intro p e s m args below meth c s₁ B hml hv
  obtain ⟨rfl, hP, hK, hD, hZ⟩ := hv
  have hx := B.exec
  have hb := B.bytes
  have hr := B.returns
  have hts : ∀ w ∈ (Cond.code yX9_may cX9_may 6 (some .int) :: wRa), w.before ([.ref (ad 1009), .int p1, .int p2, .int p3] : List Value).toArray s = true := atoms_spec (ws := wsR_X9_may) B.pre
  have hin : ∀ w ∈ wRa, w ∈ (Cond.code yX9_may cX9_may 6 (some .int) :: wRa) := fun w hw => List.mem_cons_of_mem _ hw
  have hown : s.vm.findClass RX9 = some m.cls := findClass_of_methodNamed B.named
  have hlocks := B.notSynchronized
  have hS : va_S A s.heap s.heap [] := va_S.rf
  have hl := lv_entry ([.ref (ad 1009), .int p1, .int p2, .int p3]) (n := 6) (Nat.le_of_ble_eq_true rfl)
  rw [lg_entry_eq]
  generalize (lg_sl ([.ref (ad 1009), .int p1, .int p2, .int p3]) ++ List.replicate (6 - (lg_sl ([.ref (ad 1009), .int p1, .int p2, .int p3])).length) Slot.unset).toArray = ls at hl ⊢
  have hl : lv_has ls 6 [(0, .ref (ad 1009)), (1, .int p1), (2, .int p2), (3, .int p3)] := hl
  unfold FR_X9_may at hF
  refine lv_aload_n hx hb dX9_may_0 rfl (lv_at hl 0 rfl) ?_
  refine lv_iload_n hx hb dX9_may_1 rfl (lv_at hl 1 rfl) ?_
  obtain ⟨q_2, e_2, hF⟩ := ob_bd hF
  refine cqR (As := [.int p1]) (rest := []) ⟨hx, hb, hml, hown, hts⟩ (cR_X9_robeAt l D cs ad tb A σ p1 _ e_2) (cw_X9_X9_robeAt_190 hts ⟨Nat.le_of_ble_eq_true rfl, Nat.le_of_ble_eq_true rfl⟩) ⟨Nat.zero_le _, Nat.zero_le _⟩ (rcF hK hP (ci := 9) rfl (ob_9 _ _ _)) hK hP hD hS hZ rfl hl.1 rfl (lv_room (Nat.le_of_ble_eq_true rfl)) dX9_may_2 ?_
  refine asQ (i := 4) (lv' := [(4, va_rf q_2), (0, .ref (ad 1009)), (1, .int p1), (2, .int p2), (3, .int p3)]) hx hb dX9_may_5 hl (by decide) rfl (fun ls hl => ?_)
  refine lv_aload_n hx hb dX9_may_7 rfl (lv_at hl 1 rfl) ?_
  refine lv_iload_n hx hb dX9_may_8 rfl (lv_at hl 3 rfl) ?_
  obtain ⟨q_9, e_9, hF⟩ := ob_bd hF
  refine cqR (As := [.int p2]) (rest := []) ⟨hx, hb, hml, hown, hts⟩ (cR_X9_personAt l D cs ad tb A σ p2 _ e_9) (cw_X9_X9_personAt_257 hts ⟨Nat.le_of_ble_eq_true rfl, Nat.le_of_ble_eq_true rfl⟩) ⟨Nat.zero_le _, Nat.zero_le _⟩ (rcF hK hP (ci := 9) rfl (ob_9 _ _ _)) hK hP hD hS hZ rfl hl.1 rfl (lv_room (Nat.le_of_ble_eq_true rfl)) dX9_may_9 ?_
  refine asQ (i := 5) (lv' := [(5, va_rf q_9), (4, va_rf q_2), (0, .ref (ad 1009)), (1, .int p1), (2, .int p2), (3, .int p3)]) hx hb dX9_may_12 hl (by decide) (by simp [rf_cat]) (fun ls hl => ?_)
  refine alQ hx hb dX9_may_14 (lv_at hl 1 rfl) ?_
  refine nlQ (tgt := 24) hx hb dX9_may_16 (by decide) (fun e_16 => ?_) (fun c_16 e_16 => ?_)
  · have hF := oc_n e_16 hF
    refine lv_iconst (v := (-1 : Int32)) hx hb dX9_may_24 (by decide) ?_
    exact rwR hx hb hr hlocks hF hK hP hD hS dX9_may_25
  · have hF := oc_s e_16 hF
    refine alQ hx hb dX9_may_19 (lv_at hl 0 rfl) ?_
    refine nnQ (tgt := 26) hx hb dX9_may_21 (by decide) (fun c_21 e_21 => ?_) (fun e_21 => ?_)
    · have hF := oc_s e_21 hF
      refine lv_iload_n hx hb dX9_may_26 rfl (lv_at hl 5 rfl) ?_
      refine lv_iconst (v := (0 : Int32)) hx hb dX9_may_27 (by decide) ?_
      refine lv_iconst (v := (3 : Int32)) hx hb dX9_may_28 (by decide) ?_
      obtain ⟨q_29, e_29, hF⟩ := ob_bd hF
      refine csR (As := [.int p3, .int (0 : Int32), .int (3 : Int32)]) (rest := []) ⟨hx, hb, hml, hown, hts⟩ (cR_X9_within l p3 (0 : Int32) (3 : Int32) _ e_29) (cw_X9_X9_within_88 hts ⟨Nat.le_of_ble_eq_true rfl, Nat.le_of_ble_eq_true rfl⟩) ⟨Nat.zero_le _, Nat.zero_le _⟩ rfl hl.1 rfl (lv_room (Nat.le_of_ble_eq_true rfl)) dX9_may_29 ?_
      refine lv_if_ne (tgt := 38) hx hb dX9_may_32 (by decide) (fun c_32 => ?_) (fun c_32 => ?_)
      · have hF := ob_f c_32 hF
        refine alQ hx hb dX9_may_38 (lv_at hl 1 rfl) ?_
        refine rfS e_16 ?_
        obtain ⟨k_40_1, hF⟩ := ob_gd hF
        obtain ⟨q_40, e_40, hF⟩ := ob_bd hF
        refine crR (As := []) (rest := []) ⟨hx, hb, hml, hown, hts⟩ (cR_X4_isAtHand l D cs ad tb A σ c_16 _ e_40) (cw_X9_X4_isAtHand_261 hts ⟨Nat.le_of_ble_eq_true rfl, Nat.le_of_ble_eq_true rfl⟩) ⟨Nat.zero_le _, Nat.zero_le _⟩ (rcP hK hP (ci := 4) rfl k_40_1 (pf_4 (isK_K k_40_1))) hK hP hD hS hZ rfl hl.1 rfl (lv_room (Nat.le_of_ble_eq_true rfl)) dX9_may_40 ?_
        refine lv_if_ne (tgt := 49) hx hb dX9_may_43 (by decide) (fun c_43 => ?_) (fun c_43 => ?_)
        · have hF := ob_f c_43 hF
          refine lv_aload_n hx hb dX9_may_49 rfl (lv_at hl 2 rfl) ?_
          refine alQ hx hb dX9_may_50 (lv_at hl 1 rfl) ?_
          refine rfS e_16 ?_
          refine alQ hx hb dX9_may_52 (lv_at hl 0 rfl) ?_
          refine rfS e_21 ?_
          refine lv_iload_n hx hb dX9_may_54 rfl (lv_at hl 5 rfl) ?_
          obtain ⟨q_55, e_55, hF⟩ := ob_bd hF
          refine cwR (As := [.ref c_16, .ref c_21, .int p3]) (rest := []) ⟨hx, hb, hml, hown, hts⟩ (cR_X9_canWear l D cs ad tb A σ c_16 c_21 p3 _ e_55) (cw_X9_X9_canWear_265 hts ⟨Nat.le_of_ble_eq_true rfl, Nat.le_of_ble_eq_true rfl⟩) ⟨Nat.zero_le _, Nat.zero_le _⟩ (rcF hK hP (ci := 9) rfl (ob_9 _ _ _)) hK hP hD hS hZ rfl hl.1 rfl (lv_room (Nat.le_of_ble_eq_true rfl)) dX9_may_55 (fun H locs hP hD hS => ?_)
          refine lv_if_eq (tgt := 65) hx hb dX9_may_58 (by decide) (fun c_58 => ?_) (fun c_58 => ?_)
          · have hF := ob_t c_58 hF
            refine lv_iconst (v := (0 : Int32)) hx hb dX9_may_65 (by decide) ?_
            exact rwR hx hb hr hlocks hF hK hP hD hS dX9_may_66
          · have hF := ob_f c_58 hF
            refine lv_iconst (v := (1 : Int32)) hx hb dX9_may_61 (by decide) ?_
            refine lv_goto (tgt := 66) hx hb dX9_may_62 (by decide) ?_
            exact rwR hx hb hr hlocks hF hK hP hD hS dX9_may_66
        · have hF := ob_t c_43 hF
          refine lv_bipush (v := (-3 : Int32)) hx hb dX9_may_46 (by decide) ?_
          exact rwR hx hb hr hlocks hF hK hP hD hS dX9_may_48
      · have hF := ob_t c_32 hF
        refine lv_bipush (v := (-2 : Int32)) hx hb dX9_may_35 (by decide) ?_
        exact rwR hx hb hr hlocks hF hK hP hD hS dX9_may_37
    · have hF := oc_n e_21 hF
      refine lv_iconst (v := (-1 : Int32)) hx hb dX9_may_24 (by decide) ?_
      exact rwR hx hb hr hlocks hF hK hP hD hS dX9_may_25
def wsR_X9_lend : List Cond := Cond.code yX9_lend cX9_lend 6 (some .int) :: wRa
def FR_X9_lend (σ : RS) (p1 : Int32) (p2 : Int32) (p3 : Int32) : Option (Int32 × RS) := ((FR_X9_robeAt σ p1).bind fun q_2 => ((FR_X9_personAt σ p2).bind fun q_9 => (oc q_2 (some ((-1 : Int32), σ)) (fun c_16 => (oc q_9 (some ((-1 : Int32), σ)) (fun c_21 => ((FR_X9_within p3 (0 : Int32) (3 : Int32)).bind fun q_29 => (if q_29 = 0 then (some ((-2 : Int32), σ)) else (gd (isK σ c_16 4) ((FR_X4_isAtHand σ c_16).bind fun q_40 => (if q_40 = 0 then (some ((-3 : Int32), σ)) else (gd (isK σ c_21 3) (if (pI σ c_21 3) = 0 then ((FR_X9_canWear σ c_16 c_21 p3).bind fun q_60 => (if q_60.1 = 0 then (some ((-3 : Int32), q_60.2)) else (gd (isK q_60.2 c_16 4) (gd (isK (wi q_60.2 c_16 4 p2) c_21 3) (some ((0 : Int32), (wi (wi q_60.2 c_16 4 p2) c_21 3 (1 : Int32)))))))) else (some ((-3 : Int32), σ)))))))))))))))
set_option maxHeartbeats 4000000 in
set_option maxRecDepth 100000 in
theorem cR_X9_lend (l : Launch) (D : va_G) (cs : Nat → ClassId) (ad tb : Nat → Nat) (A : Nat → Prop) (σ : RS) (p1 : Int32) (p2 : Int32) (p3 : Int32) (q : (Int32 × RS)) (hF : FR_X9_lend σ p1 p2 p3 = some q) : Met l yX9_lend wsR_X9_lend { frames := 3, cells := 0, slots := 0, locals := 68 } (va_Pc [.ref (ad 1009), .int p1, .int p2, .int p3] (preQ D cs ad tb A σ)) (va_Qi (fun x u => x = q.1 ∧ u = q.2) (posQ D cs ad A) A) 0 0 A := by
  refine Met.ofW (cc := cX9_lend) (maxL := 6) (ret := (some .int)) (by decide) rfl ?_
  intro p e s m args below meth c s₁ B hml hv
  obtain ⟨rfl, hP, hK, hD, hZ⟩ := hv
  have hx := B.exec
  have hb := B.bytes
  have hr := B.returns
  have hts : ∀ w ∈ (Cond.code yX9_lend cX9_lend 6 (some .int) :: wRa), w.before ([.ref (ad 1009), .int p1, .int p2, .int p3] : List Value).toArray s = true := atoms_spec (ws := wsR_X9_lend) B.pre
  have hin : ∀ w ∈ wRa, w ∈ (Cond.code yX9_lend cX9_lend 6 (some .int) :: wRa) := fun w hw => List.mem_cons_of_mem _ hw
  have hown : s.vm.findClass RX9 = some m.cls := findClass_of_methodNamed B.named
  have hlocks := B.notSynchronized
  have hS : va_S A s.heap s.heap [] := va_S.rf
  have hl := lv_entry ([.ref (ad 1009), .int p1, .int p2, .int p3]) (n := 6) (Nat.le_of_ble_eq_true rfl)
  rw [lg_entry_eq]
  generalize (lg_sl ([.ref (ad 1009), .int p1, .int p2, .int p3]) ++ List.replicate (6 - (lg_sl ([.ref (ad 1009), .int p1, .int p2, .int p3])).length) Slot.unset).toArray = ls at hl ⊢
  have hl : lv_has ls 6 [(0, .ref (ad 1009)), (1, .int p1), (2, .int p2), (3, .int p3)] := hl
  unfold FR_X9_lend at hF
  refine lv_aload_n hx hb dX9_lend_0 rfl (lv_at hl 0 rfl) ?_
  refine lv_iload_n hx hb dX9_lend_1 rfl (lv_at hl 1 rfl) ?_
  obtain ⟨q_2, e_2, hF⟩ := ob_bd hF
  refine cqR (As := [.int p1]) (rest := []) ⟨hx, hb, hml, hown, hts⟩ (cR_X9_robeAt l D cs ad tb A σ p1 _ e_2) (cw_X9_X9_robeAt_190 hts ⟨Nat.le_of_ble_eq_true rfl, Nat.le_of_ble_eq_true rfl⟩) ⟨Nat.zero_le _, Nat.zero_le _⟩ (rcF hK hP (ci := 9) rfl (ob_9 _ _ _)) hK hP hD hS hZ rfl hl.1 rfl (lv_room (Nat.le_of_ble_eq_true rfl)) dX9_lend_2 ?_
  refine asQ (i := 4) (lv' := [(4, va_rf q_2), (0, .ref (ad 1009)), (1, .int p1), (2, .int p2), (3, .int p3)]) hx hb dX9_lend_5 hl (by decide) rfl (fun ls hl => ?_)
  refine lv_aload_n hx hb dX9_lend_7 rfl (lv_at hl 1 rfl) ?_
  refine lv_iload_n hx hb dX9_lend_8 rfl (lv_at hl 3 rfl) ?_
  obtain ⟨q_9, e_9, hF⟩ := ob_bd hF
  refine cqR (As := [.int p2]) (rest := []) ⟨hx, hb, hml, hown, hts⟩ (cR_X9_personAt l D cs ad tb A σ p2 _ e_9) (cw_X9_X9_personAt_257 hts ⟨Nat.le_of_ble_eq_true rfl, Nat.le_of_ble_eq_true rfl⟩) ⟨Nat.zero_le _, Nat.zero_le _⟩ (rcF hK hP (ci := 9) rfl (ob_9 _ _ _)) hK hP hD hS hZ rfl hl.1 rfl (lv_room (Nat.le_of_ble_eq_true rfl)) dX9_lend_9 ?_
  refine asQ (i := 5) (lv' := [(5, va_rf q_9), (4, va_rf q_2), (0, .ref (ad 1009)), (1, .int p1), (2, .int p2), (3, .int p3)]) hx hb dX9_lend_12 hl (by decide) (by simp [rf_cat]) (fun ls hl => ?_)
  refine alQ hx hb dX9_lend_14 (lv_at hl 1 rfl) ?_
  refine nlQ (tgt := 24) hx hb dX9_lend_16 (by decide) (fun e_16 => ?_) (fun c_16 e_16 => ?_)
  · have hF := oc_n e_16 hF
    refine lv_iconst (v := (-1 : Int32)) hx hb dX9_lend_24 (by decide) ?_
    exact rwR hx hb hr hlocks hF hK hP hD hS dX9_lend_25
  · have hF := oc_s e_16 hF
    refine alQ hx hb dX9_lend_19 (lv_at hl 0 rfl) ?_
    refine nnQ (tgt := 26) hx hb dX9_lend_21 (by decide) (fun c_21 e_21 => ?_) (fun e_21 => ?_)
    · have hF := oc_s e_21 hF
      refine lv_iload_n hx hb dX9_lend_26 rfl (lv_at hl 5 rfl) ?_
      refine lv_iconst (v := (0 : Int32)) hx hb dX9_lend_27 (by decide) ?_
      refine lv_iconst (v := (3 : Int32)) hx hb dX9_lend_28 (by decide) ?_
      obtain ⟨q_29, e_29, hF⟩ := ob_bd hF
      refine csR (As := [.int p3, .int (0 : Int32), .int (3 : Int32)]) (rest := []) ⟨hx, hb, hml, hown, hts⟩ (cR_X9_within l p3 (0 : Int32) (3 : Int32) _ e_29) (cw_X9_X9_within_88 hts ⟨Nat.le_of_ble_eq_true rfl, Nat.le_of_ble_eq_true rfl⟩) ⟨Nat.zero_le _, Nat.zero_le _⟩ rfl hl.1 rfl (lv_room (Nat.le_of_ble_eq_true rfl)) dX9_lend_29 ?_
      refine lv_if_ne (tgt := 38) hx hb dX9_lend_32 (by decide) (fun c_32 => ?_) (fun c_32 => ?_)
      · have hF := ob_f c_32 hF
        refine alQ hx hb dX9_lend_38 (lv_at hl 1 rfl) ?_
        refine rfS e_16 ?_
        obtain ⟨k_40_1, hF⟩ := ob_gd hF
        obtain ⟨q_40, e_40, hF⟩ := ob_bd hF
        refine crR (As := []) (rest := []) ⟨hx, hb, hml, hown, hts⟩ (cR_X4_isAtHand l D cs ad tb A σ c_16 _ e_40) (cw_X9_X4_isAtHand_261 hts ⟨Nat.le_of_ble_eq_true rfl, Nat.le_of_ble_eq_true rfl⟩) ⟨Nat.zero_le _, Nat.zero_le _⟩ (rcP hK hP (ci := 4) rfl k_40_1 (pf_4 (isK_K k_40_1))) hK hP hD hS hZ rfl hl.1 rfl (lv_room (Nat.le_of_ble_eq_true rfl)) dX9_lend_40 ?_
        refine lv_if_eq (tgt := 66) hx hb dX9_lend_43 (by decide) (fun c_43 => ?_) (fun c_43 => ?_)
        · have hF := ob_t c_43 hF
          refine lv_bipush (v := (-3 : Int32)) hx hb dX9_lend_66 (by decide) ?_
          exact rwR hx hb hr hlocks hF hK hP hD hS dX9_lend_68
        · have hF := ob_f c_43 hF
          refine alQ hx hb dX9_lend_46 (lv_at hl 0 rfl) ?_
          refine rfS e_21 ?_
          obtain ⟨k_48_2, hF⟩ := ob_gd hF
          refine gP hx hb hts hin wo_3 rfl hown hK hP k_48_2 (pf_3 (isK_K k_48_2)) 3 (.int (pI σ c_21 3)) (by decide) rf_X9_269 rfl dX9_lend_48 ?_
          refine lv_if_ne (tgt := 66) hx hb dX9_lend_51 (by decide) (fun c_51 => ?_) (fun c_51 => ?_)
          · have hF := ob_f c_51 hF
            refine lv_bipush (v := (-3 : Int32)) hx hb dX9_lend_66 (by decide) ?_
            exact rwR hx hb hr hlocks hF hK hP hD hS dX9_lend_68
          · have hF := ob_t c_51 hF
            refine lv_aload_n hx hb dX9_lend_54 rfl (lv_at hl 2 rfl) ?_
            refine alQ hx hb dX9_lend_55 (lv_at hl 1 rfl) ?_
            refine rfS e_16 ?_
            refine alQ hx hb dX9_lend_57 (lv_at hl 0 rfl) ?_
            refine rfS e_21 ?_
            refine lv_iload_n hx hb dX9_lend_59 rfl (lv_at hl 5 rfl) ?_
            obtain ⟨q_60, e_60, hF⟩ := ob_bd hF
            refine cwR (As := [.ref c_16, .ref c_21, .int p3]) (rest := []) ⟨hx, hb, hml, hown, hts⟩ (cR_X9_canWear l D cs ad tb A σ c_16 c_21 p3 _ e_60) (cw_X9_X9_canWear_265 hts ⟨Nat.le_of_ble_eq_true rfl, Nat.le_of_ble_eq_true rfl⟩) ⟨Nat.zero_le _, Nat.zero_le _⟩ (rcF hK hP (ci := 9) rfl (ob_9 _ _ _)) hK hP hD hS hZ rfl hl.1 rfl (lv_room (Nat.le_of_ble_eq_true rfl)) dX9_lend_60 (fun H locs hP hD hS => ?_)
            refine lv_if_ne (tgt := 69) hx hb dX9_lend_63 (by decide) (fun c_63 => ?_) (fun c_63 => ?_)
            · have hF := ob_f c_63 hF
              refine alQ hx hb dX9_lend_69 (lv_at hl 1 rfl) ?_
              refine rfS e_16 ?_
              refine lv_iload_n hx hb dX9_lend_71 rfl (lv_at hl 4 rfl) ?_
              obtain ⟨k_72_3, hF⟩ := ob_gd hF
              refine pP (ρ2 := (wi q_60.2 c_16 4 p2)) (ty := .int) hx hb hts hin wo_4 rfl tyX4 tyX4_ok nmX4 hown hK hP hD hS k_72_3 (pf_4 (isK_K k_72_3)) 4 (by decide) rf_X9_210 rfl (by decide +kernel) rfl rfl (Nat.le_of_ble_eq_true rfl) (xR_wi _ _ _ _ _ _) (pL_wi _ _ _ _) (pw_4_4 (ρ := q_60.2) (isK_K k_72_3) _) dX9_lend_72 (fun H locs hP hD hS => ?_)
              refine alQ hx hb dX9_lend_75 (lv_at hl 0 rfl) ?_
              refine rfS e_21 ?_
              refine lv_iconst (v := (1 : Int32)) hx hb dX9_lend_77 (by decide) ?_
              obtain ⟨k_78_4, hF⟩ := ob_gd hF
              refine pP (ρ2 := (wi (wi q_60.2 c_16 4 p2) c_21 3 (1 : Int32))) (ty := .boolean) hx hb hts hin wo_3 rfl tyX3 tyX3_ok nmX3 hown hK hP hD hS k_78_4 (pf_3 (isK_K k_78_4)) 3 (by decide) rf_X9_269 rfl (by decide +kernel) rfl rfl (Nat.le_of_ble_eq_true rfl) (xR_wi _ _ _ _ _ _) (pL_wi _ _ _ _) (pw_3_3 (ρ := (wi q_60.2 c_16 4 p2)) (isK_K k_78_4) _) dX9_lend_78 (fun H locs hP hD hS => ?_)
              refine lv_iconst (v := (0 : Int32)) hx hb dX9_lend_81 (by decide) ?_
              exact rwR hx hb hr hlocks hF hK hP hD hS dX9_lend_82
            · have hF := ob_t c_63 hF
              refine lv_bipush (v := (-3 : Int32)) hx hb dX9_lend_66 (by decide) ?_
              exact rwR hx hb hr hlocks hF hK hP hD hS dX9_lend_68
      · have hF := ob_t c_32 hF
        refine lv_bipush (v := (-2 : Int32)) hx hb dX9_lend_35 (by decide) ?_
        exact rwR hx hb hr hlocks hF hK hP hD hS dX9_lend_37
    · have hF := oc_n e_21 hF
      refine lv_iconst (v := (-1 : Int32)) hx hb dX9_lend_24 (by decide) ?_
      exact rwR hx hb hr hlocks hF hK hP hD hS dX9_lend_25
def wsR_X9_back : List Cond := Cond.code yX9_back cX9_back 6 (some .int) :: wRa
def FR_X9_back_64 (x2_64 : Int32) (x3_64 : Option Nat) (x4_64 : Int32) : Nat → Int32 → RS → Option (Int32 × RS)
  | 0, _, _ => none
  | n_64 + 1, x5_64, σ_64 => (if x2_64 ≤ x5_64 then (some (x4_64, σ_64)) else (x3_64.bind fun r_70 => (gd (isK σ_64 r_70 4) ((FR_X4_wearOnce σ_64 r_70).bind fun q_71 => (FR_X9_back_64  x2_64 x3_64 x4_64 n_64 (x5_64 + (1 : Int32)) q_71.2)))))
def FR_X9_back (σ : RS) (p1 : Int32) (p2 : Int32) : Option (Int32 × RS) := ((FR_X9_robeAt σ p1).bind fun q_2 => (oc q_2 (some ((-1 : Int32), σ)) (fun c_7 => ((FR_X9_within p2 (0 : Int32) (9 : Int32)).bind fun q_16 => (if q_16 = 0 then (some ((-2 : Int32), σ)) else (gd (isK σ c_7 4) ((FR_X9_within (pI σ c_7 4) (0 : Int32) (9 : Int32)).bind fun q_36 => (if q_36 = 0 then (some ((-3 : Int32), σ)) else (gd (inb (pI σ c_7 4) 10) ((rQ (wi σ c_7 4 (-1 : Int32)) 914 (pI σ c_7 4).toNatClampNeg).bind fun r_56 => (gd (isK (wi σ c_7 4 (-1 : Int32)) r_56 3) (FR_X9_back_64 p2 q_2 (pI σ c_7 4) fu (0 : Int32) (wi (wi σ c_7 4 (-1 : Int32)) r_56 3 (0 : Int32))))))))))))))
set_option maxHeartbeats 4000000 in
set_option maxRecDepth 100000 in
theorem cR_X9_back (l : Launch) (D : va_G) (cs : Nat → ClassId) (ad tb : Nat → Nat) (A : Nat → Prop) (σ : RS) (p1 : Int32) (p2 : Int32) (q : (Int32 × RS)) (hF : FR_X9_back σ p1 p2 = some q) : Met l yX9_back wsR_X9_back { frames := 2, cells := 0, slots := 0, locals := 46 } (va_Pc [.ref (ad 1009), .int p1, .int p2] (preQ D cs ad tb A σ)) (va_Qi (fun x u => x = q.1 ∧ u = q.2) (posQ D cs ad A) A) 0 0 A := by
  refine Met.ofW (cc := cX9_back) (maxL := 6) (ret := (some .int)) (by decide) rfl ?_
  intro p e s m args below meth c s₁ B hml hv
  obtain ⟨rfl, hP, hK, hD, hZ⟩ := hv
  have hx := B.exec
  have hb := B.bytes
  have hr := B.returns
  have hts : ∀ w ∈ (Cond.code yX9_back cX9_back 6 (some .int) :: wRa), w.before ([.ref (ad 1009), .int p1, .int p2] : List Value).toArray s = true := atoms_spec (ws := wsR_X9_back) B.pre
  have hin : ∀ w ∈ wRa, w ∈ (Cond.code yX9_back cX9_back 6 (some .int) :: wRa) := fun w hw => List.mem_cons_of_mem _ hw
  have hown : s.vm.findClass RX9 = some m.cls := findClass_of_methodNamed B.named
  have hlocks := B.notSynchronized
  have hS : va_S A s.heap s.heap [] := va_S.rf
  have b_64 : ∀ (x2_64 : Int32) (x3_64 : Option Nat) (x4_64 : Int32) (n_64 : Nat) (x5_64 : Int32) (σ_64 : RS) (H : Heap) (locs : List Loc) (ls : Array Slot), FR_X9_back_64 x2_64 x3_64 x4_64 n_64 x5_64 σ_64 = some q → va_P D vwCl (wR cs ad σ_64) H → va_D A (wR cs ad σ_64) → va_S A s.heap H locs → lv_has ls 6 [(0, .ref (ad 1009)), (2, .int x2_64), (3, va_rf x3_64), (4, .int x4_64), (5, .int x5_64)] → W p l e (headSpec wsR_X9_back { frames := 2, cells := 0, slots := 0, locals := 46 }).room s m ([.ref (ad 1009), .int p1, .int p2] : List Value).toArray below meth c H locs 0 0 (MQ below (va_Qi (fun x u => x = q.1 ∧ u = q.2) (posQ D cs ad A) A) ([.ref (ad 1009), .int p1, .int p2] : List Value).toArray s 0 0 A) (F0 m 64 ls []) := by
    intro x2_64 x3_64 x4_64
    intro n_64
    induction n_64 with
    | zero =>
      intro x5_64 σ_64 H locs ls hF hP hD hS hl
      exact absurd hF (by simp [FR_X9_back_64])
    | succ n_64 ih_64 =>
      intro x5_64 σ_64 H locs ls hF hP hD hS hl
      rw [FR_X9_back_64] at hF
      refine lv_iload hx hb dX9_back_64 (lv_at hl 4 rfl) ?_
      refine lv_iload_n hx hb dX9_back_66 rfl (lv_at hl 1 rfl) ?_
      refine lv_icmp_ge (tgt := 81) hx hb dX9_back_67 (by decide) (fun c_67 => ?_) (fun c_67 => ?_)
      · have hF := ob_t c_67 hF
        refine lv_iload hx hb dX9_back_81 (lv_at hl 3 rfl) ?_
        exact rwR hx hb hr hlocks hF hK hP hD hS dX9_back_83
      · have hF := ob_f c_67 hF
        refine alQ_n hx hb dX9_back_70 rfl (lv_at hl 2 rfl) ?_
        obtain ⟨r_70, o_70, hF⟩ := ob_bd hF
        refine rfS o_70 ?_
        obtain ⟨k_71_3, hF⟩ := ob_gd hF
        obtain ⟨q_71, e_71, hF⟩ := ob_bd hF
        refine cwR (As := []) (rest := []) ⟨hx, hb, hml, hown, hts⟩ (cR_X4_wearOnce l D cs ad tb A σ_64 r_70 _ e_71) (cw_X9_X4_wearOnce_226 hts ⟨Nat.le_of_ble_eq_true rfl, Nat.le_of_ble_eq_true rfl⟩) ⟨Nat.zero_le _, Nat.zero_le _⟩ (rcP hK hP (ci := 4) rfl k_71_3 (pf_4 (isK_K k_71_3))) hK hP hD hS hZ rfl hl.1 rfl (lv_room (Nat.le_of_ble_eq_true rfl)) dX9_back_71 (fun H locs hP hD hS => ?_)
        refine lv_pop hx hb dX9_back_74 rfl ?_
        refine lv_iinc (v := x5_64 + (1 : Int32)) (lv' := [(5, .int (x5_64 + (1 : Int32))), (0, .ref (ad 1009)), (2, .int x2_64), (3, va_rf x3_64), (4, .int x4_64)]) hx hb dX9_back_75 hl (k := 4) rfl rfl (by decide) rfl (fun ls hl => ?_)
        refine lv_goto (tgt := 64) hx hb dX9_back_78 (by decide) ?_
        exact ih_64 (x5_64 + (1 : Int32)) q_71.2 _ _ _ hF hP hD hS (lv_sub hl [1, 2, 3, 4, 0] rfl)
  have hl := lv_entry ([.ref (ad 1009), .int p1, .int p2]) (n := 6) (Nat.le_of_ble_eq_true rfl)
  rw [lg_entry_eq]
  generalize (lg_sl ([.ref (ad 1009), .int p1, .int p2]) ++ List.replicate (6 - (lg_sl ([.ref (ad 1009), .int p1, .int p2])).length) Slot.unset).toArray = ls at hl ⊢
  have hl : lv_has ls 6 [(0, .ref (ad 1009)), (1, .int p1), (2, .int p2)] := hl
  unfold FR_X9_back at hF
  refine lv_aload_n hx hb dX9_back_0 rfl (lv_at hl 0 rfl) ?_
  refine lv_iload_n hx hb dX9_back_1 rfl (lv_at hl 1 rfl) ?_
  obtain ⟨q_2, e_2, hF⟩ := ob_bd hF
  refine cqR (As := [.int p1]) (rest := []) ⟨hx, hb, hml, hown, hts⟩ (cR_X9_robeAt l D cs ad tb A σ p1 _ e_2) (cw_X9_X9_robeAt_190 hts ⟨Nat.le_of_ble_eq_true rfl, Nat.le_of_ble_eq_true rfl⟩) ⟨Nat.zero_le _, Nat.zero_le _⟩ (rcF hK hP (ci := 9) rfl (ob_9 _ _ _)) hK hP hD hS hZ rfl hl.1 rfl (lv_room (Nat.le_of_ble_eq_true rfl)) dX9_back_2 ?_
  refine asQ_n (i := 3) (lv' := [(3, va_rf q_2), (0, .ref (ad 1009)), (1, .int p1), (2, .int p2)]) hx hb dX9_back_5 rfl hl (by decide) rfl (fun ls hl => ?_)
  refine alQ_n hx hb dX9_back_6 rfl (lv_at hl 0 rfl) ?_
  refine nnQ (tgt := 12) hx hb dX9_back_7 (by decide) (fun c_7 e_7 => ?_) (fun e_7 => ?_)
  · have hF := oc_s e_7 hF
    refine lv_iload_n hx hb dX9_back_12 rfl (lv_at hl 3 rfl) ?_
    refine lv_iconst (v := (0 : Int32)) hx hb dX9_back_13 (by decide) ?_
    refine lv_bipush (v := (9 : Int32)) hx hb dX9_back_14 (by decide) ?_
    obtain ⟨q_16, e_16, hF⟩ := ob_bd hF
    refine csR (As := [.int p2, .int (0 : Int32), .int (9 : Int32)]) (rest := []) ⟨hx, hb, hml, hown, hts⟩ (cR_X9_within l p2 (0 : Int32) (9 : Int32) _ e_16) (cw_X9_X9_within_88 hts ⟨Nat.le_of_ble_eq_true rfl, Nat.le_of_ble_eq_true rfl⟩) ⟨Nat.zero_le _, Nat.zero_le _⟩ rfl hl.1 rfl (lv_room (Nat.le_of_ble_eq_true rfl)) dX9_back_16 ?_
    refine lv_if_ne (tgt := 25) hx hb dX9_back_19 (by decide) (fun c_19 => ?_) (fun c_19 => ?_)
    · have hF := ob_f c_19 hF
      refine alQ_n hx hb dX9_back_25 rfl (lv_at hl 0 rfl) ?_
      refine rfS e_7 ?_
      obtain ⟨k_26_1, hF⟩ := ob_gd hF
      refine gP hx hb hts hin wo_4 rfl hown hK hP k_26_1 (pf_4 (isK_K k_26_1)) 4 (.int (pI σ c_7 4)) (by decide) rf_X9_210 rfl dX9_back_26 ?_
      refine lv_istore (i := 4) (lv' := [(4, .int (pI σ c_7 4)), (3, va_rf q_2), (0, .ref (ad 1009)), (1, .int p1), (2, .int p2)]) hx hb dX9_back_29 hl (by decide) (by simp [rf_cat]) (fun ls hl => ?_)
      refine lv_iload hx hb dX9_back_31 (lv_at hl 0 rfl) ?_
      refine lv_iconst (v := (0 : Int32)) hx hb dX9_back_33 (by decide) ?_
      refine lv_bipush (v := (9 : Int32)) hx hb dX9_back_34 (by decide) ?_
      obtain ⟨q_36, e_36, hF⟩ := ob_bd hF
      refine csR (As := [.int (pI σ c_7 4), .int (0 : Int32), .int (9 : Int32)]) (rest := []) ⟨hx, hb, hml, hown, hts⟩ (cR_X9_within l (pI σ c_7 4) (0 : Int32) (9 : Int32) _ e_36) (cw_X9_X9_within_88 hts ⟨Nat.le_of_ble_eq_true rfl, Nat.le_of_ble_eq_true rfl⟩) ⟨Nat.zero_le _, Nat.zero_le _⟩ rfl hl.1 rfl (lv_room (Nat.le_of_ble_eq_true rfl)) dX9_back_36 ?_
      refine lv_if_ne (tgt := 45) hx hb dX9_back_39 (by decide) (fun c_39 => ?_) (fun c_39 => ?_)
      · have hF := ob_f c_39 hF
        refine alQ_n hx hb dX9_back_45 rfl (lv_at hl 1 rfl) ?_
        refine rfS e_7 ?_
        refine lv_iconst (v := (-1 : Int32)) hx hb dX9_back_46 (by decide) ?_
        refine pP (ρ2 := (wi σ c_7 4 (-1 : Int32))) (ty := .int) hx hb hts hin wo_4 rfl tyX4 tyX4_ok nmX4 hown hK hP hD hS k_26_1 (pf_4 (isK_K k_26_1)) 4 (by decide) rf_X9_210 rfl (by decide +kernel) rfl rfl (Nat.le_of_ble_eq_true rfl) (xR_wi _ _ _ _ _ _) (pL_wi _ _ _ _) (pw_4_4 (ρ := σ) (isK_K k_26_1) _) dX9_back_47 (fun H locs hP hD hS => ?_)
        refine lv_aload_n hx hb dX9_back_50 rfl (lv_at hl 2 rfl) ?_
        refine gF hx hb hts hin wo_9 rfl hown hK hP (ob_9 _ _ _) 14 (.ref (ad 914)) (by decide) rf_X9_72 rfl dX9_back_51 ?_
        refine lv_iload hx hb dX9_back_54 (lv_at hl 0 rfl) ?_
        obtain ⟨g_56, hF⟩ := ob_gd hF
        refine ldA (C := "RobeHouse$Person") hx hb hK hP (ra_914 _ _ _) rfl (rQ (wi σ c_7 4 (-1 : Int32)) 914 (pI σ c_7 4).toNatClampNeg) g_56 rfl dX9_back_56 ?_
        obtain ⟨r_56, o_56, hF⟩ := ob_bd hF
        refine rfS o_56 ?_
        refine lv_iconst (v := (0 : Int32)) hx hb dX9_back_57 (by decide) ?_
        obtain ⟨k_58_2, hF⟩ := ob_gd hF
        refine pP (ρ2 := (wi (wi σ c_7 4 (-1 : Int32)) r_56 3 (0 : Int32))) (ty := .boolean) hx hb hts hin wo_3 rfl tyX3 tyX3_ok nmX3 hown hK hP hD hS k_58_2 (pf_3 (isK_K k_58_2)) 3 (by decide) rf_X9_269 rfl (by decide +kernel) rfl rfl (Nat.le_of_ble_eq_true rfl) (xR_wi _ _ _ _ _ _) (pL_wi _ _ _ _) (pw_3_3 (ρ := (wi σ c_7 4 (-1 : Int32))) (isK_K k_58_2) _) dX9_back_58 (fun H locs hP hD hS => ?_)
        refine lv_iconst (v := (0 : Int32)) hx hb dX9_back_61 (by decide) ?_
        refine lv_istore (i := 5) (lv' := [(5, .int (0 : Int32)), (4, .int (pI σ c_7 4)), (3, va_rf q_2), (0, .ref (ad 1009)), (1, .int p1), (2, .int p2)]) hx hb dX9_back_62 hl (by decide) rfl (fun ls hl => ?_)
        exact b_64 p2 q_2 (pI σ c_7 4) fu (0 : Int32) (wi (wi σ c_7 4 (-1 : Int32)) r_56 3 (0 : Int32)) _ _ _ hF hP hD hS (lv_sub hl [3, 5, 2, 1, 0] rfl)
      · have hF := ob_t c_39 hF
        refine lv_bipush (v := (-3 : Int32)) hx hb dX9_back_42 (by decide) ?_
        exact rwR hx hb hr hlocks hF hK hP hD hS dX9_back_44
    · have hF := ob_t c_19 hF
      refine lv_bipush (v := (-2 : Int32)) hx hb dX9_back_22 (by decide) ?_
      exact rwR hx hb hr hlocks hF hK hP hD hS dX9_back_24
  · have hF := oc_n e_7 hF
    refine lv_iconst (v := (-1 : Int32)) hx hb dX9_back_10 (by decide) ?_
    exact rwR hx hb hr hlocks hF hK hP hD hS dX9_back_11
def wsR_X9_wearableFor : List Cond := Cond.code yX9_wearableFor cX9_wearableFor 6 (some .int) :: wRa
def FR_X9_wearableFor_21 (x1_21 : Nat) (x2_21 : Int32) : Nat → Int32 → Int32 → RS → Option (Int32 × RS)
  | 0, _, _, _ => none
  | n_21 + 1, x3_21, x4_21, σ_21 => (if (30 : Int32) ≤ x4_21 then (some (x3_21, σ_21)) else (gd (inb x4_21 30) (oc (rQ σ_21 904 x4_21.toNatClampNeg) (FR_X9_wearableFor_21  x1_21 x2_21 n_21 x3_21 (x4_21 + (1 : Int32)) σ_21) (fun c_39 => (gd (isK σ_21 c_39 4) ((FR_X4_isAtHand σ_21 c_39).bind fun q_44 => (if q_44 = 0 then (FR_X9_wearableFor_21  x1_21 x2_21 n_21 x3_21 (x4_21 + (1 : Int32)) σ_21) else ((FR_X9_canWear σ_21 c_39 x1_21 x2_21).bind fun q_55 => (if q_55.1 = 0 then (FR_X9_wearableFor_21  x1_21 x2_21 n_21 x3_21 (x4_21 + (1 : Int32)) q_55.2) else (FR_X9_wearableFor_21  x1_21 x2_21 n_21 (x3_21 ||| ((1 : Int32) <<< (x4_21 &&& 31))) (x4_21 + (1 : Int32)) q_55.2))))))))))
def FR_X9_wearableFor (σ : RS) (p1 : Nat) (p2 : Int32) : Option (Int32 × RS) := (gd (isK σ p1 3) (if (pI σ p1 0) = 0 then (some ((0 : Int32), σ)) else (if (pI σ p1 3) = 0 then (FR_X9_wearableFor_21 p1 p2 fu (0 : Int32) (0 : Int32) σ) else (some ((0 : Int32), σ)))))
set_option maxHeartbeats 4000000 in
set_option maxRecDepth 100000 in
theorem cR_X9_wearableFor (l : Launch) (D : va_G) (cs : Nat → ClassId) (ad tb : Nat → Nat) (A : Nat → Prop) (σ : RS) (p1 : Nat) (p2 : Int32) (q : (Int32 × RS)) (hF : FR_X9_wearableFor σ p1 p2 = some q) : Met l yX9_wearableFor wsR_X9_wearableFor { frames := 3, cells := 0, slots := 0, locals := 68 } (va_Pc [.ref (ad 1009), .ref p1, .int p2] (preQ D cs ad tb A σ)) (va_Qi (fun x u => x = q.1 ∧ u = q.2) (posQ D cs ad A) A) 0 0 A := by
  refine Met.ofW (cc := cX9_wearableFor) (maxL := 6) (ret := (some .int)) (by decide) rfl ?_
  intro p e s m args below meth c s₁ B hml hv
  obtain ⟨rfl, hP, hK, hD, hZ⟩ := hv
  have hx := B.exec
  have hb := B.bytes
  have hr := B.returns
  have hts : ∀ w ∈ (Cond.code yX9_wearableFor cX9_wearableFor 6 (some .int) :: wRa), w.before ([.ref (ad 1009), .ref p1, .int p2] : List Value).toArray s = true := atoms_spec (ws := wsR_X9_wearableFor) B.pre
  have hin : ∀ w ∈ wRa, w ∈ (Cond.code yX9_wearableFor cX9_wearableFor 6 (some .int) :: wRa) := fun w hw => List.mem_cons_of_mem _ hw
  have hown : s.vm.findClass RX9 = some m.cls := findClass_of_methodNamed B.named
  have hlocks := B.notSynchronized
  have hS : va_S A s.heap s.heap [] := va_S.rf
  have b_21 : ∀ (x1_21 : Nat) (x2_21 : Int32) (n_21 : Nat) (x3_21 : Int32) (x4_21 : Int32) (σ_21 : RS) (H : Heap) (locs : List Loc) (ls : Array Slot), FR_X9_wearableFor_21 x1_21 x2_21 n_21 x3_21 x4_21 σ_21 = some q → va_P D vwCl (wR cs ad σ_21) H → va_D A (wR cs ad σ_21) → va_S A s.heap H locs → lv_has ls 6 [(0, .ref (ad 1009)), (1, .ref x1_21), (2, .int x2_21), (3, .int x3_21), (4, .int x4_21)] → W p l e (headSpec wsR_X9_wearableFor { frames := 3, cells := 0, slots := 0, locals := 68 }).room s m ([.ref (ad 1009), .ref p1, .int p2] : List Value).toArray below meth c H locs 0 0 (MQ below (va_Qi (fun x u => x = q.1 ∧ u = q.2) (posQ D cs ad A) A) ([.ref (ad 1009), .ref p1, .int p2] : List Value).toArray s 0 0 A) (F0 m 21 ls []) := by
    intro x1_21 x2_21
    intro n_21
    induction n_21 with
    | zero =>
      intro x3_21 x4_21 σ_21 H locs ls hF hP hD hS hl
      exact absurd hF (by simp [FR_X9_wearableFor_21])
    | succ n_21 ih_21 =>
      intro x3_21 x4_21 σ_21 H locs ls hF hP hD hS hl
      rw [FR_X9_wearableFor_21] at hF
      refine lv_iload hx hb dX9_wearableFor_21 (lv_at hl 4 rfl) ?_
      refine lv_bipush (v := (30 : Int32)) hx hb dX9_wearableFor_23 (by decide) ?_
      refine lv_icmp_ge (tgt := 74) hx hb dX9_wearableFor_25 (by decide) (fun c_25 => ?_) (fun c_25 => ?_)
      · have hF := ob_t c_25 hF
        refine lv_iload_n hx hb dX9_wearableFor_74 rfl (lv_at hl 3 rfl) ?_
        exact rwR hx hb hr hlocks hF hK hP hD hS dX9_wearableFor_75
      · have hF := ob_f c_25 hF
        refine lv_aload_n hx hb dX9_wearableFor_28 rfl (lv_at hl 0 rfl) ?_
        refine gF hx hb hts hin wo_9 rfl hown hK hP (ob_9 _ _ _) 4 (.ref (ad 904)) (by decide) rf_X9_31 rfl dX9_wearableFor_29 ?_
        refine lv_iload hx hb dX9_wearableFor_32 (lv_at hl 4 rfl) ?_
        obtain ⟨g_34, hF⟩ := ob_gd hF
        refine ldA (C := "RobeHouse$Robe") hx hb hK hP (ra_904 _ _ _) rfl (rQ σ_21 904 x4_21.toNatClampNeg) g_34 rfl dX9_wearableFor_34 ?_
        refine asQ (i := 5) (lv' := [(5, va_rf (rQ σ_21 904 x4_21.toNatClampNeg)), (0, .ref (ad 1009)), (1, .ref x1_21), (2, .int x2_21), (3, .int x3_21), (4, .int x4_21)]) hx hb dX9_wearableFor_35 hl (by decide) rfl (fun ls hl => ?_)
        refine alQ hx hb dX9_wearableFor_37 (lv_at hl 0 rfl) ?_
        refine nlQ (tgt := 68) hx hb dX9_wearableFor_39 (by decide) (fun e_39 => ?_) (fun c_39 e_39 => ?_)
        · have hF := oc_n e_39 hF
          refine lv_iinc (v := x4_21 + (1 : Int32)) (lv' := [(4, .int (x4_21 + (1 : Int32))), (5, va_rf (rQ σ_21 904 x4_21.toNatClampNeg)), (0, .ref (ad 1009)), (1, .ref x1_21), (2, .int x2_21), (3, .int x3_21)]) hx hb dX9_wearableFor_68 hl (k := 5) rfl rfl (by decide) rfl (fun ls hl => ?_)
          refine lv_goto (tgt := 21) hx hb dX9_wearableFor_71 (by decide) ?_
          exact ih_21 x3_21 (x4_21 + (1 : Int32)) σ_21 _ _ _ hF hP hD hS (lv_sub hl [2, 3, 4, 5, 0] rfl)
        · have hF := oc_s e_39 hF
          refine alQ hx hb dX9_wearableFor_42 (lv_at hl 0 rfl) ?_
          refine rfS e_39 ?_
          obtain ⟨k_44_2, hF⟩ := ob_gd hF
          obtain ⟨q_44, e_44, hF⟩ := ob_bd hF
          refine crR (As := []) (rest := []) ⟨hx, hb, hml, hown, hts⟩ (cR_X4_isAtHand l D cs ad tb A σ_21 c_39 _ e_44) (cw_X9_X4_isAtHand_261 hts ⟨Nat.le_of_ble_eq_true rfl, Nat.le_of_ble_eq_true rfl⟩) ⟨Nat.zero_le _, Nat.zero_le _⟩ (rcP hK hP (ci := 4) rfl k_44_2 (pf_4 (isK_K k_44_2))) hK hP hD hS hZ rfl hl.1 rfl (lv_room (Nat.le_of_ble_eq_true rfl)) dX9_wearableFor_44 ?_
          refine lv_if_eq (tgt := 68) hx hb dX9_wearableFor_47 (by decide) (fun c_47 => ?_) (fun c_47 => ?_)
          · have hF := ob_t c_47 hF
            refine lv_iinc (v := x4_21 + (1 : Int32)) (lv' := [(4, .int (x4_21 + (1 : Int32))), (5, va_rf (rQ σ_21 904 x4_21.toNatClampNeg)), (0, .ref (ad 1009)), (1, .ref x1_21), (2, .int x2_21), (3, .int x3_21)]) hx hb dX9_wearableFor_68 hl (k := 5) rfl rfl (by decide) rfl (fun ls hl => ?_)
            refine lv_goto (tgt := 21) hx hb dX9_wearableFor_71 (by decide) ?_
            exact ih_21 x3_21 (x4_21 + (1 : Int32)) σ_21 _ _ _ hF hP hD hS (lv_sub hl [2, 3, 4, 5, 0] rfl)
          · have hF := ob_f c_47 hF
            refine lv_aload_n hx hb dX9_wearableFor_50 rfl (lv_at hl 1 rfl) ?_
            refine alQ hx hb dX9_wearableFor_51 (lv_at hl 0 rfl) ?_
            refine rfS e_39 ?_
            refine lv_aload_n hx hb dX9_wearableFor_53 rfl (lv_at hl 2 rfl) ?_
            refine lv_iload_n hx hb dX9_wearableFor_54 rfl (lv_at hl 3 rfl) ?_
            obtain ⟨q_55, e_55, hF⟩ := ob_bd hF
            refine cwR (As := [.ref c_39, .ref x1_21, .int x2_21]) (rest := []) ⟨hx, hb, hml, hown, hts⟩ (cR_X9_canWear l D cs ad tb A σ_21 c_39 x1_21 x2_21 _ e_55) (cw_X9_X9_canWear_265 hts ⟨Nat.le_of_ble_eq_true rfl, Nat.le_of_ble_eq_true rfl⟩) ⟨Nat.zero_le _, Nat.zero_le _⟩ (rcF hK hP (ci := 9) rfl (ob_9 _ _ _)) hK hP hD hS hZ rfl hl.1 rfl (lv_room (Nat.le_of_ble_eq_true rfl)) dX9_wearableFor_55 (fun H locs hP hD hS => ?_)
            refine lv_if_eq (tgt := 68) hx hb dX9_wearableFor_58 (by decide) (fun c_58 => ?_) (fun c_58 => ?_)
            · have hF := ob_t c_58 hF
              refine lv_iinc (v := x4_21 + (1 : Int32)) (lv' := [(4, .int (x4_21 + (1 : Int32))), (5, va_rf (rQ σ_21 904 x4_21.toNatClampNeg)), (0, .ref (ad 1009)), (1, .ref x1_21), (2, .int x2_21), (3, .int x3_21)]) hx hb dX9_wearableFor_68 hl (k := 5) rfl rfl (by decide) rfl (fun ls hl => ?_)
              refine lv_goto (tgt := 21) hx hb dX9_wearableFor_71 (by decide) ?_
              exact ih_21 x3_21 (x4_21 + (1 : Int32)) q_55.2 _ _ _ hF hP hD hS (lv_sub hl [2, 3, 4, 5, 0] rfl)
            · have hF := ob_f c_58 hF
              refine lv_iload_n hx hb dX9_wearableFor_61 rfl (lv_at hl 4 rfl) ?_
              refine lv_iconst (v := (1 : Int32)) hx hb dX9_wearableFor_62 (by decide) ?_
              refine lv_iload hx hb dX9_wearableFor_63 (lv_at hl 5 rfl) ?_
              refine lv_ishl hx hb dX9_wearableFor_65 ?_
              refine lv_ior hx hb dX9_wearableFor_66 ?_
              refine lv_istore_n (i := 3) (lv' := [(3, .int (x3_21 ||| ((1 : Int32) <<< (x4_21 &&& 31)))), (5, va_rf (rQ σ_21 904 x4_21.toNatClampNeg)), (0, .ref (ad 1009)), (1, .ref x1_21), (2, .int x2_21), (4, .int x4_21)]) hx hb dX9_wearableFor_67 rfl hl (by decide) rfl (fun ls hl => ?_)
              refine lv_iinc (v := x4_21 + (1 : Int32)) (lv' := [(4, .int (x4_21 + (1 : Int32))), (3, .int (x3_21 ||| ((1 : Int32) <<< (x4_21 &&& 31)))), (5, va_rf (rQ σ_21 904 x4_21.toNatClampNeg)), (0, .ref (ad 1009)), (1, .ref x1_21), (2, .int x2_21)]) hx hb dX9_wearableFor_68 hl (k := 5) rfl rfl (by decide) rfl (fun ls hl => ?_)
              refine lv_goto (tgt := 21) hx hb dX9_wearableFor_71 (by decide) ?_
              exact ih_21 (x3_21 ||| ((1 : Int32) <<< (x4_21 &&& 31))) (x4_21 + (1 : Int32)) q_55.2 _ _ _ hF hP hD hS (lv_sub hl [3, 4, 5, 1, 0] rfl)
  have hl := lv_entry ([.ref (ad 1009), .ref p1, .int p2]) (n := 6) (Nat.le_of_ble_eq_true rfl)
  rw [lg_entry_eq]
  generalize (lg_sl ([.ref (ad 1009), .ref p1, .int p2]) ++ List.replicate (6 - (lg_sl ([.ref (ad 1009), .ref p1, .int p2])).length) Slot.unset).toArray = ls at hl ⊢
  have hl : lv_has ls 6 [(0, .ref (ad 1009)), (1, .ref p1), (2, .int p2)] := hl
  unfold FR_X9_wearableFor at hF
  refine lv_aload_n hx hb dX9_wearableFor_0 rfl (lv_at hl 1 rfl) ?_
  obtain ⟨k_1_1, hF⟩ := ob_gd hF
  refine gP hx hb hts hin wo_3 rfl hown hK hP k_1_1 (pf_3 (isK_K k_1_1)) 0 (.int (pI σ p1 0)) (by decide) rf_X9_247 rfl dX9_wearableFor_1 ?_
  refine lv_if_eq (tgt := 14) hx hb dX9_wearableFor_4 (by decide) (fun c_4 => ?_) (fun c_4 => ?_)
  · have hF := ob_t c_4 hF
    refine lv_iconst (v := (0 : Int32)) hx hb dX9_wearableFor_14 (by decide) ?_
    exact rwR hx hb hr hlocks hF hK hP hD hS dX9_wearableFor_15
  · have hF := ob_f c_4 hF
    refine lv_aload_n hx hb dX9_wearableFor_7 rfl (lv_at hl 1 rfl) ?_
    refine gP hx hb hts hin wo_3 rfl hown hK hP k_1_1 (pf_3 (isK_K k_1_1)) 3 (.int (pI σ p1 3)) (by decide) rf_X9_269 rfl dX9_wearableFor_8 ?_
    refine lv_if_eq (tgt := 16) hx hb dX9_wearableFor_11 (by decide) (fun c_11 => ?_) (fun c_11 => ?_)
    · have hF := ob_t c_11 hF
      refine lv_iconst (v := (0 : Int32)) hx hb dX9_wearableFor_16 (by decide) ?_
      refine lv_istore_n (i := 3) (lv' := [(3, .int (0 : Int32)), (0, .ref (ad 1009)), (1, .ref p1), (2, .int p2)]) hx hb dX9_wearableFor_17 rfl hl (by decide) rfl (fun ls hl => ?_)
      refine lv_iconst (v := (0 : Int32)) hx hb dX9_wearableFor_18 (by decide) ?_
      refine lv_istore (i := 4) (lv' := [(4, .int (0 : Int32)), (3, .int (0 : Int32)), (0, .ref (ad 1009)), (1, .ref p1), (2, .int p2)]) hx hb dX9_wearableFor_19 hl (by decide) rfl (fun ls hl => ?_)
      exact b_21 p1 p2 fu (0 : Int32) (0 : Int32) σ _ _ _ hF hP hD hS (lv_sub hl [2, 3, 4, 1, 0] rfl)
    · have hF := ob_f c_11 hF
      refine lv_iconst (v := (0 : Int32)) hx hb dX9_wearableFor_14 (by decide) ?_
      exact rwR hx hb hr hlocks hF hK hP hD hS dX9_wearableFor_15
def wsR_X9_clothe : List Cond := Cond.code yX9_clothe cX9_clothe 3 (some .int) :: wRa
theorem cw_X9_X9_wearableFor_275 {R : Room} {s : State} {args : Array Value} {y : MethodName} {c : ByteArray} {n : Nat} {r : Option FieldType} (hts : ∀ w ∈ (Cond.code y c n r :: wRa), w.before args s = true) (hR : 3 + 1 ≤ R.frames ∧ 8 + (6 + 11) + 68 ≤ R.locals) : CallW R s args RX9 RX9 275 yX9_wearableFor cX9_wearableFor 6 (some .int) wsR_X9_wearableFor { frames := 3, cells := 0, slots := 0, locals := 68 } 0 0 2 := cwV 2 hts (goodV wRa_good rm_X9_275 ri_X9_wearableFor rs_X9_wearableFor rn_X9 rc_X9_wearableFor) rfl rfl rfl (by decide +kernel) hR
theorem cw_X9_X1_share_279 {R : Room} {s : State} {args : Array Value} {y : MethodName} {c : ByteArray} {n : Nat} {r : Option FieldType} (hts : ∀ w ∈ (Cond.code y c n r :: wRa), w.before args s = true) (hR : 15 + 1 ≤ R.frames ∧ 8 + (5 + 11) + 361 ≤ R.locals) : CallW R s args RX9 RX1 279 yX1_share cX1_share 5 (some .int) wsR_X1_share { frames := 15, cells := 0, slots := 0, locals := 361 } 0 0 0 := cwV 0 hts (goodV wRa_good rm_X9_279 ri_X1_share rs_X1_share rn_X1 rc_X1_share) rfl rfl rfl (by decide +kernel) hR
def FR_X9_clothe_14 (K_46 : RS → Option (Int32 × RS)) (x1_14 : Int32) : Nat → Int32 → RS → Option (Int32 × RS)
  | 0, _, _ => none
  | n_14 + 1, x2_14, σ_14 => (if (10 : Int32) ≤ x2_14 then (K_46 σ_14) else (gd (inb x2_14 10) ((rQ σ_14 914 x2_14.toNatClampNeg).bind fun r_34 => ((FR_X9_wearableFor σ_14 r_34 x1_14).bind fun q_36 => (gd (inb x2_14 10) (FR_X9_clothe_14 K_46 x1_14 n_14 (x2_14 + (1 : Int32)) (ra q_36.2 100 x2_14 q_36.1)))))))
def FR_X9_clothe_46 (σ_46 : RS) : Option (Int32 × RS) := ((FR_X1_share σ_46).bind fun q_50 => (some (q_50.1, q_50.2)))
def FR_X9_clothe (σ : RS) (p1 : Int32) : Option (Int32 × RS) := ((FR_X9_within p1 (0 : Int32) (3 : Int32)).bind fun q_3 => (if q_3 = 0 then (some ((-2 : Int32), σ)) else (FR_X9_clothe_14 (fun σ_46 => FR_X9_clothe_46 σ_46) p1 fu (0 : Int32) σ)))
set_option maxHeartbeats 4000000 in
set_option maxRecDepth 100000 in
theorem cR_X9_clothe (l : Launch) (D : va_G) (cs : Nat → ClassId) (ad tb : Nat → Nat) (A : Nat → Prop) (σ : RS) (p1 : Int32) (q : (Int32 × RS)) (hF : FR_X9_clothe σ p1 = some q) : Met l yX9_clothe wsR_X9_clothe { frames := 16, cells := 0, slots := 0, locals := 385 } (va_Pc [.ref (ad 1009), .int p1] (preQ D cs ad tb A σ)) (va_Qi (fun x u => x = q.1 ∧ u = q.2) (posQ D cs ad A) A) 0 0 A := by
  refine Met.ofW (cc := cX9_clothe) (maxL := 3) (ret := (some .int)) (by decide) rfl ?_
  intro p e s m args below meth c s₁ B hml hv
  obtain ⟨rfl, hP, hK, hD, hZ⟩ := hv
  have hx := B.exec
  have hb := B.bytes
  have hr := B.returns
  have hts : ∀ w ∈ (Cond.code yX9_clothe cX9_clothe 3 (some .int) :: wRa), w.before ([.ref (ad 1009), .int p1] : List Value).toArray s = true := atoms_spec (ws := wsR_X9_clothe) B.pre
  have hin : ∀ w ∈ wRa, w ∈ (Cond.code yX9_clothe cX9_clothe 3 (some .int) :: wRa) := fun w hw => List.mem_cons_of_mem _ hw
  have hown : s.vm.findClass RX9 = some m.cls := findClass_of_methodNamed B.named
  have hlocks := B.notSynchronized
  have hS : va_S A s.heap s.heap [] := va_S.rf
  have b_14 : ∀ (x1_14 : Int32) (K_46 : RS → Option (Int32 × RS)) (k_46 : ∀ (σ_46 : RS) (H : Heap) (locs : List Loc) (ls : Array Slot), K_46 σ_46 = some q → va_P D vwCl (wR cs ad σ_46) H → va_D A (wR cs ad σ_46) → va_S A s.heap H locs → lv_has ls 3 [(0, .ref (ad 1009))] → W p l e (headSpec wsR_X9_clothe { frames := 16, cells := 0, slots := 0, locals := 385 }).room s m ([.ref (ad 1009), .int p1] : List Value).toArray below meth c H locs 0 0 (MQ below (va_Qi (fun x u => x = q.1 ∧ u = q.2) (posQ D cs ad A) A) ([.ref (ad 1009), .int p1] : List Value).toArray s 0 0 A) (F0 m 46 ls [])) (n_14 : Nat) (x2_14 : Int32) (σ_14 : RS) (H : Heap) (locs : List Loc) (ls : Array Slot), FR_X9_clothe_14 K_46 x1_14 n_14 x2_14 σ_14 = some q → va_P D vwCl (wR cs ad σ_14) H → va_D A (wR cs ad σ_14) → va_S A s.heap H locs → lv_has ls 3 [(0, .ref (ad 1009)), (1, .int x1_14), (2, .int x2_14)] → W p l e (headSpec wsR_X9_clothe { frames := 16, cells := 0, slots := 0, locals := 385 }).room s m ([.ref (ad 1009), .int p1] : List Value).toArray below meth c H locs 0 0 (MQ below (va_Qi (fun x u => x = q.1 ∧ u = q.2) (posQ D cs ad A) A) ([.ref (ad 1009), .int p1] : List Value).toArray s 0 0 A) (F0 m 14 ls []) := by
    intro x1_14 K_46 k_46
    intro n_14
    induction n_14 with
    | zero =>
      intro x2_14 σ_14 H locs ls hF hP hD hS hl
      exact absurd hF (by simp [FR_X9_clothe_14])
    | succ n_14 ih_14 =>
      intro x2_14 σ_14 H locs ls hF hP hD hS hl
      rw [FR_X9_clothe_14] at hF
      refine lv_iload_n hx hb dX9_clothe_14 rfl (lv_at hl 2 rfl) ?_
      refine lv_bipush (v := (10 : Int32)) hx hb dX9_clothe_15 (by decide) ?_
      refine lv_icmp_ge (tgt := 46) hx hb dX9_clothe_17 (by decide) (fun c_17 => ?_) (fun c_17 => ?_)
      · have hF := ob_t c_17 hF
        exact k_46 σ_14 _ _ _ hF hP hD hS (lv_sub hl [0] rfl)
      · have hF := ob_f c_17 hF
        refine lv_aload_n hx hb dX9_clothe_20 rfl (lv_at hl 0 rfl) ?_
        refine gF hx hb hts hin wo_9 rfl hown hK hP (ob_9 _ _ _) 15 (.ref (ad 1001)) (by decide) rf_X9_79 rfl dX9_clothe_21 ?_
        refine gF hx hb hts hin wo_1 rfl hown hK hP (ob_1 _ _ _) 0 (.ref (ad 100)) (by decide) rf_X9_272 rfl dX9_clothe_24 ?_
        refine lv_iload_n hx hb dX9_clothe_27 rfl (lv_at hl 2 rfl) ?_
        refine lv_aload_n hx hb dX9_clothe_28 rfl (lv_at hl 0 rfl) ?_
        refine lv_aload_n hx hb dX9_clothe_29 rfl (lv_at hl 0 rfl) ?_
        refine gF hx hb hts hin wo_9 rfl hown hK hP (ob_9 _ _ _) 14 (.ref (ad 914)) (by decide) rf_X9_72 rfl dX9_clothe_30 ?_
        refine lv_iload_n hx hb dX9_clothe_33 rfl (lv_at hl 2 rfl) ?_
        obtain ⟨g_34, hF⟩ := ob_gd hF
        refine ldA (C := "RobeHouse$Person") hx hb hK hP (ra_914 _ _ _) rfl (rQ σ_14 914 x2_14.toNatClampNeg) g_34 rfl dX9_clothe_34 ?_
        obtain ⟨r_34, o_34, hF⟩ := ob_bd hF
        refine rfS o_34 ?_
        refine lv_iload_n hx hb dX9_clothe_35 rfl (lv_at hl 1 rfl) ?_
        obtain ⟨q_36, e_36, hF⟩ := ob_bd hF
        refine cwR (As := [.ref r_34, .int x1_14]) (rest := [.int x2_14, .ref (ad 100)]) ⟨hx, hb, hml, hown, hts⟩ (cR_X9_wearableFor l D cs ad tb A σ_14 r_34 x1_14 _ e_36) (cw_X9_X9_wearableFor_275 hts ⟨Nat.le_of_ble_eq_true rfl, Nat.le_of_ble_eq_true rfl⟩) ⟨Nat.zero_le _, Nat.zero_le _⟩ (rcF hK hP (ci := 9) rfl (ob_9 _ _ _)) hK hP hD hS hZ rfl hl.1 rfl (lv_room (Nat.le_of_ble_eq_true rfl)) dX9_clothe_36 (fun H locs hP hD hS => ?_)
        obtain ⟨g_39, hF⟩ := ob_gd hF
        refine stF hx hb hK hP hD hS (ra_100 _ _ _) (rs_100 _ _ _ _ _) g_39 dX9_clothe_39 (fun H locs hP hD hS => ?_)
        refine lv_iinc (v := x2_14 + (1 : Int32)) (lv' := [(2, .int (x2_14 + (1 : Int32))), (0, .ref (ad 1009)), (1, .int x1_14)]) hx hb dX9_clothe_40 hl (k := 2) rfl rfl (by decide) rfl (fun ls hl => ?_)
        refine lv_goto (tgt := 14) hx hb dX9_clothe_43 (by decide) ?_
        exact ih_14 (x2_14 + (1 : Int32)) (ra q_36.2 100 x2_14 q_36.1) _ _ _ hF hP hD hS (lv_sub hl [1, 2, 0] rfl)
  have b_46 : ∀ (σ_46 : RS) (H : Heap) (locs : List Loc) (ls : Array Slot), FR_X9_clothe_46 σ_46 = some q → va_P D vwCl (wR cs ad σ_46) H → va_D A (wR cs ad σ_46) → va_S A s.heap H locs → lv_has ls 3 [(0, .ref (ad 1009))] → W p l e (headSpec wsR_X9_clothe { frames := 16, cells := 0, slots := 0, locals := 385 }).room s m ([.ref (ad 1009), .int p1] : List Value).toArray below meth c H locs 0 0 (MQ below (va_Qi (fun x u => x = q.1 ∧ u = q.2) (posQ D cs ad A) A) ([.ref (ad 1009), .int p1] : List Value).toArray s 0 0 A) (F0 m 46 ls []) := by
    intro σ_46 H locs ls hF hP hD hS hl
    unfold FR_X9_clothe_46 at hF
    refine lv_aload_n hx hb dX9_clothe_46 rfl (lv_at hl 0 rfl) ?_
    refine gF hx hb hts hin wo_9 rfl hown hK hP (ob_9 _ _ _) 15 (.ref (ad 1001)) (by decide) rf_X9_79 rfl dX9_clothe_47 ?_
    obtain ⟨q_50, e_50, hF⟩ := ob_bd hF
    refine cwR (As := []) (rest := []) ⟨hx, hb, hml, hown, hts⟩ (cR_X1_share l D cs ad tb A σ_46 _ e_50) (cw_X9_X1_share_279 hts ⟨Nat.le_of_ble_eq_true rfl, Nat.le_of_ble_eq_true rfl⟩) ⟨Nat.zero_le _, Nat.zero_le _⟩ (rcF hK hP (ci := 1) rfl (ob_1 _ _ _)) hK hP hD hS hZ rfl hl.1 rfl (lv_room (Nat.le_of_ble_eq_true rfl)) dX9_clothe_50 (fun H locs hP hD hS => ?_)
    exact rwR hx hb hr hlocks hF hK hP hD hS dX9_clothe_53
  have hl := lv_entry ([.ref (ad 1009), .int p1]) (n := 3) (Nat.le_of_ble_eq_true rfl)
  rw [lg_entry_eq]
  generalize (lg_sl ([.ref (ad 1009), .int p1]) ++ List.replicate (3 - (lg_sl ([.ref (ad 1009), .int p1])).length) Slot.unset).toArray = ls at hl ⊢
  have hl : lv_has ls 3 [(0, .ref (ad 1009)), (1, .int p1)] := hl
  unfold FR_X9_clothe at hF
  refine lv_iload_n hx hb dX9_clothe_0 rfl (lv_at hl 1 rfl) ?_
  refine lv_iconst (v := (0 : Int32)) hx hb dX9_clothe_1 (by decide) ?_
  refine lv_iconst (v := (3 : Int32)) hx hb dX9_clothe_2 (by decide) ?_
  obtain ⟨q_3, e_3, hF⟩ := ob_bd hF
  refine csR (As := [.int p1, .int (0 : Int32), .int (3 : Int32)]) (rest := []) ⟨hx, hb, hml, hown, hts⟩ (cR_X9_within l p1 (0 : Int32) (3 : Int32) _ e_3) (cw_X9_X9_within_88 hts ⟨Nat.le_of_ble_eq_true rfl, Nat.le_of_ble_eq_true rfl⟩) ⟨Nat.zero_le _, Nat.zero_le _⟩ rfl hl.1 rfl (lv_room (Nat.le_of_ble_eq_true rfl)) dX9_clothe_3 ?_
  refine lv_if_ne (tgt := 12) hx hb dX9_clothe_6 (by decide) (fun c_6 => ?_) (fun c_6 => ?_)
  · have hF := ob_f c_6 hF
    refine lv_iconst (v := (0 : Int32)) hx hb dX9_clothe_12 (by decide) ?_
    refine lv_istore_n (i := 2) (lv' := [(2, .int (0 : Int32)), (0, .ref (ad 1009)), (1, .int p1)]) hx hb dX9_clothe_13 rfl hl (by decide) rfl (fun ls hl => ?_)
    exact b_14 p1 (fun σ_46 => FR_X9_clothe_46 σ_46) (fun σ_46 => b_46 σ_46) fu (0 : Int32) σ _ _ _ hF hP hD hS (lv_sub hl [1, 2, 0] rfl)
  · have hF := ob_t c_6 hF
    refine lv_bipush (v := (-2 : Int32)) hx hb dX9_clothe_9 (by decide) ?_
    exact rwR hx hb hr hlocks hF hK hP hD hS dX9_clothe_11
def wsR_X9_gets : List Cond := Cond.code yX9_gets cX9_gets 2 (some .int) :: wRa
def FR_X9_gets (σ : RS) (p1 : Int32) : Option Int32 := ((FR_X9_within p1 (0 : Int32) (9 : Int32)).bind fun q_4 => (if q_4 = 0 then (some (-1 : Int32)) else (gd (inb p1 10) (some (rA σ 101 p1.toNatClampNeg)))))
set_option maxHeartbeats 4000000 in
set_option maxRecDepth 100000 in
theorem cR_X9_gets (l : Launch) (D : va_G) (cs : Nat → ClassId) (ad tb : Nat → Nat) (A : Nat → Prop) (σ : RS) (p1 : Int32) (q : Int32) (hF : FR_X9_gets σ p1 = some q) : Met l yX9_gets wsR_X9_gets { frames := 1, cells := 0, slots := 0, locals := 22 } (va_Pc [.ref (ad 1009), .int p1] (preQ D cs ad tb A σ)) (vp_Si (fun x => x = q)) 0 0 (fun _ => False) := by
  refine Met.ofW (cc := cX9_gets) (maxL := 2) (ret := (some .int)) (by decide) rfl ?_
  intro p e s m args below meth c s₁ B hml hv
  obtain ⟨rfl, hP, hK, hD, hZ⟩ := hv
  have hx := B.exec
  have hb := B.bytes
  have hr := B.returns
  have hts : ∀ w ∈ (Cond.code yX9_gets cX9_gets 2 (some .int) :: wRa), w.before ([.ref (ad 1009), .int p1] : List Value).toArray s = true := atoms_spec (ws := wsR_X9_gets) B.pre
  have hin : ∀ w ∈ wRa, w ∈ (Cond.code yX9_gets cX9_gets 2 (some .int) :: wRa) := fun w hw => List.mem_cons_of_mem _ hw
  have hown : s.vm.findClass RX9 = some m.cls := findClass_of_methodNamed B.named
  have hlocks := B.notSynchronized
  have hS : va_S A s.heap s.heap [] := va_S.rf
  have hl := lv_entry ([.ref (ad 1009), .int p1]) (n := 2) (Nat.le_of_ble_eq_true rfl)
  rw [lg_entry_eq]
  generalize (lg_sl ([.ref (ad 1009), .int p1]) ++ List.replicate (2 - (lg_sl ([.ref (ad 1009), .int p1])).length) Slot.unset).toArray = ls at hl ⊢
  have hl : lv_has ls 2 [(0, .ref (ad 1009)), (1, .int p1)] := hl
  unfold FR_X9_gets at hF
  refine lv_iload_n hx hb dX9_gets_0 rfl (lv_at hl 1 rfl) ?_
  refine lv_iconst (v := (0 : Int32)) hx hb dX9_gets_1 (by decide) ?_
  refine lv_bipush (v := (9 : Int32)) hx hb dX9_gets_2 (by decide) ?_
  obtain ⟨q_4, e_4, hF⟩ := ob_bd hF
  refine csR (As := [.int p1, .int (0 : Int32), .int (9 : Int32)]) (rest := []) ⟨hx, hb, hml, hown, hts⟩ (cR_X9_within l p1 (0 : Int32) (9 : Int32) _ e_4) (cw_X9_X9_within_88 hts ⟨Nat.le_of_ble_eq_true rfl, Nat.le_of_ble_eq_true rfl⟩) ⟨Nat.zero_le _, Nat.zero_le _⟩ rfl hl.1 rfl (lv_room (Nat.le_of_ble_eq_true rfl)) dX9_gets_4 ?_
  refine lv_if_eq (tgt := 22) hx hb dX9_gets_7 (by decide) (fun c_7 => ?_) (fun c_7 => ?_)
  · have hF := ob_t c_7 hF
    refine lv_iconst (v := (-1 : Int32)) hx hb dX9_gets_22 (by decide) ?_
    exact rrM hx hb hr hlocks hF dX9_gets_23
  · have hF := ob_f c_7 hF
    refine lv_aload_n hx hb dX9_gets_10 rfl (lv_at hl 0 rfl) ?_
    refine gF hx hb hts hin wo_9 rfl hown hK hP (ob_9 _ _ _) 15 (.ref (ad 1001)) (by decide) rf_X9_79 rfl dX9_gets_11 ?_
    refine gF hx hb hts hin wo_1 rfl hown hK hP (ob_1 _ _ _) 1 (.ref (ad 101)) (by decide) rf_X9_282 rfl dX9_gets_14 ?_
    refine lv_iload_n hx hb dX9_gets_17 rfl (lv_at hl 1 rfl) ?_
    obtain ⟨g_18, hF⟩ := ob_gd hF
    refine ldF hx hb hK hP (ra_101 _ _ _) (rA σ 101 p1.toNatClampNeg) g_18 rfl dX9_gets_18 ?_
    refine lv_goto (tgt := 23) hx hb dX9_gets_19 (by decide) ?_
    exact rrM hx hb hr hlocks hF dX9_gets_23
def wsR_X9_boltsThere : List Cond := Cond.code yX9_boltsThere cX9_boltsThere 6 (some .int) :: wRa
def FR_X9_boltsThere_13 (σ : RS) (x3_13 : Int32) : Nat → Int32 → Int32 → Option Int32
  | 0, _, _ => none
  | n_13 + 1, x1_13, x4_13 => (if x3_13 ≤ x4_13 then (some x1_13) else (gd (inb x4_13 40) (oc (rQ σ 902 x4_13.toNatClampNeg) (FR_X9_boltsThere_13 σ  x3_13 n_13 x1_13 (x4_13 + (1 : Int32))) (fun c_27 => (FR_X9_boltsThere_13 σ  x3_13 n_13 (x1_13 + (1 : Int32)) (x4_13 + (1 : Int32)))))))
def FR_X9_boltsThere (σ : RS) : Option Int32 := (FR_X9_boltsThere_13 σ (40 : Int32) fu (0 : Int32) (0 : Int32))
set_option maxHeartbeats 4000000 in
set_option maxRecDepth 100000 in
theorem cR_X9_boltsThere (l : Launch) (D : va_G) (cs : Nat → ClassId) (ad tb : Nat → Nat) (A : Nat → Prop) (σ : RS) (q : Int32) (hF : FR_X9_boltsThere σ = some q) : Met l yX9_boltsThere wsR_X9_boltsThere { frames := 0, cells := 0, slots := 0, locals := 0 } (va_Pc [.ref (ad 1009)] (preQ D cs ad tb A σ)) (vp_Si (fun x => x = q)) 0 0 (fun _ => False) := by
  refine Met.ofW (cc := cX9_boltsThere) (maxL := 6) (ret := (some .int)) (by decide) rfl ?_
  intro p e s m args below meth c s₁ B hml hv
  obtain ⟨rfl, hP, hK, hD, hZ⟩ := hv
  have hx := B.exec
  have hb := B.bytes
  have hr := B.returns
  have hts : ∀ w ∈ (Cond.code yX9_boltsThere cX9_boltsThere 6 (some .int) :: wRa), w.before ([.ref (ad 1009)] : List Value).toArray s = true := atoms_spec (ws := wsR_X9_boltsThere) B.pre
  have hin : ∀ w ∈ wRa, w ∈ (Cond.code yX9_boltsThere cX9_boltsThere 6 (some .int) :: wRa) := fun w hw => List.mem_cons_of_mem _ hw
  have hown : s.vm.findClass RX9 = some m.cls := findClass_of_methodNamed B.named
  have hlocks := B.notSynchronized
  have hS : va_S A s.heap s.heap [] := va_S.rf
  have b_13 : ∀ (x3_13 : Int32) (n_13 : Nat) (x1_13 : Int32) (x4_13 : Int32) (ls : Array Slot), FR_X9_boltsThere_13 σ x3_13 n_13 x1_13 x4_13 = some q → lv_has ls 6 [(0, .ref (ad 1009)), (1, .int x1_13), (2, .ref (ad 902)), (3, .int x3_13), (4, .int x4_13)] → W p l e (headSpec wsR_X9_boltsThere { frames := 0, cells := 0, slots := 0, locals := 0 }).room s m ([.ref (ad 1009)] : List Value).toArray below meth c s.heap [] 0 0 (MQ below (vp_Si (fun x => x = q)) ([.ref (ad 1009)] : List Value).toArray s 0 0 (fun _ => False)) (F0 m 13 ls []) := by
    intro x3_13
    intro n_13
    induction n_13 with
    | zero =>
      intro x1_13 x4_13 ls hF hl
      exact absurd hF (by simp [FR_X9_boltsThere_13])
    | succ n_13 ih_13 =>
      intro x1_13 x4_13 ls hF hl
      rw [FR_X9_boltsThere_13] at hF
      refine lv_iload hx hb dX9_boltsThere_13 (lv_at hl 4 rfl) ?_
      refine lv_iload_n hx hb dX9_boltsThere_15 rfl (lv_at hl 3 rfl) ?_
      refine lv_icmp_ge (tgt := 39) hx hb dX9_boltsThere_16 (by decide) (fun c_16 => ?_) (fun c_16 => ?_)
      · have hF := ob_t c_16 hF
        refine lv_iload_n hx hb dX9_boltsThere_39 rfl (lv_at hl 1 rfl) ?_
        exact rrM hx hb hr hlocks hF dX9_boltsThere_40
      · have hF := ob_f c_16 hF
        refine lv_aload_n hx hb dX9_boltsThere_19 rfl (lv_at hl 2 rfl) ?_
        refine lv_iload hx hb dX9_boltsThere_20 (lv_at hl 4 rfl) ?_
        obtain ⟨g_22, hF⟩ := ob_gd hF
        refine ldA (C := "RobeHouse$Cloth") hx hb hK hP (ra_902 _ _ _) rfl (rQ σ 902 x4_13.toNatClampNeg) g_22 rfl dX9_boltsThere_22 ?_
        refine asQ (i := 5) (lv' := [(5, va_rf (rQ σ 902 x4_13.toNatClampNeg)), (0, .ref (ad 1009)), (1, .int x1_13), (2, .ref (ad 902)), (3, .int x3_13), (4, .int x4_13)]) hx hb dX9_boltsThere_23 hl (by decide) rfl (fun ls hl => ?_)
        refine alQ hx hb dX9_boltsThere_25 (lv_at hl 0 rfl) ?_
        refine nlQ (tgt := 33) hx hb dX9_boltsThere_27 (by decide) (fun e_27 => ?_) (fun c_27 e_27 => ?_)
        · have hF := oc_n e_27 hF
          refine lv_iinc (v := x4_13 + (1 : Int32)) (lv' := [(4, .int (x4_13 + (1 : Int32))), (5, va_rf (rQ σ 902 x4_13.toNatClampNeg)), (0, .ref (ad 1009)), (1, .int x1_13), (2, .ref (ad 902)), (3, .int x3_13)]) hx hb dX9_boltsThere_33 hl (k := 5) rfl rfl (by decide) rfl (fun ls hl => ?_)
          refine lv_goto (tgt := 13) hx hb dX9_boltsThere_36 (by decide) ?_
          exact ih_13 x1_13 (x4_13 + (1 : Int32)) _ hF (lv_sub hl [2, 3, 4, 5, 0] rfl)
        · have hF := oc_s e_27 hF
          refine lv_iinc (v := x1_13 + (1 : Int32)) (lv' := [(1, .int (x1_13 + (1 : Int32))), (5, va_rf (rQ σ 902 x4_13.toNatClampNeg)), (0, .ref (ad 1009)), (2, .ref (ad 902)), (3, .int x3_13), (4, .int x4_13)]) hx hb dX9_boltsThere_30 hl (k := 2) rfl rfl (by decide) rfl (fun ls hl => ?_)
          refine lv_iinc (v := x4_13 + (1 : Int32)) (lv' := [(4, .int (x4_13 + (1 : Int32))), (1, .int (x1_13 + (1 : Int32))), (5, va_rf (rQ σ 902 x4_13.toNatClampNeg)), (0, .ref (ad 1009)), (2, .ref (ad 902)), (3, .int x3_13)]) hx hb dX9_boltsThere_33 hl (k := 5) rfl rfl (by decide) rfl (fun ls hl => ?_)
          refine lv_goto (tgt := 13) hx hb dX9_boltsThere_36 (by decide) ?_
          exact ih_13 (x1_13 + (1 : Int32)) (x4_13 + (1 : Int32)) _ hF (lv_sub hl [3, 1, 4, 5, 0] rfl)
  have hl := lv_entry ([.ref (ad 1009)]) (n := 6) (Nat.le_of_ble_eq_true rfl)
  rw [lg_entry_eq]
  generalize (lg_sl ([.ref (ad 1009)]) ++ List.replicate (6 - (lg_sl ([.ref (ad 1009)])).length) Slot.unset).toArray = ls at hl ⊢
  have hl : lv_has ls 6 [(0, .ref (ad 1009))] := hl
  unfold FR_X9_boltsThere at hF
  refine lv_iconst (v := (0 : Int32)) hx hb dX9_boltsThere_0 (by decide) ?_
  refine lv_istore_n (i := 1) (lv' := [(1, .int (0 : Int32)), (0, .ref (ad 1009))]) hx hb dX9_boltsThere_1 rfl hl (by decide) rfl (fun ls hl => ?_)
  refine lv_aload_n hx hb dX9_boltsThere_2 rfl (lv_at hl 1 rfl) ?_
  refine gF hx hb hts hin wo_9 rfl hown hK hP (ob_9 _ _ _) 2 (.ref (ad 902)) (by decide) rf_X9_25 rfl dX9_boltsThere_3 ?_
  refine lv_astore_n (i := 2) (lv' := [(2, .ref (ad 902)), (1, .int (0 : Int32)), (0, .ref (ad 1009))]) hx hb dX9_boltsThere_6 rfl hl (by decide) rfl (fun ls hl => ?_)
  refine lv_aload_n hx hb dX9_boltsThere_7 rfl (lv_at hl 0 rfl) ?_
  refine lnA (v := (40 : Int32)) (C := "RobeHouse$Cloth") hx hb hK hP (ra_902 _ _ _) rfl rfl dX9_boltsThere_8 ?_
  refine lv_istore_n (i := 3) (lv' := [(3, .int (40 : Int32)), (2, .ref (ad 902)), (1, .int (0 : Int32)), (0, .ref (ad 1009))]) hx hb dX9_boltsThere_9 rfl hl (by decide) rfl (fun ls hl => ?_)
  refine lv_iconst (v := (0 : Int32)) hx hb dX9_boltsThere_10 (by decide) ?_
  refine lv_istore (i := 4) (lv' := [(4, .int (0 : Int32)), (3, .int (40 : Int32)), (2, .ref (ad 902)), (1, .int (0 : Int32)), (0, .ref (ad 1009))]) hx hb dX9_boltsThere_11 hl (by decide) rfl (fun ls hl => ?_)
  exact b_13 (40 : Int32) fu (0 : Int32) (0 : Int32) _ hF (lv_sub hl [4, 3, 2, 1, 0] rfl)
def wsR_X9_robesThere : List Cond := Cond.code yX9_robesThere cX9_robesThere 6 (some .int) :: wRa
def FR_X9_robesThere_13 (σ : RS) (x3_13 : Int32) : Nat → Int32 → Int32 → Option Int32
  | 0, _, _ => none
  | n_13 + 1, x1_13, x4_13 => (if x3_13 ≤ x4_13 then (some x1_13) else (gd (inb x4_13 30) (oc (rQ σ 904 x4_13.toNatClampNeg) (FR_X9_robesThere_13 σ  x3_13 n_13 x1_13 (x4_13 + (1 : Int32))) (fun c_27 => (FR_X9_robesThere_13 σ  x3_13 n_13 (x1_13 + (1 : Int32)) (x4_13 + (1 : Int32)))))))
def FR_X9_robesThere (σ : RS) : Option Int32 := (FR_X9_robesThere_13 σ (30 : Int32) fu (0 : Int32) (0 : Int32))
set_option maxHeartbeats 4000000 in
set_option maxRecDepth 100000 in
theorem cR_X9_robesThere (l : Launch) (D : va_G) (cs : Nat → ClassId) (ad tb : Nat → Nat) (A : Nat → Prop) (σ : RS) (q : Int32) (hF : FR_X9_robesThere σ = some q) : Met l yX9_robesThere wsR_X9_robesThere { frames := 0, cells := 0, slots := 0, locals := 0 } (va_Pc [.ref (ad 1009)] (preQ D cs ad tb A σ)) (vp_Si (fun x => x = q)) 0 0 (fun _ => False) := by
  refine Met.ofW (cc := cX9_robesThere) (maxL := 6) (ret := (some .int)) (by decide) rfl ?_
  intro p e s m args below meth c s₁ B hml hv
  obtain ⟨rfl, hP, hK, hD, hZ⟩ := hv
  have hx := B.exec
  have hb := B.bytes
  have hr := B.returns
  have hts : ∀ w ∈ (Cond.code yX9_robesThere cX9_robesThere 6 (some .int) :: wRa), w.before ([.ref (ad 1009)] : List Value).toArray s = true := atoms_spec (ws := wsR_X9_robesThere) B.pre
  have hin : ∀ w ∈ wRa, w ∈ (Cond.code yX9_robesThere cX9_robesThere 6 (some .int) :: wRa) := fun w hw => List.mem_cons_of_mem _ hw
  have hown : s.vm.findClass RX9 = some m.cls := findClass_of_methodNamed B.named
  have hlocks := B.notSynchronized
  have hS : va_S A s.heap s.heap [] := va_S.rf
  have b_13 : ∀ (x3_13 : Int32) (n_13 : Nat) (x1_13 : Int32) (x4_13 : Int32) (ls : Array Slot), FR_X9_robesThere_13 σ x3_13 n_13 x1_13 x4_13 = some q → lv_has ls 6 [(0, .ref (ad 1009)), (1, .int x1_13), (2, .ref (ad 904)), (3, .int x3_13), (4, .int x4_13)] → W p l e (headSpec wsR_X9_robesThere { frames := 0, cells := 0, slots := 0, locals := 0 }).room s m ([.ref (ad 1009)] : List Value).toArray below meth c s.heap [] 0 0 (MQ below (vp_Si (fun x => x = q)) ([.ref (ad 1009)] : List Value).toArray s 0 0 (fun _ => False)) (F0 m 13 ls []) := by
    intro x3_13
    intro n_13
    induction n_13 with
    | zero =>
      intro x1_13 x4_13 ls hF hl
      exact absurd hF (by simp [FR_X9_robesThere_13])
    | succ n_13 ih_13 =>
      intro x1_13 x4_13 ls hF hl
      rw [FR_X9_robesThere_13] at hF
      refine lv_iload hx hb dX9_robesThere_13 (lv_at hl 4 rfl) ?_
      refine lv_iload_n hx hb dX9_robesThere_15 rfl (lv_at hl 3 rfl) ?_
      refine lv_icmp_ge (tgt := 39) hx hb dX9_robesThere_16 (by decide) (fun c_16 => ?_) (fun c_16 => ?_)
      · have hF := ob_t c_16 hF
        refine lv_iload_n hx hb dX9_robesThere_39 rfl (lv_at hl 1 rfl) ?_
        exact rrM hx hb hr hlocks hF dX9_robesThere_40
      · have hF := ob_f c_16 hF
        refine lv_aload_n hx hb dX9_robesThere_19 rfl (lv_at hl 2 rfl) ?_
        refine lv_iload hx hb dX9_robesThere_20 (lv_at hl 4 rfl) ?_
        obtain ⟨g_22, hF⟩ := ob_gd hF
        refine ldA (C := "RobeHouse$Robe") hx hb hK hP (ra_904 _ _ _) rfl (rQ σ 904 x4_13.toNatClampNeg) g_22 rfl dX9_robesThere_22 ?_
        refine asQ (i := 5) (lv' := [(5, va_rf (rQ σ 904 x4_13.toNatClampNeg)), (0, .ref (ad 1009)), (1, .int x1_13), (2, .ref (ad 904)), (3, .int x3_13), (4, .int x4_13)]) hx hb dX9_robesThere_23 hl (by decide) rfl (fun ls hl => ?_)
        refine alQ hx hb dX9_robesThere_25 (lv_at hl 0 rfl) ?_
        refine nlQ (tgt := 33) hx hb dX9_robesThere_27 (by decide) (fun e_27 => ?_) (fun c_27 e_27 => ?_)
        · have hF := oc_n e_27 hF
          refine lv_iinc (v := x4_13 + (1 : Int32)) (lv' := [(4, .int (x4_13 + (1 : Int32))), (5, va_rf (rQ σ 904 x4_13.toNatClampNeg)), (0, .ref (ad 1009)), (1, .int x1_13), (2, .ref (ad 904)), (3, .int x3_13)]) hx hb dX9_robesThere_33 hl (k := 5) rfl rfl (by decide) rfl (fun ls hl => ?_)
          refine lv_goto (tgt := 13) hx hb dX9_robesThere_36 (by decide) ?_
          exact ih_13 x1_13 (x4_13 + (1 : Int32)) _ hF (lv_sub hl [2, 3, 4, 5, 0] rfl)
        · have hF := oc_s e_27 hF
          refine lv_iinc (v := x1_13 + (1 : Int32)) (lv' := [(1, .int (x1_13 + (1 : Int32))), (5, va_rf (rQ σ 904 x4_13.toNatClampNeg)), (0, .ref (ad 1009)), (2, .ref (ad 904)), (3, .int x3_13), (4, .int x4_13)]) hx hb dX9_robesThere_30 hl (k := 2) rfl rfl (by decide) rfl (fun ls hl => ?_)
          refine lv_iinc (v := x4_13 + (1 : Int32)) (lv' := [(4, .int (x4_13 + (1 : Int32))), (1, .int (x1_13 + (1 : Int32))), (5, va_rf (rQ σ 904 x4_13.toNatClampNeg)), (0, .ref (ad 1009)), (2, .ref (ad 904)), (3, .int x3_13)]) hx hb dX9_robesThere_33 hl (k := 5) rfl rfl (by decide) rfl (fun ls hl => ?_)
          refine lv_goto (tgt := 13) hx hb dX9_robesThere_36 (by decide) ?_
          exact ih_13 (x1_13 + (1 : Int32)) (x4_13 + (1 : Int32)) _ hF (lv_sub hl [3, 1, 4, 5, 0] rfl)
  have hl := lv_entry ([.ref (ad 1009)]) (n := 6) (Nat.le_of_ble_eq_true rfl)
  rw [lg_entry_eq]
  generalize (lg_sl ([.ref (ad 1009)]) ++ List.replicate (6 - (lg_sl ([.ref (ad 1009)])).length) Slot.unset).toArray = ls at hl ⊢
  have hl : lv_has ls 6 [(0, .ref (ad 1009))] := hl
  unfold FR_X9_robesThere at hF
  refine lv_iconst (v := (0 : Int32)) hx hb dX9_robesThere_0 (by decide) ?_
  refine lv_istore_n (i := 1) (lv' := [(1, .int (0 : Int32)), (0, .ref (ad 1009))]) hx hb dX9_robesThere_1 rfl hl (by decide) rfl (fun ls hl => ?_)
  refine lv_aload_n hx hb dX9_robesThere_2 rfl (lv_at hl 1 rfl) ?_
  refine gF hx hb hts hin wo_9 rfl hown hK hP (ob_9 _ _ _) 4 (.ref (ad 904)) (by decide) rf_X9_31 rfl dX9_robesThere_3 ?_
  refine lv_astore_n (i := 2) (lv' := [(2, .ref (ad 904)), (1, .int (0 : Int32)), (0, .ref (ad 1009))]) hx hb dX9_robesThere_6 rfl hl (by decide) rfl (fun ls hl => ?_)
  refine lv_aload_n hx hb dX9_robesThere_7 rfl (lv_at hl 0 rfl) ?_
  refine lnA (v := (30 : Int32)) (C := "RobeHouse$Robe") hx hb hK hP (ra_904 _ _ _) rfl rfl dX9_robesThere_8 ?_
  refine lv_istore_n (i := 3) (lv' := [(3, .int (30 : Int32)), (2, .ref (ad 904)), (1, .int (0 : Int32)), (0, .ref (ad 1009))]) hx hb dX9_robesThere_9 rfl hl (by decide) rfl (fun ls hl => ?_)
  refine lv_iconst (v := (0 : Int32)) hx hb dX9_robesThere_10 (by decide) ?_
  refine lv_istore (i := 4) (lv' := [(4, .int (0 : Int32)), (3, .int (30 : Int32)), (2, .ref (ad 904)), (1, .int (0 : Int32)), (0, .ref (ad 1009))]) hx hb dX9_robesThere_11 hl (by decide) rfl (fun ls hl => ?_)
  exact b_13 (30 : Int32) fu (0 : Int32) (0 : Int32) _ hF (lv_sub hl [4, 3, 2, 1, 0] rfl)
def wsR_X9_robesLent : List Cond := Cond.code yX9_robesLent cX9_robesLent 6 (some .int) :: wRa
def FR_X9_robesLent_13 (σ : RS) (x3_13 : Int32) : Nat → Int32 → Int32 → Option Int32
  | 0, _, _ => none
  | n_13 + 1, x1_13, x4_13 => (if x3_13 ≤ x4_13 then (some x1_13) else (gd (inb x4_13 30) (oc (rQ σ 904 x4_13.toNatClampNeg) (FR_X9_robesLent_13 σ  x3_13 n_13 x1_13 (x4_13 + (1 : Int32))) (fun c_27 => (gd (isK σ c_27 4) (if (pI σ c_27 4) = (-1 : Int32) then (FR_X9_robesLent_13 σ  x3_13 n_13 x1_13 (x4_13 + (1 : Int32))) else (FR_X9_robesLent_13 σ  x3_13 n_13 (x1_13 + (1 : Int32)) (x4_13 + (1 : Int32)))))))))
def FR_X9_robesLent (σ : RS) : Option Int32 := (FR_X9_robesLent_13 σ (30 : Int32) fu (0 : Int32) (0 : Int32))
set_option maxHeartbeats 4000000 in
set_option maxRecDepth 100000 in
theorem cR_X9_robesLent (l : Launch) (D : va_G) (cs : Nat → ClassId) (ad tb : Nat → Nat) (A : Nat → Prop) (σ : RS) (q : Int32) (hF : FR_X9_robesLent σ = some q) : Met l yX9_robesLent wsR_X9_robesLent { frames := 0, cells := 0, slots := 0, locals := 0 } (va_Pc [.ref (ad 1009)] (preQ D cs ad tb A σ)) (vp_Si (fun x => x = q)) 0 0 (fun _ => False) := by
  refine Met.ofW (cc := cX9_robesLent) (maxL := 6) (ret := (some .int)) (by decide) rfl ?_
  intro p e s m args below meth c s₁ B hml hv
  obtain ⟨rfl, hP, hK, hD, hZ⟩ := hv
  have hx := B.exec
  have hb := B.bytes
  have hr := B.returns
  have hts : ∀ w ∈ (Cond.code yX9_robesLent cX9_robesLent 6 (some .int) :: wRa), w.before ([.ref (ad 1009)] : List Value).toArray s = true := atoms_spec (ws := wsR_X9_robesLent) B.pre
  have hin : ∀ w ∈ wRa, w ∈ (Cond.code yX9_robesLent cX9_robesLent 6 (some .int) :: wRa) := fun w hw => List.mem_cons_of_mem _ hw
  have hown : s.vm.findClass RX9 = some m.cls := findClass_of_methodNamed B.named
  have hlocks := B.notSynchronized
  have hS : va_S A s.heap s.heap [] := va_S.rf
  have b_13 : ∀ (x3_13 : Int32) (n_13 : Nat) (x1_13 : Int32) (x4_13 : Int32) (ls : Array Slot), FR_X9_robesLent_13 σ x3_13 n_13 x1_13 x4_13 = some q → lv_has ls 6 [(0, .ref (ad 1009)), (1, .int x1_13), (2, .ref (ad 904)), (3, .int x3_13), (4, .int x4_13)] → W p l e (headSpec wsR_X9_robesLent { frames := 0, cells := 0, slots := 0, locals := 0 }).room s m ([.ref (ad 1009)] : List Value).toArray below meth c s.heap [] 0 0 (MQ below (vp_Si (fun x => x = q)) ([.ref (ad 1009)] : List Value).toArray s 0 0 (fun _ => False)) (F0 m 13 ls []) := by
    intro x3_13
    intro n_13
    induction n_13 with
    | zero =>
      intro x1_13 x4_13 ls hF hl
      exact absurd hF (by simp [FR_X9_robesLent_13])
    | succ n_13 ih_13 =>
      intro x1_13 x4_13 ls hF hl
      rw [FR_X9_robesLent_13] at hF
      refine lv_iload hx hb dX9_robesLent_13 (lv_at hl 4 rfl) ?_
      refine lv_iload_n hx hb dX9_robesLent_15 rfl (lv_at hl 3 rfl) ?_
      refine lv_icmp_ge (tgt := 48) hx hb dX9_robesLent_16 (by decide) (fun c_16 => ?_) (fun c_16 => ?_)
      · have hF := ob_t c_16 hF
        refine lv_iload_n hx hb dX9_robesLent_48 rfl (lv_at hl 1 rfl) ?_
        exact rrM hx hb hr hlocks hF dX9_robesLent_49
      · have hF := ob_f c_16 hF
        refine lv_aload_n hx hb dX9_robesLent_19 rfl (lv_at hl 2 rfl) ?_
        refine lv_iload hx hb dX9_robesLent_20 (lv_at hl 4 rfl) ?_
        obtain ⟨g_22, hF⟩ := ob_gd hF
        refine ldA (C := "RobeHouse$Robe") hx hb hK hP (ra_904 _ _ _) rfl (rQ σ 904 x4_13.toNatClampNeg) g_22 rfl dX9_robesLent_22 ?_
        refine asQ (i := 5) (lv' := [(5, va_rf (rQ σ 904 x4_13.toNatClampNeg)), (0, .ref (ad 1009)), (1, .int x1_13), (2, .ref (ad 904)), (3, .int x3_13), (4, .int x4_13)]) hx hb dX9_robesLent_23 hl (by decide) rfl (fun ls hl => ?_)
        refine alQ hx hb dX9_robesLent_25 (lv_at hl 0 rfl) ?_
        refine nlQ (tgt := 42) hx hb dX9_robesLent_27 (by decide) (fun e_27 => ?_) (fun c_27 e_27 => ?_)
        · have hF := oc_n e_27 hF
          refine lv_iinc (v := x4_13 + (1 : Int32)) (lv' := [(4, .int (x4_13 + (1 : Int32))), (5, va_rf (rQ σ 904 x4_13.toNatClampNeg)), (0, .ref (ad 1009)), (1, .int x1_13), (2, .ref (ad 904)), (3, .int x3_13)]) hx hb dX9_robesLent_42 hl (k := 5) rfl rfl (by decide) rfl (fun ls hl => ?_)
          refine lv_goto (tgt := 13) hx hb dX9_robesLent_45 (by decide) ?_
          exact ih_13 x1_13 (x4_13 + (1 : Int32)) _ hF (lv_sub hl [2, 3, 4, 5, 0] rfl)
        · have hF := oc_s e_27 hF
          refine alQ hx hb dX9_robesLent_30 (lv_at hl 0 rfl) ?_
          refine rfS e_27 ?_
          obtain ⟨k_32_1, hF⟩ := ob_gd hF
          refine gP hx hb hts hin wo_4 rfl hown hK hP k_32_1 (pf_4 (isK_K k_32_1)) 4 (.int (pI σ c_27 4)) (by decide) rf_X9_210 rfl dX9_robesLent_32 ?_
          refine lv_iconst (v := (-1 : Int32)) hx hb dX9_robesLent_35 (by decide) ?_
          refine lv_icmp_eq (tgt := 42) hx hb dX9_robesLent_36 (by decide) (fun c_36 => ?_) (fun c_36 => ?_)
          · have hF := ob_t c_36 hF
            refine lv_iinc (v := x4_13 + (1 : Int32)) (lv' := [(4, .int (x4_13 + (1 : Int32))), (5, va_rf (rQ σ 904 x4_13.toNatClampNeg)), (0, .ref (ad 1009)), (1, .int x1_13), (2, .ref (ad 904)), (3, .int x3_13)]) hx hb dX9_robesLent_42 hl (k := 5) rfl rfl (by decide) rfl (fun ls hl => ?_)
            refine lv_goto (tgt := 13) hx hb dX9_robesLent_45 (by decide) ?_
            exact ih_13 x1_13 (x4_13 + (1 : Int32)) _ hF (lv_sub hl [2, 3, 4, 5, 0] rfl)
          · have hF := ob_f c_36 hF
            refine lv_iinc (v := x1_13 + (1 : Int32)) (lv' := [(1, .int (x1_13 + (1 : Int32))), (5, va_rf (rQ σ 904 x4_13.toNatClampNeg)), (0, .ref (ad 1009)), (2, .ref (ad 904)), (3, .int x3_13), (4, .int x4_13)]) hx hb dX9_robesLent_39 hl (k := 2) rfl rfl (by decide) rfl (fun ls hl => ?_)
            refine lv_iinc (v := x4_13 + (1 : Int32)) (lv' := [(4, .int (x4_13 + (1 : Int32))), (1, .int (x1_13 + (1 : Int32))), (5, va_rf (rQ σ 904 x4_13.toNatClampNeg)), (0, .ref (ad 1009)), (2, .ref (ad 904)), (3, .int x3_13)]) hx hb dX9_robesLent_42 hl (k := 5) rfl rfl (by decide) rfl (fun ls hl => ?_)
            refine lv_goto (tgt := 13) hx hb dX9_robesLent_45 (by decide) ?_
            exact ih_13 (x1_13 + (1 : Int32)) (x4_13 + (1 : Int32)) _ hF (lv_sub hl [3, 1, 4, 5, 0] rfl)
  have hl := lv_entry ([.ref (ad 1009)]) (n := 6) (Nat.le_of_ble_eq_true rfl)
  rw [lg_entry_eq]
  generalize (lg_sl ([.ref (ad 1009)]) ++ List.replicate (6 - (lg_sl ([.ref (ad 1009)])).length) Slot.unset).toArray = ls at hl ⊢
  have hl : lv_has ls 6 [(0, .ref (ad 1009))] := hl
  unfold FR_X9_robesLent at hF
  refine lv_iconst (v := (0 : Int32)) hx hb dX9_robesLent_0 (by decide) ?_
  refine lv_istore_n (i := 1) (lv' := [(1, .int (0 : Int32)), (0, .ref (ad 1009))]) hx hb dX9_robesLent_1 rfl hl (by decide) rfl (fun ls hl => ?_)
  refine lv_aload_n hx hb dX9_robesLent_2 rfl (lv_at hl 1 rfl) ?_
  refine gF hx hb hts hin wo_9 rfl hown hK hP (ob_9 _ _ _) 4 (.ref (ad 904)) (by decide) rf_X9_31 rfl dX9_robesLent_3 ?_
  refine lv_astore_n (i := 2) (lv' := [(2, .ref (ad 904)), (1, .int (0 : Int32)), (0, .ref (ad 1009))]) hx hb dX9_robesLent_6 rfl hl (by decide) rfl (fun ls hl => ?_)
  refine lv_aload_n hx hb dX9_robesLent_7 rfl (lv_at hl 0 rfl) ?_
  refine lnA (v := (30 : Int32)) (C := "RobeHouse$Robe") hx hb hK hP (ra_904 _ _ _) rfl rfl dX9_robesLent_8 ?_
  refine lv_istore_n (i := 3) (lv' := [(3, .int (30 : Int32)), (2, .ref (ad 904)), (1, .int (0 : Int32)), (0, .ref (ad 1009))]) hx hb dX9_robesLent_9 rfl hl (by decide) rfl (fun ls hl => ?_)
  refine lv_iconst (v := (0 : Int32)) hx hb dX9_robesLent_10 (by decide) ?_
  refine lv_istore (i := 4) (lv' := [(4, .int (0 : Int32)), (3, .int (30 : Int32)), (2, .ref (ad 904)), (1, .int (0 : Int32)), (0, .ref (ad 1009))]) hx hb dX9_robesLent_11 hl (by decide) rfl (fun ls hl => ?_)
  exact b_13 (30 : Int32) fu (0 : Int32) (0 : Int32) _ hF (lv_sub hl [4, 3, 2, 1, 0] rfl)
def wsR_X9_rowsThere : List Cond := Cond.code yX9_rowsThere cX9_rowsThere 6 (some .int) :: wRa
def FR_X9_rowsThere_13 (σ : RS) (K_45 : Int32 → Option Int32) (x3_13 : Int32) : Nat → Int32 → Int32 → Option Int32
  | 0, _, _ => none
  | n_13 + 1, x1_13, x4_13 => (if x3_13 ≤ x4_13 then (K_45 x1_13) else (gd (inb x4_13 40) (oc (rQ σ 902 x4_13.toNatClampNeg) (FR_X9_rowsThere_13 σ K_45 x3_13 n_13 x1_13 (x4_13 + (1 : Int32))) (fun c_27 => (gd (isK σ c_27 0) ((pR σ c_27 0).bind fun r_33 => (gd (isK σ r_33 11) (FR_X9_rowsThere_13 σ K_45 x3_13 n_13 (x1_13 + (Int32.ofNat (pN σ r_33))) (x4_13 + (1 : Int32))))))))))
def FR_X9_rowsThere_56 (σ : RS) (x3_56 : Int32) : Nat → Int32 → Int32 → Option Int32
  | 0, _, _ => none
  | n_56 + 1, x1_56, x4_56 => (if x3_56 ≤ x4_56 then (some x1_56) else (gd (inb x4_56 30) (oc (rQ σ 904 x4_56.toNatClampNeg) (FR_X9_rowsThere_56 σ  x3_56 n_56 x1_56 (x4_56 + (1 : Int32))) (fun c_70 => (gd (isK σ c_70 4) ((pR σ c_70 0).bind fun r_76 => (gd (isK σ r_76 0) ((pR σ r_76 0).bind fun r_79 => (gd (isK σ r_79 11) ((FR_X4_liningRows σ c_70).bind fun q_85 => (FR_X9_rowsThere_56 σ  x3_56 n_56 (x1_56 + ((Int32.ofNat (pN σ r_79)) + q_85)) (x4_56 + (1 : Int32)))))))))))))
def FR_X9_rowsThere_45 (σ : RS) (x1_45 : Int32) : Option Int32 := (FR_X9_rowsThere_56 σ (30 : Int32) fu x1_45 (0 : Int32))
def FR_X9_rowsThere (σ : RS) : Option Int32 := (FR_X9_rowsThere_13 σ (fun x1_45 => FR_X9_rowsThere_45 σ x1_45) (40 : Int32) fu (0 : Int32) (0 : Int32))
set_option maxHeartbeats 4000000 in
set_option maxRecDepth 100000 in
theorem cR_X9_rowsThere (l : Launch) (D : va_G) (cs : Nat → ClassId) (ad tb : Nat → Nat) (A : Nat → Prop) (σ : RS) (q : Int32) (hF : FR_X9_rowsThere σ = some q) : Met l yX9_rowsThere wsR_X9_rowsThere { frames := 1, cells := 0, slots := 0, locals := 20 } (va_Pc [.ref (ad 1009)] (preQ D cs ad tb A σ)) (vp_Si (fun x => x = q)) 0 0 (fun _ => False) := by
  refine Met.ofW (cc := cX9_rowsThere) (maxL := 6) (ret := (some .int)) (by decide) rfl ?_
  intro p e s m args below meth c s₁ B hml hv
  obtain ⟨rfl, hP, hK, hD, hZ⟩ := hv
  have hx := B.exec
  have hb := B.bytes
  have hr := B.returns
  have hts : ∀ w ∈ (Cond.code yX9_rowsThere cX9_rowsThere 6 (some .int) :: wRa), w.before ([.ref (ad 1009)] : List Value).toArray s = true := atoms_spec (ws := wsR_X9_rowsThere) B.pre
  have hin : ∀ w ∈ wRa, w ∈ (Cond.code yX9_rowsThere cX9_rowsThere 6 (some .int) :: wRa) := fun w hw => List.mem_cons_of_mem _ hw
  have hown : s.vm.findClass RX9 = some m.cls := findClass_of_methodNamed B.named
  have hlocks := B.notSynchronized
  have hS : va_S A s.heap s.heap [] := va_S.rf
  have b_13 : ∀ (x3_13 : Int32) (K_45 : Int32 → Option Int32) (k_45 : ∀ (x1_45 : Int32) (ls : Array Slot), K_45 x1_45 = some q → lv_has ls 6 [(0, .ref (ad 1009)), (1, .int x1_45)] → W p l e (headSpec wsR_X9_rowsThere { frames := 1, cells := 0, slots := 0, locals := 20 }).room s m ([.ref (ad 1009)] : List Value).toArray below meth c s.heap [] 0 0 (MQ below (vp_Si (fun x => x = q)) ([.ref (ad 1009)] : List Value).toArray s 0 0 (fun _ => False)) (F0 m 45 ls [])) (n_13 : Nat) (x1_13 : Int32) (x4_13 : Int32) (ls : Array Slot), FR_X9_rowsThere_13 σ K_45 x3_13 n_13 x1_13 x4_13 = some q → lv_has ls 6 [(0, .ref (ad 1009)), (1, .int x1_13), (2, .ref (ad 902)), (3, .int x3_13), (4, .int x4_13)] → W p l e (headSpec wsR_X9_rowsThere { frames := 1, cells := 0, slots := 0, locals := 20 }).room s m ([.ref (ad 1009)] : List Value).toArray below meth c s.heap [] 0 0 (MQ below (vp_Si (fun x => x = q)) ([.ref (ad 1009)] : List Value).toArray s 0 0 (fun _ => False)) (F0 m 13 ls []) := by
    intro x3_13 K_45 k_45
    intro n_13
    induction n_13 with
    | zero =>
      intro x1_13 x4_13 ls hF hl
      exact absurd hF (by simp [FR_X9_rowsThere_13])
    | succ n_13 ih_13 =>
      intro x1_13 x4_13 ls hF hl
      rw [FR_X9_rowsThere_13] at hF
      refine lv_iload hx hb dX9_rowsThere_13 (lv_at hl 4 rfl) ?_
      refine lv_iload_n hx hb dX9_rowsThere_15 rfl (lv_at hl 3 rfl) ?_
      refine lv_icmp_ge (tgt := 45) hx hb dX9_rowsThere_16 (by decide) (fun c_16 => ?_) (fun c_16 => ?_)
      · have hF := ob_t c_16 hF
        exact k_45 x1_13 _ hF (lv_sub hl [0, 1] rfl)
      · have hF := ob_f c_16 hF
        refine lv_aload_n hx hb dX9_rowsThere_19 rfl (lv_at hl 2 rfl) ?_
        refine lv_iload hx hb dX9_rowsThere_20 (lv_at hl 4 rfl) ?_
        obtain ⟨g_22, hF⟩ := ob_gd hF
        refine ldA (C := "RobeHouse$Cloth") hx hb hK hP (ra_902 _ _ _) rfl (rQ σ 902 x4_13.toNatClampNeg) g_22 rfl dX9_rowsThere_22 ?_
        refine asQ (i := 5) (lv' := [(5, va_rf (rQ σ 902 x4_13.toNatClampNeg)), (0, .ref (ad 1009)), (1, .int x1_13), (2, .ref (ad 902)), (3, .int x3_13), (4, .int x4_13)]) hx hb dX9_rowsThere_23 hl (by decide) rfl (fun ls hl => ?_)
        refine alQ hx hb dX9_rowsThere_25 (lv_at hl 0 rfl) ?_
        refine nlQ (tgt := 39) hx hb dX9_rowsThere_27 (by decide) (fun e_27 => ?_) (fun c_27 e_27 => ?_)
        · have hF := oc_n e_27 hF
          refine lv_iinc (v := x4_13 + (1 : Int32)) (lv' := [(4, .int (x4_13 + (1 : Int32))), (5, va_rf (rQ σ 902 x4_13.toNatClampNeg)), (0, .ref (ad 1009)), (1, .int x1_13), (2, .ref (ad 902)), (3, .int x3_13)]) hx hb dX9_rowsThere_39 hl (k := 5) rfl rfl (by decide) rfl (fun ls hl => ?_)
          refine lv_goto (tgt := 13) hx hb dX9_rowsThere_42 (by decide) ?_
          exact ih_13 x1_13 (x4_13 + (1 : Int32)) _ hF (lv_sub hl [2, 3, 4, 5, 0] rfl)
        · have hF := oc_s e_27 hF
          refine lv_iload_n hx hb dX9_rowsThere_30 rfl (lv_at hl 2 rfl) ?_
          refine alQ hx hb dX9_rowsThere_31 (lv_at hl 0 rfl) ?_
          refine rfS e_27 ?_
          obtain ⟨k_33_1, hF⟩ := ob_gd hF
          refine gP hx hb hts hin wo_0 rfl hown hK hP k_33_1 (pf_0 (isK_K k_33_1)) 0 (va_rf (pR σ c_27 0)) (by decide) rf_X9_126 rfl dX9_rowsThere_33 ?_
          obtain ⟨r_33, o_33, hF⟩ := ob_bd hF
          refine rfS o_33 ?_
          obtain ⟨k_36_2, hF⟩ := ob_gd hF
          refine lnP (v := (Int32.ofNat (pN σ r_33))) hx hb hK hP k_36_2 rfl dX9_rowsThere_36 ?_
          refine lv_iadd hx hb dX9_rowsThere_37 ?_
          refine lv_istore_n (i := 1) (lv' := [(1, .int (x1_13 + (Int32.ofNat (pN σ r_33)))), (5, va_rf (rQ σ 902 x4_13.toNatClampNeg)), (0, .ref (ad 1009)), (2, .ref (ad 902)), (3, .int x3_13), (4, .int x4_13)]) hx hb dX9_rowsThere_38 rfl hl (by decide) rfl (fun ls hl => ?_)
          refine lv_iinc (v := x4_13 + (1 : Int32)) (lv' := [(4, .int (x4_13 + (1 : Int32))), (1, .int (x1_13 + (Int32.ofNat (pN σ r_33)))), (5, va_rf (rQ σ 902 x4_13.toNatClampNeg)), (0, .ref (ad 1009)), (2, .ref (ad 902)), (3, .int x3_13)]) hx hb dX9_rowsThere_39 hl (k := 5) rfl rfl (by decide) rfl (fun ls hl => ?_)
          refine lv_goto (tgt := 13) hx hb dX9_rowsThere_42 (by decide) ?_
          exact ih_13 (x1_13 + (Int32.ofNat (pN σ r_33))) (x4_13 + (1 : Int32)) _ hF (lv_sub hl [3, 1, 4, 5, 0] rfl)
  have b_56 : ∀ (x3_56 : Int32) (n_56 : Nat) (x1_56 : Int32) (x4_56 : Int32) (ls : Array Slot), FR_X9_rowsThere_56 σ x3_56 n_56 x1_56 x4_56 = some q → lv_has ls 6 [(0, .ref (ad 1009)), (1, .int x1_56), (2, .ref (ad 904)), (3, .int x3_56), (4, .int x4_56)] → W p l e (headSpec wsR_X9_rowsThere { frames := 1, cells := 0, slots := 0, locals := 20 }).room s m ([.ref (ad 1009)] : List Value).toArray below meth c s.heap [] 0 0 (MQ below (vp_Si (fun x => x = q)) ([.ref (ad 1009)] : List Value).toArray s 0 0 (fun _ => False)) (F0 m 56 ls []) := by
    intro x3_56
    intro n_56
    induction n_56 with
    | zero =>
      intro x1_56 x4_56 ls hF hl
      exact absurd hF (by simp [FR_X9_rowsThere_56])
    | succ n_56 ih_56 =>
      intro x1_56 x4_56 ls hF hl
      rw [FR_X9_rowsThere_56] at hF
      refine lv_iload hx hb dX9_rowsThere_56 (lv_at hl 4 rfl) ?_
      refine lv_iload_n hx hb dX9_rowsThere_58 rfl (lv_at hl 3 rfl) ?_
      refine lv_icmp_ge (tgt := 97) hx hb dX9_rowsThere_59 (by decide) (fun c_59 => ?_) (fun c_59 => ?_)
      · have hF := ob_t c_59 hF
        refine lv_iload_n hx hb dX9_rowsThere_97 rfl (lv_at hl 1 rfl) ?_
        exact rrM hx hb hr hlocks hF dX9_rowsThere_98
      · have hF := ob_f c_59 hF
        refine lv_aload_n hx hb dX9_rowsThere_62 rfl (lv_at hl 2 rfl) ?_
        refine lv_iload hx hb dX9_rowsThere_63 (lv_at hl 4 rfl) ?_
        obtain ⟨g_65, hF⟩ := ob_gd hF
        refine ldA (C := "RobeHouse$Robe") hx hb hK hP (ra_904 _ _ _) rfl (rQ σ 904 x4_56.toNatClampNeg) g_65 rfl dX9_rowsThere_65 ?_
        refine asQ (i := 5) (lv' := [(5, va_rf (rQ σ 904 x4_56.toNatClampNeg)), (0, .ref (ad 1009)), (1, .int x1_56), (2, .ref (ad 904)), (3, .int x3_56), (4, .int x4_56)]) hx hb dX9_rowsThere_66 hl (by decide) rfl (fun ls hl => ?_)
        refine alQ hx hb dX9_rowsThere_68 (lv_at hl 0 rfl) ?_
        refine nlQ (tgt := 91) hx hb dX9_rowsThere_70 (by decide) (fun e_70 => ?_) (fun c_70 e_70 => ?_)
        · have hF := oc_n e_70 hF
          refine lv_iinc (v := x4_56 + (1 : Int32)) (lv' := [(4, .int (x4_56 + (1 : Int32))), (5, va_rf (rQ σ 904 x4_56.toNatClampNeg)), (0, .ref (ad 1009)), (1, .int x1_56), (2, .ref (ad 904)), (3, .int x3_56)]) hx hb dX9_rowsThere_91 hl (k := 5) rfl rfl (by decide) rfl (fun ls hl => ?_)
          refine lv_goto (tgt := 56) hx hb dX9_rowsThere_94 (by decide) ?_
          exact ih_56 x1_56 (x4_56 + (1 : Int32)) _ hF (lv_sub hl [2, 3, 4, 5, 0] rfl)
        · have hF := oc_s e_70 hF
          refine lv_iload_n hx hb dX9_rowsThere_73 rfl (lv_at hl 2 rfl) ?_
          refine alQ hx hb dX9_rowsThere_74 (lv_at hl 0 rfl) ?_
          refine rfS e_70 ?_
          obtain ⟨k_76_3, hF⟩ := ob_gd hF
          refine gP hx hb hts hin wo_4 rfl hown hK hP k_76_3 (pf_4 (isK_K k_76_3)) 0 (va_rf (pR σ c_70 0)) (by decide) rf_X9_194 rfl dX9_rowsThere_76 ?_
          obtain ⟨r_76, o_76, hF⟩ := ob_bd hF
          refine rfS o_76 ?_
          obtain ⟨k_79_4, hF⟩ := ob_gd hF
          refine gP hx hb hts hin wo_0 rfl hown hK hP k_79_4 (pf_0 (isK_K k_79_4)) 0 (va_rf (pR σ r_76 0)) (by decide) rf_X9_126 rfl dX9_rowsThere_79 ?_
          obtain ⟨r_79, o_79, hF⟩ := ob_bd hF
          refine rfS o_79 ?_
          obtain ⟨k_82_5, hF⟩ := ob_gd hF
          refine lnP (v := (Int32.ofNat (pN σ r_79))) hx hb hK hP k_82_5 rfl dX9_rowsThere_82 ?_
          refine alQ hx hb dX9_rowsThere_83 (lv_at hl 0 rfl) ?_
          refine rfS e_70 ?_
          obtain ⟨q_85, e_85, hF⟩ := ob_bd hF
          refine crR (As := []) (rest := [.int (Int32.ofNat (pN σ r_79)), .int x1_56]) ⟨hx, hb, hml, hown, hts⟩ (cR_X4_liningRows l D cs ad tb A σ c_70 _ e_85) (cw_X9_X4_liningRows_204 hts ⟨Nat.le_of_ble_eq_true rfl, Nat.le_of_ble_eq_true rfl⟩) ⟨Nat.zero_le _, Nat.zero_le _⟩ (rcP hK hP (ci := 4) rfl k_76_3 (pf_4 (isK_K k_76_3))) hK hP hD hS hZ rfl hl.1 rfl (lv_room (Nat.le_of_ble_eq_true rfl)) dX9_rowsThere_85 ?_
          refine lv_iadd hx hb dX9_rowsThere_88 ?_
          refine lv_iadd hx hb dX9_rowsThere_89 ?_
          refine lv_istore_n (i := 1) (lv' := [(1, .int (x1_56 + ((Int32.ofNat (pN σ r_79)) + q_85))), (5, va_rf (rQ σ 904 x4_56.toNatClampNeg)), (0, .ref (ad 1009)), (2, .ref (ad 904)), (3, .int x3_56), (4, .int x4_56)]) hx hb dX9_rowsThere_90 rfl hl (by decide) rfl (fun ls hl => ?_)
          refine lv_iinc (v := x4_56 + (1 : Int32)) (lv' := [(4, .int (x4_56 + (1 : Int32))), (1, .int (x1_56 + ((Int32.ofNat (pN σ r_79)) + q_85))), (5, va_rf (rQ σ 904 x4_56.toNatClampNeg)), (0, .ref (ad 1009)), (2, .ref (ad 904)), (3, .int x3_56)]) hx hb dX9_rowsThere_91 hl (k := 5) rfl rfl (by decide) rfl (fun ls hl => ?_)
          refine lv_goto (tgt := 56) hx hb dX9_rowsThere_94 (by decide) ?_
          exact ih_56 (x1_56 + ((Int32.ofNat (pN σ r_79)) + q_85)) (x4_56 + (1 : Int32)) _ hF (lv_sub hl [3, 1, 4, 5, 0] rfl)
  have b_45 : ∀ (x1_45 : Int32) (ls : Array Slot), FR_X9_rowsThere_45 σ x1_45 = some q → lv_has ls 6 [(0, .ref (ad 1009)), (1, .int x1_45)] → W p l e (headSpec wsR_X9_rowsThere { frames := 1, cells := 0, slots := 0, locals := 20 }).room s m ([.ref (ad 1009)] : List Value).toArray below meth c s.heap [] 0 0 (MQ below (vp_Si (fun x => x = q)) ([.ref (ad 1009)] : List Value).toArray s 0 0 (fun _ => False)) (F0 m 45 ls []) := by
    intro x1_45 ls hF hl
    unfold FR_X9_rowsThere_45 at hF
    refine lv_aload_n hx hb dX9_rowsThere_45 rfl (lv_at hl 0 rfl) ?_
    refine gF hx hb hts hin wo_9 rfl hown hK hP (ob_9 _ _ _) 4 (.ref (ad 904)) (by decide) rf_X9_31 rfl dX9_rowsThere_46 ?_
    refine lv_astore_n (i := 2) (lv' := [(2, .ref (ad 904)), (0, .ref (ad 1009)), (1, .int x1_45)]) hx hb dX9_rowsThere_49 rfl hl (by decide) rfl (fun ls hl => ?_)
    refine lv_aload_n hx hb dX9_rowsThere_50 rfl (lv_at hl 0 rfl) ?_
    refine lnA (v := (30 : Int32)) (C := "RobeHouse$Robe") hx hb hK hP (ra_904 _ _ _) rfl rfl dX9_rowsThere_51 ?_
    refine lv_istore_n (i := 3) (lv' := [(3, .int (30 : Int32)), (2, .ref (ad 904)), (0, .ref (ad 1009)), (1, .int x1_45)]) hx hb dX9_rowsThere_52 rfl hl (by decide) rfl (fun ls hl => ?_)
    refine lv_iconst (v := (0 : Int32)) hx hb dX9_rowsThere_53 (by decide) ?_
    refine lv_istore (i := 4) (lv' := [(4, .int (0 : Int32)), (3, .int (30 : Int32)), (2, .ref (ad 904)), (0, .ref (ad 1009)), (1, .int x1_45)]) hx hb dX9_rowsThere_54 hl (by decide) rfl (fun ls hl => ?_)
    exact b_56 (30 : Int32) fu x1_45 (0 : Int32) _ hF (lv_sub hl [3, 4, 2, 1, 0] rfl)
  have hl := lv_entry ([.ref (ad 1009)]) (n := 6) (Nat.le_of_ble_eq_true rfl)
  rw [lg_entry_eq]
  generalize (lg_sl ([.ref (ad 1009)]) ++ List.replicate (6 - (lg_sl ([.ref (ad 1009)])).length) Slot.unset).toArray = ls at hl ⊢
  have hl : lv_has ls 6 [(0, .ref (ad 1009))] := hl
  unfold FR_X9_rowsThere at hF
  refine lv_iconst (v := (0 : Int32)) hx hb dX9_rowsThere_0 (by decide) ?_
  refine lv_istore_n (i := 1) (lv' := [(1, .int (0 : Int32)), (0, .ref (ad 1009))]) hx hb dX9_rowsThere_1 rfl hl (by decide) rfl (fun ls hl => ?_)
  refine lv_aload_n hx hb dX9_rowsThere_2 rfl (lv_at hl 1 rfl) ?_
  refine gF hx hb hts hin wo_9 rfl hown hK hP (ob_9 _ _ _) 2 (.ref (ad 902)) (by decide) rf_X9_25 rfl dX9_rowsThere_3 ?_
  refine lv_astore_n (i := 2) (lv' := [(2, .ref (ad 902)), (1, .int (0 : Int32)), (0, .ref (ad 1009))]) hx hb dX9_rowsThere_6 rfl hl (by decide) rfl (fun ls hl => ?_)
  refine lv_aload_n hx hb dX9_rowsThere_7 rfl (lv_at hl 0 rfl) ?_
  refine lnA (v := (40 : Int32)) (C := "RobeHouse$Cloth") hx hb hK hP (ra_902 _ _ _) rfl rfl dX9_rowsThere_8 ?_
  refine lv_istore_n (i := 3) (lv' := [(3, .int (40 : Int32)), (2, .ref (ad 902)), (1, .int (0 : Int32)), (0, .ref (ad 1009))]) hx hb dX9_rowsThere_9 rfl hl (by decide) rfl (fun ls hl => ?_)
  refine lv_iconst (v := (0 : Int32)) hx hb dX9_rowsThere_10 (by decide) ?_
  refine lv_istore (i := 4) (lv' := [(4, .int (0 : Int32)), (3, .int (40 : Int32)), (2, .ref (ad 902)), (1, .int (0 : Int32)), (0, .ref (ad 1009))]) hx hb dX9_rowsThere_11 hl (by decide) rfl (fun ls hl => ?_)
  exact b_13 (40 : Int32) (fun x1_45 => FR_X9_rowsThere_45 σ x1_45) (fun x1_45 => b_45 x1_45) fu (0 : Int32) (0 : Int32) _ hF (lv_sub hl [4, 3, 2, 1, 0] rfl)
def wsR_X9_count : List Cond := Cond.code yX9_count cX9_count 2 (some .int) :: wRa
theorem cw_X9_X9_boltsThere_285 {R : Room} {s : State} {args : Array Value} {y : MethodName} {c : ByteArray} {n : Nat} {r : Option FieldType} (hts : ∀ w ∈ (Cond.code y c n r :: wRa), w.before args s = true) (hR : 0 + 1 ≤ R.frames ∧ 8 + (6 + 11) + 0 ≤ R.locals) : CallW R s args RX9 RX9 285 yX9_boltsThere cX9_boltsThere 6 (some .int) wsR_X9_boltsThere { frames := 0, cells := 0, slots := 0, locals := 0 } 0 0 0 := cwV 0 hts (goodV wRa_good rm_X9_285 ri_X9_boltsThere rs_X9_boltsThere rn_X9 rc_X9_boltsThere) rfl rfl rfl (by decide +kernel) hR
theorem cw_X9_X9_robesThere_288 {R : Room} {s : State} {args : Array Value} {y : MethodName} {c : ByteArray} {n : Nat} {r : Option FieldType} (hts : ∀ w ∈ (Cond.code y c n r :: wRa), w.before args s = true) (hR : 0 + 1 ≤ R.frames ∧ 8 + (6 + 11) + 0 ≤ R.locals) : CallW R s args RX9 RX9 288 yX9_robesThere cX9_robesThere 6 (some .int) wsR_X9_robesThere { frames := 0, cells := 0, slots := 0, locals := 0 } 0 0 0 := cwV 0 hts (goodV wRa_good rm_X9_288 ri_X9_robesThere rs_X9_robesThere rn_X9 rc_X9_robesThere) rfl rfl rfl (by decide +kernel) hR
theorem cw_X9_X9_robesLent_291 {R : Room} {s : State} {args : Array Value} {y : MethodName} {c : ByteArray} {n : Nat} {r : Option FieldType} (hts : ∀ w ∈ (Cond.code y c n r :: wRa), w.before args s = true) (hR : 0 + 1 ≤ R.frames ∧ 8 + (6 + 11) + 0 ≤ R.locals) : CallW R s args RX9 RX9 291 yX9_robesLent cX9_robesLent 6 (some .int) wsR_X9_robesLent { frames := 0, cells := 0, slots := 0, locals := 0 } 0 0 0 := cwV 0 hts (goodV wRa_good rm_X9_291 ri_X9_robesLent rs_X9_robesLent rn_X9 rc_X9_robesLent) rfl rfl rfl (by decide +kernel) hR
theorem cw_X9_X9_rowsThere_294 {R : Room} {s : State} {args : Array Value} {y : MethodName} {c : ByteArray} {n : Nat} {r : Option FieldType} (hts : ∀ w ∈ (Cond.code y c n r :: wRa), w.before args s = true) (hR : 1 + 1 ≤ R.frames ∧ 8 + (6 + 11) + 20 ≤ R.locals) : CallW R s args RX9 RX9 294 yX9_rowsThere cX9_rowsThere 6 (some .int) wsR_X9_rowsThere { frames := 1, cells := 0, slots := 0, locals := 20 } 0 0 0 := cwV 0 hts (goodV wRa_good rm_X9_294 ri_X9_rowsThere rs_X9_rowsThere rn_X9 rc_X9_rowsThere) rfl rfl rfl (by decide +kernel) hR
def FR_X9_count (σ : RS) (p1 : Int32) : Option Int32 := (if p1 = (0 : Int32) then ((FR_X9_boltsThere σ).bind fun q_41 => (some q_41)) else (if p1 = (1 : Int32) then ((FR_X9_robesThere σ).bind fun q_46 => (some q_46)) else (if p1 = (2 : Int32) then ((FR_X9_robesLent σ).bind fun q_51 => (some q_51)) else (if p1 = (3 : Int32) then ((FR_X9_rowsThere σ).bind fun q_56 => (some q_56)) else (if p1 = (4 : Int32) then (some (rI σ 801)) else (if p1 = (5 : Int32) then (some (rI σ 903)) else (some (-1 : Int32))))))))
set_option maxHeartbeats 4000000 in
set_option maxRecDepth 100000 in
theorem cR_X9_count (l : Launch) (D : va_G) (cs : Nat → ClassId) (ad tb : Nat → Nat) (A : Nat → Prop) (σ : RS) (p1 : Int32) (q : Int32) (hF : FR_X9_count σ p1 = some q) : Met l yX9_count wsR_X9_count { frames := 2, cells := 0, slots := 0, locals := 45 } (va_Pc [.ref (ad 1009), .int p1] (preQ D cs ad tb A σ)) (vp_Si (fun x => x = q)) 0 0 (fun _ => False) := by
  refine Met.ofW (cc := cX9_count) (maxL := 2) (ret := (some .int)) (by decide) rfl ?_
  intro p e s m args below meth c s₁ B hml hv
  obtain ⟨rfl, hP, hK, hD, hZ⟩ := hv
  have hx := B.exec
  have hb := B.bytes
  have hr := B.returns
  have hts : ∀ w ∈ (Cond.code yX9_count cX9_count 2 (some .int) :: wRa), w.before ([.ref (ad 1009), .int p1] : List Value).toArray s = true := atoms_spec (ws := wsR_X9_count) B.pre
  have hin : ∀ w ∈ wRa, w ∈ (Cond.code yX9_count cX9_count 2 (some .int) :: wRa) := fun w hw => List.mem_cons_of_mem _ hw
  have hown : s.vm.findClass RX9 = some m.cls := findClass_of_methodNamed B.named
  have hlocks := B.notSynchronized
  have hS : va_S A s.heap s.heap [] := va_S.rf
  have hl := lv_entry ([.ref (ad 1009), .int p1]) (n := 2) (Nat.le_of_ble_eq_true rfl)
  rw [lg_entry_eq]
  generalize (lg_sl ([.ref (ad 1009), .int p1]) ++ List.replicate (2 - (lg_sl ([.ref (ad 1009), .int p1])).length) Slot.unset).toArray = ls at hl ⊢
  have hl : lv_has ls 2 [(0, .ref (ad 1009)), (1, .int p1)] := hl
  unfold FR_X9_count at hF
  refine lv_iload_n hx hb dX9_count_0 rfl (lv_at hl 1 rfl) ?_
  by_cases c_1_0 : p1 = (0 : Int32)
  · have hF := ob_t c_1_0 hF
    refine lv_tableIn (off := 39) (tgt := 40) hx hb dX9_count_1 (by rw [c_1_0]; decide) (by rw [c_1_0]; decide) (by rw [c_1_0]; rfl) (by decide) ?_
    refine lv_aload_n hx hb dX9_count_40 rfl (lv_at hl 0 rfl) ?_
    obtain ⟨q_41, e_41, hF⟩ := ob_bd hF
    refine crR (As := []) (rest := []) ⟨hx, hb, hml, hown, hts⟩ (cR_X9_boltsThere l D cs ad tb A σ _ e_41) (cw_X9_X9_boltsThere_285 hts ⟨Nat.le_of_ble_eq_true rfl, Nat.le_of_ble_eq_true rfl⟩) ⟨Nat.zero_le _, Nat.zero_le _⟩ (rcF hK hP (ci := 9) rfl (ob_9 _ _ _)) hK hP hD hS hZ rfl hl.1 rfl (lv_room (Nat.le_of_ble_eq_true rfl)) dX9_count_41 ?_
    exact rrM hx hb hr hlocks hF dX9_count_44
  · have hF := ob_f c_1_0 hF
    by_cases c_1_1 : p1 = (1 : Int32)
    · have hF := ob_t c_1_1 hF
      refine lv_tableIn (off := 44) (tgt := 45) hx hb dX9_count_1 (by rw [c_1_1]; decide) (by rw [c_1_1]; decide) (by rw [c_1_1]; rfl) (by decide) ?_
      refine lv_aload_n hx hb dX9_count_45 rfl (lv_at hl 0 rfl) ?_
      obtain ⟨q_46, e_46, hF⟩ := ob_bd hF
      refine crR (As := []) (rest := []) ⟨hx, hb, hml, hown, hts⟩ (cR_X9_robesThere l D cs ad tb A σ _ e_46) (cw_X9_X9_robesThere_288 hts ⟨Nat.le_of_ble_eq_true rfl, Nat.le_of_ble_eq_true rfl⟩) ⟨Nat.zero_le _, Nat.zero_le _⟩ (rcF hK hP (ci := 9) rfl (ob_9 _ _ _)) hK hP hD hS hZ rfl hl.1 rfl (lv_room (Nat.le_of_ble_eq_true rfl)) dX9_count_46 ?_
      exact rrM hx hb hr hlocks hF dX9_count_49
    · have hF := ob_f c_1_1 hF
      by_cases c_1_2 : p1 = (2 : Int32)
      · have hF := ob_t c_1_2 hF
        refine lv_tableIn (off := 49) (tgt := 50) hx hb dX9_count_1 (by rw [c_1_2]; decide) (by rw [c_1_2]; decide) (by rw [c_1_2]; rfl) (by decide) ?_
        refine lv_aload_n hx hb dX9_count_50 rfl (lv_at hl 0 rfl) ?_
        obtain ⟨q_51, e_51, hF⟩ := ob_bd hF
        refine crR (As := []) (rest := []) ⟨hx, hb, hml, hown, hts⟩ (cR_X9_robesLent l D cs ad tb A σ _ e_51) (cw_X9_X9_robesLent_291 hts ⟨Nat.le_of_ble_eq_true rfl, Nat.le_of_ble_eq_true rfl⟩) ⟨Nat.zero_le _, Nat.zero_le _⟩ (rcF hK hP (ci := 9) rfl (ob_9 _ _ _)) hK hP hD hS hZ rfl hl.1 rfl (lv_room (Nat.le_of_ble_eq_true rfl)) dX9_count_51 ?_
        exact rrM hx hb hr hlocks hF dX9_count_54
      · have hF := ob_f c_1_2 hF
        by_cases c_1_3 : p1 = (3 : Int32)
        · have hF := ob_t c_1_3 hF
          refine lv_tableIn (off := 54) (tgt := 55) hx hb dX9_count_1 (by rw [c_1_3]; decide) (by rw [c_1_3]; decide) (by rw [c_1_3]; rfl) (by decide) ?_
          refine lv_aload_n hx hb dX9_count_55 rfl (lv_at hl 0 rfl) ?_
          obtain ⟨q_56, e_56, hF⟩ := ob_bd hF
          refine crR (As := []) (rest := []) ⟨hx, hb, hml, hown, hts⟩ (cR_X9_rowsThere l D cs ad tb A σ _ e_56) (cw_X9_X9_rowsThere_294 hts ⟨Nat.le_of_ble_eq_true rfl, Nat.le_of_ble_eq_true rfl⟩) ⟨Nat.zero_le _, Nat.zero_le _⟩ (rcF hK hP (ci := 9) rfl (ob_9 _ _ _)) hK hP hD hS hZ rfl hl.1 rfl (lv_room (Nat.le_of_ble_eq_true rfl)) dX9_count_56 ?_
          exact rrM hx hb hr hlocks hF dX9_count_59
        · have hF := ob_f c_1_3 hF
          by_cases c_1_4 : p1 = (4 : Int32)
          · have hF := ob_t c_1_4 hF
            refine lv_tableIn (off := 59) (tgt := 60) hx hb dX9_count_1 (by rw [c_1_4]; decide) (by rw [c_1_4]; decide) (by rw [c_1_4]; rfl) (by decide) ?_
            refine lv_aload_n hx hb dX9_count_60 rfl (lv_at hl 0 rfl) ?_
            refine gF hx hb hts hin wo_9 rfl hown hK hP (ob_9 _ _ _) 0 (.ref (ad 1008)) (by decide) rf_X9_12 rfl dX9_count_61 ?_
            refine gF hx hb hts hin wo_8 rfl hown hK hP (ob_8 _ _ _) 1 (.int (rI σ 801)) (by decide) rf_X9_92 rfl dX9_count_64 ?_
            exact rrM hx hb hr hlocks hF dX9_count_67
          · have hF := ob_f c_1_4 hF
            by_cases c_1_5 : p1 = (5 : Int32)
            · have hF := ob_t c_1_5 hF
              refine lv_tableIn (off := 67) (tgt := 68) hx hb dX9_count_1 (by rw [c_1_5]; decide) (by rw [c_1_5]; decide) (by rw [c_1_5]; rfl) (by decide) ?_
              refine lv_aload_n hx hb dX9_count_68 rfl (lv_at hl 0 rfl) ?_
              refine gF hx hb hts hin wo_9 rfl hown hK hP (ob_9 _ _ _) 3 (.int (rI σ 903)) (by decide) rf_X9_99 rfl dX9_count_69 ?_
              exact rrM hx hb hr hlocks hF dX9_count_72
            · have hF := ob_f c_1_5 hF
              refine lv_tableOut (tgt := 73) hx hb dX9_count_1 (by have a0 : ¬ p1.toInt = 0 := ob_ti c_1_0; have a1 : ¬ p1.toInt = 1 := ob_ti c_1_1; have a2 : ¬ p1.toInt = 2 := ob_ti c_1_2; have a3 : ¬ p1.toInt = 3 := ob_ti c_1_3; have a4 : ¬ p1.toInt = 4 := ob_ti c_1_4; have a5 : ¬ p1.toInt = 5 := ob_ti c_1_5; omega) (by decide) ?_
              refine lv_iconst (v := (-1 : Int32)) hx hb dX9_count_73 (by decide) ?_
              exact rrM hx hb hr hlocks hF dX9_count_74
