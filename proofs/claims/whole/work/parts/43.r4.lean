def wsR_X9_within : List Cond := Cond.code yX9_within cX9_within 3 (some .boolean) :: wRa
def FR_X9_within (p0 : Int32) (p1 : Int32) (p2 : Int32) : Option Int32 := (if p0 < p1 then (some (0 : Int32)) else (if p2 < p0 then (some (0 : Int32)) else (some (1 : Int32))))
set_option maxHeartbeats 4000000 in
set_option maxRecDepth 100000 in
theorem cR_X9_within (l : Launch) (p0 : Int32) (p1 : Int32) (p2 : Int32) (q : Int32) (hF : FR_X9_within p0 p1 p2 = some q) : Met l yX9_within wsR_X9_within { frames := 0, cells := 0, slots := 0, locals := 0 } (va_Pc [.int p0, .int p1, .int p2] (fun _ => True)) (vp_Si (fun x => x = q)) 0 0 (fun _ => False) := by
  refine Met.ofW (cc := cX9_within) (maxL := 3) (ret := (some .boolean)) (by decide) rfl ?_
  intro p e s m args below meth c s₁ B hml hv
  obtain ⟨rfl, -⟩ := hv
  have hx := B.exec
  have hb := B.bytes
  have hr := B.returns
  have hts : ∀ w ∈ (Cond.code yX9_within cX9_within 3 (some .boolean) :: wRa), w.before ([.int p0, .int p1, .int p2] : List Value).toArray s = true := atoms_spec (ws := wsR_X9_within) B.pre
  have hin : ∀ w ∈ wRa, w ∈ (Cond.code yX9_within cX9_within 3 (some .boolean) :: wRa) := fun w hw => List.mem_cons_of_mem _ hw
  have hown : s.vm.findClass RX9 = some m.cls := findClass_of_methodNamed B.named
  have hlocks := B.notSynchronized
  have hl := lv_entry ([.int p0, .int p1, .int p2]) (n := 3) (Nat.le_of_ble_eq_true rfl)
  rw [lg_entry_eq]
  generalize (lg_sl ([.int p0, .int p1, .int p2]) ++ List.replicate (3 - (lg_sl ([.int p0, .int p1, .int p2])).length) Slot.unset).toArray = ls at hl ⊢
  have hl : lv_has ls 3 [(0, .int p0), (1, .int p1), (2, .int p2)] := hl
  unfold FR_X9_within at hF
  refine lv_iload_n hx hb dX9_within_0 rfl (lv_at hl 0 rfl) ?_
  refine lv_iload_n hx hb dX9_within_1 rfl (lv_at hl 1 rfl) ?_
  refine lv_icmp_lt (tgt := 14) hx hb dX9_within_2 (by decide) (fun c_2 => ?_) (fun c_2 => ?_)
  · have hF := ob_t c_2 hF
    refine lv_iconst (v := (0 : Int32)) hx hb dX9_within_14 (by decide) ?_
    exact rzM hx hb hr hlocks rfl hF dX9_within_15
  · have hF := ob_f c_2 hF
    refine lv_iload_n hx hb dX9_within_5 rfl (lv_at hl 0 rfl) ?_
    refine lv_iload_n hx hb dX9_within_6 rfl (lv_at hl 2 rfl) ?_
    refine lv_icmp_gt (tgt := 14) hx hb dX9_within_7 (by decide) (fun c_7 => ?_) (fun c_7 => ?_)
    · have hF := ob_t c_7 hF
      refine lv_iconst (v := (0 : Int32)) hx hb dX9_within_14 (by decide) ?_
      exact rzM hx hb hr hlocks rfl hF dX9_within_15
    · have hF := ob_f c_7 hF
      refine lv_iconst (v := (1 : Int32)) hx hb dX9_within_10 (by decide) ?_
      refine lv_goto (tgt := 15) hx hb dX9_within_11 (by decide) ?_
      exact rzM hx hb hr hlocks rfl hF dX9_within_15
def wsR_X9_feed : List Cond := Cond.code yX9_feed cX9_feed 4 (some .int) :: wRa
theorem cw_X9_X9_within_88 {R : Room} {s : State} {args : Array Value} {y : MethodName} {c : ByteArray} {n : Nat} {r : Option FieldType} (hts : ∀ w ∈ (Cond.code y c n r :: wRa), w.before args s = true) (hR : 0 + 1 ≤ R.frames ∧ 8 + (3 + 11) + 0 ≤ R.locals) : CallB R s args RX9 88 yX9_within cX9_within 3 (some .boolean) wsR_X9_within { frames := 0, cells := 0, slots := 0, locals := 0 } 0 0 3 ∧ (Cond.static yX9_within).before args s = true := va_cwS 3 hts (goodS wRa_good rm_X9_88 rt_X9_within rn_X9 rc_X9_within) rfl rfl rfl (by decide +kernel) hR
theorem cw_X9_X8_push_95 {R : Room} {s : State} {args : Array Value} {y : MethodName} {c : ByteArray} {n : Nat} {r : Option FieldType} (hts : ∀ w ∈ (Cond.code y c n r :: wRa), w.before args s = true) (hR : 0 + 1 ≤ R.frames ∧ 8 + (5 + 11) + 0 ≤ R.locals) : CallW R s args RX9 RX8 95 yX8_push cX8_push 5 none wsR_X8_push { frames := 0, cells := 0, slots := 0, locals := 0 } 0 0 2 := cwV 2 hts (goodV wRa_good rm_X9_95 ri_X8_push rs_X8_push rn_X8 rc_X8_push) rfl rfl rfl (by decide +kernel) hR
def FR_X9_feed (σ : RS) (p1 : Int64) (p3 : Int32) : Option (Int32 × RS) := ((FR_X9_within p3 (1 : Int32) (8 : Int32)).bind fun q_4 => (if q_4 = 0 then (some ((-2 : Int32), σ)) else (if ((rI σ 801) + p3) ≤ (130 : Int32) then ((FR_X8_push σ p1 p3).bind fun q_37 => (some ((rI q_37 801), q_37))) else (some ((-4 : Int32), σ)))))
set_option maxHeartbeats 4000000 in
set_option maxRecDepth 100000 in
theorem cR_X9_feed (l : Launch) (D : va_G) (cs : Nat → ClassId) (ad tb : Nat → Nat) (A : Nat → Prop) (σ : RS) (p1 : Int64) (p3 : Int32) (q : (Int32 × RS)) (hF : FR_X9_feed σ p1 p3 = some q) : Met l yX9_feed wsR_X9_feed { frames := 1, cells := 0, slots := 0, locals := 24 } (va_Pc [.ref (ad 1009), .long p1, .int p3] (preQ D cs ad tb A σ)) (va_Qi (fun x u => x = q.1 ∧ u = q.2) (posQ D cs ad A) A) 0 0 A := by
  refine Met.ofW (cc := cX9_feed) (maxL := 4) (ret := (some .int)) (by decide) rfl ?_
  intro p e s m args below meth c s₁ B hml hv
  obtain ⟨rfl, hP, hK, hD, hZ⟩ := hv
  have hx := B.exec
  have hb := B.bytes
  have hr := B.returns
  have hts : ∀ w ∈ (Cond.code yX9_feed cX9_feed 4 (some .int) :: wRa), w.before ([.ref (ad 1009), .long p1, .int p3] : List Value).toArray s = true := atoms_spec (ws := wsR_X9_feed) B.pre
  have hin : ∀ w ∈ wRa, w ∈ (Cond.code yX9_feed cX9_feed 4 (some .int) :: wRa) := fun w hw => List.mem_cons_of_mem _ hw
  have hown : s.vm.findClass RX9 = some m.cls := findClass_of_methodNamed B.named
  have hlocks := B.notSynchronized
  have hS : va_S A s.heap s.heap [] := va_S.rf
  have hl := lv_entry ([.ref (ad 1009), .long p1, .int p3]) (n := 4) (Nat.le_of_ble_eq_true rfl)
  rw [lg_entry_eq]
  generalize (lg_sl ([.ref (ad 1009), .long p1, .int p3]) ++ List.replicate (4 - (lg_sl ([.ref (ad 1009), .long p1, .int p3])).length) Slot.unset).toArray = ls at hl ⊢
  have hl : lv_has ls 4 [(0, .ref (ad 1009)), (1, .long p1), (3, .int p3)] := hl
  unfold FR_X9_feed at hF
  refine lv_iload_n hx hb dX9_feed_0 rfl (lv_at hl 2 rfl) ?_
  refine lv_iconst (v := (1 : Int32)) hx hb dX9_feed_1 (by decide) ?_
  refine lv_bipush (v := (8 : Int32)) hx hb dX9_feed_2 (by decide) ?_
  obtain ⟨q_4, e_4, hF⟩ := ob_bd hF
  refine csR (As := [.int p3, .int (1 : Int32), .int (8 : Int32)]) (rest := []) ⟨hx, hb, hml, hown, hts⟩ (cR_X9_within l p3 (1 : Int32) (8 : Int32) _ e_4) (cw_X9_X9_within_88 hts ⟨Nat.le_of_ble_eq_true rfl, Nat.le_of_ble_eq_true rfl⟩) ⟨Nat.zero_le _, Nat.zero_le _⟩ rfl hl.1 rfl (lv_room (Nat.le_of_ble_eq_true rfl)) dX9_feed_4 ?_
  refine lv_if_ne (tgt := 13) hx hb dX9_feed_7 (by decide) (fun c_7 => ?_) (fun c_7 => ?_)
  · have hF := ob_f c_7 hF
    refine lv_aload_n hx hb dX9_feed_13 rfl (lv_at hl 0 rfl) ?_
    refine gF hx hb hts hin wo_9 rfl hown hK hP (ob_9 _ _ _) 0 (.ref (ad 1008)) (by decide) rf_X9_12 rfl dX9_feed_14 ?_
    refine gF hx hb hts hin wo_8 rfl hown hK hP (ob_8 _ _ _) 1 (.int (rI σ 801)) (by decide) rf_X9_92 rfl dX9_feed_17 ?_
    refine lv_iload_n hx hb dX9_feed_20 rfl (lv_at hl 2 rfl) ?_
    refine lv_iadd hx hb dX9_feed_21 ?_
    refine lv_sipush (v := (130 : Int32)) hx hb dX9_feed_22 (by decide) ?_
    refine lv_icmp_le (tgt := 31) hx hb dX9_feed_25 (by decide) (fun c_25 => ?_) (fun c_25 => ?_)
    · have hF := ob_t c_25 hF
      refine lv_aload_n hx hb dX9_feed_31 rfl (lv_at hl 0 rfl) ?_
      refine gF hx hb hts hin wo_9 rfl hown hK hP (ob_9 _ _ _) 0 (.ref (ad 1008)) (by decide) rf_X9_12 rfl dX9_feed_32 ?_
      refine lv_lload_n hx hb dX9_feed_35 rfl (lv_at hl 1 rfl) ?_
      refine lv_iload_n hx hb dX9_feed_36 rfl (lv_at hl 2 rfl) ?_
      obtain ⟨q_37, e_37, hF⟩ := ob_bd hF
      refine cvR (As := [.long p1, .int p3]) (rest := []) ⟨hx, hb, hml, hown, hts⟩ (cR_X8_push l D cs ad tb A σ p1 p3 _ e_37) (cw_X9_X8_push_95 hts ⟨Nat.le_of_ble_eq_true rfl, Nat.le_of_ble_eq_true rfl⟩) ⟨Nat.zero_le _, Nat.zero_le _⟩ (rcF hK hP (ci := 8) rfl (ob_8 _ _ _)) hK hP hD hS hZ rfl hl.1 rfl (lv_room (Nat.le_of_ble_eq_true rfl)) dX9_feed_37 (fun H locs hP hD hS => ?_)
      refine lv_aload_n hx hb dX9_feed_40 rfl (lv_at hl 0 rfl) ?_
      refine gF hx hb hts hin wo_9 rfl hown hK hP (ob_9 _ _ _) 0 (.ref (ad 1008)) (by decide) rf_X9_12 rfl dX9_feed_41 ?_
      refine gF hx hb hts hin wo_8 rfl hown hK hP (ob_8 _ _ _) 1 (.int (rI q_37 801)) (by decide) rf_X9_92 rfl dX9_feed_44 ?_
      exact rwR hx hb hr hlocks hF hK hP hD hS dX9_feed_47
    · have hF := ob_f c_25 hF
      refine lv_bipush (v := (-4 : Int32)) hx hb dX9_feed_28 (by decide) ?_
      exact rwR hx hb hr hlocks hF hK hP hD hS dX9_feed_30
  · have hF := ob_t c_7 hF
    refine lv_bipush (v := (-2 : Int32)) hx hb dX9_feed_10 (by decide) ?_
    exact rwR hx hb hr hlocks hF hK hP hD hS dX9_feed_12
def wsR_X9_keepBolt : List Cond := Cond.code yX9_keepBolt cX9_keepBolt 2 (some .int) :: wRa
def FR_X9_keepBolt (σ : RS) (p1 : Nat) : Option (Int32 × RS) := (if (rI σ 903) < (40 : Int32) then (gd (isK σ p1 0) (gd (inb (rI σ 903) 40) (some (((rI (ri (rq σ 902 (rI σ 903) (some p1)) 903 ((rI (rq σ 902 (rI σ 903) (some p1)) 903) + (1 : Int32))) 903) - (1 : Int32)), (ri (rq σ 902 (rI σ 903) (some p1)) 903 ((rI (rq σ 902 (rI σ 903) (some p1)) 903) + (1 : Int32))))))) else (some ((-4 : Int32), σ)))
set_option maxHeartbeats 4000000 in
set_option maxRecDepth 100000 in
theorem cR_X9_keepBolt (l : Launch) (D : va_G) (cs : Nat → ClassId) (ad tb : Nat → Nat) (A : Nat → Prop) (σ : RS) (p1 : Nat) (q : (Int32 × RS)) (hF : FR_X9_keepBolt σ p1 = some q) : Met l yX9_keepBolt wsR_X9_keepBolt { frames := 0, cells := 0, slots := 0, locals := 0 } (va_Pc [.ref (ad 1009), .ref p1] (preQ D cs ad tb A σ)) (va_Qi (fun x u => x = q.1 ∧ u = q.2) (posQ D cs ad A) A) 0 0 A := by
  refine Met.ofW (cc := cX9_keepBolt) (maxL := 2) (ret := (some .int)) (by decide) rfl ?_
  intro p e s m args below meth c s₁ B hml hv
  obtain ⟨rfl, hP, hK, hD, hZ⟩ := hv
  have hx := B.exec
  have hb := B.bytes
  have hr := B.returns
  have hts : ∀ w ∈ (Cond.code yX9_keepBolt cX9_keepBolt 2 (some .int) :: wRa), w.before ([.ref (ad 1009), .ref p1] : List Value).toArray s = true := atoms_spec (ws := wsR_X9_keepBolt) B.pre
  have hin : ∀ w ∈ wRa, w ∈ (Cond.code yX9_keepBolt cX9_keepBolt 2 (some .int) :: wRa) := fun w hw => List.mem_cons_of_mem _ hw
  have hown : s.vm.findClass RX9 = some m.cls := findClass_of_methodNamed B.named
  have hlocks := B.notSynchronized
  have hS : va_S A s.heap s.heap [] := va_S.rf
  have hl := lv_entry ([.ref (ad 1009), .ref p1]) (n := 2) (Nat.le_of_ble_eq_true rfl)
  rw [lg_entry_eq]
  generalize (lg_sl ([.ref (ad 1009), .ref p1]) ++ List.replicate (2 - (lg_sl ([.ref (ad 1009), .ref p1])).length) Slot.unset).toArray = ls at hl ⊢
  have hl : lv_has ls 2 [(0, .ref (ad 1009)), (1, .ref p1)] := hl
  unfold FR_X9_keepBolt at hF
  refine lv_aload_n hx hb dX9_keepBolt_0 rfl (lv_at hl 0 rfl) ?_
  refine gF hx hb hts hin wo_9 rfl hown hK hP (ob_9 _ _ _) 3 (.int (rI σ 903)) (by decide) rf_X9_99 rfl dX9_keepBolt_1 ?_
  refine lv_bipush (v := (40 : Int32)) hx hb dX9_keepBolt_4 (by decide) ?_
  refine lv_icmp_lt (tgt := 12) hx hb dX9_keepBolt_6 (by decide) (fun c_6 => ?_) (fun c_6 => ?_)
  · have hF := ob_t c_6 hF
    refine lv_aload_n hx hb dX9_keepBolt_12 rfl (lv_at hl 0 rfl) ?_
    refine gF hx hb hts hin wo_9 rfl hown hK hP (ob_9 _ _ _) 2 (.ref (ad 902)) (by decide) rf_X9_25 rfl dX9_keepBolt_13 ?_
    refine lv_aload_n hx hb dX9_keepBolt_16 rfl (lv_at hl 0 rfl) ?_
    refine gF hx hb hts hin wo_9 rfl hown hK hP (ob_9 _ _ _) 3 (.int (rI σ 903)) (by decide) rf_X9_99 rfl dX9_keepBolt_17 ?_
    refine lv_aload_n hx hb dX9_keepBolt_20 rfl (lv_at hl 1 rfl) ?_
    obtain ⟨k_21_1, hF⟩ := ob_gd hF
    obtain ⟨g_21, hF⟩ := ob_gd hF
    refine stA hx hb hK hP hD hS (ra_902 _ _ _) rfl rfl k_21_1 (pf_0 (isK_K k_21_1)) (rs_902 _ _ _ _ _) g_21 dX9_keepBolt_21 (fun H locs hP hD hS => ?_)
    refine lv_aload_n hx hb dX9_keepBolt_22 rfl (lv_at hl 0 rfl) ?_
    refine lv_dup hx hb dX9_keepBolt_23 rfl ?_
    refine gF hx hb hts hin wo_9 rfl hown hK hP (ob_9 _ _ _) 3 (.int (rI (rq σ 902 (rI σ 903) (some p1)) 903)) (by decide) rf_X9_99 rfl dX9_keepBolt_24 ?_
    refine lv_iconst (v := (1 : Int32)) hx hb dX9_keepBolt_27 (by decide) ?_
    refine lv_iadd hx hb dX9_keepBolt_28 ?_
    refine pF (ty := .int) hx hb hts hin wo_9 rfl tyX9 tyX9_ok nmX9 hown hK hP hD hS (ob_9 _ _ _) 3 (by decide) rf_X9_99 rfl (by decide +kernel) rfl rfl (Nat.le_of_ble_eq_true rfl) (rp_903 _ _ _ _) dX9_keepBolt_29 (fun H locs hP hD hS => ?_)
    refine lv_aload_n hx hb dX9_keepBolt_32 rfl (lv_at hl 0 rfl) ?_
    refine gF hx hb hts hin wo_9 rfl hown hK hP (ob_9 _ _ _) 3 (.int (rI (ri (rq σ 902 (rI σ 903) (some p1)) 903 ((rI (rq σ 902 (rI σ 903) (some p1)) 903) + (1 : Int32))) 903)) (by decide) rf_X9_99 rfl dX9_keepBolt_33 ?_
    refine lv_iconst (v := (1 : Int32)) hx hb dX9_keepBolt_36 (by decide) ?_
    refine lv_isub hx hb dX9_keepBolt_37 ?_
    exact rwR hx hb hr hlocks hF hK hP hD hS dX9_keepBolt_38
  · have hF := ob_f c_6 hF
    refine lv_bipush (v := (-4 : Int32)) hx hb dX9_keepBolt_9 (by decide) ?_
    exact rwR hx hb hr hlocks hF hK hP hD hS dX9_keepBolt_11
def wsR_X9_boltAt : List Cond := Cond.code yX9_boltAt cX9_boltAt 2 (some (.object "RobeHouse$Cloth")) :: wRa
def FR_X9_boltAt (σ : RS) (p1 : Int32) : Option (Option Nat) := ((FR_X9_within p1 (0 : Int32) (39 : Int32)).bind fun q_4 => (if q_4 = 0 then (some none) else (gd (inb p1 40) (some (rQ σ 902 p1.toNatClampNeg)))))
set_option maxHeartbeats 4000000 in
set_option maxRecDepth 100000 in
theorem cR_X9_boltAt (l : Launch) (D : va_G) (cs : Nat → ClassId) (ad tb : Nat → Nat) (A : Nat → Prop) (σ : RS) (p1 : Int32) (q : (Option Nat)) (hF : FR_X9_boltAt σ p1 = some q) : Met l yX9_boltAt wsR_X9_boltAt { frames := 1, cells := 0, slots := 0, locals := 22 } (va_Pc [.ref (ad 1009), .int p1] (preQ D cs ad tb A σ)) (va_Sq (fun x => x = q)) 0 0 (fun _ => False) := by
  refine Met.ofW (cc := cX9_boltAt) (maxL := 2) (ret := (some (.object "RobeHouse$Cloth"))) (by decide) rfl ?_
  intro p e s m args below meth c s₁ B hml hv
  obtain ⟨rfl, hP, hK, hD, hZ⟩ := hv
  have hx := B.exec
  have hb := B.bytes
  have hr := B.returns
  have hts : ∀ w ∈ (Cond.code yX9_boltAt cX9_boltAt 2 (some (.object "RobeHouse$Cloth")) :: wRa), w.before ([.ref (ad 1009), .int p1] : List Value).toArray s = true := atoms_spec (ws := wsR_X9_boltAt) B.pre
  have hin : ∀ w ∈ wRa, w ∈ (Cond.code yX9_boltAt cX9_boltAt 2 (some (.object "RobeHouse$Cloth")) :: wRa) := fun w hw => List.mem_cons_of_mem _ hw
  have hown : s.vm.findClass RX9 = some m.cls := findClass_of_methodNamed B.named
  have hlocks := B.notSynchronized
  have hS : va_S A s.heap s.heap [] := va_S.rf
  have hl := lv_entry ([.ref (ad 1009), .int p1]) (n := 2) (Nat.le_of_ble_eq_true rfl)
  rw [lg_entry_eq]
  generalize (lg_sl ([.ref (ad 1009), .int p1]) ++ List.replicate (2 - (lg_sl ([.ref (ad 1009), .int p1])).length) Slot.unset).toArray = ls at hl ⊢
  have hl : lv_has ls 2 [(0, .ref (ad 1009)), (1, .int p1)] := hl
  unfold FR_X9_boltAt at hF
  refine lv_iload_n hx hb dX9_boltAt_0 rfl (lv_at hl 1 rfl) ?_
  refine lv_iconst (v := (0 : Int32)) hx hb dX9_boltAt_1 (by decide) ?_
  refine lv_bipush (v := (39 : Int32)) hx hb dX9_boltAt_2 (by decide) ?_
  obtain ⟨q_4, e_4, hF⟩ := ob_bd hF
  refine csR (As := [.int p1, .int (0 : Int32), .int (39 : Int32)]) (rest := []) ⟨hx, hb, hml, hown, hts⟩ (cR_X9_within l p1 (0 : Int32) (39 : Int32) _ e_4) (cw_X9_X9_within_88 hts ⟨Nat.le_of_ble_eq_true rfl, Nat.le_of_ble_eq_true rfl⟩) ⟨Nat.zero_le _, Nat.zero_le _⟩ rfl hl.1 rfl (lv_room (Nat.le_of_ble_eq_true rfl)) dX9_boltAt_4 ?_
  refine lv_if_eq (tgt := 19) hx hb dX9_boltAt_7 (by decide) (fun c_7 => ?_) (fun c_7 => ?_)
  · have hF := ob_t c_7 hF
    refine lv_null hx hb dX9_boltAt_19 ?_
    exact rqR hx hb hr (Or.inl ⟨_, rfl⟩) hlocks hF dX9_boltAt_20
  · have hF := ob_f c_7 hF
    refine lv_aload_n hx hb dX9_boltAt_10 rfl (lv_at hl 0 rfl) ?_
    refine gF hx hb hts hin wo_9 rfl hown hK hP (ob_9 _ _ _) 2 (.ref (ad 902)) (by decide) rf_X9_25 rfl dX9_boltAt_11 ?_
    refine lv_iload_n hx hb dX9_boltAt_14 rfl (lv_at hl 1 rfl) ?_
    obtain ⟨g_15, hF⟩ := ob_gd hF
    refine ldA (C := "RobeHouse$Cloth") hx hb hK hP (ra_902 _ _ _) rfl (rQ σ 902 p1.toNatClampNeg) g_15 rfl dX9_boltAt_15 ?_
    refine lv_goto (tgt := 20) hx hb dX9_boltAt_16 (by decide) ?_
    exact rqR hx hb hr (Or.inl ⟨_, rfl⟩) hlocks hF dX9_boltAt_20
def wsR_X9_about : List Cond := Cond.code yX9_about cX9_about 4 (some .int) :: wRa
theorem cw_X9_X9_boltAt_122 {R : Room} {s : State} {args : Array Value} {y : MethodName} {c : ByteArray} {n : Nat} {r : Option FieldType} (hts : ∀ w ∈ (Cond.code y c n r :: wRa), w.before args s = true) (hR : 1 + 1 ≤ R.frames ∧ 8 + (2 + 11) + 22 ≤ R.locals) : CallW R s args RX9 RX9 122 yX9_boltAt cX9_boltAt 2 (some (.object "RobeHouse$Cloth")) wsR_X9_boltAt { frames := 1, cells := 0, slots := 0, locals := 22 } 0 0 1 := cwV 1 hts (goodV wRa_good rm_X9_122 ri_X9_boltAt rs_X9_boltAt rn_X9 rc_X9_boltAt) rfl rfl rfl (by decide +kernel) hR
def FR_X9_about (σ : RS) (p1 : Int32) (p2 : Int32) : Option Int32 := ((FR_X9_boltAt σ p1).bind fun q_2 => (oc q_2 (some (-1 : Int32)) (fun c_7 => (if p2 = (0 : Int32) then (gd (isK σ c_7 0) ((pR σ c_7 0).bind fun r_41 => (gd (isK σ r_41 11) (some (Int32.ofNat (pN σ r_41)))))) else (if p2 = (1 : Int32) then (gd (isK σ c_7 0) (some (pI σ c_7 1))) else (if p2 = (2 : Int32) then (gd (isK σ c_7 0) (some (pI σ c_7 2))) else (some (-1 : Int32))))))))
set_option maxHeartbeats 4000000 in
set_option maxRecDepth 100000 in
theorem cR_X9_about (l : Launch) (D : va_G) (cs : Nat → ClassId) (ad tb : Nat → Nat) (A : Nat → Prop) (σ : RS) (p1 : Int32) (p2 : Int32) (q : Int32) (hF : FR_X9_about σ p1 p2 = some q) : Met l yX9_about wsR_X9_about { frames := 2, cells := 0, slots := 0, locals := 43 } (va_Pc [.ref (ad 1009), .int p1, .int p2] (preQ D cs ad tb A σ)) (vp_Si (fun x => x = q)) 0 0 (fun _ => False) := by
  refine Met.ofW (cc := cX9_about) (maxL := 4) (ret := (some .int)) (by decide) rfl ?_
  intro p e s m args below meth c s₁ B hml hv
  obtain ⟨rfl, hP, hK, hD, hZ⟩ := hv
  have hx := B.exec
  have hb := B.bytes
  have hr := B.returns
  have hts : ∀ w ∈ (Cond.code yX9_about cX9_about 4 (some .int) :: wRa), w.before ([.ref (ad 1009), .int p1, .int p2] : List Value).toArray s = true := atoms_spec (ws := wsR_X9_about) B.pre
  have hin : ∀ w ∈ wRa, w ∈ (Cond.code yX9_about cX9_about 4 (some .int) :: wRa) := fun w hw => List.mem_cons_of_mem _ hw
  have hown : s.vm.findClass RX9 = some m.cls := findClass_of_methodNamed B.named
  have hlocks := B.notSynchronized
  have hS : va_S A s.heap s.heap [] := va_S.rf
  have hl := lv_entry ([.ref (ad 1009), .int p1, .int p2]) (n := 4) (Nat.le_of_ble_eq_true rfl)
  rw [lg_entry_eq]
  generalize (lg_sl ([.ref (ad 1009), .int p1, .int p2]) ++ List.replicate (4 - (lg_sl ([.ref (ad 1009), .int p1, .int p2])).length) Slot.unset).toArray = ls at hl ⊢
  have hl : lv_has ls 4 [(0, .ref (ad 1009)), (1, .int p1), (2, .int p2)] := hl
  unfold FR_X9_about at hF
  refine lv_aload_n hx hb dX9_about_0 rfl (lv_at hl 0 rfl) ?_
  refine lv_iload_n hx hb dX9_about_1 rfl (lv_at hl 1 rfl) ?_
  obtain ⟨q_2, e_2, hF⟩ := ob_bd hF
  refine cqR (As := [.int p1]) (rest := []) ⟨hx, hb, hml, hown, hts⟩ (cR_X9_boltAt l D cs ad tb A σ p1 _ e_2) (cw_X9_X9_boltAt_122 hts ⟨Nat.le_of_ble_eq_true rfl, Nat.le_of_ble_eq_true rfl⟩) ⟨Nat.zero_le _, Nat.zero_le _⟩ (rcF hK hP (ci := 9) rfl (ob_9 _ _ _)) hK hP hD hS hZ rfl hl.1 rfl (lv_room (Nat.le_of_ble_eq_true rfl)) dX9_about_2 ?_
  refine asQ_n (i := 3) (lv' := [(3, va_rf q_2), (0, .ref (ad 1009)), (1, .int p1), (2, .int p2)]) hx hb dX9_about_5 rfl hl (by decide) rfl (fun ls hl => ?_)
  refine alQ_n hx hb dX9_about_6 rfl (lv_at hl 0 rfl) ?_
  refine nnQ (tgt := 12) hx hb dX9_about_7 (by decide) (fun c_7 e_7 => ?_) (fun e_7 => ?_)
  · have hF := oc_s e_7 hF
    refine lv_iload_n hx hb dX9_about_12 rfl (lv_at hl 3 rfl) ?_
    by_cases c_13_0 : p2 = (0 : Int32)
    · have hF := ob_t c_13_0 hF
      refine lv_tableIn (off := 27) (tgt := 40) hx hb dX9_about_13 (by rw [c_13_0]; decide) (by rw [c_13_0]; decide) (by rw [c_13_0]; rfl) (by decide) ?_
      refine alQ_n hx hb dX9_about_40 rfl (lv_at hl 0 rfl) ?_
      refine rfS e_7 ?_
      obtain ⟨k_41_1, hF⟩ := ob_gd hF
      refine gP hx hb hts hin wo_0 rfl hown hK hP k_41_1 (pf_0 (isK_K k_41_1)) 0 (va_rf (pR σ c_7 0)) (by decide) rf_X9_126 rfl dX9_about_41 ?_
      obtain ⟨r_41, o_41, hF⟩ := ob_bd hF
      refine rfS o_41 ?_
      obtain ⟨k_44_2, hF⟩ := ob_gd hF
      refine lnP (v := (Int32.ofNat (pN σ r_41))) hx hb hK hP k_44_2 rfl dX9_about_44 ?_
      exact rrM hx hb hr hlocks hF dX9_about_45
    · have hF := ob_f c_13_0 hF
      by_cases c_13_1 : p2 = (1 : Int32)
      · have hF := ob_t c_13_1 hF
        refine lv_tableIn (off := 33) (tgt := 46) hx hb dX9_about_13 (by rw [c_13_1]; decide) (by rw [c_13_1]; decide) (by rw [c_13_1]; rfl) (by decide) ?_
        refine alQ_n hx hb dX9_about_46 rfl (lv_at hl 0 rfl) ?_
        refine rfS e_7 ?_
        obtain ⟨k_47_3, hF⟩ := ob_gd hF
        refine gP hx hb hts hin wo_0 rfl hown hK hP k_47_3 (pf_0 (isK_K k_47_3)) 1 (.int (pI σ c_7 1)) (by decide) rf_X9_127 rfl dX9_about_47 ?_
        exact rrM hx hb hr hlocks hF dX9_about_50
      · have hF := ob_f c_13_1 hF
        by_cases c_13_2 : p2 = (2 : Int32)
        · have hF := ob_t c_13_2 hF
          refine lv_tableIn (off := 38) (tgt := 51) hx hb dX9_about_13 (by rw [c_13_2]; decide) (by rw [c_13_2]; decide) (by rw [c_13_2]; rfl) (by decide) ?_
          refine alQ_n hx hb dX9_about_51 rfl (lv_at hl 0 rfl) ?_
          refine rfS e_7 ?_
          obtain ⟨k_52_4, hF⟩ := ob_gd hF
          refine gP hx hb hts hin wo_0 rfl hown hK hP k_52_4 (pf_0 (isK_K k_52_4)) 2 (.int (pI σ c_7 2)) (by decide) rf_X9_130 rfl dX9_about_52 ?_
          exact rrM hx hb hr hlocks hF dX9_about_55
        · have hF := ob_f c_13_2 hF
          refine lv_tableOut (tgt := 56) hx hb dX9_about_13 (by have a0 : ¬ p2.toInt = 0 := ob_ti c_13_0; have a1 : ¬ p2.toInt = 1 := ob_ti c_13_1; have a2 : ¬ p2.toInt = 2 := ob_ti c_13_2; omega) (by decide) ?_
          refine lv_iconst (v := (-1 : Int32)) hx hb dX9_about_56 (by decide) ?_
          exact rrM hx hb hr hlocks hF dX9_about_57
  · have hF := oc_n e_7 hF
    refine lv_iconst (v := (-1 : Int32)) hx hb dX9_about_10 (by decide) ?_
    exact rrM hx hb hr hlocks hF dX9_about_11
def wsR_X9_row : List Cond := Cond.code yX9_row cX9_row 5 (some .int) :: wRa
theorem cw_X9_X0_partOf_133 {R : Room} {s : State} {args : Array Value} {y : MethodName} {c : ByteArray} {n : Nat} {r : Option FieldType} (hts : ∀ w ∈ (Cond.code y c n r :: wRa), w.before args s = true) (hR : 0 + 1 ≤ R.frames ∧ 8 + (3 + 11) + 0 ≤ R.locals) : CallW R s args RX9 RX0 133 yX0_partOf cX0_partOf 3 (some .int) wsR_X0_partOf { frames := 0, cells := 0, slots := 0, locals := 0 } 0 0 2 := cwV 2 hts (goodV wRa_good rm_X9_133 ri_X0_partOf rs_X0_partOf rn_X0 rc_X0_partOf) rfl rfl rfl (by decide +kernel) hR
def FR_X9_row (σ : RS) (p1 : Int32) (p2 : Int32) (p3 : Int32) : Option Int32 := ((FR_X9_boltAt σ p1).bind fun q_2 => (oc q_2 (some (-1 : Int32)) (fun c_9 => (gd (isK σ c_9 0) ((FR_X0_partOf σ c_9 p2 p3).bind fun q_18 => (some q_18))))))
set_option maxHeartbeats 4000000 in
set_option maxRecDepth 100000 in
theorem cR_X9_row (l : Launch) (D : va_G) (cs : Nat → ClassId) (ad tb : Nat → Nat) (A : Nat → Prop) (σ : RS) (p1 : Int32) (p2 : Int32) (p3 : Int32) (q : Int32) (hF : FR_X9_row σ p1 p2 p3 = some q) : Met l yX9_row wsR_X9_row { frames := 2, cells := 0, slots := 0, locals := 43 } (va_Pc [.ref (ad 1009), .int p1, .int p2, .int p3] (preQ D cs ad tb A σ)) (vp_Si (fun x => x = q)) 0 0 (fun _ => False) := by
  refine Met.ofW (cc := cX9_row) (maxL := 5) (ret := (some .int)) (by decide) rfl ?_
  intro p e s m args below meth c s₁ B hml hv
  obtain ⟨rfl, hP, hK, hD, hZ⟩ := hv
  have hx := B.exec
  have hb := B.bytes
  have hr := B.returns
  have hts : ∀ w ∈ (Cond.code yX9_row cX9_row 5 (some .int) :: wRa), w.before ([.ref (ad 1009), .int p1, .int p2, .int p3] : List Value).toArray s = true := atoms_spec (ws := wsR_X9_row) B.pre
  have hin : ∀ w ∈ wRa, w ∈ (Cond.code yX9_row cX9_row 5 (some .int) :: wRa) := fun w hw => List.mem_cons_of_mem _ hw
  have hown : s.vm.findClass RX9 = some m.cls := findClass_of_methodNamed B.named
  have hlocks := B.notSynchronized
  have hS : va_S A s.heap s.heap [] := va_S.rf
  have hl := lv_entry ([.ref (ad 1009), .int p1, .int p2, .int p3]) (n := 5) (Nat.le_of_ble_eq_true rfl)
  rw [lg_entry_eq]
  generalize (lg_sl ([.ref (ad 1009), .int p1, .int p2, .int p3]) ++ List.replicate (5 - (lg_sl ([.ref (ad 1009), .int p1, .int p2, .int p3])).length) Slot.unset).toArray = ls at hl ⊢
  have hl : lv_has ls 5 [(0, .ref (ad 1009)), (1, .int p1), (2, .int p2), (3, .int p3)] := hl
  unfold FR_X9_row at hF
  refine lv_aload_n hx hb dX9_row_0 rfl (lv_at hl 0 rfl) ?_
  refine lv_iload_n hx hb dX9_row_1 rfl (lv_at hl 1 rfl) ?_
  obtain ⟨q_2, e_2, hF⟩ := ob_bd hF
  refine cqR (As := [.int p1]) (rest := []) ⟨hx, hb, hml, hown, hts⟩ (cR_X9_boltAt l D cs ad tb A σ p1 _ e_2) (cw_X9_X9_boltAt_122 hts ⟨Nat.le_of_ble_eq_true rfl, Nat.le_of_ble_eq_true rfl⟩) ⟨Nat.zero_le _, Nat.zero_le _⟩ (rcF hK hP (ci := 9) rfl (ob_9 _ _ _)) hK hP hD hS hZ rfl hl.1 rfl (lv_room (Nat.le_of_ble_eq_true rfl)) dX9_row_2 ?_
  refine asQ (i := 4) (lv' := [(4, va_rf q_2), (0, .ref (ad 1009)), (1, .int p1), (2, .int p2), (3, .int p3)]) hx hb dX9_row_5 hl (by decide) rfl (fun ls hl => ?_)
  refine alQ hx hb dX9_row_7 (lv_at hl 0 rfl) ?_
  refine nnQ (tgt := 14) hx hb dX9_row_9 (by decide) (fun c_9 e_9 => ?_) (fun e_9 => ?_)
  · have hF := oc_s e_9 hF
    refine alQ hx hb dX9_row_14 (lv_at hl 0 rfl) ?_
    refine rfS e_9 ?_
    refine lv_iload_n hx hb dX9_row_16 rfl (lv_at hl 3 rfl) ?_
    refine lv_iload_n hx hb dX9_row_17 rfl (lv_at hl 4 rfl) ?_
    obtain ⟨k_18_1, hF⟩ := ob_gd hF
    obtain ⟨q_18, e_18, hF⟩ := ob_bd hF
    refine crR (As := [.int p2, .int p3]) (rest := []) ⟨hx, hb, hml, hown, hts⟩ (cR_X0_partOf l D cs ad tb A σ c_9 p2 p3 _ e_18) (cw_X9_X0_partOf_133 hts ⟨Nat.le_of_ble_eq_true rfl, Nat.le_of_ble_eq_true rfl⟩) ⟨Nat.zero_le _, Nat.zero_le _⟩ (rcP hK hP (ci := 0) rfl k_18_1 (pf_0 (isK_K k_18_1))) hK hP hD hS hZ rfl hl.1 rfl (lv_room (Nat.le_of_ble_eq_true rfl)) dX9_row_18 ?_
    exact rrM hx hb hr hlocks hF dX9_row_21
  · have hF := oc_n e_9 hF
    refine lv_iconst (v := (-1 : Int32)) hx hb dX9_row_12 (by decide) ?_
    exact rrM hx hb hr hlocks hF dX9_row_13
def wsR_X9_wash : List Cond := Cond.code yX9_wash cX9_wash 3 (some .int) :: wRa
def FR_X9_wash (σ : RS) (p1 : Int32) : Option (Int32 × RS) := ((FR_X9_boltAt σ p1).bind fun q_2 => (oc q_2 (some ((-1 : Int32), σ)) (fun c_7 => (gd (isK σ c_7 0) (if (pI σ c_7 1) ≤ 0 then (some ((pI σ c_7 1), σ)) else (some ((pI (wi σ c_7 1 ((pI σ c_7 1) - (1 : Int32))) c_7 1), (wi σ c_7 1 ((pI σ c_7 1) - (1 : Int32))))))))))
set_option maxHeartbeats 4000000 in
set_option maxRecDepth 100000 in
theorem cR_X9_wash (l : Launch) (D : va_G) (cs : Nat → ClassId) (ad tb : Nat → Nat) (A : Nat → Prop) (σ : RS) (p1 : Int32) (q : (Int32 × RS)) (hF : FR_X9_wash σ p1 = some q) : Met l yX9_wash wsR_X9_wash { frames := 2, cells := 0, slots := 0, locals := 43 } (va_Pc [.ref (ad 1009), .int p1] (preQ D cs ad tb A σ)) (va_Qi (fun x u => x = q.1 ∧ u = q.2) (posQ D cs ad A) A) 0 0 A := by
  refine Met.ofW (cc := cX9_wash) (maxL := 3) (ret := (some .int)) (by decide) rfl ?_
  intro p e s m args below meth c s₁ B hml hv
  obtain ⟨rfl, hP, hK, hD, hZ⟩ := hv
  have hx := B.exec
  have hb := B.bytes
  have hr := B.returns
  have hts : ∀ w ∈ (Cond.code yX9_wash cX9_wash 3 (some .int) :: wRa), w.before ([.ref (ad 1009), .int p1] : List Value).toArray s = true := atoms_spec (ws := wsR_X9_wash) B.pre
  have hin : ∀ w ∈ wRa, w ∈ (Cond.code yX9_wash cX9_wash 3 (some .int) :: wRa) := fun w hw => List.mem_cons_of_mem _ hw
  have hown : s.vm.findClass RX9 = some m.cls := findClass_of_methodNamed B.named
  have hlocks := B.notSynchronized
  have hS : va_S A s.heap s.heap [] := va_S.rf
  have hl := lv_entry ([.ref (ad 1009), .int p1]) (n := 3) (Nat.le_of_ble_eq_true rfl)
  rw [lg_entry_eq]
  generalize (lg_sl ([.ref (ad 1009), .int p1]) ++ List.replicate (3 - (lg_sl ([.ref (ad 1009), .int p1])).length) Slot.unset).toArray = ls at hl ⊢
  have hl : lv_has ls 3 [(0, .ref (ad 1009)), (1, .int p1)] := hl
  unfold FR_X9_wash at hF
  refine lv_aload_n hx hb dX9_wash_0 rfl (lv_at hl 0 rfl) ?_
  refine lv_iload_n hx hb dX9_wash_1 rfl (lv_at hl 1 rfl) ?_
  obtain ⟨q_2, e_2, hF⟩ := ob_bd hF
  refine cqR (As := [.int p1]) (rest := []) ⟨hx, hb, hml, hown, hts⟩ (cR_X9_boltAt l D cs ad tb A σ p1 _ e_2) (cw_X9_X9_boltAt_122 hts ⟨Nat.le_of_ble_eq_true rfl, Nat.le_of_ble_eq_true rfl⟩) ⟨Nat.zero_le _, Nat.zero_le _⟩ (rcF hK hP (ci := 9) rfl (ob_9 _ _ _)) hK hP hD hS hZ rfl hl.1 rfl (lv_room (Nat.le_of_ble_eq_true rfl)) dX9_wash_2 ?_
  refine asQ_n (i := 2) (lv' := [(2, va_rf q_2), (0, .ref (ad 1009)), (1, .int p1)]) hx hb dX9_wash_5 rfl hl (by decide) rfl (fun ls hl => ?_)
  refine alQ_n hx hb dX9_wash_6 rfl (lv_at hl 0 rfl) ?_
  refine nnQ (tgt := 12) hx hb dX9_wash_7 (by decide) (fun c_7 e_7 => ?_) (fun e_7 => ?_)
  · have hF := oc_s e_7 hF
    refine alQ_n hx hb dX9_wash_12 rfl (lv_at hl 0 rfl) ?_
    refine rfS e_7 ?_
    obtain ⟨k_13_1, hF⟩ := ob_gd hF
    refine gP hx hb hts hin wo_0 rfl hown hK hP k_13_1 (pf_0 (isK_K k_13_1)) 1 (.int (pI σ c_7 1)) (by decide) rf_X9_127 rfl dX9_wash_13 ?_
    refine lv_if_le (tgt := 29) hx hb dX9_wash_16 (by decide) (fun c_16 => ?_) (fun c_16 => ?_)
    · have hF := ob_t c_16 hF
      refine alQ_n hx hb dX9_wash_29 rfl (lv_at hl 0 rfl) ?_
      refine rfS e_7 ?_
      refine gP hx hb hts hin wo_0 rfl hown hK hP k_13_1 (pf_0 (isK_K k_13_1)) 1 (.int (pI σ c_7 1)) (by decide) rf_X9_127 rfl dX9_wash_30 ?_
      exact rwR hx hb hr hlocks hF hK hP hD hS dX9_wash_33
    · have hF := ob_f c_16 hF
      refine alQ_n hx hb dX9_wash_19 rfl (lv_at hl 0 rfl) ?_
      refine rfS e_7 ?_
      refine lv_dup hx hb dX9_wash_20 rfl ?_
      refine gP hx hb hts hin wo_0 rfl hown hK hP k_13_1 (pf_0 (isK_K k_13_1)) 1 (.int (pI σ c_7 1)) (by decide) rf_X9_127 rfl dX9_wash_21 ?_
      refine lv_iconst (v := (1 : Int32)) hx hb dX9_wash_24 (by decide) ?_
      refine lv_isub hx hb dX9_wash_25 ?_
      refine pP (ρ2 := (wi σ c_7 1 ((pI σ c_7 1) - (1 : Int32)))) (ty := .int) hx hb hts hin wo_0 rfl tyX0 tyX0_ok nmX0 hown hK hP hD hS k_13_1 (pf_0 (isK_K k_13_1)) 1 (by decide) rf_X9_127 rfl (by decide +kernel) rfl rfl (Nat.le_of_ble_eq_true rfl) (xR_wi _ _ _ _ _ _) (pL_wi _ _ _ _) (pw_0_1 (ρ := σ) (isK_K k_13_1) _) dX9_wash_26 (fun H locs hP hD hS => ?_)
      refine alQ_n hx hb dX9_wash_29 rfl (lv_at hl 0 rfl) ?_
      refine rfS e_7 ?_
      refine gP hx hb hts hin wo_0 rfl hown hK hP (isK_wi k_13_1) (pf_0 (isK_K (isK_wi k_13_1))) 1 (.int (pI (wi σ c_7 1 ((pI σ c_7 1) - (1 : Int32))) c_7 1)) (by decide) rf_X9_127 rfl dX9_wash_30 ?_
      exact rwR hx hb hr hlocks hF hK hP hD hS dX9_wash_33
  · have hF := oc_n e_7 hF
    refine lv_iconst (v := (-1 : Int32)) hx hb dX9_wash_10 (by decide) ?_
    exact rwR hx hb hr hlocks hF hK hP hD hS dX9_wash_11
def wsR_X9_dye : List Cond := Cond.code yX9_dye cX9_dye 4 (some .int) :: wRa
theorem cw_X9_X0_darken_137 {R : Room} {s : State} {args : Array Value} {y : MethodName} {c : ByteArray} {n : Nat} {r : Option FieldType} (hts : ∀ w ∈ (Cond.code y c n r :: wRa), w.before args s = true) (hR : 0 + 1 ≤ R.frames ∧ 8 + (4 + 11) + 0 ≤ R.locals) : CallW R s args RX9 RX0 137 yX0_darken cX0_darken 4 (some .int) wsR_X0_darken { frames := 0, cells := 0, slots := 0, locals := 0 } 0 0 1 := cwV 1 hts (goodV wRa_good rm_X9_137 ri_X0_darken rs_X0_darken rn_X0 rc_X0_darken) rfl rfl rfl (by decide +kernel) hR
def FR_X9_dye (σ : RS) (p1 : Int32) (p2 : Int32) : Option (Int32 × RS) := ((FR_X9_boltAt σ p1).bind fun q_2 => (oc q_2 (some ((-1 : Int32), σ)) (fun c_7 => ((FR_X9_within p2 (0 : Int32) (9 : Int32)).bind fun q_16 => (if q_16 = 0 then (some ((-2 : Int32), σ)) else (gd (isK σ c_7 0) (if (pI σ c_7 1) < p2 then ((FR_X0_darken σ c_7 p2).bind fun q_38 => (some (q_38.1, q_38.2))) else (some ((-3 : Int32), σ)))))))))
set_option maxHeartbeats 4000000 in
set_option maxRecDepth 100000 in
theorem cR_X9_dye (l : Launch) (D : va_G) (cs : Nat → ClassId) (ad tb : Nat → Nat) (A : Nat → Prop) (σ : RS) (p1 : Int32) (p2 : Int32) (q : (Int32 × RS)) (hF : FR_X9_dye σ p1 p2 = some q) : Met l yX9_dye wsR_X9_dye { frames := 2, cells := 0, slots := 0, locals := 43 } (va_Pc [.ref (ad 1009), .int p1, .int p2] (preQ D cs ad tb A σ)) (va_Qi (fun x u => x = q.1 ∧ u = q.2) (posQ D cs ad A) A) 0 0 A := by
  refine Met.ofW (cc := cX9_dye) (maxL := 4) (ret := (some .int)) (by decide) rfl ?_
  intro p e s m args below meth c s₁ B hml hv
  obtain ⟨rfl, hP, hK, hD, hZ⟩ := hv
  have hx := B.exec
  have hb := B.bytes
  have hr := B.returns
  have hts : ∀ w ∈ (Cond.code yX9_dye cX9_dye 4 (some .int) :: wRa), w.before ([.ref (ad 1009), .int p1, .int p2] : List Value).toArray s = true := atoms_spec (ws := wsR_X9_dye) B.pre
  have hin : ∀ w ∈ wRa, w ∈ (Cond.code yX9_dye cX9_dye 4 (some .int) :: wRa) := fun w hw => List.mem_cons_of_mem _ hw
  have hown : s.vm.findClass RX9 = some m.cls := findClass_of_methodNamed B.named
  have hlocks := B.notSynchronized
  have hS : va_S A s.heap s.heap [] := va_S.rf
  have hl := lv_entry ([.ref (ad 1009), .int p1, .int p2]) (n := 4) (Nat.le_of_ble_eq_true rfl)
  rw [lg_entry_eq]
  generalize (lg_sl ([.ref (ad 1009), .int p1, .int p2]) ++ List.replicate (4 - (lg_sl ([.ref (ad 1009), .int p1, .int p2])).length) Slot.unset).toArray = ls at hl ⊢
  have hl : lv_has ls 4 [(0, .ref (ad 1009)), (1, .int p1), (2, .int p2)] := hl
  unfold FR_X9_dye at hF
  refine lv_aload_n hx hb dX9_dye_0 rfl (lv_at hl 0 rfl) ?_
  refine lv_iload_n hx hb dX9_dye_1 rfl (lv_at hl 1 rfl) ?_
  obtain ⟨q_2, e_2, hF⟩ := ob_bd hF
  refine cqR (As := [.int p1]) (rest := []) ⟨hx, hb, hml, hown, hts⟩ (cR_X9_boltAt l D cs ad tb A σ p1 _ e_2) (cw_X9_X9_boltAt_122 hts ⟨Nat.le_of_ble_eq_true rfl, Nat.le_of_ble_eq_true rfl⟩) ⟨Nat.zero_le _, Nat.zero_le _⟩ (rcF hK hP (ci := 9) rfl (ob_9 _ _ _)) hK hP hD hS hZ rfl hl.1 rfl (lv_room (Nat.le_of_ble_eq_true rfl)) dX9_dye_2 ?_
  refine asQ_n (i := 3) (lv' := [(3, va_rf q_2), (0, .ref (ad 1009)), (1, .int p1), (2, .int p2)]) hx hb dX9_dye_5 rfl hl (by decide) rfl (fun ls hl => ?_)
  refine alQ_n hx hb dX9_dye_6 rfl (lv_at hl 0 rfl) ?_
  refine nnQ (tgt := 12) hx hb dX9_dye_7 (by decide) (fun c_7 e_7 => ?_) (fun e_7 => ?_)
  · have hF := oc_s e_7 hF
    refine lv_iload_n hx hb dX9_dye_12 rfl (lv_at hl 3 rfl) ?_
    refine lv_iconst (v := (0 : Int32)) hx hb dX9_dye_13 (by decide) ?_
    refine lv_bipush (v := (9 : Int32)) hx hb dX9_dye_14 (by decide) ?_
    obtain ⟨q_16, e_16, hF⟩ := ob_bd hF
    refine csR (As := [.int p2, .int (0 : Int32), .int (9 : Int32)]) (rest := []) ⟨hx, hb, hml, hown, hts⟩ (cR_X9_within l p2 (0 : Int32) (9 : Int32) _ e_16) (cw_X9_X9_within_88 hts ⟨Nat.le_of_ble_eq_true rfl, Nat.le_of_ble_eq_true rfl⟩) ⟨Nat.zero_le _, Nat.zero_le _⟩ rfl hl.1 rfl (lv_room (Nat.le_of_ble_eq_true rfl)) dX9_dye_16 ?_
    refine lv_if_ne (tgt := 25) hx hb dX9_dye_19 (by decide) (fun c_19 => ?_) (fun c_19 => ?_)
    · have hF := ob_f c_19 hF
      refine lv_iload_n hx hb dX9_dye_25 rfl (lv_at hl 3 rfl) ?_
      refine alQ_n hx hb dX9_dye_26 rfl (lv_at hl 0 rfl) ?_
      refine rfS e_7 ?_
      obtain ⟨k_27_1, hF⟩ := ob_gd hF
      refine gP hx hb hts hin wo_0 rfl hown hK hP k_27_1 (pf_0 (isK_K k_27_1)) 1 (.int (pI σ c_7 1)) (by decide) rf_X9_127 rfl dX9_dye_27 ?_
      refine lv_icmp_gt (tgt := 36) hx hb dX9_dye_30 (by decide) (fun c_30 => ?_) (fun c_30 => ?_)
      · have hF := ob_t c_30 hF
        refine alQ_n hx hb dX9_dye_36 rfl (lv_at hl 0 rfl) ?_
        refine rfS e_7 ?_
        refine lv_iload_n hx hb dX9_dye_37 rfl (lv_at hl 3 rfl) ?_
        obtain ⟨q_38, e_38, hF⟩ := ob_bd hF
        refine cwR (As := [.int p2]) (rest := []) ⟨hx, hb, hml, hown, hts⟩ (cR_X0_darken l D cs ad tb A σ c_7 p2 _ e_38) (cw_X9_X0_darken_137 hts ⟨Nat.le_of_ble_eq_true rfl, Nat.le_of_ble_eq_true rfl⟩) ⟨Nat.zero_le _, Nat.zero_le _⟩ (rcP hK hP (ci := 0) rfl k_27_1 (pf_0 (isK_K k_27_1))) hK hP hD hS hZ rfl hl.1 rfl (lv_room (Nat.le_of_ble_eq_true rfl)) dX9_dye_38 (fun H locs hP hD hS => ?_)
        exact rwR hx hb hr hlocks hF hK hP hD hS dX9_dye_41
      · have hF := ob_f c_30 hF
        refine lv_bipush (v := (-3 : Int32)) hx hb dX9_dye_33 (by decide) ?_
        exact rwR hx hb hr hlocks hF hK hP hD hS dX9_dye_35
    · have hF := ob_t c_19 hF
      refine lv_bipush (v := (-2 : Int32)) hx hb dX9_dye_22 (by decide) ?_
      exact rwR hx hb hr hlocks hF hK hP hD hS dX9_dye_24
  · have hF := oc_n e_7 hF
    refine lv_iconst (v := (-1 : Int32)) hx hb dX9_dye_10 (by decide) ?_
    exact rwR hx hb hr hlocks hF hK hP hD hS dX9_dye_11
def wsR_X9_measure : List Cond := Cond.code yX9_measure cX9_measure 4 (some .int) :: wRa
def FR_X9_measure (σ : RS) (p1 : Int32) (p2 : Int32) (p3 : Int32) : Option (Int32 × RS) := ((FR_X9_within p1 (1 : Int32) (30 : Int32)).bind fun q_4 => (if q_4 = 0 then (some ((-2 : Int32), σ)) else ((FR_X9_within p2 (1 : Int32) (30 : Int32)).bind fun q_14 => (if q_14 = 0 then (some ((-2 : Int32), σ)) else ((FR_X9_within p3 (1 : Int32) (30 : Int32)).bind fun q_24 => (if q_24 = 0 then (some ((-2 : Int32), σ)) else ((rV σ 906).bind fun r_34 => (gd (isK σ r_34 11) (gd (inb (0 : Int32) (pN σ r_34)) ((rV (wa σ r_34 (0 : Int32) p1) 906).bind fun r_41 => (gd (isK (wa σ r_34 (0 : Int32) p1) r_41 11) (gd (inb (1 : Int32) (pN (wa σ r_34 (0 : Int32) p1) r_41)) ((rV (wa (wa σ r_34 (0 : Int32) p1) r_41 (1 : Int32) p1) 906).bind fun r_48 => (gd (isK (wa (wa σ r_34 (0 : Int32) p1) r_41 (1 : Int32) p1) r_48 11) (gd (inb (4 : Int32) (pN (wa (wa σ r_34 (0 : Int32) p1) r_41 (1 : Int32) p1) r_48)) ((rV (wa (wa (wa σ r_34 (0 : Int32) p1) r_41 (1 : Int32) p1) r_48 (4 : Int32) p2) 906).bind fun r_55 => (gd (isK (wa (wa (wa σ r_34 (0 : Int32) p1) r_41 (1 : Int32) p1) r_48 (4 : Int32) p2) r_55 11) (gd (inb (5 : Int32) (pN (wa (wa (wa σ r_34 (0 : Int32) p1) r_41 (1 : Int32) p1) r_48 (4 : Int32) p2) r_55)) (some ((0 : Int32), (wa (wa (wa (wa σ r_34 (0 : Int32) p1) r_41 (1 : Int32) p1) r_48 (4 : Int32) p2) r_55 (5 : Int32) p3)))))))))))))))))))))
set_option maxHeartbeats 4000000 in
set_option maxRecDepth 100000 in
theorem cR_X9_measure (l : Launch) (D : va_G) (cs : Nat → ClassId) (ad tb : Nat → Nat) (A : Nat → Prop) (σ : RS) (p1 : Int32) (p2 : Int32) (p3 : Int32) (q : (Int32 × RS)) (hF : FR_X9_measure σ p1 p2 p3 = some q) : Met l yX9_measure wsR_X9_measure { frames := 1, cells := 0, slots := 0, locals := 22 } (va_Pc [.ref (ad 1009), .int p1, .int p2, .int p3] (preQ D cs ad tb A σ)) (va_Qi (fun x u => x = q.1 ∧ u = q.2) (posQ D cs ad A) A) 0 0 A := by
  refine Met.ofW (cc := cX9_measure) (maxL := 4) (ret := (some .int)) (by decide) rfl ?_
  intro p e s m args below meth c s₁ B hml hv
  obtain ⟨rfl, hP, hK, hD, hZ⟩ := hv
  have hx := B.exec
  have hb := B.bytes
  have hr := B.returns
  have hts : ∀ w ∈ (Cond.code yX9_measure cX9_measure 4 (some .int) :: wRa), w.before ([.ref (ad 1009), .int p1, .int p2, .int p3] : List Value).toArray s = true := atoms_spec (ws := wsR_X9_measure) B.pre
  have hin : ∀ w ∈ wRa, w ∈ (Cond.code yX9_measure cX9_measure 4 (some .int) :: wRa) := fun w hw => List.mem_cons_of_mem _ hw
  have hown : s.vm.findClass RX9 = some m.cls := findClass_of_methodNamed B.named
  have hlocks := B.notSynchronized
  have hS : va_S A s.heap s.heap [] := va_S.rf
  have hl := lv_entry ([.ref (ad 1009), .int p1, .int p2, .int p3]) (n := 4) (Nat.le_of_ble_eq_true rfl)
  rw [lg_entry_eq]
  generalize (lg_sl ([.ref (ad 1009), .int p1, .int p2, .int p3]) ++ List.replicate (4 - (lg_sl ([.ref (ad 1009), .int p1, .int p2, .int p3])).length) Slot.unset).toArray = ls at hl ⊢
  have hl : lv_has ls 4 [(0, .ref (ad 1009)), (1, .int p1), (2, .int p2), (3, .int p3)] := hl
  unfold FR_X9_measure at hF
  refine lv_iload_n hx hb dX9_measure_0 rfl (lv_at hl 1 rfl) ?_
  refine lv_iconst (v := (1 : Int32)) hx hb dX9_measure_1 (by decide) ?_
  refine lv_bipush (v := (30 : Int32)) hx hb dX9_measure_2 (by decide) ?_
  obtain ⟨q_4, e_4, hF⟩ := ob_bd hF
  refine csR (As := [.int p1, .int (1 : Int32), .int (30 : Int32)]) (rest := []) ⟨hx, hb, hml, hown, hts⟩ (cR_X9_within l p1 (1 : Int32) (30 : Int32) _ e_4) (cw_X9_X9_within_88 hts ⟨Nat.le_of_ble_eq_true rfl, Nat.le_of_ble_eq_true rfl⟩) ⟨Nat.zero_le _, Nat.zero_le _⟩ rfl hl.1 rfl (lv_room (Nat.le_of_ble_eq_true rfl)) dX9_measure_4 ?_
  refine lv_if_eq (tgt := 30) hx hb dX9_measure_7 (by decide) (fun c_7 => ?_) (fun c_7 => ?_)
  · have hF := ob_t c_7 hF
    refine lv_bipush (v := (-2 : Int32)) hx hb dX9_measure_30 (by decide) ?_
    exact rwR hx hb hr hlocks hF hK hP hD hS dX9_measure_32
  · have hF := ob_f c_7 hF
    refine lv_iload_n hx hb dX9_measure_10 rfl (lv_at hl 2 rfl) ?_
    refine lv_iconst (v := (1 : Int32)) hx hb dX9_measure_11 (by decide) ?_
    refine lv_bipush (v := (30 : Int32)) hx hb dX9_measure_12 (by decide) ?_
    obtain ⟨q_14, e_14, hF⟩ := ob_bd hF
    refine csR (As := [.int p2, .int (1 : Int32), .int (30 : Int32)]) (rest := []) ⟨hx, hb, hml, hown, hts⟩ (cR_X9_within l p2 (1 : Int32) (30 : Int32) _ e_14) (cw_X9_X9_within_88 hts ⟨Nat.le_of_ble_eq_true rfl, Nat.le_of_ble_eq_true rfl⟩) ⟨Nat.zero_le _, Nat.zero_le _⟩ rfl hl.1 rfl (lv_room (Nat.le_of_ble_eq_true rfl)) dX9_measure_14 ?_
    refine lv_if_eq (tgt := 30) hx hb dX9_measure_17 (by decide) (fun c_17 => ?_) (fun c_17 => ?_)
    · have hF := ob_t c_17 hF
      refine lv_bipush (v := (-2 : Int32)) hx hb dX9_measure_30 (by decide) ?_
      exact rwR hx hb hr hlocks hF hK hP hD hS dX9_measure_32
    · have hF := ob_f c_17 hF
      refine lv_iload_n hx hb dX9_measure_20 rfl (lv_at hl 3 rfl) ?_
      refine lv_iconst (v := (1 : Int32)) hx hb dX9_measure_21 (by decide) ?_
      refine lv_bipush (v := (30 : Int32)) hx hb dX9_measure_22 (by decide) ?_
      obtain ⟨q_24, e_24, hF⟩ := ob_bd hF
      refine csR (As := [.int p3, .int (1 : Int32), .int (30 : Int32)]) (rest := []) ⟨hx, hb, hml, hown, hts⟩ (cR_X9_within l p3 (1 : Int32) (30 : Int32) _ e_24) (cw_X9_X9_within_88 hts ⟨Nat.le_of_ble_eq_true rfl, Nat.le_of_ble_eq_true rfl⟩) ⟨Nat.zero_le _, Nat.zero_le _⟩ rfl hl.1 rfl (lv_room (Nat.le_of_ble_eq_true rfl)) dX9_measure_24 ?_
      refine lv_if_ne (tgt := 33) hx hb dX9_measure_27 (by decide) (fun c_27 => ?_) (fun c_27 => ?_)
      · have hF := ob_f c_27 hF
        refine lv_aload_n hx hb dX9_measure_33 rfl (lv_at hl 0 rfl) ?_
        refine gF hx hb hts hin wo_9 rfl hown hK hP (ob_9 _ _ _) 6 (va_rf (rV σ 906)) (by decide) rf_X9_35 rfl dX9_measure_34 ?_
        obtain ⟨r_34, o_34, hF⟩ := ob_bd hF
        refine rfS o_34 ?_
        refine lv_iconst (v := (0 : Int32)) hx hb dX9_measure_37 (by decide) ?_
        refine lv_iload_n hx hb dX9_measure_38 rfl (lv_at hl 1 rfl) ?_
        obtain ⟨k_39_1, hF⟩ := ob_gd hF
        obtain ⟨g_39, hF⟩ := ob_gd hF
        refine stP hx hb hK hP hD hS k_39_1 g_39 dX9_measure_39 (fun H locs hP hD hS => ?_)
        refine lv_aload_n hx hb dX9_measure_40 rfl (lv_at hl 0 rfl) ?_
        refine gF hx hb hts hin wo_9 rfl hown hK hP (ob_9 _ _ _) 6 (va_rf (rV (wa σ r_34 (0 : Int32) p1) 906)) (by decide) rf_X9_35 rfl dX9_measure_41 ?_
        obtain ⟨r_41, o_41, hF⟩ := ob_bd hF
        refine rfS o_41 ?_
        refine lv_iconst (v := (1 : Int32)) hx hb dX9_measure_44 (by decide) ?_
        refine lv_iload_n hx hb dX9_measure_45 rfl (lv_at hl 1 rfl) ?_
        obtain ⟨k_46_2, hF⟩ := ob_gd hF
        obtain ⟨g_46, hF⟩ := ob_gd hF
        refine stP hx hb hK hP hD hS k_46_2 g_46 dX9_measure_46 (fun H locs hP hD hS => ?_)
        refine lv_aload_n hx hb dX9_measure_47 rfl (lv_at hl 0 rfl) ?_
        refine gF hx hb hts hin wo_9 rfl hown hK hP (ob_9 _ _ _) 6 (va_rf (rV (wa (wa σ r_34 (0 : Int32) p1) r_41 (1 : Int32) p1) 906)) (by decide) rf_X9_35 rfl dX9_measure_48 ?_
        obtain ⟨r_48, o_48, hF⟩ := ob_bd hF
        refine rfS o_48 ?_
        refine lv_iconst (v := (4 : Int32)) hx hb dX9_measure_51 (by decide) ?_
        refine lv_iload_n hx hb dX9_measure_52 rfl (lv_at hl 2 rfl) ?_
        obtain ⟨k_53_3, hF⟩ := ob_gd hF
        obtain ⟨g_53, hF⟩ := ob_gd hF
        refine stP hx hb hK hP hD hS k_53_3 g_53 dX9_measure_53 (fun H locs hP hD hS => ?_)
        refine lv_aload_n hx hb dX9_measure_54 rfl (lv_at hl 0 rfl) ?_
        refine gF hx hb hts hin wo_9 rfl hown hK hP (ob_9 _ _ _) 6 (va_rf (rV (wa (wa (wa σ r_34 (0 : Int32) p1) r_41 (1 : Int32) p1) r_48 (4 : Int32) p2) 906)) (by decide) rf_X9_35 rfl dX9_measure_55 ?_
        obtain ⟨r_55, o_55, hF⟩ := ob_bd hF
        refine rfS o_55 ?_
        refine lv_iconst (v := (5 : Int32)) hx hb dX9_measure_58 (by decide) ?_
        refine lv_iload_n hx hb dX9_measure_59 rfl (lv_at hl 3 rfl) ?_
        obtain ⟨k_60_4, hF⟩ := ob_gd hF
        obtain ⟨g_60, hF⟩ := ob_gd hF
        refine stP hx hb hK hP hD hS k_60_4 g_60 dX9_measure_60 (fun H locs hP hD hS => ?_)
        refine lv_iconst (v := (0 : Int32)) hx hb dX9_measure_61 (by decide) ?_
        exact rwR hx hb hr hlocks hF hK hP hD hS dX9_measure_62
      · have hF := ob_t c_27 hF
        refine lv_bipush (v := (-2 : Int32)) hx hb dX9_measure_30 (by decide) ?_
        exact rwR hx hb hr hlocks hF hK hP hD hS dX9_measure_32
def wsR_X9_set : List Cond := Cond.code yX9_set cX9_set 4 (some .int) :: wRa
def FR_X9_set_39 (x1_39 : Int32) (x2_39 : Int32) (t0_39 : Int32) (σ_39 : RS) : Option (Int32 × RS) := (if x1_39 = 0 then (some (t0_39, (ri σ_39 907 x2_39))) else (some (t0_39, (ri σ_39 908 x2_39))))
def FR_X9_set (σ : RS) (p1 : Int32) (p2 : Int32) : Option (Int32 × RS) := ((FR_X9_within p1 (0 : Int32) (1 : Int32)).bind fun q_3 => (if q_3 = 0 then (some ((-1 : Int32), σ)) else ((FR_X9_within p2 (0 : Int32) (9 : Int32)).bind fun q_15 => (if q_15 = 0 then (some ((-2 : Int32), σ)) else (if p1 = 0 then (FR_X9_set_39 p1 p2 (rI σ 907) σ) else (FR_X9_set_39 p1 p2 (rI σ 908) σ))))))
set_option maxHeartbeats 4000000 in
set_option maxRecDepth 100000 in
theorem cR_X9_set (l : Launch) (D : va_G) (cs : Nat → ClassId) (ad tb : Nat → Nat) (A : Nat → Prop) (σ : RS) (p1 : Int32) (p2 : Int32) (q : (Int32 × RS)) (hF : FR_X9_set σ p1 p2 = some q) : Met l yX9_set wsR_X9_set { frames := 1, cells := 0, slots := 0, locals := 22 } (va_Pc [.ref (ad 1009), .int p1, .int p2] (preQ D cs ad tb A σ)) (va_Qi (fun x u => x = q.1 ∧ u = q.2) (posQ D cs ad A) A) 0 0 A := by
  refine Met.ofW (cc := cX9_set) (maxL := 4) (ret := (some .int)) (by decide) rfl ?_
  intro p e s m args below meth c s₁ B hml hv
  obtain ⟨rfl, hP, hK, hD, hZ⟩ := hv
  have hx := B.exec
  have hb := B.bytes
  have hr := B.returns
  have hts : ∀ w ∈ (Cond.code yX9_set cX9_set 4 (some .int) :: wRa), w.before ([.ref (ad 1009), .int p1, .int p2] : List Value).toArray s = true := atoms_spec (ws := wsR_X9_set) B.pre
  have hin : ∀ w ∈ wRa, w ∈ (Cond.code yX9_set cX9_set 4 (some .int) :: wRa) := fun w hw => List.mem_cons_of_mem _ hw
  have hown : s.vm.findClass RX9 = some m.cls := findClass_of_methodNamed B.named
  have hlocks := B.notSynchronized
  have hS : va_S A s.heap s.heap [] := va_S.rf
  have b_39 : ∀ (x1_39 : Int32) (x2_39 : Int32) (t0_39 : Int32) (σ_39 : RS) (H : Heap) (locs : List Loc) (ls : Array Slot), FR_X9_set_39 x1_39 x2_39 t0_39 σ_39 = some q → va_P D vwCl (wR cs ad σ_39) H → va_D A (wR cs ad σ_39) → va_S A s.heap H locs → lv_has ls 4 [(0, .ref (ad 1009)), (1, .int x1_39), (2, .int x2_39)] → W p l e (headSpec wsR_X9_set { frames := 1, cells := 0, slots := 0, locals := 22 }).room s m ([.ref (ad 1009), .int p1, .int p2] : List Value).toArray below meth c H locs 0 0 (MQ below (va_Qi (fun x u => x = q.1 ∧ u = q.2) (posQ D cs ad A) A) ([.ref (ad 1009), .int p1, .int p2] : List Value).toArray s 0 0 A) (F0 m 39 ls [.int t0_39]) := by
    intro x1_39 x2_39 t0_39 σ_39 H locs ls hF hP hD hS hl
    unfold FR_X9_set_39 at hF
    refine lv_istore_n (i := 3) (lv' := [(3, .int t0_39), (0, .ref (ad 1009)), (1, .int x1_39), (2, .int x2_39)]) hx hb dX9_set_39 rfl hl (by decide) rfl (fun ls hl => ?_)
    refine lv_iload_n hx hb dX9_set_40 rfl (lv_at hl 2 rfl) ?_
    refine lv_if_ne (tgt := 52) hx hb dX9_set_41 (by decide) (fun c_41 => ?_) (fun c_41 => ?_)
    · have hF := ob_f c_41 hF
      refine lv_aload_n hx hb dX9_set_52 rfl (lv_at hl 1 rfl) ?_
      refine lv_iload_n hx hb dX9_set_53 rfl (lv_at hl 3 rfl) ?_
      refine pF (ty := .int) hx hb hts hin wo_9 rfl tyX9 tyX9_ok nmX9 hown hK hP hD hS (ob_9 _ _ _) 8 (by decide) rf_X9_43 rfl (by decide +kernel) rfl rfl (Nat.le_of_ble_eq_true rfl) (rp_908 _ _ _ _) dX9_set_54 (fun H locs hP hD hS => ?_)
      refine lv_iload_n hx hb dX9_set_57 rfl (lv_at hl 0 rfl) ?_
      exact rwR hx hb hr hlocks hF hK hP hD hS dX9_set_58
    · have hF := ob_t c_41 hF
      refine lv_aload_n hx hb dX9_set_44 rfl (lv_at hl 1 rfl) ?_
      refine lv_iload_n hx hb dX9_set_45 rfl (lv_at hl 3 rfl) ?_
      refine pF (ty := .int) hx hb hts hin wo_9 rfl tyX9 tyX9_ok nmX9 hown hK hP hD hS (ob_9 _ _ _) 7 (by decide) rf_X9_39 rfl (by decide +kernel) rfl rfl (Nat.le_of_ble_eq_true rfl) (rp_907 _ _ _ _) dX9_set_46 (fun H locs hP hD hS => ?_)
      refine lv_goto (tgt := 57) hx hb dX9_set_49 (by decide) ?_
      refine lv_iload_n hx hb dX9_set_57 rfl (lv_at hl 0 rfl) ?_
      exact rwR hx hb hr hlocks hF hK hP hD hS dX9_set_58
  have hl := lv_entry ([.ref (ad 1009), .int p1, .int p2]) (n := 4) (Nat.le_of_ble_eq_true rfl)
  rw [lg_entry_eq]
  generalize (lg_sl ([.ref (ad 1009), .int p1, .int p2]) ++ List.replicate (4 - (lg_sl ([.ref (ad 1009), .int p1, .int p2])).length) Slot.unset).toArray = ls at hl ⊢
  have hl : lv_has ls 4 [(0, .ref (ad 1009)), (1, .int p1), (2, .int p2)] := hl
  unfold FR_X9_set at hF
  refine lv_iload_n hx hb dX9_set_0 rfl (lv_at hl 1 rfl) ?_
  refine lv_iconst (v := (0 : Int32)) hx hb dX9_set_1 (by decide) ?_
  refine lv_iconst (v := (1 : Int32)) hx hb dX9_set_2 (by decide) ?_
  obtain ⟨q_3, e_3, hF⟩ := ob_bd hF
  refine csR (As := [.int p1, .int (0 : Int32), .int (1 : Int32)]) (rest := []) ⟨hx, hb, hml, hown, hts⟩ (cR_X9_within l p1 (0 : Int32) (1 : Int32) _ e_3) (cw_X9_X9_within_88 hts ⟨Nat.le_of_ble_eq_true rfl, Nat.le_of_ble_eq_true rfl⟩) ⟨Nat.zero_le _, Nat.zero_le _⟩ rfl hl.1 rfl (lv_room (Nat.le_of_ble_eq_true rfl)) dX9_set_3 ?_
  refine lv_if_ne (tgt := 11) hx hb dX9_set_6 (by decide) (fun c_6 => ?_) (fun c_6 => ?_)
  · have hF := ob_f c_6 hF
    refine lv_iload_n hx hb dX9_set_11 rfl (lv_at hl 2 rfl) ?_
    refine lv_iconst (v := (0 : Int32)) hx hb dX9_set_12 (by decide) ?_
    refine lv_bipush (v := (9 : Int32)) hx hb dX9_set_13 (by decide) ?_
    obtain ⟨q_15, e_15, hF⟩ := ob_bd hF
    refine csR (As := [.int p2, .int (0 : Int32), .int (9 : Int32)]) (rest := []) ⟨hx, hb, hml, hown, hts⟩ (cR_X9_within l p2 (0 : Int32) (9 : Int32) _ e_15) (cw_X9_X9_within_88 hts ⟨Nat.le_of_ble_eq_true rfl, Nat.le_of_ble_eq_true rfl⟩) ⟨Nat.zero_le _, Nat.zero_le _⟩ rfl hl.1 rfl (lv_room (Nat.le_of_ble_eq_true rfl)) dX9_set_15 ?_
    refine lv_if_ne (tgt := 24) hx hb dX9_set_18 (by decide) (fun c_18 => ?_) (fun c_18 => ?_)
    · have hF := ob_f c_18 hF
      refine lv_iload_n hx hb dX9_set_24 rfl (lv_at hl 1 rfl) ?_
      refine lv_if_ne (tgt := 35) hx hb dX9_set_25 (by decide) (fun c_25 => ?_) (fun c_25 => ?_)
      · have hF := ob_f c_25 hF
        refine lv_aload_n hx hb dX9_set_35 rfl (lv_at hl 0 rfl) ?_
        refine gF hx hb hts hin wo_9 rfl hown hK hP (ob_9 _ _ _) 8 (.int (rI σ 908)) (by decide) rf_X9_43 rfl dX9_set_36 ?_
        exact b_39 p1 p2 (rI σ 908) σ _ _ _ hF hP hD hS hl
      · have hF := ob_t c_25 hF
        refine lv_aload_n hx hb dX9_set_28 rfl (lv_at hl 0 rfl) ?_
        refine gF hx hb hts hin wo_9 rfl hown hK hP (ob_9 _ _ _) 7 (.int (rI σ 907)) (by decide) rf_X9_39 rfl dX9_set_29 ?_
        refine lv_goto (tgt := 39) hx hb dX9_set_32 (by decide) ?_
        exact b_39 p1 p2 (rI σ 907) σ _ _ _ hF hP hD hS hl
    · have hF := ob_t c_18 hF
      refine lv_bipush (v := (-2 : Int32)) hx hb dX9_set_21 (by decide) ?_
      exact rwR hx hb hr hlocks hF hK hP hD hS dX9_set_23
  · have hF := ob_t c_6 hF
    refine lv_iconst (v := (-1 : Int32)) hx hb dX9_set_9 (by decide) ?_
    exact rwR hx hb hr hlocks hF hK hP hD hS dX9_set_10
def wsR_X9_fitSleeves : List Cond := Cond.code yX9_fitSleeves cX9_fitSleeves 3 (some .boolean) :: wRa
def FR_X9_fitSleeves (σ : RS) (p1 : Nat) : Option (Int32 × RS) := (gd (isK σ p1 0) ((pR σ p1 0).bind fun r_1 => (gd (isK σ r_1 11) ((rV σ 906).bind fun r_7 => (gd (isK σ r_7 11) (gd (inb (0 : Int32) (pN σ r_7)) (gd (inb (4 : Int32) (pN σ r_7)) (gd (inb (5 : Int32) (pN σ r_7)) (if ((((Int32.ofNat (pN σ r_1)) - ((2 : Int32) * (pA σ r_7 (0 : Int32).toNatClampNeg))) - (pA σ r_7 (4 : Int32).toNatClampNeg)) - (pA σ r_7 (5 : Int32).toNatClampNeg)) < (2 : Int32) then (some ((0 : Int32), σ)) else (if (((((Int32.ofNat (pN σ r_1)) - ((2 : Int32) * (pA σ r_7 (0 : Int32).toNatClampNeg))) - (pA σ r_7 (4 : Int32).toNatClampNeg)) - (pA σ r_7 (5 : Int32).toNatClampNeg)) - ((((Int32.ofNat (pN σ r_1)) - ((2 : Int32) * (pA σ r_7 (0 : Int32).toNatClampNeg))) - (pA σ r_7 (4 : Int32).toNatClampNeg)) - (pA σ r_7 (5 : Int32).toNatClampNeg)) / (2 : Int32) * (2 : Int32)) = 0 then (gd (inb (2 : Int32) (pN σ r_7)) ((rV (wa σ r_7 (2 : Int32) (((((Int32.ofNat (pN σ r_1)) - ((2 : Int32) * (pA σ r_7 (0 : Int32).toNatClampNeg))) - (pA σ r_7 (4 : Int32).toNatClampNeg)) - (pA σ r_7 (5 : Int32).toNatClampNeg)) / (2 : Int32))) 906).bind fun r_52 => (gd (isK (wa σ r_7 (2 : Int32) (((((Int32.ofNat (pN σ r_1)) - ((2 : Int32) * (pA σ r_7 (0 : Int32).toNatClampNeg))) - (pA σ r_7 (4 : Int32).toNatClampNeg)) - (pA σ r_7 (5 : Int32).toNatClampNeg)) / (2 : Int32))) r_52 11) (gd (inb (3 : Int32) (pN (wa σ r_7 (2 : Int32) (((((Int32.ofNat (pN σ r_1)) - ((2 : Int32) * (pA σ r_7 (0 : Int32).toNatClampNeg))) - (pA σ r_7 (4 : Int32).toNatClampNeg)) - (pA σ r_7 (5 : Int32).toNatClampNeg)) / (2 : Int32))) r_52)) (some ((1 : Int32), (wa (wa σ r_7 (2 : Int32) (((((Int32.ofNat (pN σ r_1)) - ((2 : Int32) * (pA σ r_7 (0 : Int32).toNatClampNeg))) - (pA σ r_7 (4 : Int32).toNatClampNeg)) - (pA σ r_7 (5 : Int32).toNatClampNeg)) / (2 : Int32))) r_52 (3 : Int32) (((((Int32.ofNat (pN σ r_1)) - ((2 : Int32) * (pA σ r_7 (0 : Int32).toNatClampNeg))) - (pA σ r_7 (4 : Int32).toNatClampNeg)) - (pA σ r_7 (5 : Int32).toNatClampNeg)) / (2 : Int32))))))))) else (some ((0 : Int32), σ))))))))))))
set_option maxHeartbeats 4000000 in
set_option maxRecDepth 100000 in
theorem cR_X9_fitSleeves (l : Launch) (D : va_G) (cs : Nat → ClassId) (ad tb : Nat → Nat) (A : Nat → Prop) (σ : RS) (p1 : Nat) (q : (Int32 × RS)) (hF : FR_X9_fitSleeves σ p1 = some q) : Met l yX9_fitSleeves wsR_X9_fitSleeves { frames := 0, cells := 0, slots := 0, locals := 0 } (va_Pc [.ref (ad 1009), .ref p1] (preQ D cs ad tb A σ)) (va_Qi (fun x u => x = q.1 ∧ u = q.2) (posQ D cs ad A) A) 0 0 A := by
  refine Met.ofW (cc := cX9_fitSleeves) (maxL := 3) (ret := (some .boolean)) (by decide) rfl ?_
  intro p e s m args below meth c s₁ B hml hv
  obtain ⟨rfl, hP, hK, hD, hZ⟩ := hv
  have hx := B.exec
  have hb := B.bytes
  have hr := B.returns
  have hts : ∀ w ∈ (Cond.code yX9_fitSleeves cX9_fitSleeves 3 (some .boolean) :: wRa), w.before ([.ref (ad 1009), .ref p1] : List Value).toArray s = true := atoms_spec (ws := wsR_X9_fitSleeves) B.pre
  have hin : ∀ w ∈ wRa, w ∈ (Cond.code yX9_fitSleeves cX9_fitSleeves 3 (some .boolean) :: wRa) := fun w hw => List.mem_cons_of_mem _ hw
  have hown : s.vm.findClass RX9 = some m.cls := findClass_of_methodNamed B.named
  have hlocks := B.notSynchronized
  have hS : va_S A s.heap s.heap [] := va_S.rf
  have hl := lv_entry ([.ref (ad 1009), .ref p1]) (n := 3) (Nat.le_of_ble_eq_true rfl)
  rw [lg_entry_eq]
  generalize (lg_sl ([.ref (ad 1009), .ref p1]) ++ List.replicate (3 - (lg_sl ([.ref (ad 1009), .ref p1])).length) Slot.unset).toArray = ls at hl ⊢
  have hl : lv_has ls 3 [(0, .ref (ad 1009)), (1, .ref p1)] := hl
  unfold FR_X9_fitSleeves at hF
  refine lv_aload_n hx hb dX9_fitSleeves_0 rfl (lv_at hl 1 rfl) ?_
  obtain ⟨k_1_1, hF⟩ := ob_gd hF
  refine gP hx hb hts hin wo_0 rfl hown hK hP k_1_1 (pf_0 (isK_K k_1_1)) 0 (va_rf (pR σ p1 0)) (by decide) rf_X9_126 rfl dX9_fitSleeves_1 ?_
  obtain ⟨r_1, o_1, hF⟩ := ob_bd hF
  refine rfS o_1 ?_
  obtain ⟨k_4_2, hF⟩ := ob_gd hF
  refine lnP (v := (Int32.ofNat (pN σ r_1))) hx hb hK hP k_4_2 rfl dX9_fitSleeves_4 ?_
  refine lv_iconst (v := (2 : Int32)) hx hb dX9_fitSleeves_5 (by decide) ?_
  refine lv_aload_n hx hb dX9_fitSleeves_6 rfl (lv_at hl 0 rfl) ?_
  refine gF hx hb hts hin wo_9 rfl hown hK hP (ob_9 _ _ _) 6 (va_rf (rV σ 906)) (by decide) rf_X9_35 rfl dX9_fitSleeves_7 ?_
  obtain ⟨r_7, o_7, hF⟩ := ob_bd hF
  refine rfS o_7 ?_
  refine lv_iconst (v := (0 : Int32)) hx hb dX9_fitSleeves_10 (by decide) ?_
  obtain ⟨k_11_3, hF⟩ := ob_gd hF
  obtain ⟨g_11, hF⟩ := ob_gd hF
  refine ldP hx hb hK hP k_11_3 (pA σ r_7 (0 : Int32).toNatClampNeg) g_11 rfl dX9_fitSleeves_11 ?_
  refine lv_imul hx hb dX9_fitSleeves_12 ?_
  refine lv_isub hx hb dX9_fitSleeves_13 ?_
  refine lv_aload_n hx hb dX9_fitSleeves_14 rfl (lv_at hl 0 rfl) ?_
  refine gF hx hb hts hin wo_9 rfl hown hK hP (ob_9 _ _ _) 6 (va_rf (rV σ 906)) (by decide) rf_X9_35 rfl dX9_fitSleeves_15 ?_
  refine rfS o_7 ?_
  refine lv_iconst (v := (4 : Int32)) hx hb dX9_fitSleeves_18 (by decide) ?_
  obtain ⟨g_19, hF⟩ := ob_gd hF
  refine ldP hx hb hK hP k_11_3 (pA σ r_7 (4 : Int32).toNatClampNeg) g_19 rfl dX9_fitSleeves_19 ?_
  refine lv_isub hx hb dX9_fitSleeves_20 ?_
  refine lv_aload_n hx hb dX9_fitSleeves_21 rfl (lv_at hl 0 rfl) ?_
  refine gF hx hb hts hin wo_9 rfl hown hK hP (ob_9 _ _ _) 6 (va_rf (rV σ 906)) (by decide) rf_X9_35 rfl dX9_fitSleeves_22 ?_
  refine rfS o_7 ?_
  refine lv_iconst (v := (5 : Int32)) hx hb dX9_fitSleeves_25 (by decide) ?_
  obtain ⟨g_26, hF⟩ := ob_gd hF
  refine ldP hx hb hK hP k_11_3 (pA σ r_7 (5 : Int32).toNatClampNeg) g_26 rfl dX9_fitSleeves_26 ?_
  refine lv_isub hx hb dX9_fitSleeves_27 ?_
  refine lv_istore_n (i := 2) (lv' := [(2, .int ((((Int32.ofNat (pN σ r_1)) - ((2 : Int32) * (pA σ r_7 (0 : Int32).toNatClampNeg))) - (pA σ r_7 (4 : Int32).toNatClampNeg)) - (pA σ r_7 (5 : Int32).toNatClampNeg))), (0, .ref (ad 1009)), (1, .ref p1)]) hx hb dX9_fitSleeves_28 rfl hl (by decide) rfl (fun ls hl => ?_)
  refine lv_iload_n hx hb dX9_fitSleeves_29 rfl (lv_at hl 0 rfl) ?_
  refine lv_iconst (v := (2 : Int32)) hx hb dX9_fitSleeves_30 (by decide) ?_
  refine lv_icmp_lt (tgt := 40) hx hb dX9_fitSleeves_31 (by decide) (fun c_31 => ?_) (fun c_31 => ?_)
  · have hF := ob_t c_31 hF
    refine lv_iconst (v := (0 : Int32)) hx hb dX9_fitSleeves_40 (by decide) ?_
    exact rxR hx hb hr hlocks rfl hF hK hP hD hS dX9_fitSleeves_41
  · have hF := ob_f c_31 hF
    refine lv_iload_n hx hb dX9_fitSleeves_34 rfl (lv_at hl 0 rfl) ?_
    refine lv_iconst (v := (2 : Int32)) hx hb dX9_fitSleeves_35 (by decide) ?_
    refine lv_irem hx hb dX9_fitSleeves_36 (by decide) ?_
    refine lv_if_eq (tgt := 42) hx hb dX9_fitSleeves_37 (by decide) (fun c_37 => ?_) (fun c_37 => ?_)
    · have hF := ob_t c_37 hF
      refine lv_aload_n hx hb dX9_fitSleeves_42 rfl (lv_at hl 1 rfl) ?_
      refine gF hx hb hts hin wo_9 rfl hown hK hP (ob_9 _ _ _) 6 (va_rf (rV σ 906)) (by decide) rf_X9_35 rfl dX9_fitSleeves_43 ?_
      refine rfS o_7 ?_
      refine lv_iconst (v := (2 : Int32)) hx hb dX9_fitSleeves_46 (by decide) ?_
      refine lv_iload_n hx hb dX9_fitSleeves_47 rfl (lv_at hl 0 rfl) ?_
      refine lv_iconst (v := (2 : Int32)) hx hb dX9_fitSleeves_48 (by decide) ?_
      refine lv_idiv hx hb dX9_fitSleeves_49 (by decide) ?_
      obtain ⟨g_50, hF⟩ := ob_gd hF
      refine stP hx hb hK hP hD hS k_11_3 g_50 dX9_fitSleeves_50 (fun H locs hP hD hS => ?_)
      refine lv_aload_n hx hb dX9_fitSleeves_51 rfl (lv_at hl 1 rfl) ?_
      refine gF hx hb hts hin wo_9 rfl hown hK hP (ob_9 _ _ _) 6 (va_rf (rV (wa σ r_7 (2 : Int32) (((((Int32.ofNat (pN σ r_1)) - ((2 : Int32) * (pA σ r_7 (0 : Int32).toNatClampNeg))) - (pA σ r_7 (4 : Int32).toNatClampNeg)) - (pA σ r_7 (5 : Int32).toNatClampNeg)) / (2 : Int32))) 906)) (by decide) rf_X9_35 rfl dX9_fitSleeves_52 ?_
      obtain ⟨r_52, o_52, hF⟩ := ob_bd hF
      refine rfS o_52 ?_
      refine lv_iconst (v := (3 : Int32)) hx hb dX9_fitSleeves_55 (by decide) ?_
      refine lv_iload_n hx hb dX9_fitSleeves_56 rfl (lv_at hl 0 rfl) ?_
      refine lv_iconst (v := (2 : Int32)) hx hb dX9_fitSleeves_57 (by decide) ?_
      refine lv_idiv hx hb dX9_fitSleeves_58 (by decide) ?_
      obtain ⟨k_59_4, hF⟩ := ob_gd hF
      obtain ⟨g_59, hF⟩ := ob_gd hF
      refine stP hx hb hK hP hD hS k_59_4 g_59 dX9_fitSleeves_59 (fun H locs hP hD hS => ?_)
      refine lv_iconst (v := (1 : Int32)) hx hb dX9_fitSleeves_60 (by decide) ?_
      exact rxR hx hb hr hlocks rfl hF hK hP hD hS dX9_fitSleeves_61
    · have hF := ob_f c_37 hF
      refine lv_iconst (v := (0 : Int32)) hx hb dX9_fitSleeves_40 (by decide) ?_
      exact rxR hx hb hr hlocks rfl hF hK hP hD hS dX9_fitSleeves_41
def wsR_X9_sleeves : List Cond := Cond.code yX9_sleeves cX9_sleeves 3 (some .int) :: wRa
theorem cw_X9_X9_fitSleeves_141 {R : Room} {s : State} {args : Array Value} {y : MethodName} {c : ByteArray} {n : Nat} {r : Option FieldType} (hts : ∀ w ∈ (Cond.code y c n r :: wRa), w.before args s = true) (hR : 0 + 1 ≤ R.frames ∧ 8 + (3 + 11) + 0 ≤ R.locals) : CallW R s args RX9 RX9 141 yX9_fitSleeves cX9_fitSleeves 3 (some .boolean) wsR_X9_fitSleeves { frames := 0, cells := 0, slots := 0, locals := 0 } 0 0 1 := cwV 1 hts (goodV wRa_good rm_X9_141 ri_X9_fitSleeves rs_X9_fitSleeves rn_X9 rc_X9_fitSleeves) rfl rfl rfl (by decide +kernel) hR
def FR_X9_sleeves (σ : RS) (p1 : Int32) : Option (Int32 × RS) := ((FR_X9_boltAt σ p1).bind fun q_2 => (oc q_2 (some ((-1 : Int32), σ)) (fun c_7 => ((FR_X9_fitSleeves σ c_7).bind fun q_14 => (if q_14.1 = 0 then (some ((-3 : Int32), q_14.2)) else ((rV q_14.2 906).bind fun r_21 => (gd (isK q_14.2 r_21 11) (gd (inb (2 : Int32) (pN q_14.2 r_21)) (some ((pA q_14.2 r_21 (2 : Int32).toNatClampNeg), q_14.2))))))))))
set_option maxHeartbeats 4000000 in
set_option maxRecDepth 100000 in
theorem cR_X9_sleeves (l : Launch) (D : va_G) (cs : Nat → ClassId) (ad tb : Nat → Nat) (A : Nat → Prop) (σ : RS) (p1 : Int32) (q : (Int32 × RS)) (hF : FR_X9_sleeves σ p1 = some q) : Met l yX9_sleeves wsR_X9_sleeves { frames := 2, cells := 0, slots := 0, locals := 43 } (va_Pc [.ref (ad 1009), .int p1] (preQ D cs ad tb A σ)) (va_Qi (fun x u => x = q.1 ∧ u = q.2) (posQ D cs ad A) A) 0 0 A := by
  refine Met.ofW (cc := cX9_sleeves) (maxL := 3) (ret := (some .int)) (by decide) rfl ?_
  intro p e s m args below meth c s₁ B hml hv
  obtain ⟨rfl, hP, hK, hD, hZ⟩ := hv
  have hx := B.exec
  have hb := B.bytes
  have hr := B.returns
  have hts : ∀ w ∈ (Cond.code yX9_sleeves cX9_sleeves 3 (some .int) :: wRa), w.before ([.ref (ad 1009), .int p1] : List Value).toArray s = true := atoms_spec (ws := wsR_X9_sleeves) B.pre
  have hin : ∀ w ∈ wRa, w ∈ (Cond.code yX9_sleeves cX9_sleeves 3 (some .int) :: wRa) := fun w hw => List.mem_cons_of_mem _ hw
  have hown : s.vm.findClass RX9 = some m.cls := findClass_of_methodNamed B.named
  have hlocks := B.notSynchronized
  have hS : va_S A s.heap s.heap [] := va_S.rf
  have hl := lv_entry ([.ref (ad 1009), .int p1]) (n := 3) (Nat.le_of_ble_eq_true rfl)
  rw [lg_entry_eq]
  generalize (lg_sl ([.ref (ad 1009), .int p1]) ++ List.replicate (3 - (lg_sl ([.ref (ad 1009), .int p1])).length) Slot.unset).toArray = ls at hl ⊢
  have hl : lv_has ls 3 [(0, .ref (ad 1009)), (1, .int p1)] := hl
  unfold FR_X9_sleeves at hF
  refine lv_aload_n hx hb dX9_sleeves_0 rfl (lv_at hl 0 rfl) ?_
  refine lv_iload_n hx hb dX9_sleeves_1 rfl (lv_at hl 1 rfl) ?_
  obtain ⟨q_2, e_2, hF⟩ := ob_bd hF
  refine cqR (As := [.int p1]) (rest := []) ⟨hx, hb, hml, hown, hts⟩ (cR_X9_boltAt l D cs ad tb A σ p1 _ e_2) (cw_X9_X9_boltAt_122 hts ⟨Nat.le_of_ble_eq_true rfl, Nat.le_of_ble_eq_true rfl⟩) ⟨Nat.zero_le _, Nat.zero_le _⟩ (rcF hK hP (ci := 9) rfl (ob_9 _ _ _)) hK hP hD hS hZ rfl hl.1 rfl (lv_room (Nat.le_of_ble_eq_true rfl)) dX9_sleeves_2 ?_
  refine asQ_n (i := 2) (lv' := [(2, va_rf q_2), (0, .ref (ad 1009)), (1, .int p1)]) hx hb dX9_sleeves_5 rfl hl (by decide) rfl (fun ls hl => ?_)
  refine alQ_n hx hb dX9_sleeves_6 rfl (lv_at hl 0 rfl) ?_
  refine nnQ (tgt := 12) hx hb dX9_sleeves_7 (by decide) (fun c_7 e_7 => ?_) (fun e_7 => ?_)
  · have hF := oc_s e_7 hF
    refine lv_aload_n hx hb dX9_sleeves_12 rfl (lv_at hl 1 rfl) ?_
    refine alQ_n hx hb dX9_sleeves_13 rfl (lv_at hl 0 rfl) ?_
    refine rfS e_7 ?_
    obtain ⟨q_14, e_14, hF⟩ := ob_bd hF
    refine cwR (As := [.ref c_7]) (rest := []) ⟨hx, hb, hml, hown, hts⟩ (cR_X9_fitSleeves l D cs ad tb A σ c_7 _ e_14) (cw_X9_X9_fitSleeves_141 hts ⟨Nat.le_of_ble_eq_true rfl, Nat.le_of_ble_eq_true rfl⟩) ⟨Nat.zero_le _, Nat.zero_le _⟩ (rcF hK hP (ci := 9) rfl (ob_9 _ _ _)) hK hP hD hS hZ rfl hl.1 rfl (lv_room (Nat.le_of_ble_eq_true rfl)) dX9_sleeves_14 (fun H locs hP hD hS => ?_)
    refine lv_if_eq (tgt := 29) hx hb dX9_sleeves_17 (by decide) (fun c_17 => ?_) (fun c_17 => ?_)
    · have hF := ob_t c_17 hF
      refine lv_bipush (v := (-3 : Int32)) hx hb dX9_sleeves_29 (by decide) ?_
      exact rwR hx hb hr hlocks hF hK hP hD hS dX9_sleeves_31
    · have hF := ob_f c_17 hF
      refine lv_aload_n hx hb dX9_sleeves_20 rfl (lv_at hl 1 rfl) ?_
      refine gF hx hb hts hin wo_9 rfl hown hK hP (ob_9 _ _ _) 6 (va_rf (rV q_14.2 906)) (by decide) rf_X9_35 rfl dX9_sleeves_21 ?_
      obtain ⟨r_21, o_21, hF⟩ := ob_bd hF
      refine rfS o_21 ?_
      refine lv_iconst (v := (2 : Int32)) hx hb dX9_sleeves_24 (by decide) ?_
      obtain ⟨k_25_1, hF⟩ := ob_gd hF
      obtain ⟨g_25, hF⟩ := ob_gd hF
      refine ldP hx hb hK hP k_25_1 (pA q_14.2 r_21 (2 : Int32).toNatClampNeg) g_25 rfl dX9_sleeves_25 ?_
      refine lv_goto (tgt := 31) hx hb dX9_sleeves_26 (by decide) ?_
      exact rwR hx hb hr hlocks hF hK hP hD hS dX9_sleeves_31
  · have hF := oc_n e_7 hF
    refine lv_iconst (v := (-1 : Int32)) hx hb dX9_sleeves_10 (by decide) ?_
    exact rwR hx hb hr hlocks hF hK hP hD hS dX9_sleeves_11
