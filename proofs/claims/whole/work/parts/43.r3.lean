def wsR_X7_missWay : List Cond := Cond.code yX7_missWay cX7_missWay 3 (some .int) :: wRa
def FR_X7_missWay (p0 : Int32) (p1 : Int32) (p2 : Int32) : Option Int32 := (some ((p0 >>> (((6 : Int32) * (p1 + ((2 : Int32) * p2))) &&& 31)) &&& (63 : Int32)))
set_option maxHeartbeats 4000000 in
set_option maxRecDepth 100000 in
theorem cR_X7_missWay (l : Launch) (p0 : Int32) (p1 : Int32) (p2 : Int32) (q : Int32) (hF : FR_X7_missWay p0 p1 p2 = some q) : Met l yX7_missWay wsR_X7_missWay { frames := 0, cells := 0, slots := 0, locals := 0 } (va_Pc [.int p0, .int p1, .int p2] (fun _ => True)) (vp_Si (fun x => x = q)) 0 0 (fun _ => False) := by
  refine Met.ofW (cc := cX7_missWay) (maxL := 3) (ret := (some .int)) (by decide) rfl ?_
  intro p e s m args below meth c s₁ B hml hv
  obtain ⟨rfl, -⟩ := hv
  have hx := B.exec
  have hb := B.bytes
  have hr := B.returns
  have hts : ∀ w ∈ (Cond.code yX7_missWay cX7_missWay 3 (some .int) :: wRa), w.before ([.int p0, .int p1, .int p2] : List Value).toArray s = true := atoms_spec (ws := wsR_X7_missWay) B.pre
  have hin : ∀ w ∈ wRa, w ∈ (Cond.code yX7_missWay cX7_missWay 3 (some .int) :: wRa) := fun w hw => List.mem_cons_of_mem _ hw
  have hown : s.vm.findClass RX7 = some m.cls := findClass_of_methodNamed B.named
  have hlocks := B.notSynchronized
  have hl := lv_entry ([.int p0, .int p1, .int p2]) (n := 3) (Nat.le_of_ble_eq_true rfl)
  rw [lg_entry_eq]
  generalize (lg_sl ([.int p0, .int p1, .int p2]) ++ List.replicate (3 - (lg_sl ([.int p0, .int p1, .int p2])).length) Slot.unset).toArray = ls at hl ⊢
  have hl : lv_has ls 3 [(0, .int p0), (1, .int p1), (2, .int p2)] := hl
  unfold FR_X7_missWay at hF
  refine lv_iload_n hx hb dX7_missWay_0 rfl (lv_at hl 0 rfl) ?_
  refine lv_bipush (v := (6 : Int32)) hx hb dX7_missWay_1 (by decide) ?_
  refine lv_iload_n hx hb dX7_missWay_3 rfl (lv_at hl 1 rfl) ?_
  refine lv_iconst (v := (2 : Int32)) hx hb dX7_missWay_4 (by decide) ?_
  refine lv_iload_n hx hb dX7_missWay_5 rfl (lv_at hl 2 rfl) ?_
  refine lv_imul hx hb dX7_missWay_6 ?_
  refine lv_iadd hx hb dX7_missWay_7 ?_
  refine lv_imul hx hb dX7_missWay_8 ?_
  refine lv_ishr hx hb dX7_missWay_9 ?_
  refine lv_bipush (v := (63 : Int32)) hx hb dX7_missWay_10 (by decide) ?_
  refine lv_iand hx hb dX7_missWay_12 ?_
  exact rrM hx hb hr hlocks hF dX7_missWay_13
def wsR_X7_keyOf : List Cond := Cond.code yX7_keyOf cX7_keyOf 6 (some .int) :: wRa
theorem cw_X7_X7_missWay_111 {R : Room} {s : State} {args : Array Value} {y : MethodName} {c : ByteArray} {n : Nat} {r : Option FieldType} (hts : ∀ w ∈ (Cond.code y c n r :: wRa), w.before args s = true) (hR : 0 + 1 ≤ R.frames ∧ 8 + (3 + 11) + 0 ≤ R.locals) : CallB R s args RX7 111 yX7_missWay cX7_missWay 3 (some .int) wsR_X7_missWay { frames := 0, cells := 0, slots := 0, locals := 0 } 0 0 3 ∧ (Cond.static yX7_missWay).before args s = true := va_cwS 3 hts (goodS wRa_good rm_X7_111 rt_X7_missWay rn_X7 rc_X7_missWay) rfl rfl rfl (by decide +kernel) hR
def FR_X7_keyOf (σ : RS) (p1 : Int32) (p2 : Int32) : Option Int32 := (gd (inb (p1 - (1 : Int32)) 5) ((FR_X7_missWay (rA σ 703 (p1 - (1 : Int32)).toNatClampNeg) (0 : Int32) p2).bind fun q_15 => (gd (inb p1 6) ((FR_X7_missWay (rA σ 703 (p1 - (1 : Int32)).toNatClampNeg) (1 : Int32) p2).bind fun q_34 => (gd (inb p1 6) (if (rI σ 706) = 0 then (some (if (((512 : Int32) * q_34) + (rA σ 705 p1.toNatClampNeg)) < (((512 : Int32) * q_15) + (rA σ 704 p1.toNatClampNeg)) then (((512 : Int32) * q_34) + (rA σ 705 p1.toNatClampNeg)) else (((512 : Int32) * q_15) + (rA σ 704 p1.toNatClampNeg)))) else (if p2 = 0 then (some (((512 : Int32) * q_15) + (rA σ 704 p1.toNatClampNeg))) else (some (((512 : Int32) * q_34) + (rA σ 705 p1.toNatClampNeg))))))))))
set_option maxHeartbeats 4000000 in
set_option maxRecDepth 100000 in
theorem cR_X7_keyOf (l : Launch) (D : va_G) (cs : Nat → ClassId) (ad tb : Nat → Nat) (A : Nat → Prop) (σ : RS) (p1 : Int32) (p2 : Int32) (q : Int32) (hF : FR_X7_keyOf σ p1 p2 = some q) : Met l yX7_keyOf wsR_X7_keyOf { frames := 1, cells := 0, slots := 0, locals := 24 } (va_Pc [.ref (ad 1007), .int p1, .int p2] (preQ D cs ad tb A σ)) (vp_Si (fun x => x = q)) 0 0 (fun _ => False) := by
  refine Met.ofW (cc := cX7_keyOf) (maxL := 6) (ret := (some .int)) (by decide) rfl ?_
  intro p e s m args below meth c s₁ B hml hv
  obtain ⟨rfl, hP, hK, hD, hZ⟩ := hv
  have hx := B.exec
  have hb := B.bytes
  have hr := B.returns
  have hts : ∀ w ∈ (Cond.code yX7_keyOf cX7_keyOf 6 (some .int) :: wRa), w.before ([.ref (ad 1007), .int p1, .int p2] : List Value).toArray s = true := atoms_spec (ws := wsR_X7_keyOf) B.pre
  have hin : ∀ w ∈ wRa, w ∈ (Cond.code yX7_keyOf cX7_keyOf 6 (some .int) :: wRa) := fun w hw => List.mem_cons_of_mem _ hw
  have hown : s.vm.findClass RX7 = some m.cls := findClass_of_methodNamed B.named
  have hlocks := B.notSynchronized
  have hS : va_S A s.heap s.heap [] := va_S.rf
  have hl := lv_entry ([.ref (ad 1007), .int p1, .int p2]) (n := 6) (Nat.le_of_ble_eq_true rfl)
  rw [lg_entry_eq]
  generalize (lg_sl ([.ref (ad 1007), .int p1, .int p2]) ++ List.replicate (6 - (lg_sl ([.ref (ad 1007), .int p1, .int p2])).length) Slot.unset).toArray = ls at hl ⊢
  have hl : lv_has ls 6 [(0, .ref (ad 1007)), (1, .int p1), (2, .int p2)] := hl
  unfold FR_X7_keyOf at hF
  refine lv_aload_n hx hb dX7_keyOf_0 rfl (lv_at hl 0 rfl) ?_
  refine gF hx hb hts hin wo_7 rfl hown hK hP (ob_7 _ _ _) 3 (.ref (ad 703)) (by decide) rf_X7_25 rfl dX7_keyOf_1 ?_
  refine lv_iload_n hx hb dX7_keyOf_4 rfl (lv_at hl 1 rfl) ?_
  refine lv_iconst (v := (1 : Int32)) hx hb dX7_keyOf_5 (by decide) ?_
  refine lv_isub hx hb dX7_keyOf_6 ?_
  obtain ⟨g_7, hF⟩ := ob_gd hF
  refine ldF hx hb hK hP (ra_703 _ _ _) (rA σ 703 (p1 - (1 : Int32)).toNatClampNeg) g_7 rfl dX7_keyOf_7 ?_
  refine lv_istore_n (i := 3) (lv' := [(3, .int (rA σ 703 (p1 - (1 : Int32)).toNatClampNeg)), (0, .ref (ad 1007)), (1, .int p1), (2, .int p2)]) hx hb dX7_keyOf_8 rfl hl (by decide) rfl (fun ls hl => ?_)
  refine lv_sipush (v := (512 : Int32)) hx hb dX7_keyOf_9 (by decide) ?_
  refine lv_iload_n hx hb dX7_keyOf_12 rfl (lv_at hl 0 rfl) ?_
  refine lv_iconst (v := (0 : Int32)) hx hb dX7_keyOf_13 (by decide) ?_
  refine lv_iload_n hx hb dX7_keyOf_14 rfl (lv_at hl 3 rfl) ?_
  obtain ⟨q_15, e_15, hF⟩ := ob_bd hF
  refine csR (As := [.int (rA σ 703 (p1 - (1 : Int32)).toNatClampNeg), .int (0 : Int32), .int p2]) (rest := [.int (512 : Int32)]) ⟨hx, hb, hml, hown, hts⟩ (cR_X7_missWay l (rA σ 703 (p1 - (1 : Int32)).toNatClampNeg) (0 : Int32) p2 _ e_15) (cw_X7_X7_missWay_111 hts ⟨Nat.le_of_ble_eq_true rfl, Nat.le_of_ble_eq_true rfl⟩) ⟨Nat.zero_le _, Nat.zero_le _⟩ rfl hl.1 rfl (lv_room (Nat.le_of_ble_eq_true rfl)) dX7_keyOf_15 ?_
  refine lv_imul hx hb dX7_keyOf_18 ?_
  refine lv_aload_n hx hb dX7_keyOf_19 rfl (lv_at hl 1 rfl) ?_
  refine gF hx hb hts hin wo_7 rfl hown hK hP (ob_7 _ _ _) 4 (.ref (ad 704)) (by decide) rf_X7_28 rfl dX7_keyOf_20 ?_
  refine lv_iload_n hx hb dX7_keyOf_23 rfl (lv_at hl 2 rfl) ?_
  obtain ⟨g_24, hF⟩ := ob_gd hF
  refine ldF hx hb hK hP (ra_704 _ _ _) (rA σ 704 p1.toNatClampNeg) g_24 rfl dX7_keyOf_24 ?_
  refine lv_iadd hx hb dX7_keyOf_25 ?_
  refine lv_istore (i := 4) (lv' := [(4, .int (((512 : Int32) * q_15) + (rA σ 704 p1.toNatClampNeg))), (3, .int (rA σ 703 (p1 - (1 : Int32)).toNatClampNeg)), (0, .ref (ad 1007)), (1, .int p1), (2, .int p2)]) hx hb dX7_keyOf_26 hl (by decide) rfl (fun ls hl => ?_)
  refine lv_sipush (v := (512 : Int32)) hx hb dX7_keyOf_28 (by decide) ?_
  refine lv_iload_n hx hb dX7_keyOf_31 rfl (lv_at hl 1 rfl) ?_
  refine lv_iconst (v := (1 : Int32)) hx hb dX7_keyOf_32 (by decide) ?_
  refine lv_iload_n hx hb dX7_keyOf_33 rfl (lv_at hl 4 rfl) ?_
  obtain ⟨q_34, e_34, hF⟩ := ob_bd hF
  refine csR (As := [.int (rA σ 703 (p1 - (1 : Int32)).toNatClampNeg), .int (1 : Int32), .int p2]) (rest := [.int (512 : Int32)]) ⟨hx, hb, hml, hown, hts⟩ (cR_X7_missWay l (rA σ 703 (p1 - (1 : Int32)).toNatClampNeg) (1 : Int32) p2 _ e_34) (cw_X7_X7_missWay_111 hts ⟨Nat.le_of_ble_eq_true rfl, Nat.le_of_ble_eq_true rfl⟩) ⟨Nat.zero_le _, Nat.zero_le _⟩ rfl hl.1 rfl (lv_room (Nat.le_of_ble_eq_true rfl)) dX7_keyOf_34 ?_
  refine lv_imul hx hb dX7_keyOf_37 ?_
  refine lv_aload_n hx hb dX7_keyOf_38 rfl (lv_at hl 2 rfl) ?_
  refine gF hx hb hts hin wo_7 rfl hown hK hP (ob_7 _ _ _) 5 (.ref (ad 705)) (by decide) rf_X7_31 rfl dX7_keyOf_39 ?_
  refine lv_iload_n hx hb dX7_keyOf_42 rfl (lv_at hl 3 rfl) ?_
  obtain ⟨g_43, hF⟩ := ob_gd hF
  refine ldF hx hb hK hP (ra_705 _ _ _) (rA σ 705 p1.toNatClampNeg) g_43 rfl dX7_keyOf_43 ?_
  refine lv_iadd hx hb dX7_keyOf_44 ?_
  refine lv_istore (i := 5) (lv' := [(5, .int (((512 : Int32) * q_34) + (rA σ 705 p1.toNatClampNeg))), (4, .int (((512 : Int32) * q_15) + (rA σ 704 p1.toNatClampNeg))), (3, .int (rA σ 703 (p1 - (1 : Int32)).toNatClampNeg)), (0, .ref (ad 1007)), (1, .int p1), (2, .int p2)]) hx hb dX7_keyOf_45 hl (by decide) rfl (fun ls hl => ?_)
  refine lv_aload_n hx hb dX7_keyOf_47 rfl (lv_at hl 3 rfl) ?_
  refine gF hx hb hts hin wo_7 rfl hown hK hP (ob_7 _ _ _) 6 (.int (rI σ 706)) (by decide) rf_X7_34 rfl dX7_keyOf_48 ?_
  refine lv_if_eq (tgt := 66) hx hb dX7_keyOf_51 (by decide) (fun c_51 => ?_) (fun c_51 => ?_)
  · have hF := ob_t c_51 hF
    refine lv_iload hx hb dX7_keyOf_66 (lv_at hl 1 rfl) ?_
    refine lv_iload hx hb dX7_keyOf_68 (lv_at hl 0 rfl) ?_
    refine va_mmin hx hb (hml.trans hl.1.symm) hown (hts _ (hin _ rm_X7_93)) (hts _ (hin _ rt_min)) (hts _ (hin _ rn_math)) (hts _ (hin _ rc_min)) (Nat.le_of_ble_eq_true rfl) (Nat.le_of_ble_eq_true rfl) (Nat.le_of_ble_eq_true rfl) (Nat.le_of_ble_eq_true rfl) dX7_keyOf_70 ?_
    exact rrM hx hb hr hlocks hF dX7_keyOf_73
  · have hF := ob_f c_51 hF
    refine lv_iload_n hx hb dX7_keyOf_54 rfl (lv_at hl 5 rfl) ?_
    refine lv_if_ne (tgt := 63) hx hb dX7_keyOf_55 (by decide) (fun c_55 => ?_) (fun c_55 => ?_)
    · have hF := ob_f c_55 hF
      refine lv_iload hx hb dX7_keyOf_63 (lv_at hl 0 rfl) ?_
      exact rrM hx hb hr hlocks hF dX7_keyOf_65
    · have hF := ob_t c_55 hF
      refine lv_iload hx hb dX7_keyOf_58 (lv_at hl 1 rfl) ?_
      refine lv_goto (tgt := 65) hx hb dX7_keyOf_60 (by decide) ?_
      exact rrM hx hb hr hlocks hF dX7_keyOf_65
def wsR_X7_leastKey : List Cond := Cond.code yX7_leastKey cX7_leastKey 3 (some .int) :: wRa
theorem cw_X7_X7_keyOf_108 {R : Room} {s : State} {args : Array Value} {y : MethodName} {c : ByteArray} {n : Nat} {r : Option FieldType} (hts : ∀ w ∈ (Cond.code y c n r :: wRa), w.before args s = true) (hR : 1 + 1 ≤ R.frames ∧ 8 + (6 + 11) + 24 ≤ R.locals) : CallW R s args RX7 RX7 108 yX7_keyOf cX7_keyOf 6 (some .int) wsR_X7_keyOf { frames := 1, cells := 0, slots := 0, locals := 24 } 0 0 2 := cwV 2 hts (goodV wRa_good rm_X7_108 ri_X7_keyOf rs_X7_keyOf rn_X7 rc_X7_keyOf) rfl rfl rfl (by decide +kernel) hR
def FR_X7_leastKey_2 (K_33 : RS → Option (Int32 × RS)) : Nat → Int32 → RS → Option (Int32 × RS)
  | 0, _, _ => none
  | n_2 + 1, x1_2, σ_2 => (if (6 : Int32) ≤ x1_2 then (K_33 σ_2) else (gd (inb x1_2 6) (gd (inb x1_2 6) (FR_X7_leastKey_2 K_33 n_2 (x1_2 + (1 : Int32)) (ra (ra σ_2 704 x1_2 (0 : Int32)) 705 x1_2 ((64 : Int32) + ((1 : Int32) <<< (x1_2 &&& 31))))))))
def FR_X7_leastKey_35 (K_83 : RS → Option (Int32 × RS)) : Nat → Int32 → RS → Option (Int32 × RS)
  | 0, _, _ => none
  | n_35 + 1, x1_35, σ_35 => (if x1_35 ≤ 0 then (K_83 σ_35) else (gd (inb (x1_35 - (1 : Int32)) 5) (gd (inb (tbW (x1_35 - (1 : Int32)).toNatClampNeg) 6) ((FR_X7_keyOf σ_35 x1_35 (0 : Int32)).bind fun q_57 => (gd (inb (tbW (x1_35 - (1 : Int32)).toNatClampNeg) 6) (gd (inb (tbW (x1_35 - (1 : Int32)).toNatClampNeg) 6) ((FR_X7_keyOf (ra σ_35 704 (tbW (x1_35 - (1 : Int32)).toNatClampNeg) ((rA σ_35 704 (tbW (x1_35 - (1 : Int32)).toNatClampNeg).toNatClampNeg) + q_57)) x1_35 (1 : Int32)).bind fun q_72 => (gd (inb (tbW (x1_35 - (1 : Int32)).toNatClampNeg) 6) (FR_X7_leastKey_35 K_83 n_35 (x1_35 + (-1 : Int32)) (ra (ra σ_35 704 (tbW (x1_35 - (1 : Int32)).toNatClampNeg) ((rA σ_35 704 (tbW (x1_35 - (1 : Int32)).toNatClampNeg).toNatClampNeg) + q_57)) 705 (tbW (x1_35 - (1 : Int32)).toNatClampNeg) ((rA (ra σ_35 704 (tbW (x1_35 - (1 : Int32)).toNatClampNeg) ((rA σ_35 704 (tbW (x1_35 - (1 : Int32)).toNatClampNeg).toNatClampNeg) + q_57)) 705 (tbW (x1_35 - (1 : Int32)).toNatClampNeg).toNatClampNeg) + q_72)))))))))))
def FR_X7_leastKey_83 (σ_83 : RS) : Option (Int32 × RS) := (gd (inb (0 : Int32) 6) (gd (inb (0 : Int32) 6) (some ((if (rA σ_83 705 (0 : Int32).toNatClampNeg) < (rA σ_83 704 (0 : Int32).toNatClampNeg) then (rA σ_83 705 (0 : Int32).toNatClampNeg) else (rA σ_83 704 (0 : Int32).toNatClampNeg)), σ_83))))
def FR_X7_leastKey_33 (σ_33 : RS) : Option (Int32 × RS) := (FR_X7_leastKey_35 (fun σ_83 => FR_X7_leastKey_83 σ_83) fu (5 : Int32) σ_33)
def FR_X7_leastKey (σ : RS) : Option (Int32 × RS) := (FR_X7_leastKey_2 (fun σ_33 => FR_X7_leastKey_33 σ_33) fu (0 : Int32) σ)
set_option maxHeartbeats 4000000 in
set_option maxRecDepth 100000 in
theorem cR_X7_leastKey (l : Launch) (D : va_G) (cs : Nat → ClassId) (ad tb : Nat → Nat) (A : Nat → Prop) (σ : RS) (q : (Int32 × RS)) (hF : FR_X7_leastKey σ = some q) : Met l yX7_leastKey wsR_X7_leastKey { frames := 2, cells := 0, slots := 0, locals := 49 } (va_Pc [.ref (ad 1007)] (preQ D cs ad tb A σ)) (va_Qi (fun x u => x = q.1 ∧ u = q.2) (posQ D cs ad A) A) 0 0 A := by
  refine Met.ofW (cc := cX7_leastKey) (maxL := 3) (ret := (some .int)) (by decide) rfl ?_
  intro p e s m args below meth c s₁ B hml hv
  obtain ⟨rfl, hP, hK, hD, hZ⟩ := hv
  have hx := B.exec
  have hb := B.bytes
  have hr := B.returns
  have hts : ∀ w ∈ (Cond.code yX7_leastKey cX7_leastKey 3 (some .int) :: wRa), w.before ([.ref (ad 1007)] : List Value).toArray s = true := atoms_spec (ws := wsR_X7_leastKey) B.pre
  have hin : ∀ w ∈ wRa, w ∈ (Cond.code yX7_leastKey cX7_leastKey 3 (some .int) :: wRa) := fun w hw => List.mem_cons_of_mem _ hw
  have hown : s.vm.findClass RX7 = some m.cls := findClass_of_methodNamed B.named
  have hlocks := B.notSynchronized
  have hS : va_S A s.heap s.heap [] := va_S.rf
  have b_2 : ∀ (K_33 : RS → Option (Int32 × RS)) (k_33 : ∀ (σ_33 : RS) (H : Heap) (locs : List Loc) (ls : Array Slot), K_33 σ_33 = some q → va_P D vwCl (wR cs ad σ_33) H → va_D A (wR cs ad σ_33) → va_S A s.heap H locs → lv_has ls 3 [(0, .ref (ad 1007))] → W p l e (headSpec wsR_X7_leastKey { frames := 2, cells := 0, slots := 0, locals := 49 }).room s m ([.ref (ad 1007)] : List Value).toArray below meth c H locs 0 0 (MQ below (va_Qi (fun x u => x = q.1 ∧ u = q.2) (posQ D cs ad A) A) ([.ref (ad 1007)] : List Value).toArray s 0 0 A) (F0 m 33 ls [])) (n_2 : Nat) (x1_2 : Int32) (σ_2 : RS) (H : Heap) (locs : List Loc) (ls : Array Slot), FR_X7_leastKey_2 K_33 n_2 x1_2 σ_2 = some q → va_P D vwCl (wR cs ad σ_2) H → va_D A (wR cs ad σ_2) → va_S A s.heap H locs → lv_has ls 3 [(0, .ref (ad 1007)), (1, .int x1_2)] → W p l e (headSpec wsR_X7_leastKey { frames := 2, cells := 0, slots := 0, locals := 49 }).room s m ([.ref (ad 1007)] : List Value).toArray below meth c H locs 0 0 (MQ below (va_Qi (fun x u => x = q.1 ∧ u = q.2) (posQ D cs ad A) A) ([.ref (ad 1007)] : List Value).toArray s 0 0 A) (F0 m 2 ls []) := by
    intro K_33 k_33
    intro n_2
    induction n_2 with
    | zero =>
      intro x1_2 σ_2 H locs ls hF hP hD hS hl
      exact absurd hF (by simp [FR_X7_leastKey_2])
    | succ n_2 ih_2 =>
      intro x1_2 σ_2 H locs ls hF hP hD hS hl
      rw [FR_X7_leastKey_2] at hF
      refine lv_iload_n hx hb dX7_leastKey_2 rfl (lv_at hl 1 rfl) ?_
      refine lv_bipush (v := (6 : Int32)) hx hb dX7_leastKey_3 (by decide) ?_
      refine lv_icmp_ge (tgt := 33) hx hb dX7_leastKey_5 (by decide) (fun c_5 => ?_) (fun c_5 => ?_)
      · have hF := ob_t c_5 hF
        exact k_33 σ_2 _ _ _ hF hP hD hS (lv_sub hl [0] rfl)
      · have hF := ob_f c_5 hF
        refine lv_aload_n hx hb dX7_leastKey_8 rfl (lv_at hl 0 rfl) ?_
        refine gF hx hb hts hin wo_7 rfl hown hK hP (ob_7 _ _ _) 4 (.ref (ad 704)) (by decide) rf_X7_28 rfl dX7_leastKey_9 ?_
        refine lv_iload_n hx hb dX7_leastKey_12 rfl (lv_at hl 1 rfl) ?_
        refine lv_iconst (v := (0 : Int32)) hx hb dX7_leastKey_13 (by decide) ?_
        obtain ⟨g_14, hF⟩ := ob_gd hF
        refine stF hx hb hK hP hD hS (ra_704 _ _ _) (rs_704 _ _ _ _ _) g_14 dX7_leastKey_14 (fun H locs hP hD hS => ?_)
        refine lv_aload_n hx hb dX7_leastKey_15 rfl (lv_at hl 0 rfl) ?_
        refine gF hx hb hts hin wo_7 rfl hown hK hP (ob_7 _ _ _) 5 (.ref (ad 705)) (by decide) rf_X7_31 rfl dX7_leastKey_16 ?_
        refine lv_iload_n hx hb dX7_leastKey_19 rfl (lv_at hl 1 rfl) ?_
        refine lv_bipush (v := (64 : Int32)) hx hb dX7_leastKey_20 (by decide) ?_
        refine lv_iconst (v := (1 : Int32)) hx hb dX7_leastKey_22 (by decide) ?_
        refine lv_iload_n hx hb dX7_leastKey_23 rfl (lv_at hl 1 rfl) ?_
        refine lv_ishl hx hb dX7_leastKey_24 ?_
        refine lv_iadd hx hb dX7_leastKey_25 ?_
        obtain ⟨g_26, hF⟩ := ob_gd hF
        refine stF hx hb hK hP hD hS (ra_705 _ _ _) (rs_705 _ _ _ _ _) g_26 dX7_leastKey_26 (fun H locs hP hD hS => ?_)
        refine lv_iinc (v := x1_2 + (1 : Int32)) (lv' := [(1, .int (x1_2 + (1 : Int32))), (0, .ref (ad 1007))]) hx hb dX7_leastKey_27 hl (k := 1) rfl rfl (by decide) rfl (fun ls hl => ?_)
        refine lv_goto (tgt := 2) hx hb dX7_leastKey_30 (by decide) ?_
        exact ih_2 (x1_2 + (1 : Int32)) (ra (ra σ_2 704 x1_2 (0 : Int32)) 705 x1_2 ((64 : Int32) + ((1 : Int32) <<< (x1_2 &&& 31)))) _ _ _ hF hP hD hS (lv_sub hl [1, 0] rfl)
  have b_35 : ∀ (K_83 : RS → Option (Int32 × RS)) (k_83 : ∀ (σ_83 : RS) (H : Heap) (locs : List Loc) (ls : Array Slot), K_83 σ_83 = some q → va_P D vwCl (wR cs ad σ_83) H → va_D A (wR cs ad σ_83) → va_S A s.heap H locs → lv_has ls 3 [(0, .ref (ad 1007))] → W p l e (headSpec wsR_X7_leastKey { frames := 2, cells := 0, slots := 0, locals := 49 }).room s m ([.ref (ad 1007)] : List Value).toArray below meth c H locs 0 0 (MQ below (va_Qi (fun x u => x = q.1 ∧ u = q.2) (posQ D cs ad A) A) ([.ref (ad 1007)] : List Value).toArray s 0 0 A) (F0 m 83 ls [])) (n_35 : Nat) (x1_35 : Int32) (σ_35 : RS) (H : Heap) (locs : List Loc) (ls : Array Slot), FR_X7_leastKey_35 K_83 n_35 x1_35 σ_35 = some q → va_P D vwCl (wR cs ad σ_35) H → va_D A (wR cs ad σ_35) → va_S A s.heap H locs → lv_has ls 3 [(0, .ref (ad 1007)), (1, .int x1_35)] → W p l e (headSpec wsR_X7_leastKey { frames := 2, cells := 0, slots := 0, locals := 49 }).room s m ([.ref (ad 1007)] : List Value).toArray below meth c H locs 0 0 (MQ below (va_Qi (fun x u => x = q.1 ∧ u = q.2) (posQ D cs ad A) A) ([.ref (ad 1007)] : List Value).toArray s 0 0 A) (F0 m 35 ls []) := by
    intro K_83 k_83
    intro n_35
    induction n_35 with
    | zero =>
      intro x1_35 σ_35 H locs ls hF hP hD hS hl
      exact absurd hF (by simp [FR_X7_leastKey_35])
    | succ n_35 ih_35 =>
      intro x1_35 σ_35 H locs ls hF hP hD hS hl
      rw [FR_X7_leastKey_35] at hF
      refine lv_iload_n hx hb dX7_leastKey_35 rfl (lv_at hl 1 rfl) ?_
      refine lv_if_le (tgt := 83) hx hb dX7_leastKey_36 (by decide) (fun c_36 => ?_) (fun c_36 => ?_)
      · have hF := ob_t c_36 hF
        exact k_83 σ_35 _ _ _ hF hP hD hS (lv_sub hl [0] rfl)
      · have hF := ob_f c_36 hF
        refine va_getsN hx hb hZ.2.2.1 hS hown (va_Nw.use rfl hZ.2.2.2.2.2.2.1.2.2.2.1) (fun _ h9 => h9) dX7_leastKey_39 ?_
        refine lv_iload_n hx hb dX7_leastKey_42 rfl (lv_at hl 1 rfl) ?_
        refine lv_iconst (v := (1 : Int32)) hx hb dX7_leastKey_43 (by decide) ?_
        refine lv_isub hx hb dX7_leastKey_44 ?_
        obtain ⟨g_45, hF⟩ := ob_gd hF
        refine va_ti (v := .int (tbW (x1_35 - (1 : Int32)).toNatClampNeg)) hx hb hZ.2.2.2.1 hS (inb_in g_45) rfl dX7_leastKey_45 ?_
        refine lv_istore_n (i := 2) (lv' := [(2, .int (tbW (x1_35 - (1 : Int32)).toNatClampNeg)), (0, .ref (ad 1007)), (1, .int x1_35)]) hx hb dX7_leastKey_46 rfl hl (by decide) rfl (fun ls hl => ?_)
        refine lv_aload_n hx hb dX7_leastKey_47 rfl (lv_at hl 1 rfl) ?_
        refine gF hx hb hts hin wo_7 rfl hown hK hP (ob_7 _ _ _) 4 (.ref (ad 704)) (by decide) rf_X7_28 rfl dX7_leastKey_48 ?_
        refine lv_iload_n hx hb dX7_leastKey_51 rfl (lv_at hl 0 rfl) ?_
        refine lv_dup2_11 hx hb dX7_leastKey_52 rfl rfl ?_
        obtain ⟨g_53, hF⟩ := ob_gd hF
        refine ldF hx hb hK hP (ra_704 _ _ _) (rA σ_35 704 (tbW (x1_35 - (1 : Int32)).toNatClampNeg).toNatClampNeg) g_53 rfl dX7_leastKey_53 ?_
        refine lv_aload_n hx hb dX7_leastKey_54 rfl (lv_at hl 1 rfl) ?_
        refine lv_iload_n hx hb dX7_leastKey_55 rfl (lv_at hl 2 rfl) ?_
        refine lv_iconst (v := (0 : Int32)) hx hb dX7_leastKey_56 (by decide) ?_
        obtain ⟨q_57, e_57, hF⟩ := ob_bd hF
        refine crR (As := [.int x1_35, .int (0 : Int32)]) (rest := [.int (rA σ_35 704 (tbW (x1_35 - (1 : Int32)).toNatClampNeg).toNatClampNeg), .int (tbW (x1_35 - (1 : Int32)).toNatClampNeg), .ref (ad 704)]) ⟨hx, hb, hml, hown, hts⟩ (cR_X7_keyOf l D cs ad tb A σ_35 x1_35 (0 : Int32) _ e_57) (cw_X7_X7_keyOf_108 hts ⟨Nat.le_of_ble_eq_true rfl, Nat.le_of_ble_eq_true rfl⟩) ⟨Nat.zero_le _, Nat.zero_le _⟩ (rcF hK hP (ci := 7) rfl (ob_7 _ _ _)) hK hP hD hS hZ rfl hl.1 rfl (lv_room (Nat.le_of_ble_eq_true rfl)) dX7_leastKey_57 ?_
        refine lv_iadd hx hb dX7_leastKey_60 ?_
        obtain ⟨g_61, hF⟩ := ob_gd hF
        refine stF hx hb hK hP hD hS (ra_704 _ _ _) (rs_704 _ _ _ _ _) g_61 dX7_leastKey_61 (fun H locs hP hD hS => ?_)
        refine lv_aload_n hx hb dX7_leastKey_62 rfl (lv_at hl 1 rfl) ?_
        refine gF hx hb hts hin wo_7 rfl hown hK hP (ob_7 _ _ _) 5 (.ref (ad 705)) (by decide) rf_X7_31 rfl dX7_leastKey_63 ?_
        refine lv_iload_n hx hb dX7_leastKey_66 rfl (lv_at hl 0 rfl) ?_
        refine lv_dup2_11 hx hb dX7_leastKey_67 rfl rfl ?_
        obtain ⟨g_68, hF⟩ := ob_gd hF
        refine ldF hx hb hK hP (ra_705 _ _ _) (rA (ra σ_35 704 (tbW (x1_35 - (1 : Int32)).toNatClampNeg) ((rA σ_35 704 (tbW (x1_35 - (1 : Int32)).toNatClampNeg).toNatClampNeg) + q_57)) 705 (tbW (x1_35 - (1 : Int32)).toNatClampNeg).toNatClampNeg) g_68 rfl dX7_leastKey_68 ?_
        refine lv_aload_n hx hb dX7_leastKey_69 rfl (lv_at hl 1 rfl) ?_
        refine lv_iload_n hx hb dX7_leastKey_70 rfl (lv_at hl 2 rfl) ?_
        refine lv_iconst (v := (1 : Int32)) hx hb dX7_leastKey_71 (by decide) ?_
        obtain ⟨q_72, e_72, hF⟩ := ob_bd hF
        refine crR (As := [.int x1_35, .int (1 : Int32)]) (rest := [.int (rA (ra σ_35 704 (tbW (x1_35 - (1 : Int32)).toNatClampNeg) ((rA σ_35 704 (tbW (x1_35 - (1 : Int32)).toNatClampNeg).toNatClampNeg) + q_57)) 705 (tbW (x1_35 - (1 : Int32)).toNatClampNeg).toNatClampNeg), .int (tbW (x1_35 - (1 : Int32)).toNatClampNeg), .ref (ad 705)]) ⟨hx, hb, hml, hown, hts⟩ (cR_X7_keyOf l D cs ad tb A (ra σ_35 704 (tbW (x1_35 - (1 : Int32)).toNatClampNeg) ((rA σ_35 704 (tbW (x1_35 - (1 : Int32)).toNatClampNeg).toNatClampNeg) + q_57)) x1_35 (1 : Int32) _ e_72) (cw_X7_X7_keyOf_108 hts ⟨Nat.le_of_ble_eq_true rfl, Nat.le_of_ble_eq_true rfl⟩) ⟨Nat.zero_le _, Nat.zero_le _⟩ (rcF hK hP (ci := 7) rfl (ob_7 _ _ _)) hK hP hD hS hZ rfl hl.1 rfl (lv_room (Nat.le_of_ble_eq_true rfl)) dX7_leastKey_72 ?_
        refine lv_iadd hx hb dX7_leastKey_75 ?_
        obtain ⟨g_76, hF⟩ := ob_gd hF
        refine stF hx hb hK hP hD hS (ra_705 _ _ _) (rs_705 _ _ _ _ _) g_76 dX7_leastKey_76 (fun H locs hP hD hS => ?_)
        refine lv_iinc (v := x1_35 + (-1 : Int32)) (lv' := [(1, .int (x1_35 + (-1 : Int32))), (2, .int (tbW (x1_35 - (1 : Int32)).toNatClampNeg)), (0, .ref (ad 1007))]) hx hb dX7_leastKey_77 hl (k := 2) rfl rfl (by decide) rfl (fun ls hl => ?_)
        refine lv_goto (tgt := 35) hx hb dX7_leastKey_80 (by decide) ?_
        exact ih_35 (x1_35 + (-1 : Int32)) (ra (ra σ_35 704 (tbW (x1_35 - (1 : Int32)).toNatClampNeg) ((rA σ_35 704 (tbW (x1_35 - (1 : Int32)).toNatClampNeg).toNatClampNeg) + q_57)) 705 (tbW (x1_35 - (1 : Int32)).toNatClampNeg) ((rA (ra σ_35 704 (tbW (x1_35 - (1 : Int32)).toNatClampNeg) ((rA σ_35 704 (tbW (x1_35 - (1 : Int32)).toNatClampNeg).toNatClampNeg) + q_57)) 705 (tbW (x1_35 - (1 : Int32)).toNatClampNeg).toNatClampNeg) + q_72)) _ _ _ hF hP hD hS (lv_sub hl [2, 0] rfl)
  have b_83 : ∀ (σ_83 : RS) (H : Heap) (locs : List Loc) (ls : Array Slot), FR_X7_leastKey_83 σ_83 = some q → va_P D vwCl (wR cs ad σ_83) H → va_D A (wR cs ad σ_83) → va_S A s.heap H locs → lv_has ls 3 [(0, .ref (ad 1007))] → W p l e (headSpec wsR_X7_leastKey { frames := 2, cells := 0, slots := 0, locals := 49 }).room s m ([.ref (ad 1007)] : List Value).toArray below meth c H locs 0 0 (MQ below (va_Qi (fun x u => x = q.1 ∧ u = q.2) (posQ D cs ad A) A) ([.ref (ad 1007)] : List Value).toArray s 0 0 A) (F0 m 83 ls []) := by
    intro σ_83 H locs ls hF hP hD hS hl
    unfold FR_X7_leastKey_83 at hF
    refine lv_aload_n hx hb dX7_leastKey_83 rfl (lv_at hl 0 rfl) ?_
    refine gF hx hb hts hin wo_7 rfl hown hK hP (ob_7 _ _ _) 4 (.ref (ad 704)) (by decide) rf_X7_28 rfl dX7_leastKey_84 ?_
    refine lv_iconst (v := (0 : Int32)) hx hb dX7_leastKey_87 (by decide) ?_
    obtain ⟨g_88, hF⟩ := ob_gd hF
    refine ldF hx hb hK hP (ra_704 _ _ _) (rA σ_83 704 (0 : Int32).toNatClampNeg) g_88 rfl dX7_leastKey_88 ?_
    refine lv_aload_n hx hb dX7_leastKey_89 rfl (lv_at hl 0 rfl) ?_
    refine gF hx hb hts hin wo_7 rfl hown hK hP (ob_7 _ _ _) 5 (.ref (ad 705)) (by decide) rf_X7_31 rfl dX7_leastKey_90 ?_
    refine lv_iconst (v := (0 : Int32)) hx hb dX7_leastKey_93 (by decide) ?_
    obtain ⟨g_94, hF⟩ := ob_gd hF
    refine ldF hx hb hK hP (ra_705 _ _ _) (rA σ_83 705 (0 : Int32).toNatClampNeg) g_94 rfl dX7_leastKey_94 ?_
    refine va_mmin hx hb (hml.trans hl.1.symm) hown (hts _ (hin _ rm_X7_93)) (hts _ (hin _ rt_min)) (hts _ (hin _ rn_math)) (hts _ (hin _ rc_min)) (Nat.le_of_ble_eq_true rfl) (Nat.le_of_ble_eq_true rfl) (Nat.le_of_ble_eq_true rfl) (Nat.le_of_ble_eq_true rfl) dX7_leastKey_95 ?_
    exact rwR hx hb hr hlocks hF hK hP hD hS dX7_leastKey_98
  have b_33 : ∀ (σ_33 : RS) (H : Heap) (locs : List Loc) (ls : Array Slot), FR_X7_leastKey_33 σ_33 = some q → va_P D vwCl (wR cs ad σ_33) H → va_D A (wR cs ad σ_33) → va_S A s.heap H locs → lv_has ls 3 [(0, .ref (ad 1007))] → W p l e (headSpec wsR_X7_leastKey { frames := 2, cells := 0, slots := 0, locals := 49 }).room s m ([.ref (ad 1007)] : List Value).toArray below meth c H locs 0 0 (MQ below (va_Qi (fun x u => x = q.1 ∧ u = q.2) (posQ D cs ad A) A) ([.ref (ad 1007)] : List Value).toArray s 0 0 A) (F0 m 33 ls []) := by
    intro σ_33 H locs ls hF hP hD hS hl
    unfold FR_X7_leastKey_33 at hF
    refine lv_iconst (v := (5 : Int32)) hx hb dX7_leastKey_33 (by decide) ?_
    refine lv_istore_n (i := 1) (lv' := [(1, .int (5 : Int32)), (0, .ref (ad 1007))]) hx hb dX7_leastKey_34 rfl hl (by decide) rfl (fun ls hl => ?_)
    exact b_35 (fun σ_83 => FR_X7_leastKey_83 σ_83) (fun σ_83 => b_83 σ_83) fu (5 : Int32) σ_33 _ _ _ hF hP hD hS (lv_sub hl [1, 0] rfl)
  have hl := lv_entry ([.ref (ad 1007)]) (n := 3) (Nat.le_of_ble_eq_true rfl)
  rw [lg_entry_eq]
  generalize (lg_sl ([.ref (ad 1007)]) ++ List.replicate (3 - (lg_sl ([.ref (ad 1007)])).length) Slot.unset).toArray = ls at hl ⊢
  have hl : lv_has ls 3 [(0, .ref (ad 1007))] := hl
  unfold FR_X7_leastKey at hF
  refine lv_iconst (v := (0 : Int32)) hx hb dX7_leastKey_0 (by decide) ?_
  refine lv_istore_n (i := 1) (lv' := [(1, .int (0 : Int32)), (0, .ref (ad 1007))]) hx hb dX7_leastKey_1 rfl hl (by decide) rfl (fun ls hl => ?_)
  exact b_2 (fun σ_33 => FR_X7_leastKey_33 σ_33) (fun σ_33 => b_33 σ_33) fu (0 : Int32) σ _ _ _ hF hP hD hS (lv_sub hl [1, 0] rfl)
def wsR_X7_weigh : List Cond := Cond.code yX7_weigh cX7_weigh 5 none :: wRa
theorem cw_X7_X7_leastKey_98 {R : Room} {s : State} {args : Array Value} {y : MethodName} {c : ByteArray} {n : Nat} {r : Option FieldType} (hts : ∀ w ∈ (Cond.code y c n r :: wRa), w.before args s = true) (hR : 2 + 1 ≤ R.frames ∧ 8 + (3 + 11) + 49 ≤ R.locals) : CallW R s args RX7 RX7 98 yX7_leastKey cX7_leastKey 3 (some .int) wsR_X7_leastKey { frames := 2, cells := 0, slots := 0, locals := 49 } 0 0 0 := cwV 0 hts (goodV wRa_good rm_X7_98 ri_X7_leastKey rs_X7_leastKey rn_X7 rc_X7_leastKey) rfl rfl rfl (by decide +kernel) hR
def FR_X7_weigh (σ : RS) (p1 : Int32) (p2 : Int32) : Option RS := ((FR_X7_leastKey σ).bind fun q_1 => (if (rI q_1.2 707) ≤ (((5 : Int32) * p2) + (q_1.1 / (512 : Int32))) then (some q_1.2) else (some (ri (ri (ri q_1.2 707 (((5 : Int32) * p2) + (q_1.1 / (512 : Int32)))) 708 p1) 709 (q_1.1 &&& (63 : Int32))))))
set_option maxHeartbeats 4000000 in
set_option maxRecDepth 100000 in
theorem cR_X7_weigh (l : Launch) (D : va_G) (cs : Nat → ClassId) (ad tb : Nat → Nat) (A : Nat → Prop) (σ : RS) (p1 : Int32) (p2 : Int32) (q : RS) (hF : FR_X7_weigh σ p1 p2 = some q) : Met l yX7_weigh wsR_X7_weigh { frames := 3, cells := 0, slots := 0, locals := 71 } (va_Pc [.ref (ad 1007), .int p1, .int p2] (preQ D cs ad tb A σ)) (va_Qv (fun u => u = q) (posQ D cs ad A) A) 0 0 A := by
  refine Met.ofW (cc := cX7_weigh) (maxL := 5) (ret := none) (by decide) rfl ?_
  intro p e s m args below meth c s₁ B hml hv
  obtain ⟨rfl, hP, hK, hD, hZ⟩ := hv
  have hx := B.exec
  have hb := B.bytes
  have hr := B.returns
  have hts : ∀ w ∈ (Cond.code yX7_weigh cX7_weigh 5 none :: wRa), w.before ([.ref (ad 1007), .int p1, .int p2] : List Value).toArray s = true := atoms_spec (ws := wsR_X7_weigh) B.pre
  have hin : ∀ w ∈ wRa, w ∈ (Cond.code yX7_weigh cX7_weigh 5 none :: wRa) := fun w hw => List.mem_cons_of_mem _ hw
  have hown : s.vm.findClass RX7 = some m.cls := findClass_of_methodNamed B.named
  have hlocks := B.notSynchronized
  have hS : va_S A s.heap s.heap [] := va_S.rf
  have hl := lv_entry ([.ref (ad 1007), .int p1, .int p2]) (n := 5) (Nat.le_of_ble_eq_true rfl)
  rw [lg_entry_eq]
  generalize (lg_sl ([.ref (ad 1007), .int p1, .int p2]) ++ List.replicate (5 - (lg_sl ([.ref (ad 1007), .int p1, .int p2])).length) Slot.unset).toArray = ls at hl ⊢
  have hl : lv_has ls 5 [(0, .ref (ad 1007)), (1, .int p1), (2, .int p2)] := hl
  unfold FR_X7_weigh at hF
  refine lv_aload_n hx hb dX7_weigh_0 rfl (lv_at hl 0 rfl) ?_
  obtain ⟨q_1, e_1, hF⟩ := ob_bd hF
  refine cwR (As := []) (rest := []) ⟨hx, hb, hml, hown, hts⟩ (cR_X7_leastKey l D cs ad tb A σ _ e_1) (cw_X7_X7_leastKey_98 hts ⟨Nat.le_of_ble_eq_true rfl, Nat.le_of_ble_eq_true rfl⟩) ⟨Nat.zero_le _, Nat.zero_le _⟩ (rcF hK hP (ci := 7) rfl (ob_7 _ _ _)) hK hP hD hS hZ rfl hl.1 rfl (lv_room (Nat.le_of_ble_eq_true rfl)) dX7_weigh_1 (fun H locs hP hD hS => ?_)
  refine lv_istore_n (i := 3) (lv' := [(3, .int q_1.1), (0, .ref (ad 1007)), (1, .int p1), (2, .int p2)]) hx hb dX7_weigh_4 rfl hl (by decide) rfl (fun ls hl => ?_)
  refine lv_iconst (v := (5 : Int32)) hx hb dX7_weigh_5 (by decide) ?_
  refine lv_iload_n hx hb dX7_weigh_6 rfl (lv_at hl 3 rfl) ?_
  refine lv_imul hx hb dX7_weigh_7 ?_
  refine lv_iload_n hx hb dX7_weigh_8 rfl (lv_at hl 0 rfl) ?_
  refine lv_sipush (v := (512 : Int32)) hx hb dX7_weigh_9 (by decide) ?_
  refine lv_idiv hx hb dX7_weigh_12 (by decide) ?_
  refine lv_iadd hx hb dX7_weigh_13 ?_
  refine lv_istore (i := 4) (lv' := [(4, .int (((5 : Int32) * p2) + (q_1.1 / (512 : Int32)))), (3, .int q_1.1), (0, .ref (ad 1007)), (1, .int p1), (2, .int p2)]) hx hb dX7_weigh_14 hl (by decide) rfl (fun ls hl => ?_)
  refine lv_iload hx hb dX7_weigh_16 (lv_at hl 0 rfl) ?_
  refine lv_aload_n hx hb dX7_weigh_18 rfl (lv_at hl 2 rfl) ?_
  refine gF hx hb hts hin wo_7 rfl hown hK hP (ob_7 _ _ _) 7 (.int (rI q_1.2 707)) (by decide) rf_X7_39 rfl dX7_weigh_19 ?_
  refine lv_icmp_ge (tgt := 44) hx hb dX7_weigh_22 (by decide) (fun c_22 => ?_) (fun c_22 => ?_)
  · have hF := ob_t c_22 hF
    exact rvR hx hb hr hlocks hF hK hP hD hS dX7_weigh_44
  · have hF := ob_f c_22 hF
    refine lv_aload_n hx hb dX7_weigh_25 rfl (lv_at hl 2 rfl) ?_
    refine lv_iload hx hb dX7_weigh_26 (lv_at hl 0 rfl) ?_
    refine pF (ty := .int) hx hb hts hin wo_7 rfl tyX7 tyX7_ok nmX7 hown hK hP hD hS (ob_7 _ _ _) 7 (by decide) rf_X7_39 rfl (by decide +kernel) rfl rfl (Nat.le_of_ble_eq_true rfl) (rp_707 _ _ _ _) dX7_weigh_28 (fun H locs hP hD hS => ?_)
    refine lv_aload_n hx hb dX7_weigh_31 rfl (lv_at hl 2 rfl) ?_
    refine lv_iload_n hx hb dX7_weigh_32 rfl (lv_at hl 3 rfl) ?_
    refine pF (ty := .int) hx hb hts hin wo_7 rfl tyX7 tyX7_ok nmX7 hown hK hP hD hS (ob_7 _ _ _) 8 (by decide) rf_X7_102 rfl (by decide +kernel) rfl rfl (Nat.le_of_ble_eq_true rfl) (rp_708 _ _ _ _) dX7_weigh_33 (fun H locs hP hD hS => ?_)
    refine lv_aload_n hx hb dX7_weigh_36 rfl (lv_at hl 2 rfl) ?_
    refine lv_iload_n hx hb dX7_weigh_37 rfl (lv_at hl 1 rfl) ?_
    refine lv_bipush (v := (63 : Int32)) hx hb dX7_weigh_38 (by decide) ?_
    refine lv_iand hx hb dX7_weigh_40 ?_
    refine pF (ty := .int) hx hb hts hin wo_7 rfl tyX7 tyX7_ok nmX7 hown hK hP hD hS (ob_7 _ _ _) 9 (by decide) rf_X7_105 rfl (by decide +kernel) rfl rfl (Nat.le_of_ble_eq_true rfl) (rp_709 _ _ _ _) dX7_weigh_41 (fun H locs hP hD hS => ?_)
    exact rvR hx hb hr hlocks hF hK hP hD hS dX7_weigh_44
def wsR_X7_startCodeOf : List Cond := Cond.code yX7_startCodeOf cX7_startCodeOf 3 (some .int) :: wRa
def FR_X7_startCodeOf (p0 : Int32) : Option Int32 := (some ((((p0 &&& (1 : Int32)) + ((p0 >>> ((1 : Int32) &&& 31)) &&& (1 : Int32))) + ((3 : Int32) * (((p0 >>> ((2 : Int32) &&& 31)) &&& (1 : Int32)) + ((p0 >>> ((3 : Int32) &&& 31)) &&& (1 : Int32))))) + ((9 : Int32) * (p0 >>> ((4 : Int32) &&& 31)))))
set_option maxHeartbeats 4000000 in
set_option maxRecDepth 100000 in
theorem cR_X7_startCodeOf (l : Launch) (p0 : Int32) (q : Int32) (hF : FR_X7_startCodeOf p0 = some q) : Met l yX7_startCodeOf wsR_X7_startCodeOf { frames := 0, cells := 0, slots := 0, locals := 0 } (va_Pc [.int p0] (fun _ => True)) (vp_Si (fun x => x = q)) 0 0 (fun _ => False) := by
  refine Met.ofW (cc := cX7_startCodeOf) (maxL := 3) (ret := (some .int)) (by decide) rfl ?_
  intro p e s m args below meth c s₁ B hml hv
  obtain ⟨rfl, -⟩ := hv
  have hx := B.exec
  have hb := B.bytes
  have hr := B.returns
  have hts : ∀ w ∈ (Cond.code yX7_startCodeOf cX7_startCodeOf 3 (some .int) :: wRa), w.before ([.int p0] : List Value).toArray s = true := atoms_spec (ws := wsR_X7_startCodeOf) B.pre
  have hin : ∀ w ∈ wRa, w ∈ (Cond.code yX7_startCodeOf cX7_startCodeOf 3 (some .int) :: wRa) := fun w hw => List.mem_cons_of_mem _ hw
  have hown : s.vm.findClass RX7 = some m.cls := findClass_of_methodNamed B.named
  have hlocks := B.notSynchronized
  have hl := lv_entry ([.int p0]) (n := 3) (Nat.le_of_ble_eq_true rfl)
  rw [lg_entry_eq]
  generalize (lg_sl ([.int p0]) ++ List.replicate (3 - (lg_sl ([.int p0])).length) Slot.unset).toArray = ls at hl ⊢
  have hl : lv_has ls 3 [(0, .int p0)] := hl
  unfold FR_X7_startCodeOf at hF
  refine lv_iload_n hx hb dX7_startCodeOf_0 rfl (lv_at hl 0 rfl) ?_
  refine lv_iconst (v := (1 : Int32)) hx hb dX7_startCodeOf_1 (by decide) ?_
  refine lv_iand hx hb dX7_startCodeOf_2 ?_
  refine lv_iload_n hx hb dX7_startCodeOf_3 rfl (lv_at hl 0 rfl) ?_
  refine lv_iconst (v := (1 : Int32)) hx hb dX7_startCodeOf_4 (by decide) ?_
  refine lv_ishr hx hb dX7_startCodeOf_5 ?_
  refine lv_iconst (v := (1 : Int32)) hx hb dX7_startCodeOf_6 (by decide) ?_
  refine lv_iand hx hb dX7_startCodeOf_7 ?_
  refine lv_iadd hx hb dX7_startCodeOf_8 ?_
  refine lv_istore_n (i := 1) (lv' := [(1, .int ((p0 &&& (1 : Int32)) + ((p0 >>> ((1 : Int32) &&& 31)) &&& (1 : Int32)))), (0, .int p0)]) hx hb dX7_startCodeOf_9 rfl hl (by decide) rfl (fun ls hl => ?_)
  refine lv_iload_n hx hb dX7_startCodeOf_10 rfl (lv_at hl 1 rfl) ?_
  refine lv_iconst (v := (2 : Int32)) hx hb dX7_startCodeOf_11 (by decide) ?_
  refine lv_ishr hx hb dX7_startCodeOf_12 ?_
  refine lv_iconst (v := (1 : Int32)) hx hb dX7_startCodeOf_13 (by decide) ?_
  refine lv_iand hx hb dX7_startCodeOf_14 ?_
  refine lv_iload_n hx hb dX7_startCodeOf_15 rfl (lv_at hl 1 rfl) ?_
  refine lv_iconst (v := (3 : Int32)) hx hb dX7_startCodeOf_16 (by decide) ?_
  refine lv_ishr hx hb dX7_startCodeOf_17 ?_
  refine lv_iconst (v := (1 : Int32)) hx hb dX7_startCodeOf_18 (by decide) ?_
  refine lv_iand hx hb dX7_startCodeOf_19 ?_
  refine lv_iadd hx hb dX7_startCodeOf_20 ?_
  refine lv_istore_n (i := 2) (lv' := [(2, .int (((p0 >>> ((2 : Int32) &&& 31)) &&& (1 : Int32)) + ((p0 >>> ((3 : Int32) &&& 31)) &&& (1 : Int32)))), (1, .int ((p0 &&& (1 : Int32)) + ((p0 >>> ((1 : Int32) &&& 31)) &&& (1 : Int32)))), (0, .int p0)]) hx hb dX7_startCodeOf_21 rfl hl (by decide) rfl (fun ls hl => ?_)
  refine lv_iload_n hx hb dX7_startCodeOf_22 rfl (lv_at hl 1 rfl) ?_
  refine lv_iconst (v := (3 : Int32)) hx hb dX7_startCodeOf_23 (by decide) ?_
  refine lv_iload_n hx hb dX7_startCodeOf_24 rfl (lv_at hl 0 rfl) ?_
  refine lv_imul hx hb dX7_startCodeOf_25 ?_
  refine lv_iadd hx hb dX7_startCodeOf_26 ?_
  refine lv_bipush (v := (9 : Int32)) hx hb dX7_startCodeOf_27 (by decide) ?_
  refine lv_iload_n hx hb dX7_startCodeOf_29 rfl (lv_at hl 2 rfl) ?_
  refine lv_iconst (v := (4 : Int32)) hx hb dX7_startCodeOf_30 (by decide) ?_
  refine lv_ishr hx hb dX7_startCodeOf_31 ?_
  refine lv_imul hx hb dX7_startCodeOf_32 ?_
  refine lv_iadd hx hb dX7_startCodeOf_33 ?_
  exact rrM hx hb hr hlocks hF dX7_startCodeOf_34
def wsR_X7_otherOf : List Cond := Cond.code yX7_otherOf cX7_otherOf 2 (some .int) :: wRa
def FR_X7_otherOf (σ : RS) (p0 : Int32) (p1 : Int32) : Option Int32 := (if p1 = (p0 + (1 : Int32)) then (gd (inb p0 5) (some (tbW p0.toNatClampNeg))) else (gd (inb p0 5) (if p1 = (tbW p0.toNatClampNeg) then (some (p0 + (1 : Int32))) else (some (-1 : Int32)))))
set_option maxHeartbeats 4000000 in
set_option maxRecDepth 100000 in
theorem cR_X7_otherOf (l : Launch) (D : va_G) (cs : Nat → ClassId) (ad tb : Nat → Nat) (A : Nat → Prop) (σ : RS) (p0 : Int32) (p1 : Int32) (q : Int32) (hF : FR_X7_otherOf σ p0 p1 = some q) : Met l yX7_otherOf wsR_X7_otherOf { frames := 0, cells := 0, slots := 0, locals := 0 } (va_Pc [.int p0, .int p1] (preQ D cs ad tb A σ)) (vp_Si (fun x => x = q)) 0 0 (fun _ => False) := by
  refine Met.ofW (cc := cX7_otherOf) (maxL := 2) (ret := (some .int)) (by decide) rfl ?_
  intro p e s m args below meth c s₁ B hml hv
  obtain ⟨rfl, hP, hK, hD, hZ⟩ := hv
  have hx := B.exec
  have hb := B.bytes
  have hr := B.returns
  have hts : ∀ w ∈ (Cond.code yX7_otherOf cX7_otherOf 2 (some .int) :: wRa), w.before ([.int p0, .int p1] : List Value).toArray s = true := atoms_spec (ws := wsR_X7_otherOf) B.pre
  have hin : ∀ w ∈ wRa, w ∈ (Cond.code yX7_otherOf cX7_otherOf 2 (some .int) :: wRa) := fun w hw => List.mem_cons_of_mem _ hw
  have hown : s.vm.findClass RX7 = some m.cls := findClass_of_methodNamed B.named
  have hlocks := B.notSynchronized
  have hS : va_S A s.heap s.heap [] := va_S.rf
  have hl := lv_entry ([.int p0, .int p1]) (n := 2) (Nat.le_of_ble_eq_true rfl)
  rw [lg_entry_eq]
  generalize (lg_sl ([.int p0, .int p1]) ++ List.replicate (2 - (lg_sl ([.int p0, .int p1])).length) Slot.unset).toArray = ls at hl ⊢
  have hl : lv_has ls 2 [(0, .int p0), (1, .int p1)] := hl
  unfold FR_X7_otherOf at hF
  refine lv_iload_n hx hb dX7_otherOf_0 rfl (lv_at hl 1 rfl) ?_
  refine lv_iload_n hx hb dX7_otherOf_1 rfl (lv_at hl 0 rfl) ?_
  refine lv_iconst (v := (1 : Int32)) hx hb dX7_otherOf_2 (by decide) ?_
  refine lv_iadd hx hb dX7_otherOf_3 ?_
  refine lv_icmp_ne (tgt := 13) hx hb dX7_otherOf_4 (by decide) (fun c_4 => ?_) (fun c_4 => ?_)
  · have hF := ob_f c_4 hF
    refine lv_iload_n hx hb dX7_otherOf_13 rfl (lv_at hl 1 rfl) ?_
    refine va_getsN hx hb hZ.2.2.1 hS hown (va_Nw.use rfl hZ.2.2.2.2.2.2.1.2.2.2.1) (fun _ h9 => h9) dX7_otherOf_14 ?_
    refine lv_iload_n hx hb dX7_otherOf_17 rfl (lv_at hl 0 rfl) ?_
    obtain ⟨g_18, hF⟩ := ob_gd hF
    refine va_ti (v := .int (tbW p0.toNatClampNeg)) hx hb hZ.2.2.2.1 hS (inb_in g_18) rfl dX7_otherOf_18 ?_
    refine lv_icmp_ne (tgt := 28) hx hb dX7_otherOf_19 (by decide) (fun c_19 => ?_) (fun c_19 => ?_)
    · have hF := ob_f c_19 hF
      refine lv_iconst (v := (-1 : Int32)) hx hb dX7_otherOf_28 (by decide) ?_
      exact rrM hx hb hr hlocks hF dX7_otherOf_29
    · have hF := ob_t c_19 hF
      refine lv_iload_n hx hb dX7_otherOf_22 rfl (lv_at hl 0 rfl) ?_
      refine lv_iconst (v := (1 : Int32)) hx hb dX7_otherOf_23 (by decide) ?_
      refine lv_iadd hx hb dX7_otherOf_24 ?_
      refine lv_goto (tgt := 29) hx hb dX7_otherOf_25 (by decide) ?_
      exact rrM hx hb hr hlocks hF dX7_otherOf_29
  · have hF := ob_t c_4 hF
    refine va_getsN hx hb hZ.2.2.1 hS hown (va_Nw.use rfl hZ.2.2.2.2.2.2.1.2.2.2.1) (fun _ h9 => h9) dX7_otherOf_7 ?_
    refine lv_iload_n hx hb dX7_otherOf_10 rfl (lv_at hl 0 rfl) ?_
    obtain ⟨g_11, hF⟩ := ob_gd hF
    refine va_ti (v := .int (tbW p0.toNatClampNeg)) hx hb hZ.2.2.2.1 hS (inb_in g_11) rfl dX7_otherOf_11 ?_
    exact rrM hx hb hr hlocks hF dX7_otherOf_12
def wsR_X7_countMisses : List Cond := Cond.code yX7_countMisses cX7_countMisses 6 (some .int) :: wRa
theorem cw_X7_X2_missTurned_89 {R : Room} {s : State} {args : Array Value} {y : MethodName} {c : ByteArray} {n : Nat} {r : Option FieldType} (hts : ∀ w ∈ (Cond.code y c n r :: wRa), w.before args s = true) (hR : 1 + 1 ≤ R.frames ∧ 8 + (15 + 11) + 24 ≤ R.locals) : CallW R s args RX7 RX2 89 yX2_missTurned cX2_missTurned 15 (some .int) wsR_X2_missTurned { frames := 1, cells := 0, slots := 0, locals := 24 } 0 0 3 := cwV 3 hts (goodV wRa_good rm_X7_89 ri_X2_missTurned rs_X2_missTurned rn_X2 rc_X2_missTurned) rfl rfl rfl (by decide +kernel) hR
def FR_X7_countMisses_8 (σ : RS) (K_56 : Int32 → Int32 → Option Int32) (x1_8 : Int32) : Nat → Int32 → Int32 → Int32 → Option Int32
  | 0, _, _, _ => none
  | n_8 + 1, x2_8, x3_8, x4_8 => (if (4 : Int32) ≤ x4_8 then (K_56 x2_8 x3_8) else ((FR_X2_missTurned σ x1_8 (x4_8 &&& (1 : Int32)) (x4_8 >>> ((1 : Int32) &&& 31))).bind fun q_27 => (FR_X7_countMisses_8 σ K_56 x1_8 n_8 (if q_27 < x2_8 then q_27 else x2_8) (x3_8 ||| (q_27 <<< (((6 : Int32) * x4_8) &&& 31))) (x4_8 + (1 : Int32)))))
def FR_X7_countMisses_56 (σ : RS) (x2_56 : Int32) (x3_56 : Int32) : Option Int32 := (some ((x2_56 <<< ((24 : Int32) &&& 31)) ||| x3_56))
def FR_X7_countMisses (σ : RS) (p1 : Int32) : Option Int32 := (FR_X7_countMisses_8 σ (fun x2_56 x3_56 => FR_X7_countMisses_56 σ x2_56 x3_56) p1 fu (63 : Int32) (0 : Int32) (0 : Int32))
set_option maxHeartbeats 4000000 in
set_option maxRecDepth 100000 in
theorem cR_X7_countMisses (l : Launch) (D : va_G) (cs : Nat → ClassId) (ad tb : Nat → Nat) (A : Nat → Prop) (σ : RS) (p1 : Int32) (q : Int32) (hF : FR_X7_countMisses σ p1 = some q) : Met l yX7_countMisses wsR_X7_countMisses { frames := 2, cells := 0, slots := 0, locals := 58 } (va_Pc [.ref (ad 1007), .int p1] (preQ D cs ad tb A σ)) (vp_Si (fun x => x = q)) 0 0 (fun _ => False) := by
  refine Met.ofW (cc := cX7_countMisses) (maxL := 6) (ret := (some .int)) (by decide) rfl ?_
  intro p e s m args below meth c s₁ B hml hv
  obtain ⟨rfl, hP, hK, hD, hZ⟩ := hv
  have hx := B.exec
  have hb := B.bytes
  have hr := B.returns
  have hts : ∀ w ∈ (Cond.code yX7_countMisses cX7_countMisses 6 (some .int) :: wRa), w.before ([.ref (ad 1007), .int p1] : List Value).toArray s = true := atoms_spec (ws := wsR_X7_countMisses) B.pre
  have hin : ∀ w ∈ wRa, w ∈ (Cond.code yX7_countMisses cX7_countMisses 6 (some .int) :: wRa) := fun w hw => List.mem_cons_of_mem _ hw
  have hown : s.vm.findClass RX7 = some m.cls := findClass_of_methodNamed B.named
  have hlocks := B.notSynchronized
  have hS : va_S A s.heap s.heap [] := va_S.rf
  have b_8 : ∀ (x1_8 : Int32) (K_56 : Int32 → Int32 → Option Int32) (k_56 : ∀ (x2_56 : Int32) (x3_56 : Int32) (ls : Array Slot), K_56 x2_56 x3_56 = some q → lv_has ls 6 [(0, .ref (ad 1007)), (2, .int x2_56), (3, .int x3_56)] → W p l e (headSpec wsR_X7_countMisses { frames := 2, cells := 0, slots := 0, locals := 58 }).room s m ([.ref (ad 1007), .int p1] : List Value).toArray below meth c s.heap [] 0 0 (MQ below (vp_Si (fun x => x = q)) ([.ref (ad 1007), .int p1] : List Value).toArray s 0 0 (fun _ => False)) (F0 m 56 ls [])) (n_8 : Nat) (x2_8 : Int32) (x3_8 : Int32) (x4_8 : Int32) (ls : Array Slot), FR_X7_countMisses_8 σ K_56 x1_8 n_8 x2_8 x3_8 x4_8 = some q → lv_has ls 6 [(0, .ref (ad 1007)), (1, .int x1_8), (2, .int x2_8), (3, .int x3_8), (4, .int x4_8)] → W p l e (headSpec wsR_X7_countMisses { frames := 2, cells := 0, slots := 0, locals := 58 }).room s m ([.ref (ad 1007), .int p1] : List Value).toArray below meth c s.heap [] 0 0 (MQ below (vp_Si (fun x => x = q)) ([.ref (ad 1007), .int p1] : List Value).toArray s 0 0 (fun _ => False)) (F0 m 8 ls []) := by
    intro x1_8 K_56 k_56
    intro n_8
    induction n_8 with
    | zero =>
      intro x2_8 x3_8 x4_8 ls hF hl
      exact absurd hF (by simp [FR_X7_countMisses_8])
    | succ n_8 ih_8 =>
      intro x2_8 x3_8 x4_8 ls hF hl
      rw [FR_X7_countMisses_8] at hF
      refine lv_iload hx hb dX7_countMisses_8 (lv_at hl 4 rfl) ?_
      refine lv_iconst (v := (4 : Int32)) hx hb dX7_countMisses_10 (by decide) ?_
      refine lv_icmp_ge (tgt := 56) hx hb dX7_countMisses_11 (by decide) (fun c_11 => ?_) (fun c_11 => ?_)
      · have hF := ob_t c_11 hF
        exact k_56 x2_8 x3_8 _ hF (lv_sub hl [0, 2, 3] rfl)
      · have hF := ob_f c_11 hF
        refine lv_aload_n hx hb dX7_countMisses_14 rfl (lv_at hl 0 rfl) ?_
        refine gF hx hb hts hin wo_7 rfl hown hK hP (ob_7 _ _ _) 0 (.ref (ad 1002)) (by decide) rf_X7_12 rfl dX7_countMisses_15 ?_
        refine lv_iload_n hx hb dX7_countMisses_18 rfl (lv_at hl 1 rfl) ?_
        refine lv_iload hx hb dX7_countMisses_19 (lv_at hl 4 rfl) ?_
        refine lv_iconst (v := (1 : Int32)) hx hb dX7_countMisses_21 (by decide) ?_
        refine lv_iand hx hb dX7_countMisses_22 ?_
        refine lv_iload hx hb dX7_countMisses_23 (lv_at hl 4 rfl) ?_
        refine lv_iconst (v := (1 : Int32)) hx hb dX7_countMisses_25 (by decide) ?_
        refine lv_ishr hx hb dX7_countMisses_26 ?_
        obtain ⟨q_27, e_27, hF⟩ := ob_bd hF
        refine crR (As := [.int x1_8, .int (x4_8 &&& (1 : Int32)), .int (x4_8 >>> ((1 : Int32) &&& 31))]) (rest := []) ⟨hx, hb, hml, hown, hts⟩ (cR_X2_missTurned l D cs ad tb A σ x1_8 (x4_8 &&& (1 : Int32)) (x4_8 >>> ((1 : Int32) &&& 31)) _ e_27) (cw_X7_X2_missTurned_89 hts ⟨Nat.le_of_ble_eq_true rfl, Nat.le_of_ble_eq_true rfl⟩) ⟨Nat.zero_le _, Nat.zero_le _⟩ (rcF hK hP (ci := 2) rfl (ob_2 _ _ _)) hK hP hD hS hZ rfl hl.1 rfl (lv_room (Nat.le_of_ble_eq_true rfl)) dX7_countMisses_27 ?_
        refine lv_istore (i := 5) (lv' := [(5, .int q_27), (0, .ref (ad 1007)), (1, .int x1_8), (2, .int x2_8), (3, .int x3_8), (4, .int x4_8)]) hx hb dX7_countMisses_30 hl (by decide) rfl (fun ls hl => ?_)
        refine lv_iload_n hx hb dX7_countMisses_32 rfl (lv_at hl 3 rfl) ?_
        refine lv_iload hx hb dX7_countMisses_33 (lv_at hl 0 rfl) ?_
        refine va_mmin hx hb (hml.trans hl.1.symm) hown (hts _ (hin _ rm_X7_93)) (hts _ (hin _ rt_min)) (hts _ (hin _ rn_math)) (hts _ (hin _ rc_min)) (Nat.le_of_ble_eq_true rfl) (Nat.le_of_ble_eq_true rfl) (Nat.le_of_ble_eq_true rfl) (Nat.le_of_ble_eq_true rfl) dX7_countMisses_35 ?_
        refine lv_istore_n (i := 2) (lv' := [(2, .int (if q_27 < x2_8 then q_27 else x2_8)), (5, .int q_27), (0, .ref (ad 1007)), (1, .int x1_8), (3, .int x3_8), (4, .int x4_8)]) hx hb dX7_countMisses_38 rfl hl (by decide) rfl (fun ls hl => ?_)
        refine lv_iload_n hx hb dX7_countMisses_39 rfl (lv_at hl 4 rfl) ?_
        refine lv_iload hx hb dX7_countMisses_40 (lv_at hl 1 rfl) ?_
        refine lv_bipush (v := (6 : Int32)) hx hb dX7_countMisses_42 (by decide) ?_
        refine lv_iload hx hb dX7_countMisses_44 (lv_at hl 5 rfl) ?_
        refine lv_imul hx hb dX7_countMisses_46 ?_
        refine lv_ishl hx hb dX7_countMisses_47 ?_
        refine lv_ior hx hb dX7_countMisses_48 ?_
        refine lv_istore_n (i := 3) (lv' := [(3, .int (x3_8 ||| (q_27 <<< (((6 : Int32) * x4_8) &&& 31)))), (2, .int (if q_27 < x2_8 then q_27 else x2_8)), (5, .int q_27), (0, .ref (ad 1007)), (1, .int x1_8), (4, .int x4_8)]) hx hb dX7_countMisses_49 rfl hl (by decide) rfl (fun ls hl => ?_)
        refine lv_iinc (v := x4_8 + (1 : Int32)) (lv' := [(4, .int (x4_8 + (1 : Int32))), (3, .int (x3_8 ||| (q_27 <<< (((6 : Int32) * x4_8) &&& 31)))), (2, .int (if q_27 < x2_8 then q_27 else x2_8)), (5, .int q_27), (0, .ref (ad 1007)), (1, .int x1_8)]) hx hb dX7_countMisses_50 hl (k := 5) rfl rfl (by decide) rfl (fun ls hl => ?_)
        refine lv_goto (tgt := 8) hx hb dX7_countMisses_53 (by decide) ?_
        exact ih_8 (if q_27 < x2_8 then q_27 else x2_8) (x3_8 ||| (q_27 <<< (((6 : Int32) * x4_8) &&& 31))) (x4_8 + (1 : Int32)) _ hF (lv_sub hl [4, 5, 2, 1, 0] rfl)
  have b_56 : ∀ (x2_56 : Int32) (x3_56 : Int32) (ls : Array Slot), FR_X7_countMisses_56 σ x2_56 x3_56 = some q → lv_has ls 6 [(0, .ref (ad 1007)), (2, .int x2_56), (3, .int x3_56)] → W p l e (headSpec wsR_X7_countMisses { frames := 2, cells := 0, slots := 0, locals := 58 }).room s m ([.ref (ad 1007), .int p1] : List Value).toArray below meth c s.heap [] 0 0 (MQ below (vp_Si (fun x => x = q)) ([.ref (ad 1007), .int p1] : List Value).toArray s 0 0 (fun _ => False)) (F0 m 56 ls []) := by
    intro x2_56 x3_56 ls hF hl
    unfold FR_X7_countMisses_56 at hF
    refine lv_iload_n hx hb dX7_countMisses_56 rfl (lv_at hl 1 rfl) ?_
    refine lv_bipush (v := (24 : Int32)) hx hb dX7_countMisses_57 (by decide) ?_
    refine lv_ishl hx hb dX7_countMisses_59 ?_
    refine lv_iload_n hx hb dX7_countMisses_60 rfl (lv_at hl 2 rfl) ?_
    refine lv_ior hx hb dX7_countMisses_61 ?_
    exact rrM hx hb hr hlocks hF dX7_countMisses_62
  have hl := lv_entry ([.ref (ad 1007), .int p1]) (n := 6) (Nat.le_of_ble_eq_true rfl)
  rw [lg_entry_eq]
  generalize (lg_sl ([.ref (ad 1007), .int p1]) ++ List.replicate (6 - (lg_sl ([.ref (ad 1007), .int p1])).length) Slot.unset).toArray = ls at hl ⊢
  have hl : lv_has ls 6 [(0, .ref (ad 1007)), (1, .int p1)] := hl
  unfold FR_X7_countMisses at hF
  refine lv_bipush (v := (63 : Int32)) hx hb dX7_countMisses_0 (by decide) ?_
  refine lv_istore_n (i := 2) (lv' := [(2, .int (63 : Int32)), (0, .ref (ad 1007)), (1, .int p1)]) hx hb dX7_countMisses_2 rfl hl (by decide) rfl (fun ls hl => ?_)
  refine lv_iconst (v := (0 : Int32)) hx hb dX7_countMisses_3 (by decide) ?_
  refine lv_istore_n (i := 3) (lv' := [(3, .int (0 : Int32)), (2, .int (63 : Int32)), (0, .ref (ad 1007)), (1, .int p1)]) hx hb dX7_countMisses_4 rfl hl (by decide) rfl (fun ls hl => ?_)
  refine lv_iconst (v := (0 : Int32)) hx hb dX7_countMisses_5 (by decide) ?_
  refine lv_istore (i := 4) (lv' := [(4, .int (0 : Int32)), (3, .int (0 : Int32)), (2, .int (63 : Int32)), (0, .ref (ad 1007)), (1, .int p1)]) hx hb dX7_countMisses_6 hl (by decide) rfl (fun ls hl => ?_)
  exact b_8 p1 (fun x2_56 x3_56 => FR_X7_countMisses_56 σ x2_56 x3_56) (fun x2_56 x3_56 => b_56 x2_56 x3_56) fu (63 : Int32) (0 : Int32) (0 : Int32) _ hF (lv_sub hl [3, 4, 2, 1, 0] rfl)
def wsR_X7_missesOf : List Cond := Cond.code yX7_missesOf cX7_missesOf 5 (some .int) :: wRa
theorem cw_X7_X7_countMisses_86 {R : Room} {s : State} {args : Array Value} {y : MethodName} {c : ByteArray} {n : Nat} {r : Option FieldType} (hts : ∀ w ∈ (Cond.code y c n r :: wRa), w.before args s = true) (hR : 2 + 1 ≤ R.frames ∧ 8 + (6 + 11) + 58 ≤ R.locals) : CallW R s args RX7 RX7 86 yX7_countMisses cX7_countMisses 6 (some .int) wsR_X7_countMisses { frames := 2, cells := 0, slots := 0, locals := 58 } 0 0 1 := cwV 1 hts (goodV wRa_good rm_X7_86 ri_X7_countMisses rs_X7_countMisses rn_X7 rc_X7_countMisses) rfl rfl rfl (by decide +kernel) hR
def FR_X7_missesOf_52 (x1_52 : Int32) (σ_52 : RS) : Option (Int32 × RS) := ((FR_X7_countMisses σ_52 x1_52).bind fun q_54 => (some (q_54, σ_52)))
def FR_X7_missesOf_81 (x4_81 : Int32) (σ_81 : RS) : Option (Int32 × RS) := (gd (inb x4_81 5184) (some ((rA σ_81 701 x4_81.toNatClampNeg), σ_81)))
def FR_X7_missesOf (σ : RS) (p1 : Int32) : Option (Int32 × RS) := (gd (inb (p1 + (1 : Int32)) 6) (gd (inb p1 5) (gd (inb (tbW p1.toNatClampNeg) 6) (gd (inb p1 5) (if (((((tbK p1.toNatClampNeg) * (36 : Int32)) + (rA σ 702 (p1 + (1 : Int32)).toNatClampNeg)) * (36 : Int32)) + (rA σ 702 (tbW p1.toNatClampNeg).toNatClampNeg)) < 0 then (FR_X7_missesOf_52 p1 σ) else (if (((((tbK p1.toNatClampNeg) * (36 : Int32)) + (rA σ 702 (p1 + (1 : Int32)).toNatClampNeg)) * (36 : Int32)) + (rA σ 702 (tbW p1.toNatClampNeg).toNatClampNeg)) < (5184 : Int32) then (gd (inb (((((tbK p1.toNatClampNeg) * (36 : Int32)) + (rA σ 702 (p1 + (1 : Int32)).toNatClampNeg)) * (36 : Int32)) + (rA σ 702 (tbW p1.toNatClampNeg).toNatClampNeg)) 5184) (if (rA σ 701 (((((tbK p1.toNatClampNeg) * (36 : Int32)) + (rA σ 702 (p1 + (1 : Int32)).toNatClampNeg)) * (36 : Int32)) + (rA σ 702 (tbW p1.toNatClampNeg).toNatClampNeg)).toNatClampNeg) = (-1 : Int32) then ((FR_X7_countMisses σ p1).bind fun q_77 => (gd (inb (((((tbK p1.toNatClampNeg) * (36 : Int32)) + (rA σ 702 (p1 + (1 : Int32)).toNatClampNeg)) * (36 : Int32)) + (rA σ 702 (tbW p1.toNatClampNeg).toNatClampNeg)) 5184) (FR_X7_missesOf_81 (((((tbK p1.toNatClampNeg) * (36 : Int32)) + (rA σ 702 (p1 + (1 : Int32)).toNatClampNeg)) * (36 : Int32)) + (rA σ 702 (tbW p1.toNatClampNeg).toNatClampNeg)) (ra σ 701 (((((tbK p1.toNatClampNeg) * (36 : Int32)) + (rA σ 702 (p1 + (1 : Int32)).toNatClampNeg)) * (36 : Int32)) + (rA σ 702 (tbW p1.toNatClampNeg).toNatClampNeg)) q_77)))) else (FR_X7_missesOf_81 (((((tbK p1.toNatClampNeg) * (36 : Int32)) + (rA σ 702 (p1 + (1 : Int32)).toNatClampNeg)) * (36 : Int32)) + (rA σ 702 (tbW p1.toNatClampNeg).toNatClampNeg)) σ))) else (FR_X7_missesOf_52 p1 σ)))))))
set_option maxHeartbeats 4000000 in
set_option maxRecDepth 100000 in
theorem cR_X7_missesOf (l : Launch) (D : va_G) (cs : Nat → ClassId) (ad tb : Nat → Nat) (A : Nat → Prop) (σ : RS) (p1 : Int32) (q : (Int32 × RS)) (hF : FR_X7_missesOf σ p1 = some q) : Met l yX7_missesOf wsR_X7_missesOf { frames := 3, cells := 0, slots := 0, locals := 83 } (va_Pc [.ref (ad 1007), .int p1] (preQ D cs ad tb A σ)) (va_Qi (fun x u => x = q.1 ∧ u = q.2) (posQ D cs ad A) A) 0 0 A := by
  refine Met.ofW (cc := cX7_missesOf) (maxL := 5) (ret := (some .int)) (by decide) rfl ?_
  intro p e s m args below meth c s₁ B hml hv
  obtain ⟨rfl, hP, hK, hD, hZ⟩ := hv
  have hx := B.exec
  have hb := B.bytes
  have hr := B.returns
  have hts : ∀ w ∈ (Cond.code yX7_missesOf cX7_missesOf 5 (some .int) :: wRa), w.before ([.ref (ad 1007), .int p1] : List Value).toArray s = true := atoms_spec (ws := wsR_X7_missesOf) B.pre
  have hin : ∀ w ∈ wRa, w ∈ (Cond.code yX7_missesOf cX7_missesOf 5 (some .int) :: wRa) := fun w hw => List.mem_cons_of_mem _ hw
  have hown : s.vm.findClass RX7 = some m.cls := findClass_of_methodNamed B.named
  have hlocks := B.notSynchronized
  have hS : va_S A s.heap s.heap [] := va_S.rf
  have b_52 : ∀ (x1_52 : Int32) (σ_52 : RS) (H : Heap) (locs : List Loc) (ls : Array Slot), FR_X7_missesOf_52 x1_52 σ_52 = some q → va_P D vwCl (wR cs ad σ_52) H → va_D A (wR cs ad σ_52) → va_S A s.heap H locs → lv_has ls 5 [(0, .ref (ad 1007)), (1, .int x1_52)] → W p l e (headSpec wsR_X7_missesOf { frames := 3, cells := 0, slots := 0, locals := 83 }).room s m ([.ref (ad 1007), .int p1] : List Value).toArray below meth c H locs 0 0 (MQ below (va_Qi (fun x u => x = q.1 ∧ u = q.2) (posQ D cs ad A) A) ([.ref (ad 1007), .int p1] : List Value).toArray s 0 0 A) (F0 m 52 ls []) := by
    intro x1_52 σ_52 H locs ls hF hP hD hS hl
    unfold FR_X7_missesOf_52 at hF
    refine lv_aload_n hx hb dX7_missesOf_52 rfl (lv_at hl 0 rfl) ?_
    refine lv_iload_n hx hb dX7_missesOf_53 rfl (lv_at hl 1 rfl) ?_
    obtain ⟨q_54, e_54, hF⟩ := ob_bd hF
    refine crR (As := [.int x1_52]) (rest := []) ⟨hx, hb, hml, hown, hts⟩ (cR_X7_countMisses l D cs ad tb A σ_52 x1_52 _ e_54) (cw_X7_X7_countMisses_86 hts ⟨Nat.le_of_ble_eq_true rfl, Nat.le_of_ble_eq_true rfl⟩) ⟨Nat.zero_le _, Nat.zero_le _⟩ (rcF hK hP (ci := 7) rfl (ob_7 _ _ _)) hK hP hD hS hZ rfl hl.1 rfl (lv_room (Nat.le_of_ble_eq_true rfl)) dX7_missesOf_54 ?_
    exact rwR hx hb hr hlocks hF hK hP hD hS dX7_missesOf_57
  have b_81 : ∀ (x4_81 : Int32) (σ_81 : RS) (H : Heap) (locs : List Loc) (ls : Array Slot), FR_X7_missesOf_81 x4_81 σ_81 = some q → va_P D vwCl (wR cs ad σ_81) H → va_D A (wR cs ad σ_81) → va_S A s.heap H locs → lv_has ls 5 [(0, .ref (ad 1007)), (4, .int x4_81)] → W p l e (headSpec wsR_X7_missesOf { frames := 3, cells := 0, slots := 0, locals := 83 }).room s m ([.ref (ad 1007), .int p1] : List Value).toArray below meth c H locs 0 0 (MQ below (va_Qi (fun x u => x = q.1 ∧ u = q.2) (posQ D cs ad A) A) ([.ref (ad 1007), .int p1] : List Value).toArray s 0 0 A) (F0 m 81 ls []) := by
    intro x4_81 σ_81 H locs ls hF hP hD hS hl
    unfold FR_X7_missesOf_81 at hF
    refine lv_aload_n hx hb dX7_missesOf_81 rfl (lv_at hl 0 rfl) ?_
    refine gF hx hb hts hin wo_7 rfl hown hK hP (ob_7 _ _ _) 1 (.ref (ad 701)) (by decide) rf_X7_18 rfl dX7_missesOf_82 ?_
    refine lv_iload hx hb dX7_missesOf_85 (lv_at hl 1 rfl) ?_
    obtain ⟨g_87, hF⟩ := ob_gd hF
    refine ldF hx hb hK hP (ra_701 _ _ _) (rA σ_81 701 x4_81.toNatClampNeg) g_87 rfl dX7_missesOf_87 ?_
    exact rwR hx hb hr hlocks hF hK hP hD hS dX7_missesOf_88
  have hl := lv_entry ([.ref (ad 1007), .int p1]) (n := 5) (Nat.le_of_ble_eq_true rfl)
  rw [lg_entry_eq]
  generalize (lg_sl ([.ref (ad 1007), .int p1]) ++ List.replicate (5 - (lg_sl ([.ref (ad 1007), .int p1])).length) Slot.unset).toArray = ls at hl ⊢
  have hl : lv_has ls 5 [(0, .ref (ad 1007)), (1, .int p1)] := hl
  unfold FR_X7_missesOf at hF
  refine lv_aload_n hx hb dX7_missesOf_0 rfl (lv_at hl 0 rfl) ?_
  refine gF hx hb hts hin wo_7 rfl hown hK hP (ob_7 _ _ _) 2 (.ref (ad 702)) (by decide) rf_X7_22 rfl dX7_missesOf_1 ?_
  refine lv_iload_n hx hb dX7_missesOf_4 rfl (lv_at hl 1 rfl) ?_
  refine lv_iconst (v := (1 : Int32)) hx hb dX7_missesOf_5 (by decide) ?_
  refine lv_iadd hx hb dX7_missesOf_6 ?_
  obtain ⟨g_7, hF⟩ := ob_gd hF
  refine ldF hx hb hK hP (ra_702 _ _ _) (rA σ 702 (p1 + (1 : Int32)).toNatClampNeg) g_7 rfl dX7_missesOf_7 ?_
  refine lv_istore_n (i := 2) (lv' := [(2, .int (rA σ 702 (p1 + (1 : Int32)).toNatClampNeg)), (0, .ref (ad 1007)), (1, .int p1)]) hx hb dX7_missesOf_8 rfl hl (by decide) rfl (fun ls hl => ?_)
  refine lv_aload_n hx hb dX7_missesOf_9 rfl (lv_at hl 1 rfl) ?_
  refine gF hx hb hts hin wo_7 rfl hown hK hP (ob_7 _ _ _) 2 (.ref (ad 702)) (by decide) rf_X7_22 rfl dX7_missesOf_10 ?_
  refine va_getsN hx hb hZ.2.2.1 hS hown (va_Nw.use rfl hZ.2.2.2.2.2.2.1.2.2.2.1) (fun _ h9 => h9) dX7_missesOf_13 ?_
  refine lv_iload_n hx hb dX7_missesOf_16 rfl (lv_at hl 2 rfl) ?_
  obtain ⟨g_17, hF⟩ := ob_gd hF
  refine va_ti (v := .int (tbW p1.toNatClampNeg)) hx hb hZ.2.2.2.1 hS (inb_in g_17) rfl dX7_missesOf_17 ?_
  obtain ⟨g_18, hF⟩ := ob_gd hF
  refine ldF hx hb hK hP (ra_702 _ _ _) (rA σ 702 (tbW p1.toNatClampNeg).toNatClampNeg) g_18 rfl dX7_missesOf_18 ?_
  refine lv_istore_n (i := 3) (lv' := [(3, .int (rA σ 702 (tbW p1.toNatClampNeg).toNatClampNeg)), (2, .int (rA σ 702 (p1 + (1 : Int32)).toNatClampNeg)), (0, .ref (ad 1007)), (1, .int p1)]) hx hb dX7_missesOf_19 rfl hl (by decide) rfl (fun ls hl => ?_)
  refine va_gets hx hb hZ.2.2.2.2.1 hS hown (hts _ (hin _ rf_X7_83)) (fun _ h9 => h9) dX7_missesOf_20 ?_
  refine lv_iload_n hx hb dX7_missesOf_23 rfl (lv_at hl 3 rfl) ?_
  obtain ⟨g_24, hF⟩ := ob_gd hF
  refine va_ti (v := .int (tbK p1.toNatClampNeg)) hx hb hZ.2.2.2.2.2.1 hS (inb_in g_24) rfl dX7_missesOf_24 ?_
  refine lv_bipush (v := (36 : Int32)) hx hb dX7_missesOf_25 (by decide) ?_
  refine lv_imul hx hb dX7_missesOf_27 ?_
  refine lv_iload_n hx hb dX7_missesOf_28 rfl (lv_at hl 1 rfl) ?_
  refine lv_iadd hx hb dX7_missesOf_29 ?_
  refine lv_bipush (v := (36 : Int32)) hx hb dX7_missesOf_30 (by decide) ?_
  refine lv_imul hx hb dX7_missesOf_32 ?_
  refine lv_iload_n hx hb dX7_missesOf_33 rfl (lv_at hl 0 rfl) ?_
  refine lv_iadd hx hb dX7_missesOf_34 ?_
  refine lv_istore (i := 4) (lv' := [(4, .int (((((tbK p1.toNatClampNeg) * (36 : Int32)) + (rA σ 702 (p1 + (1 : Int32)).toNatClampNeg)) * (36 : Int32)) + (rA σ 702 (tbW p1.toNatClampNeg).toNatClampNeg))), (3, .int (rA σ 702 (tbW p1.toNatClampNeg).toNatClampNeg)), (2, .int (rA σ 702 (p1 + (1 : Int32)).toNatClampNeg)), (0, .ref (ad 1007)), (1, .int p1)]) hx hb dX7_missesOf_35 hl (by decide) rfl (fun ls hl => ?_)
  refine lv_iload hx hb dX7_missesOf_37 (lv_at hl 0 rfl) ?_
  refine lv_if_lt (tgt := 52) hx hb dX7_missesOf_39 (by decide) (fun c_39 => ?_) (fun c_39 => ?_)
  · have hF := ob_t c_39 hF
    exact b_52 p1 σ _ _ _ hF hP hD hS (lv_sub hl [3, 4] rfl)
  · have hF := ob_f c_39 hF
    refine lv_iload hx hb dX7_missesOf_42 (lv_at hl 0 rfl) ?_
    refine lv_aload_n hx hb dX7_missesOf_44 rfl (lv_at hl 3 rfl) ?_
    refine gF hx hb hts hin wo_7 rfl hown hK hP (ob_7 _ _ _) 1 (.ref (ad 701)) (by decide) rf_X7_18 rfl dX7_missesOf_45 ?_
    refine lnF (v := (5184 : Int32)) hx hb hK hP (ra_701 _ _ _) rfl dX7_missesOf_48 ?_
    refine lv_icmp_lt (tgt := 58) hx hb dX7_missesOf_49 (by decide) (fun c_49 => ?_) (fun c_49 => ?_)
    · have hF := ob_t c_49 hF
      refine lv_aload_n hx hb dX7_missesOf_58 rfl (lv_at hl 3 rfl) ?_
      refine gF hx hb hts hin wo_7 rfl hown hK hP (ob_7 _ _ _) 1 (.ref (ad 701)) (by decide) rf_X7_18 rfl dX7_missesOf_59 ?_
      refine lv_iload hx hb dX7_missesOf_62 (lv_at hl 0 rfl) ?_
      obtain ⟨g_64, hF⟩ := ob_gd hF
      refine ldF hx hb hK hP (ra_701 _ _ _) (rA σ 701 (((((tbK p1.toNatClampNeg) * (36 : Int32)) + (rA σ 702 (p1 + (1 : Int32)).toNatClampNeg)) * (36 : Int32)) + (rA σ 702 (tbW p1.toNatClampNeg).toNatClampNeg)).toNatClampNeg) g_64 rfl dX7_missesOf_64 ?_
      refine lv_iconst (v := (-1 : Int32)) hx hb dX7_missesOf_65 (by decide) ?_
      refine lv_icmp_ne (tgt := 81) hx hb dX7_missesOf_66 (by decide) (fun c_66 => ?_) (fun c_66 => ?_)
      · have hF := ob_f c_66 hF
        exact b_81 (((((tbK p1.toNatClampNeg) * (36 : Int32)) + (rA σ 702 (p1 + (1 : Int32)).toNatClampNeg)) * (36 : Int32)) + (rA σ 702 (tbW p1.toNatClampNeg).toNatClampNeg)) σ _ _ _ hF hP hD hS (lv_sub hl [3, 0] rfl)
      · have hF := ob_t c_66 hF
        refine lv_aload_n hx hb dX7_missesOf_69 rfl (lv_at hl 3 rfl) ?_
        refine gF hx hb hts hin wo_7 rfl hown hK hP (ob_7 _ _ _) 1 (.ref (ad 701)) (by decide) rf_X7_18 rfl dX7_missesOf_70 ?_
        refine lv_iload hx hb dX7_missesOf_73 (lv_at hl 0 rfl) ?_
        refine lv_aload_n hx hb dX7_missesOf_75 rfl (lv_at hl 3 rfl) ?_
        refine lv_iload_n hx hb dX7_missesOf_76 rfl (lv_at hl 4 rfl) ?_
        obtain ⟨q_77, e_77, hF⟩ := ob_bd hF
        refine crR (As := [.int p1]) (rest := [.int (((((tbK p1.toNatClampNeg) * (36 : Int32)) + (rA σ 702 (p1 + (1 : Int32)).toNatClampNeg)) * (36 : Int32)) + (rA σ 702 (tbW p1.toNatClampNeg).toNatClampNeg)), .ref (ad 701)]) ⟨hx, hb, hml, hown, hts⟩ (cR_X7_countMisses l D cs ad tb A σ p1 _ e_77) (cw_X7_X7_countMisses_86 hts ⟨Nat.le_of_ble_eq_true rfl, Nat.le_of_ble_eq_true rfl⟩) ⟨Nat.zero_le _, Nat.zero_le _⟩ (rcF hK hP (ci := 7) rfl (ob_7 _ _ _)) hK hP hD hS hZ rfl hl.1 rfl (lv_room (Nat.le_of_ble_eq_true rfl)) dX7_missesOf_77 ?_
        obtain ⟨g_80, hF⟩ := ob_gd hF
        refine stF hx hb hK hP hD hS (ra_701 _ _ _) (rs_701 _ _ _ _ _) g_80 dX7_missesOf_80 (fun H locs hP hD hS => ?_)
        exact b_81 (((((tbK p1.toNatClampNeg) * (36 : Int32)) + (rA σ 702 (p1 + (1 : Int32)).toNatClampNeg)) * (36 : Int32)) + (rA σ 702 (tbW p1.toNatClampNeg).toNatClampNeg)) (ra σ 701 (((((tbK p1.toNatClampNeg) * (36 : Int32)) + (rA σ 702 (p1 + (1 : Int32)).toNatClampNeg)) * (36 : Int32)) + (rA σ 702 (tbW p1.toNatClampNeg).toNatClampNeg)) q_77) _ _ _ hF hP hD hS (lv_sub hl [3, 0] rfl)
    · have hF := ob_f c_49 hF
      exact b_52 p1 σ _ _ _ hF hP hD hS (lv_sub hl [3, 4] rfl)
def wsR_X7_meetSeams : List Cond := Cond.code yX7_meetSeams cX7_meetSeams 6 (some .int) :: wRa
theorem cw_X7_X7_otherOf_74 {R : Room} {s : State} {args : Array Value} {y : MethodName} {c : ByteArray} {n : Nat} {r : Option FieldType} (hts : ∀ w ∈ (Cond.code y c n r :: wRa), w.before args s = true) (hR : 0 + 1 ≤ R.frames ∧ 8 + (2 + 11) + 0 ≤ R.locals) : CallB R s args RX7 74 yX7_otherOf cX7_otherOf 2 (some .int) wsR_X7_otherOf { frames := 0, cells := 0, slots := 0, locals := 0 } 0 0 2 ∧ (Cond.static yX7_otherOf).before args s = true := va_cwS 2 hts (goodS wRa_good rm_X7_74 rt_X7_otherOf rn_X7 rc_X7_otherOf) rfl rfl rfl (by decide +kernel) hR
theorem cw_X7_X7_missesOf_77 {R : Room} {s : State} {args : Array Value} {y : MethodName} {c : ByteArray} {n : Nat} {r : Option FieldType} (hts : ∀ w ∈ (Cond.code y c n r :: wRa), w.before args s = true) (hR : 3 + 1 ≤ R.frames ∧ 8 + (5 + 11) + 83 ≤ R.locals) : CallW R s args RX7 RX7 77 yX7_missesOf cX7_missesOf 5 (some .int) wsR_X7_missesOf { frames := 3, cells := 0, slots := 0, locals := 83 } 0 0 1 := cwV 1 hts (goodV wRa_good rm_X7_77 ri_X7_missesOf rs_X7_missesOf rn_X7 rc_X7_missesOf) rfl rfl rfl (by decide +kernel) hR
def FR_X7_meetSeams_5 (x1_5 : Int32) (x2_5 : Int32) : Nat → Int32 → Int32 → RS → Option (Int32 × RS)
  | 0, _, _, _ => none
  | n_5 + 1, x3_5, x4_5, σ_5 => (if (5 : Int32) ≤ x4_5 then (some (x3_5, σ_5)) else ((FR_X7_otherOf σ_5 x4_5 x1_5).bind fun q_14 => (if q_14 = (-1 : Int32) then (FR_X7_meetSeams_5  x1_5 x2_5 n_5 x3_5 (x4_5 + (1 : Int32)) σ_5) else (if ((x2_5 >>> (q_14 &&& 31)) &&& (1 : Int32)) = (1 : Int32) then ((FR_X7_missesOf σ_5 x4_5).bind fun q_44 => (gd (inb x4_5 5) (gd (inb x4_5 5) (FR_X7_meetSeams_5  x1_5 x2_5 n_5 (x3_5 + ((rA (ra q_44.2 703 x4_5 q_44.1) 703 x4_5.toNatClampNeg) >>> ((24 : Int32) &&& 31))) (x4_5 + (1 : Int32)) (ra q_44.2 703 x4_5 q_44.1))))) else (FR_X7_meetSeams_5  x1_5 x2_5 n_5 x3_5 (x4_5 + (1 : Int32)) σ_5)))))
def FR_X7_meetSeams (σ : RS) (p1 : Int32) (p2 : Int32) : Option (Int32 × RS) := (FR_X7_meetSeams_5 p1 p2 fu (0 : Int32) (0 : Int32) σ)
set_option maxHeartbeats 4000000 in
set_option maxRecDepth 100000 in
theorem cR_X7_meetSeams (l : Launch) (D : va_G) (cs : Nat → ClassId) (ad tb : Nat → Nat) (A : Nat → Prop) (σ : RS) (p1 : Int32) (p2 : Int32) (q : (Int32 × RS)) (hF : FR_X7_meetSeams σ p1 p2 = some q) : Met l yX7_meetSeams wsR_X7_meetSeams { frames := 4, cells := 0, slots := 0, locals := 107 } (va_Pc [.ref (ad 1007), .int p1, .int p2] (preQ D cs ad tb A σ)) (va_Qi (fun x u => x = q.1 ∧ u = q.2) (posQ D cs ad A) A) 0 0 A := by
  refine Met.ofW (cc := cX7_meetSeams) (maxL := 6) (ret := (some .int)) (by decide) rfl ?_
  intro p e s m args below meth c s₁ B hml hv
  obtain ⟨rfl, hP, hK, hD, hZ⟩ := hv
  have hx := B.exec
  have hb := B.bytes
  have hr := B.returns
  have hts : ∀ w ∈ (Cond.code yX7_meetSeams cX7_meetSeams 6 (some .int) :: wRa), w.before ([.ref (ad 1007), .int p1, .int p2] : List Value).toArray s = true := atoms_spec (ws := wsR_X7_meetSeams) B.pre
  have hin : ∀ w ∈ wRa, w ∈ (Cond.code yX7_meetSeams cX7_meetSeams 6 (some .int) :: wRa) := fun w hw => List.mem_cons_of_mem _ hw
  have hown : s.vm.findClass RX7 = some m.cls := findClass_of_methodNamed B.named
  have hlocks := B.notSynchronized
  have hS : va_S A s.heap s.heap [] := va_S.rf
  have b_5 : ∀ (x1_5 : Int32) (x2_5 : Int32) (n_5 : Nat) (x3_5 : Int32) (x4_5 : Int32) (σ_5 : RS) (H : Heap) (locs : List Loc) (ls : Array Slot), FR_X7_meetSeams_5 x1_5 x2_5 n_5 x3_5 x4_5 σ_5 = some q → va_P D vwCl (wR cs ad σ_5) H → va_D A (wR cs ad σ_5) → va_S A s.heap H locs → lv_has ls 6 [(0, .ref (ad 1007)), (1, .int x1_5), (2, .int x2_5), (3, .int x3_5), (4, .int x4_5)] → W p l e (headSpec wsR_X7_meetSeams { frames := 4, cells := 0, slots := 0, locals := 107 }).room s m ([.ref (ad 1007), .int p1, .int p2] : List Value).toArray below meth c H locs 0 0 (MQ below (va_Qi (fun x u => x = q.1 ∧ u = q.2) (posQ D cs ad A) A) ([.ref (ad 1007), .int p1, .int p2] : List Value).toArray s 0 0 A) (F0 m 5 ls []) := by
    intro x1_5 x2_5
    intro n_5
    induction n_5 with
    | zero =>
      intro x3_5 x4_5 σ_5 H locs ls hF hP hD hS hl
      exact absurd hF (by simp [FR_X7_meetSeams_5])
    | succ n_5 ih_5 =>
      intro x3_5 x4_5 σ_5 H locs ls hF hP hD hS hl
      rw [FR_X7_meetSeams_5] at hF
      refine lv_iload hx hb dX7_meetSeams_5 (lv_at hl 4 rfl) ?_
      refine lv_iconst (v := (5 : Int32)) hx hb dX7_meetSeams_7 (by decide) ?_
      refine lv_icmp_ge (tgt := 67) hx hb dX7_meetSeams_8 (by decide) (fun c_8 => ?_) (fun c_8 => ?_)
      · have hF := ob_t c_8 hF
        refine lv_iload_n hx hb dX7_meetSeams_67 rfl (lv_at hl 3 rfl) ?_
        exact rwR hx hb hr hlocks hF hK hP hD hS dX7_meetSeams_68
      · have hF := ob_f c_8 hF
        refine lv_iload hx hb dX7_meetSeams_11 (lv_at hl 4 rfl) ?_
        refine lv_iload_n hx hb dX7_meetSeams_13 rfl (lv_at hl 1 rfl) ?_
        obtain ⟨q_14, e_14, hF⟩ := ob_bd hF
        refine ctR (As := [.int x4_5, .int x1_5]) (rest := []) ⟨hx, hb, hml, hown, hts⟩ (cR_X7_otherOf l D cs ad tb A σ_5 x4_5 x1_5 _ e_14) (cw_X7_X7_otherOf_74 hts ⟨Nat.le_of_ble_eq_true rfl, Nat.le_of_ble_eq_true rfl⟩) ⟨Nat.zero_le _, Nat.zero_le _⟩ hK hP hD hS hZ rfl hl.1 rfl (lv_room (Nat.le_of_ble_eq_true rfl)) dX7_meetSeams_14 ?_
        refine lv_istore (i := 5) (lv' := [(5, .int q_14), (0, .ref (ad 1007)), (1, .int x1_5), (2, .int x2_5), (3, .int x3_5), (4, .int x4_5)]) hx hb dX7_meetSeams_17 hl (by decide) rfl (fun ls hl => ?_)
        refine lv_iload hx hb dX7_meetSeams_19 (lv_at hl 0 rfl) ?_
        refine lv_iconst (v := (-1 : Int32)) hx hb dX7_meetSeams_21 (by decide) ?_
        refine lv_icmp_eq (tgt := 61) hx hb dX7_meetSeams_22 (by decide) (fun c_22 => ?_) (fun c_22 => ?_)
        · have hF := ob_t c_22 hF
          refine lv_iinc (v := x4_5 + (1 : Int32)) (lv' := [(4, .int (x4_5 + (1 : Int32))), (5, .int q_14), (0, .ref (ad 1007)), (1, .int x1_5), (2, .int x2_5), (3, .int x3_5)]) hx hb dX7_meetSeams_61 hl (k := 5) rfl rfl (by decide) rfl (fun ls hl => ?_)
          refine lv_goto (tgt := 5) hx hb dX7_meetSeams_64 (by decide) ?_
          exact ih_5 x3_5 (x4_5 + (1 : Int32)) σ_5 _ _ _ hF hP hD hS (lv_sub hl [2, 3, 4, 5, 0] rfl)
        · have hF := ob_f c_22 hF
          refine lv_iload_n hx hb dX7_meetSeams_25 rfl (lv_at hl 3 rfl) ?_
          refine lv_iload hx hb dX7_meetSeams_26 (lv_at hl 0 rfl) ?_
          refine lv_ishr hx hb dX7_meetSeams_28 ?_
          refine lv_iconst (v := (1 : Int32)) hx hb dX7_meetSeams_29 (by decide) ?_
          refine lv_iand hx hb dX7_meetSeams_30 ?_
          refine lv_iconst (v := (1 : Int32)) hx hb dX7_meetSeams_31 (by decide) ?_
          refine lv_icmp_ne (tgt := 61) hx hb dX7_meetSeams_32 (by decide) (fun c_32 => ?_) (fun c_32 => ?_)
          · have hF := ob_f c_32 hF
            refine lv_iinc (v := x4_5 + (1 : Int32)) (lv' := [(4, .int (x4_5 + (1 : Int32))), (5, .int q_14), (0, .ref (ad 1007)), (1, .int x1_5), (2, .int x2_5), (3, .int x3_5)]) hx hb dX7_meetSeams_61 hl (k := 5) rfl rfl (by decide) rfl (fun ls hl => ?_)
            refine lv_goto (tgt := 5) hx hb dX7_meetSeams_64 (by decide) ?_
            exact ih_5 x3_5 (x4_5 + (1 : Int32)) σ_5 _ _ _ hF hP hD hS (lv_sub hl [2, 3, 4, 5, 0] rfl)
          · have hF := ob_t c_32 hF
            refine lv_aload_n hx hb dX7_meetSeams_35 rfl (lv_at hl 1 rfl) ?_
            refine gF hx hb hts hin wo_7 rfl hown hK hP (ob_7 _ _ _) 3 (.ref (ad 703)) (by decide) rf_X7_25 rfl dX7_meetSeams_36 ?_
            refine lv_iload hx hb dX7_meetSeams_39 (lv_at hl 5 rfl) ?_
            refine lv_aload_n hx hb dX7_meetSeams_41 rfl (lv_at hl 1 rfl) ?_
            refine lv_iload hx hb dX7_meetSeams_42 (lv_at hl 5 rfl) ?_
            obtain ⟨q_44, e_44, hF⟩ := ob_bd hF
            refine cwR (As := [.int x4_5]) (rest := [.int x4_5, .ref (ad 703)]) ⟨hx, hb, hml, hown, hts⟩ (cR_X7_missesOf l D cs ad tb A σ_5 x4_5 _ e_44) (cw_X7_X7_missesOf_77 hts ⟨Nat.le_of_ble_eq_true rfl, Nat.le_of_ble_eq_true rfl⟩) ⟨Nat.zero_le _, Nat.zero_le _⟩ (rcF hK hP (ci := 7) rfl (ob_7 _ _ _)) hK hP hD hS hZ rfl hl.1 rfl (lv_room (Nat.le_of_ble_eq_true rfl)) dX7_meetSeams_44 (fun H locs hP hD hS => ?_)
            obtain ⟨g_47, hF⟩ := ob_gd hF
            refine stF hx hb hK hP hD hS (ra_703 _ _ _) (rs_703 _ _ _ _ _) g_47 dX7_meetSeams_47 (fun H locs hP hD hS => ?_)
            refine lv_iload_n hx hb dX7_meetSeams_48 rfl (lv_at hl 4 rfl) ?_
            refine lv_aload_n hx hb dX7_meetSeams_49 rfl (lv_at hl 1 rfl) ?_
            refine gF hx hb hts hin wo_7 rfl hown hK hP (ob_7 _ _ _) 3 (.ref (ad 703)) (by decide) rf_X7_25 rfl dX7_meetSeams_50 ?_
            refine lv_iload hx hb dX7_meetSeams_53 (lv_at hl 5 rfl) ?_
            obtain ⟨g_55, hF⟩ := ob_gd hF
            refine ldF hx hb hK hP (ra_703 _ _ _) (rA (ra q_44.2 703 x4_5 q_44.1) 703 x4_5.toNatClampNeg) g_55 rfl dX7_meetSeams_55 ?_
            refine lv_bipush (v := (24 : Int32)) hx hb dX7_meetSeams_56 (by decide) ?_
            refine lv_ishr hx hb dX7_meetSeams_58 ?_
            refine lv_iadd hx hb dX7_meetSeams_59 ?_
            refine lv_istore_n (i := 3) (lv' := [(3, .int (x3_5 + ((rA (ra q_44.2 703 x4_5 q_44.1) 703 x4_5.toNatClampNeg) >>> ((24 : Int32) &&& 31)))), (5, .int q_14), (0, .ref (ad 1007)), (1, .int x1_5), (2, .int x2_5), (4, .int x4_5)]) hx hb dX7_meetSeams_60 rfl hl (by decide) rfl (fun ls hl => ?_)
            refine lv_iinc (v := x4_5 + (1 : Int32)) (lv' := [(4, .int (x4_5 + (1 : Int32))), (3, .int (x3_5 + ((rA (ra q_44.2 703 x4_5 q_44.1) 703 x4_5.toNatClampNeg) >>> ((24 : Int32) &&& 31)))), (5, .int q_14), (0, .ref (ad 1007)), (1, .int x1_5), (2, .int x2_5)]) hx hb dX7_meetSeams_61 hl (k := 5) rfl rfl (by decide) rfl (fun ls hl => ?_)
            refine lv_goto (tgt := 5) hx hb dX7_meetSeams_64 (by decide) ?_
            exact ih_5 (x3_5 + ((rA (ra q_44.2 703 x4_5 q_44.1) 703 x4_5.toNatClampNeg) >>> ((24 : Int32) &&& 31))) (x4_5 + (1 : Int32)) (ra q_44.2 703 x4_5 q_44.1) _ _ _ hF hP hD hS (lv_sub hl [3, 4, 5, 1, 0] rfl)
  have hl := lv_entry ([.ref (ad 1007), .int p1, .int p2]) (n := 6) (Nat.le_of_ble_eq_true rfl)
  rw [lg_entry_eq]
  generalize (lg_sl ([.ref (ad 1007), .int p1, .int p2]) ++ List.replicate (6 - (lg_sl ([.ref (ad 1007), .int p1, .int p2])).length) Slot.unset).toArray = ls at hl ⊢
  have hl : lv_has ls 6 [(0, .ref (ad 1007)), (1, .int p1), (2, .int p2)] := hl
  unfold FR_X7_meetSeams at hF
  refine lv_iconst (v := (0 : Int32)) hx hb dX7_meetSeams_0 (by decide) ?_
  refine lv_istore_n (i := 3) (lv' := [(3, .int (0 : Int32)), (0, .ref (ad 1007)), (1, .int p1), (2, .int p2)]) hx hb dX7_meetSeams_1 rfl hl (by decide) rfl (fun ls hl => ?_)
  refine lv_iconst (v := (0 : Int32)) hx hb dX7_meetSeams_2 (by decide) ?_
  refine lv_istore (i := 4) (lv' := [(4, .int (0 : Int32)), (3, .int (0 : Int32)), (0, .ref (ad 1007)), (1, .int p1), (2, .int p2)]) hx hb dX7_meetSeams_3 hl (by decide) rfl (fun ls hl => ?_)
  exact b_5 p1 p2 fu (0 : Int32) (0 : Int32) σ _ _ _ hF hP hD hS (lv_sub hl [2, 3, 4, 1, 0] rfl)
def wsR_X7_extend : List Cond := Cond.code yX7_extend cX7_extend 11 none :: wRa
theorem cw_X7_X7_weigh_53 {R : Room} {s : State} {args : Array Value} {y : MethodName} {c : ByteArray} {n : Nat} {r : Option FieldType} (hts : ∀ w ∈ (Cond.code y c n r :: wRa), w.before args s = true) (hR : 3 + 1 ≤ R.frames ∧ 8 + (5 + 11) + 71 ≤ R.locals) : CallW R s args RX7 RX7 53 yX7_weigh cX7_weigh 5 none wsR_X7_weigh { frames := 3, cells := 0, slots := 0, locals := 71 } 0 0 2 := cwV 2 hts (goodV wRa_good rm_X7_53 ri_X7_weigh rs_X7_weigh rn_X7 rc_X7_weigh) rfl rfl rfl (by decide +kernel) hR
theorem cw_X7_X7_startCodeOf_57 {R : Room} {s : State} {args : Array Value} {y : MethodName} {c : ByteArray} {n : Nat} {r : Option FieldType} (hts : ∀ w ∈ (Cond.code y c n r :: wRa), w.before args s = true) (hR : 0 + 1 ≤ R.frames ∧ 8 + (3 + 11) + 0 ≤ R.locals) : CallB R s args RX7 57 yX7_startCodeOf cX7_startCodeOf 3 (some .int) wsR_X7_startCodeOf { frames := 0, cells := 0, slots := 0, locals := 0 } 0 0 1 ∧ (Cond.static yX7_startCodeOf).before args s = true := va_cwS 1 hts (goodS wRa_good rm_X7_57 rt_X7_startCodeOf rn_X7 rc_X7_startCodeOf) rfl rfl rfl (by decide +kernel) hR
theorem cw_X7_X2_shownOf_64 {R : Room} {s : State} {args : Array Value} {y : MethodName} {c : ByteArray} {n : Nat} {r : Option FieldType} (hts : ∀ w ∈ (Cond.code y c n r :: wRa), w.before args s = true) (hR : 0 + 1 ≤ R.frames ∧ 8 + (4 + 11) + 0 ≤ R.locals) : CallW R s args RX7 RX2 64 yX2_shownOf cX2_shownOf 4 (some .int) wsR_X2_shownOf { frames := 0, cells := 0, slots := 0, locals := 0 } 0 0 1 := cwV 1 hts (goodV wRa_good rm_X7_64 ri_X2_shownOf rs_X2_shownOf rn_X2 rc_X2_shownOf) rfl rfl rfl (by decide +kernel) hR
theorem cw_X7_X7_meetSeams_67 {R : Room} {s : State} {args : Array Value} {y : MethodName} {c : ByteArray} {n : Nat} {r : Option FieldType} (hts : ∀ w ∈ (Cond.code y c n r :: wRa), w.before args s = true) (hR : 4 + 1 ≤ R.frames ∧ 8 + (6 + 11) + 107 ≤ R.locals) : CallW R s args RX7 RX7 67 yX7_meetSeams cX7_meetSeams 6 (some .int) wsR_X7_meetSeams { frames := 4, cells := 0, slots := 0, locals := 107 } 0 0 2 := cwV 2 hts (goodV wRa_good rm_X7_67 ri_X7_meetSeams rs_X7_meetSeams rn_X7 rc_X7_meetSeams) rfl rfl rfl (by decide +kernel) hR
theorem cwd_X7_X7_extend_49 (d : Nat) {R : Room} {s : State} {args : Array Value} {y : MethodName} {c : ByteArray} {n : Nat} {r : Option FieldType} (hts : ∀ w ∈ (Cond.code y c n r :: wRa), w.before args s = true) (hR : (5 + d) + 1 ≤ R.frames ∧ 8 + (11 + 11) + (132 + d * 30) ≤ R.locals) : CallW R s args RX7 RX7 49 yX7_extend cX7_extend 11 none wsR_X7_extend { frames := 5 + d, cells := 0, slots := 0, locals := 132 + d * 30 } 0 0 6 := cwV 6 hts (goodV wRa_good rm_X7_49 ri_X7_extend rs_X7_extend rn_X7 rc_X7_extend) rfl rfl rfl (by decide +kernel) hR
def FR_X7_extend_23 (rc : RS → Int32 → Int32 → Int32 → Int32 → Int32 → Int32 → Option (RS)) (x1_23 : Int32) (x2_23 : Int32) (x3_23 : Int32) (x4_23 : Int32) (x5_23 : Int32) (x6_23 : Int32) (x7_23 : Int32) : Nat → Int32 → RS → Option RS
  | 0, _, _ => none
  | n_23 + 1, x8_23, σ_23 => (if (6 : Int32) ≤ x8_23 then (some σ_23) else (if ((x2_23 >>> (x8_23 &&& 31)) &&& (1 : Int32)) = 0 then (gd (inb x8_23 6) (gd (inb x8_23 6) ((FR_X2_shownOf (ra (ra σ_23 205 x8_23 x4_23) 702 x8_23 x7_23) x8_23).bind fun q_68 => ((FR_X7_meetSeams (ra (ra σ_23 205 x8_23 x4_23) 702 x8_23 x7_23) x8_23 x2_23).bind fun q_80 => (if (rI q_80.2 707) ≤ (((5 : Int32) * (x5_23 + q_68)) + (x6_23 + q_80.1)) then (FR_X7_extend_23 rc  x1_23 x2_23 x3_23 x4_23 x5_23 x6_23 x7_23 n_23 (x8_23 + (1 : Int32)) q_80.2) else ((rV q_80.2 201).bind fun r_123 => (gd (isK q_80.2 r_123 11) (gd (inb x8_23 (pN q_80.2 r_123)) ((rc q_80.2 (x1_23 + (1 : Int32)) (x2_23 ||| ((1 : Int32) <<< (x8_23 &&& 31))) ((x3_23 * (6 : Int32)) + x8_23) (x4_23 + (pA q_80.2 r_123 x8_23.toNatClampNeg)) (x5_23 + q_68) (x6_23 + q_80.1)).bind fun q_134 => (FR_X7_extend_23 rc  x1_23 x2_23 x3_23 x4_23 x5_23 x6_23 x7_23 n_23 (x8_23 + (1 : Int32)) q_134)))))))))) else (FR_X7_extend_23 rc  x1_23 x2_23 x3_23 x4_23 x5_23 x6_23 x7_23 n_23 (x8_23 + (1 : Int32)) σ_23)))
def FR_X7_extend : Nat → RS → Int32 → Int32 → Int32 → Int32 → Int32 → Int32 → Option RS
  | 0, _, _, _, _, _, _, _ => none
  | d + 1, σ, p1, p2, p3, p4, p5, p6 => (if p1 < (6 : Int32) then ((FR_X7_startCodeOf p2).bind fun q_15 => (FR_X7_extend_23 (FR_X7_extend d) p1 p2 p3 p4 p5 p6 q_15 fu (0 : Int32) σ)) else ((FR_X7_weigh σ p3 p5).bind fun q_10 => (some q_10)))
set_option maxHeartbeats 4000000 in
set_option maxRecDepth 100000 in
theorem cR_X7_extend (l : Launch) (D : va_G) (cs : Nat → ClassId) (ad tb : Nat → Nat) (A : Nat → Prop) : ∀ (d : Nat) (σ : RS) (p1 : Int32) (p2 : Int32) (p3 : Int32) (p4 : Int32) (p5 : Int32) (p6 : Int32) (q : RS) (hF : FR_X7_extend d σ p1 p2 p3 p4 p5 p6 = some q), Met l yX7_extend wsR_X7_extend { frames := 5 + d, cells := 0, slots := 0, locals := 132 + d * 30 } (va_Pc [.ref (ad 1007), .int p1, .int p2, .int p3, .int p4, .int p5, .int p6] (preQ D cs ad tb A σ)) (va_Qv (fun u => u = q) (posQ D cs ad A) A) 0 0 A := by
  intro d
  induction d with
  | zero =>
    intro σ p1 p2 p3 p4 p5 p6 q hF
    exact absurd hF (by simp [FR_X7_extend])
  | succ d ih =>
  intro σ p1 p2 p3 p4 p5 p6 q hF
  refine Met.ofW (cc := cX7_extend) (maxL := 11) (ret := none) (by decide) rfl ?_
  intro p e s m args below meth c s₁ B hml hv
  obtain ⟨rfl, hP, hK, hD, hZ⟩ := hv
  have hx := B.exec
  have hb := B.bytes
  have hr := B.returns
  have hts : ∀ w ∈ (Cond.code yX7_extend cX7_extend 11 none :: wRa), w.before ([.ref (ad 1007), .int p1, .int p2, .int p3, .int p4, .int p5, .int p6] : List Value).toArray s = true := atoms_spec (ws := wsR_X7_extend) B.pre
  have hin : ∀ w ∈ wRa, w ∈ (Cond.code yX7_extend cX7_extend 11 none :: wRa) := fun w hw => List.mem_cons_of_mem _ hw
  have hown : s.vm.findClass RX7 = some m.cls := findClass_of_methodNamed B.named
  have hlocks := B.notSynchronized
  have hS : va_S A s.heap s.heap [] := va_S.rf
  have b_23 : ∀ (x1_23 : Int32) (x2_23 : Int32) (x3_23 : Int32) (x4_23 : Int32) (x5_23 : Int32) (x6_23 : Int32) (x7_23 : Int32) (n_23 : Nat) (x8_23 : Int32) (σ_23 : RS) (H : Heap) (locs : List Loc) (ls : Array Slot), FR_X7_extend_23 (FR_X7_extend d) x1_23 x2_23 x3_23 x4_23 x5_23 x6_23 x7_23 n_23 x8_23 σ_23 = some q → va_P D vwCl (wR cs ad σ_23) H → va_D A (wR cs ad σ_23) → va_S A s.heap H locs → lv_has ls 11 [(0, .ref (ad 1007)), (1, .int x1_23), (2, .int x2_23), (3, .int x3_23), (4, .int x4_23), (5, .int x5_23), (6, .int x6_23), (7, .int x7_23), (8, .int x8_23)] → W p l e (headSpec wsR_X7_extend { frames := 5 + (d + 1), cells := 0, slots := 0, locals := 132 + (d + 1) * 30 }).room s m ([.ref (ad 1007), .int p1, .int p2, .int p3, .int p4, .int p5, .int p6] : List Value).toArray below meth c H locs 0 0 (MQ below (va_Qv (fun u => u = q) (posQ D cs ad A) A) ([.ref (ad 1007), .int p1, .int p2, .int p3, .int p4, .int p5, .int p6] : List Value).toArray s 0 0 A) (F0 m 23 ls []) := by
    intro x1_23 x2_23 x3_23 x4_23 x5_23 x6_23 x7_23
    intro n_23
    induction n_23 with
    | zero =>
      intro x8_23 σ_23 H locs ls hF hP hD hS hl
      exact absurd hF (by simp [FR_X7_extend_23])
    | succ n_23 ih_23 =>
      intro x8_23 σ_23 H locs ls hF hP hD hS hl
      rw [FR_X7_extend_23] at hF
      refine lv_iload hx hb dX7_extend_23 (lv_at hl 8 rfl) ?_
      refine lv_bipush (v := (6 : Int32)) hx hb dX7_extend_25 (by decide) ?_
      refine lv_icmp_ge (tgt := 143) hx hb dX7_extend_27 (by decide) (fun c_27 => ?_) (fun c_27 => ?_)
      · have hF := ob_t c_27 hF
        exact rvR hx hb hr hlocks hF hK hP hD hS dX7_extend_143
      · have hF := ob_f c_27 hF
        refine lv_iload_n hx hb dX7_extend_30 rfl (lv_at hl 2 rfl) ?_
        refine lv_iload hx hb dX7_extend_31 (lv_at hl 8 rfl) ?_
        refine lv_ishr hx hb dX7_extend_33 ?_
        refine lv_iconst (v := (1 : Int32)) hx hb dX7_extend_34 (by decide) ?_
        refine lv_iand hx hb dX7_extend_35 ?_
        refine lv_if_ne (tgt := 137) hx hb dX7_extend_36 (by decide) (fun c_36 => ?_) (fun c_36 => ?_)
        · have hF := ob_f c_36 hF
          refine lv_iinc (v := x8_23 + (1 : Int32)) (lv' := [(8, .int (x8_23 + (1 : Int32))), (0, .ref (ad 1007)), (1, .int x1_23), (2, .int x2_23), (3, .int x3_23), (4, .int x4_23), (5, .int x5_23), (6, .int x6_23), (7, .int x7_23)]) hx hb dX7_extend_137 hl (k := 8) rfl rfl (by decide) rfl (fun ls hl => ?_)
          refine lv_goto (tgt := 23) hx hb dX7_extend_140 (by decide) ?_
          exact ih_23 (x8_23 + (1 : Int32)) σ_23 _ _ _ hF hP hD hS (lv_sub hl [1, 2, 3, 4, 5, 6, 7, 8, 0] rfl)
        · have hF := ob_t c_36 hF
          refine lv_aload_n hx hb dX7_extend_39 rfl (lv_at hl 0 rfl) ?_
          refine gF hx hb hts hin wo_7 rfl hown hK hP (ob_7 _ _ _) 0 (.ref (ad 1002)) (by decide) rf_X7_12 rfl dX7_extend_40 ?_
          refine gF hx hb hts hin wo_2 rfl hown hK hP (ob_2 _ _ _) 6 (.ref (ad 205)) (by decide) rf_X7_61 rfl dX7_extend_43 ?_
          refine lv_iload hx hb dX7_extend_46 (lv_at hl 8 rfl) ?_
          refine lv_iload hx hb dX7_extend_48 (lv_at hl 4 rfl) ?_
          obtain ⟨g_50, hF⟩ := ob_gd hF
          refine stF hx hb hK hP hD hS (ra_205 _ _ _) (rs_205 _ _ _ _ _) g_50 dX7_extend_50 (fun H locs hP hD hS => ?_)
          refine lv_aload_n hx hb dX7_extend_51 rfl (lv_at hl 0 rfl) ?_
          refine gF hx hb hts hin wo_7 rfl hown hK hP (ob_7 _ _ _) 2 (.ref (ad 702)) (by decide) rf_X7_22 rfl dX7_extend_52 ?_
          refine lv_iload hx hb dX7_extend_55 (lv_at hl 8 rfl) ?_
          refine lv_iload hx hb dX7_extend_57 (lv_at hl 7 rfl) ?_
          obtain ⟨g_59, hF⟩ := ob_gd hF
          refine stF hx hb hK hP hD hS (ra_702 _ _ _) (rs_702 _ _ _ _ _) g_59 dX7_extend_59 (fun H locs hP hD hS => ?_)
          refine lv_iload hx hb dX7_extend_60 (lv_at hl 5 rfl) ?_
          refine lv_aload_n hx hb dX7_extend_62 rfl (lv_at hl 0 rfl) ?_
          refine gF hx hb hts hin wo_7 rfl hown hK hP (ob_7 _ _ _) 0 (.ref (ad 1002)) (by decide) rf_X7_12 rfl dX7_extend_63 ?_
          refine lv_iload hx hb dX7_extend_66 (lv_at hl 8 rfl) ?_
          obtain ⟨q_68, e_68, hF⟩ := ob_bd hF
          refine crR (As := [.int x8_23]) (rest := [.int x5_23]) ⟨hx, hb, hml, hown, hts⟩ (cR_X2_shownOf l D cs ad tb A (ra (ra σ_23 205 x8_23 x4_23) 702 x8_23 x7_23) x8_23 _ e_68) (cw_X7_X2_shownOf_64 (R := (headSpec wsR_X7_extend { frames := 5 + (d + 1), cells := 0, slots := 0, locals := 132 + (d + 1) * 30 }).room) hts ⟨by show _ ≤ _ + (d + 1); omega, by show _ ≤ _ + (d + 1) * _; omega⟩) ⟨Nat.zero_le _, Nat.zero_le _⟩ (rcF hK hP (ci := 2) rfl (ob_2 _ _ _)) hK hP hD hS hZ rfl hl.1 rfl (lv_room (Nat.le_of_ble_eq_true rfl)) dX7_extend_68 ?_
          refine lv_iadd hx hb dX7_extend_71 ?_
          refine lv_istore (i := 9) (lv' := [(9, .int (x5_23 + q_68)), (0, .ref (ad 1007)), (1, .int x1_23), (2, .int x2_23), (3, .int x3_23), (4, .int x4_23), (5, .int x5_23), (6, .int x6_23), (7, .int x7_23), (8, .int x8_23)]) hx hb dX7_extend_72 hl (by decide) rfl (fun ls hl => ?_)
          refine lv_iload hx hb dX7_extend_74 (lv_at hl 7 rfl) ?_
          refine lv_aload_n hx hb dX7_extend_76 rfl (lv_at hl 1 rfl) ?_
          refine lv_iload hx hb dX7_extend_77 (lv_at hl 9 rfl) ?_
          refine lv_iload_n hx hb dX7_extend_79 rfl (lv_at hl 3 rfl) ?_
          obtain ⟨q_80, e_80, hF⟩ := ob_bd hF
          refine cwR (As := [.int x8_23, .int x2_23]) (rest := [.int x6_23]) ⟨hx, hb, hml, hown, hts⟩ (cR_X7_meetSeams l D cs ad tb A (ra (ra σ_23 205 x8_23 x4_23) 702 x8_23 x7_23) x8_23 x2_23 _ e_80) (cw_X7_X7_meetSeams_67 (R := (headSpec wsR_X7_extend { frames := 5 + (d + 1), cells := 0, slots := 0, locals := 132 + (d + 1) * 30 }).room) hts ⟨by show _ ≤ _ + (d + 1); omega, by show _ ≤ _ + (d + 1) * _; omega⟩) ⟨Nat.zero_le _, Nat.zero_le _⟩ (rcF hK hP (ci := 7) rfl (ob_7 _ _ _)) hK hP hD hS hZ rfl hl.1 rfl (lv_room (Nat.le_of_ble_eq_true rfl)) dX7_extend_80 (fun H locs hP hD hS => ?_)
          refine lv_iadd hx hb dX7_extend_83 ?_
          refine lv_istore (i := 10) (lv' := [(10, .int (x6_23 + q_80.1)), (9, .int (x5_23 + q_68)), (0, .ref (ad 1007)), (1, .int x1_23), (2, .int x2_23), (3, .int x3_23), (4, .int x4_23), (5, .int x5_23), (6, .int x6_23), (7, .int x7_23), (8, .int x8_23)]) hx hb dX7_extend_84 hl (by decide) rfl (fun ls hl => ?_)
          refine lv_iconst (v := (5 : Int32)) hx hb dX7_extend_86 (by decide) ?_
          refine lv_iload hx hb dX7_extend_87 (lv_at hl 1 rfl) ?_
          refine lv_imul hx hb dX7_extend_89 ?_
          refine lv_iload hx hb dX7_extend_90 (lv_at hl 0 rfl) ?_
          refine lv_iadd hx hb dX7_extend_92 ?_
          refine lv_aload_n hx hb dX7_extend_93 rfl (lv_at hl 2 rfl) ?_
          refine gF hx hb hts hin wo_7 rfl hown hK hP (ob_7 _ _ _) 7 (.int (rI q_80.2 707)) (by decide) rf_X7_39 rfl dX7_extend_94 ?_
          refine lv_icmp_ge (tgt := 137) hx hb dX7_extend_97 (by decide) (fun c_97 => ?_) (fun c_97 => ?_)
          · have hF := ob_t c_97 hF
            refine lv_iinc (v := x8_23 + (1 : Int32)) (lv' := [(8, .int (x8_23 + (1 : Int32))), (10, .int (x6_23 + q_80.1)), (9, .int (x5_23 + q_68)), (0, .ref (ad 1007)), (1, .int x1_23), (2, .int x2_23), (3, .int x3_23), (4, .int x4_23), (5, .int x5_23), (6, .int x6_23), (7, .int x7_23)]) hx hb dX7_extend_137 hl (k := 10) rfl rfl (by decide) rfl (fun ls hl => ?_)
            refine lv_goto (tgt := 23) hx hb dX7_extend_140 (by decide) ?_
            exact ih_23 (x8_23 + (1 : Int32)) q_80.2 _ _ _ hF hP hD hS (lv_sub hl [3, 4, 5, 6, 7, 8, 9, 10, 0] rfl)
          · have hF := ob_f c_97 hF
            refine lv_aload_n hx hb dX7_extend_100 rfl (lv_at hl 2 rfl) ?_
            refine lv_iload_n hx hb dX7_extend_101 rfl (lv_at hl 3 rfl) ?_
            refine lv_iconst (v := (1 : Int32)) hx hb dX7_extend_102 (by decide) ?_
            refine lv_iadd hx hb dX7_extend_103 ?_
            refine lv_iload_n hx hb dX7_extend_104 rfl (lv_at hl 4 rfl) ?_
            refine lv_iconst (v := (1 : Int32)) hx hb dX7_extend_105 (by decide) ?_
            refine lv_iload hx hb dX7_extend_106 (lv_at hl 10 rfl) ?_
            refine lv_ishl hx hb dX7_extend_108 ?_
            refine lv_ior hx hb dX7_extend_109 ?_
            refine lv_iload_n hx hb dX7_extend_110 rfl (lv_at hl 5 rfl) ?_
            refine lv_bipush (v := (6 : Int32)) hx hb dX7_extend_111 (by decide) ?_
            refine lv_imul hx hb dX7_extend_113 ?_
            refine lv_iload hx hb dX7_extend_114 (lv_at hl 10 rfl) ?_
            refine lv_iadd hx hb dX7_extend_116 ?_
            refine lv_iload hx hb dX7_extend_117 (lv_at hl 6 rfl) ?_
            refine lv_aload_n hx hb dX7_extend_119 rfl (lv_at hl 2 rfl) ?_
            refine gF hx hb hts hin wo_7 rfl hown hK hP (ob_7 _ _ _) 0 (.ref (ad 1002)) (by decide) rf_X7_12 rfl dX7_extend_120 ?_
            refine gF hx hb hts hin wo_2 rfl hown hK hP (ob_2 _ _ _) 1 (va_rf (rV q_80.2 201)) (by decide) rf_X7_71 rfl dX7_extend_123 ?_
            obtain ⟨r_123, o_123, hF⟩ := ob_bd hF
            refine rfS o_123 ?_
            refine lv_iload hx hb dX7_extend_126 (lv_at hl 10 rfl) ?_
            obtain ⟨k_128_1, hF⟩ := ob_gd hF
            obtain ⟨g_128, hF⟩ := ob_gd hF
            refine ldP hx hb hK hP k_128_1 (pA q_80.2 r_123 x8_23.toNatClampNeg) g_128 rfl dX7_extend_128 ?_
            refine lv_iadd hx hb dX7_extend_129 ?_
            refine lv_iload hx hb dX7_extend_130 (lv_at hl 1 rfl) ?_
            refine lv_iload hx hb dX7_extend_132 (lv_at hl 0 rfl) ?_
            obtain ⟨q_134, e_134, hF⟩ := ob_bd hF
            refine cvR (As := [.int (x1_23 + (1 : Int32)), .int (x2_23 ||| ((1 : Int32) <<< (x8_23 &&& 31))), .int ((x3_23 * (6 : Int32)) + x8_23), .int (x4_23 + (pA q_80.2 r_123 x8_23.toNatClampNeg)), .int (x5_23 + q_68), .int (x6_23 + q_80.1)]) (rest := []) ⟨hx, hb, hml, hown, hts⟩ (ih q_80.2 (x1_23 + (1 : Int32)) (x2_23 ||| ((1 : Int32) <<< (x8_23 &&& 31))) ((x3_23 * (6 : Int32)) + x8_23) (x4_23 + (pA q_80.2 r_123 x8_23.toNatClampNeg)) (x5_23 + q_68) (x6_23 + q_80.1) _ e_134) (cwd_X7_X7_extend_49 (R := (headSpec wsR_X7_extend { frames := 5 + (d + 1), cells := 0, slots := 0, locals := 132 + (d + 1) * 30 }).room) d hts ⟨by show _ ≤ _ + (d + 1); omega, by show _ ≤ _ + (d + 1) * _; omega⟩) ⟨Nat.zero_le _, Nat.zero_le _⟩ (rcF hK hP (ci := 7) rfl (ob_7 _ _ _)) hK hP hD hS hZ rfl hl.1 rfl (lv_room (Nat.le_of_ble_eq_true rfl)) dX7_extend_134 (fun H locs hP hD hS => ?_)
            refine lv_iinc (v := x8_23 + (1 : Int32)) (lv' := [(8, .int (x8_23 + (1 : Int32))), (10, .int (x6_23 + q_80.1)), (9, .int (x5_23 + q_68)), (0, .ref (ad 1007)), (1, .int x1_23), (2, .int x2_23), (3, .int x3_23), (4, .int x4_23), (5, .int x5_23), (6, .int x6_23), (7, .int x7_23)]) hx hb dX7_extend_137 hl (k := 10) rfl rfl (by decide) rfl (fun ls hl => ?_)
            refine lv_goto (tgt := 23) hx hb dX7_extend_140 (by decide) ?_
            exact ih_23 (x8_23 + (1 : Int32)) q_134 _ _ _ hF hP hD hS (lv_sub hl [3, 4, 5, 6, 7, 8, 9, 10, 0] rfl)
  have hl := lv_entry ([.ref (ad 1007), .int p1, .int p2, .int p3, .int p4, .int p5, .int p6]) (n := 11) (Nat.le_of_ble_eq_true rfl)
  rw [lg_entry_eq]
  generalize (lg_sl ([.ref (ad 1007), .int p1, .int p2, .int p3, .int p4, .int p5, .int p6]) ++ List.replicate (11 - (lg_sl ([.ref (ad 1007), .int p1, .int p2, .int p3, .int p4, .int p5, .int p6])).length) Slot.unset).toArray = ls at hl ⊢
  have hl : lv_has ls 11 [(0, .ref (ad 1007)), (1, .int p1), (2, .int p2), (3, .int p3), (4, .int p4), (5, .int p5), (6, .int p6)] := hl
  rw [FR_X7_extend] at hF
  refine lv_iload_n hx hb dX7_extend_0 rfl (lv_at hl 1 rfl) ?_
  refine lv_bipush (v := (6 : Int32)) hx hb dX7_extend_1 (by decide) ?_
  refine lv_icmp_lt (tgt := 14) hx hb dX7_extend_3 (by decide) (fun c_3 => ?_) (fun c_3 => ?_)
  · have hF := ob_t c_3 hF
    refine lv_iload_n hx hb dX7_extend_14 rfl (lv_at hl 2 rfl) ?_
    obtain ⟨q_15, e_15, hF⟩ := ob_bd hF
    refine csR (As := [.int p2]) (rest := []) ⟨hx, hb, hml, hown, hts⟩ (cR_X7_startCodeOf l p2 _ e_15) (cw_X7_X7_startCodeOf_57 (R := (headSpec wsR_X7_extend { frames := 5 + (d + 1), cells := 0, slots := 0, locals := 132 + (d + 1) * 30 }).room) hts ⟨by show _ ≤ _ + (d + 1); omega, by show _ ≤ _ + (d + 1) * _; omega⟩) ⟨Nat.zero_le _, Nat.zero_le _⟩ rfl hl.1 rfl (lv_room (Nat.le_of_ble_eq_true rfl)) dX7_extend_15 ?_
    refine lv_istore (i := 7) (lv' := [(7, .int q_15), (0, .ref (ad 1007)), (1, .int p1), (2, .int p2), (3, .int p3), (4, .int p4), (5, .int p5), (6, .int p6)]) hx hb dX7_extend_18 hl (by decide) rfl (fun ls hl => ?_)
    refine lv_iconst (v := (0 : Int32)) hx hb dX7_extend_20 (by decide) ?_
    refine lv_istore (i := 8) (lv' := [(8, .int (0 : Int32)), (7, .int q_15), (0, .ref (ad 1007)), (1, .int p1), (2, .int p2), (3, .int p3), (4, .int p4), (5, .int p5), (6, .int p6)]) hx hb dX7_extend_21 hl (by decide) rfl (fun ls hl => ?_)
    exact b_23 p1 p2 p3 p4 p5 p6 q_15 fu (0 : Int32) σ _ _ _ hF hP hD hS (lv_sub hl [2, 3, 4, 5, 6, 7, 8, 1, 0] rfl)
  · have hF := ob_f c_3 hF
    refine lv_aload_n hx hb dX7_extend_6 rfl (lv_at hl 0 rfl) ?_
    refine lv_iload_n hx hb dX7_extend_7 rfl (lv_at hl 3 rfl) ?_
    refine lv_iload hx hb dX7_extend_8 (lv_at hl 5 rfl) ?_
    obtain ⟨q_10, e_10, hF⟩ := ob_bd hF
    refine cvR (As := [.int p3, .int p5]) (rest := []) ⟨hx, hb, hml, hown, hts⟩ (cR_X7_weigh l D cs ad tb A σ p3 p5 _ e_10) (cw_X7_X7_weigh_53 (R := (headSpec wsR_X7_extend { frames := 5 + (d + 1), cells := 0, slots := 0, locals := 132 + (d + 1) * 30 }).room) hts ⟨by show _ ≤ _ + (d + 1); omega, by show _ ≤ _ + (d + 1) * _; omega⟩) ⟨Nat.zero_le _, Nat.zero_le _⟩ (rcF hK hP (ci := 7) rfl (ob_7 _ _ _)) hK hP hD hS hZ rfl hl.1 rfl (lv_room (Nat.le_of_ble_eq_true rfl)) dX7_extend_10 (fun H locs hP hD hS => ?_)
    exact rvR hx hb hr hlocks hF hK hP hD hS dX7_extend_13
def wsR_X7_find : List Cond := Cond.code yX7_find cX7_find 2 none :: wRa
theorem cw_X7_X7_extend_49 {R : Room} {s : State} {args : Array Value} {y : MethodName} {c : ByteArray} {n : Nat} {r : Option FieldType} (hts : ∀ w ∈ (Cond.code y c n r :: wRa), w.before args s = true) (hR : 13 + 1 ≤ R.frames ∧ 8 + (11 + 11) + 372 ≤ R.locals) : CallW R s args RX7 RX7 49 yX7_extend cX7_extend 11 none wsR_X7_extend { frames := 13, cells := 0, slots := 0, locals := 372 } 0 0 6 := cwV 6 hts (goodV wRa_good rm_X7_49 ri_X7_extend rs_X7_extend rn_X7 rc_X7_extend) rfl rfl rfl (by decide +kernel) hR
theorem cw_X7_J7_fill_701_43 {R : Room} {s : State} {args : Array Value} {y : MethodName} {c : ByteArray} {n : Nat} {r : Option FieldType} (hts : ∀ w ∈ (Cond.code y c n r :: wRa), w.before args s = true) (hR : 0 + 1 ≤ R.frames ∧ 8 + (4 + 11) + 0 ≤ R.locals) : CallB R s args RX7 43 yJ7_fill_53178 cJ7_fill_53178 4 none wsR_fill { frames := 0, cells := 0, slots := 0, locals := 0 } 0 0 2 ∧ (Cond.static yJ7_fill_53178).before args s = true := va_cwS 2 hts (goodS wRa_good rm_X7_43 rt_J7_fill_53178 rn_J7 rc_J7_fill_53178) rfl rfl rfl (by decide +kernel) hR
theorem cw_X7_J7_fill_101_43 {R : Room} {s : State} {args : Array Value} {y : MethodName} {c : ByteArray} {n : Nat} {r : Option FieldType} (hts : ∀ w ∈ (Cond.code y c n r :: wRa), w.before args s = true) (hR : 0 + 1 ≤ R.frames ∧ 8 + (4 + 11) + 0 ≤ R.locals) : CallB R s args RX7 43 yJ7_fill_53178 cJ7_fill_53178 4 none wsR_fill { frames := 0, cells := 0, slots := 0, locals := 0 } 0 0 2 ∧ (Cond.static yJ7_fill_53178).before args s = true := va_cwS 2 hts (goodS wRa_good rm_X7_43 rt_J7_fill_53178 rn_J7 rc_J7_fill_53178) rfl rfl rfl (by decide +kernel) hR
theorem cw_X7_J7_fill_102_43 {R : Room} {s : State} {args : Array Value} {y : MethodName} {c : ByteArray} {n : Nat} {r : Option FieldType} (hts : ∀ w ∈ (Cond.code y c n r :: wRa), w.before args s = true) (hR : 0 + 1 ≤ R.frames ∧ 8 + (4 + 11) + 0 ≤ R.locals) : CallB R s args RX7 43 yJ7_fill_53178 cJ7_fill_53178 4 none wsR_fill { frames := 0, cells := 0, slots := 0, locals := 0 } 0 0 2 ∧ (Cond.static yJ7_fill_53178).before args s = true := va_cwS 2 hts (goodS wRa_good rm_X7_43 rt_J7_fill_53178 rn_J7 rc_J7_fill_53178) rfl rfl rfl (by decide +kernel) hR
def FR_X7_find (σ : RS) (p1 : Int32) : Option RS := (gd (isB p1) ((FR_fill_701 (ri (ri σ 706 p1) 707 (1000000 : Int32)) (-1 : Int32)).bind fun q_16 => ((FR_X7_extend 8 q_16 (0 : Int32) (0 : Int32) (0 : Int32) (0 : Int32) (0 : Int32) (0 : Int32)).bind fun q_26 => (some q_26))))
set_option maxHeartbeats 4000000 in
set_option maxRecDepth 100000 in
theorem cR_X7_find (l : Launch) (D : va_G) (cs : Nat → ClassId) (ad tb : Nat → Nat) (A : Nat → Prop) (σ : RS) (p1 : Int32) (q : RS) (hF : FR_X7_find σ p1 = some q) : Met l yX7_find wsR_X7_find { frames := 14, cells := 0, slots := 0, locals := 402 } (va_Pc [.ref (ad 1007), .int p1] (preQ D cs ad tb A σ)) (va_Qv (fun u => u = q) (posQ D cs ad A) A) 0 0 A := by
  refine Met.ofW (cc := cX7_find) (maxL := 2) (ret := none) (by decide) rfl ?_
  intro p e s m args below meth c s₁ B hml hv
  obtain ⟨rfl, hP, hK, hD, hZ⟩ := hv
  have hx := B.exec
  have hb := B.bytes
  have hr := B.returns
  have hts : ∀ w ∈ (Cond.code yX7_find cX7_find 2 none :: wRa), w.before ([.ref (ad 1007), .int p1] : List Value).toArray s = true := atoms_spec (ws := wsR_X7_find) B.pre
  have hin : ∀ w ∈ wRa, w ∈ (Cond.code yX7_find cX7_find 2 none :: wRa) := fun w hw => List.mem_cons_of_mem _ hw
  have hown : s.vm.findClass RX7 = some m.cls := findClass_of_methodNamed B.named
  have hlocks := B.notSynchronized
  have hS : va_S A s.heap s.heap [] := va_S.rf
  have hl := lv_entry ([.ref (ad 1007), .int p1]) (n := 2) (Nat.le_of_ble_eq_true rfl)
  rw [lg_entry_eq]
  generalize (lg_sl ([.ref (ad 1007), .int p1]) ++ List.replicate (2 - (lg_sl ([.ref (ad 1007), .int p1])).length) Slot.unset).toArray = ls at hl ⊢
  have hl : lv_has ls 2 [(0, .ref (ad 1007)), (1, .int p1)] := hl
  unfold FR_X7_find at hF
  refine lv_aload_n hx hb dX7_find_0 rfl (lv_at hl 0 rfl) ?_
  refine lv_iload_n hx hb dX7_find_1 rfl (lv_at hl 1 rfl) ?_
  obtain ⟨z_2, hF⟩ := ob_gd hF
  refine pF (ty := .boolean) hx hb hts hin wo_7 rfl tyX7 tyX7_ok nmX7 hown hK hP hD hS (ob_7 _ _ _) 6 (by decide) rf_X7_34 rfl (by decide +kernel) (isB_n z_2) (isB_f z_2) (Nat.le_of_ble_eq_true rfl) (rp_706 _ _ _ _) dX7_find_2 (fun H locs hP hD hS => ?_)
  refine lv_aload_n hx hb dX7_find_5 rfl (lv_at hl 0 rfl) ?_
  refine lv_ldc (v := (1000000 : Int32)) hx hb hown (hts _ (hin _ rk_X7_38)) dX7_find_6 ?_
  refine pF (ty := .int) hx hb hts hin wo_7 rfl tyX7 tyX7_ok nmX7 hown hK hP hD hS (ob_7 _ _ _) 7 (by decide) rf_X7_39 rfl (by decide +kernel) rfl rfl (Nat.le_of_ble_eq_true rfl) (rp_707 _ _ _ _) dX7_find_8 (fun H locs hP hD hS => ?_)
  refine lv_aload_n hx hb dX7_find_11 rfl (lv_at hl 0 rfl) ?_
  refine gF hx hb hts hin wo_7 rfl hown hK hP (ob_7 _ _ _) 1 (.ref (ad 701)) (by decide) rf_X7_18 rfl dX7_find_12 ?_
  refine lv_iconst (v := (-1 : Int32)) hx hb dX7_find_15 (by decide) ?_
  obtain ⟨q_16, e_16, hF⟩ := ob_bd hF
  refine cuR (As := [.ref (ad 701), .int (-1 : Int32)]) (rest := []) ⟨hx, hb, hml, hown, hts⟩ (cR_fill_701 l D cs ad tb A (ri (ri σ 706 p1) 707 (1000000 : Int32)) (-1 : Int32) _ e_16) (cw_X7_J7_fill_701_43 hts ⟨Nat.le_of_ble_eq_true rfl, Nat.le_of_ble_eq_true rfl⟩) ⟨Nat.zero_le _, Nat.zero_le _⟩ hK hP hD hS hZ rfl hl.1 rfl (lv_room (Nat.le_of_ble_eq_true rfl)) dX7_find_16 (fun H locs hP hD hS => ?_)
  refine lv_aload_n hx hb dX7_find_19 rfl (lv_at hl 0 rfl) ?_
  refine lv_iconst (v := (0 : Int32)) hx hb dX7_find_20 (by decide) ?_
  refine lv_iconst (v := (0 : Int32)) hx hb dX7_find_21 (by decide) ?_
  refine lv_iconst (v := (0 : Int32)) hx hb dX7_find_22 (by decide) ?_
  refine lv_iconst (v := (0 : Int32)) hx hb dX7_find_23 (by decide) ?_
  refine lv_iconst (v := (0 : Int32)) hx hb dX7_find_24 (by decide) ?_
  refine lv_iconst (v := (0 : Int32)) hx hb dX7_find_25 (by decide) ?_
  obtain ⟨q_26, e_26, hF⟩ := ob_bd hF
  refine cvR (As := [.int (0 : Int32), .int (0 : Int32), .int (0 : Int32), .int (0 : Int32), .int (0 : Int32), .int (0 : Int32)]) (rest := []) ⟨hx, hb, hml, hown, hts⟩ (cR_X7_extend l D cs ad tb A 8 q_16 (0 : Int32) (0 : Int32) (0 : Int32) (0 : Int32) (0 : Int32) (0 : Int32) _ e_26) (cw_X7_X7_extend_49 hts ⟨Nat.le_of_ble_eq_true rfl, Nat.le_of_ble_eq_true rfl⟩) ⟨Nat.zero_le _, Nat.zero_le _⟩ (rcF hK hP (ci := 7) rfl (ob_7 _ _ _)) hK hP hD hS hZ rfl hl.1 rfl (lv_room (Nat.le_of_ble_eq_true rfl)) dX7_find_26 (fun H locs hP hD hS => ?_)
  exact rvR hx hb hr hlocks hF hK hP hD hS dX7_find_29
