def FM_in (p0 : Int32) (p1 : Int32) (p2 : Int32) : Option Int32 := (if p0 < p1 then (some (0 : Int32)) else (if p2 < p0 then (some (0 : Int32)) else (some (1 : Int32))))
def wsM_in : List Cond := Cond.code yX10_in cX10_in 3 (some .boolean) :: wMa
theorem cw_in {R : Room} {s : State} {args : Array Value} {y : MethodName} {c : ByteArray} {n : Nat} {r : Option FieldType} (hts : ∀ w ∈ (Cond.code y c n r :: wMa), w.before args s = true) (hR : 0 + 1 ≤ R.frames ∧ 8 + (3 + 11) + 0 ≤ R.locals) : CallB R s args RX10 141 yX10_in cX10_in 3 (some .boolean) wsM_in { frames := 0, cells := 0, slots := 0, locals := 0 } 0 0 3 ∧ (Cond.static yX10_in).before args s = true := va_cwS 3 hts (goodMS mm_141 mt_in m_ini mc_in) rfl rfl rfl (by decide +kernel) hR
set_option maxHeartbeats 4000000 in
set_option maxRecDepth 100000 in
theorem cM_in (l : Launch) (p0 : Int32) (p1 : Int32) (p2 : Int32) (q : Int32) (hF : FM_in p0 p1 p2 = some q) : Met l yX10_in wsM_in { frames := 0, cells := 0, slots := 0, locals := 0 } (va_Pc [.int p0, .int p1, .int p2] (fun _ => True)) (vp_Si (fun x => x = q)) 0 0 (fun _ => False) := by
  refine Met.ofW (cc := cX10_in) (maxL := 3) (ret := (some .boolean)) (by decide) rfl ?_
  intro p e s m args below meth c s₁ B hml hv
  obtain ⟨rfl, -⟩ := hv
  have hx := B.exec
  have hb := B.bytes
  have hr := B.returns
  have hts : ∀ w ∈ (Cond.code yX10_in cX10_in 3 (some .boolean) :: wMa), w.before ([.int p0, .int p1, .int p2] : List Value).toArray s = true := atoms_spec (ws := wsM_in) B.pre
  have hin : ∀ w ∈ wMa, w ∈ (Cond.code yX10_in cX10_in 3 (some .boolean) :: wMa) := fun w hw => List.mem_cons_of_mem _ hw
  have hown : s.vm.findClass RX10 = some m.cls := findClass_of_methodNamed B.named
  have hlocks := B.notSynchronized
  have hl := lv_entry ([.int p0, .int p1, .int p2]) (n := 3) (Nat.le_of_ble_eq_true rfl)
  rw [lg_entry_eq]
  generalize (lg_sl ([.int p0, .int p1, .int p2]) ++ List.replicate (3 - (lg_sl ([.int p0, .int p1, .int p2])).length) Slot.unset).toArray = ls at hl ⊢
  have hl : lv_has ls 3 [(0, .int p0), (1, .int p1), (2, .int p2)] := hl
  unfold FM_in at hF
  refine lv_iload_n hx hb dX10_in_0 rfl (lv_at hl 0 rfl) ?_
  refine lv_iload_n hx hb dX10_in_1 rfl (lv_at hl 1 rfl) ?_
  refine lv_icmp_lt (tgt := 14) hx hb dX10_in_2 (by decide) (fun c_2 => ?_) (fun c_2 => ?_)
  · have hF := ob_t c_2 hF
    refine lv_iconst (v := (0 : Int32)) hx hb dX10_in_14 (by decide) ?_
    exact rzM hx hb hr hlocks rfl hF dX10_in_15
  · have hF := ob_f c_2 hF
    refine lv_iload_n hx hb dX10_in_5 rfl (lv_at hl 0 rfl) ?_
    refine lv_iload_n hx hb dX10_in_6 rfl (lv_at hl 2 rfl) ?_
    refine lv_icmp_gt (tgt := 14) hx hb dX10_in_7 (by decide) (fun c_7 => ?_) (fun c_7 => ?_)
    · have hF := ob_t c_7 hF
      refine lv_iconst (v := (0 : Int32)) hx hb dX10_in_14 (by decide) ?_
      exact rzM hx hb hr hlocks rfl hF dX10_in_15
    · have hF := ob_f c_7 hF
      refine lv_iconst (v := (1 : Int32)) hx hb dX10_in_10 (by decide) ?_
      refine lv_goto (tgt := 15) hx hb dX10_in_11 (by decide) ?_
      exact rzM hx hb hr hlocks rfl hF dX10_in_15
def FM_isThere (σ : MS) (p1 : Int32) : Option Int32 := ((FM_in p1 (0 : Int32) ((σ.1 0) - (1 : Int32))).bind fun q_8 => (if q_8 = 0 then (some (0 : Int32)) else (gd (inb p1 40) (if (σ.2 1 p1.toNatClampNeg) = 0 then (some (0 : Int32)) else (some (1 : Int32))))))
def wsM_isThere : List Cond := Cond.code yX10_isThere cX10_isThere 2 (some .boolean) :: wMa
theorem cw_isThere {R : Room} {s : State} {args : Array Value} {y : MethodName} {c : ByteArray} {n : Nat} {r : Option FieldType} (hts : ∀ w ∈ (Cond.code y c n r :: wMa), w.before args s = true) (hR : 1 + 1 ≤ R.frames ∧ 8 + (2 + 11) + 22 ≤ R.locals) : CallW R s args RX10 RX10 157 yX10_isThere cX10_isThere 2 (some .boolean) wsM_isThere { frames := 1, cells := 0, slots := 0, locals := 22 } 0 0 1 := cwV 1 hts (goodMV mm_157 mi_isThere ms_isThere m_ini mc_isThere) rfl rfl rfl (by decide +kernel) hR
set_option maxHeartbeats 4000000 in
set_option maxRecDepth 100000 in
theorem cM_isThere (l : Launch) (D : va_G) (cI cZ : ClassId) (h : Nat) (ad : Nat → Nat) (σ : MS) (p1 : Int32) (q : Int32) (hF : FM_isThere σ p1 = some q) : Met l yX10_isThere wsM_isThere { frames := 1, cells := 0, slots := 0, locals := 22 } (va_Pc [.ref h, .int p1] (preR D cI cZ h ad σ)) (vp_Si (fun x => x = q)) 0 0 (fun _ => False) := by
  refine Met.ofW (cc := cX10_isThere) (maxL := 2) (ret := (some .boolean)) (by decide) rfl ?_
  intro p e s m args below meth c s₁ B hml hv
  obtain ⟨rfl, hP, hK⟩ := hv
  have hx := B.exec
  have hb := B.bytes
  have hr := B.returns
  have hts : ∀ w ∈ (Cond.code yX10_isThere cX10_isThere 2 (some .boolean) :: wMa), w.before ([.ref h, .int p1] : List Value).toArray s = true := atoms_spec (ws := wsM_isThere) B.pre
  have hin : ∀ w ∈ wMa, w ∈ (Cond.code yX10_isThere cX10_isThere 2 (some .boolean) :: wMa) := fun w hw => List.mem_cons_of_mem _ hw
  have hown : s.vm.findClass RX10 = some m.cls := findClass_of_methodNamed B.named
  have hlocks := B.notSynchronized
  have hl := lv_entry ([.ref h, .int p1]) (n := 2) (Nat.le_of_ble_eq_true rfl)
  rw [lg_entry_eq]
  generalize (lg_sl ([.ref h, .int p1]) ++ List.replicate (2 - (lg_sl ([.ref h, .int p1])).length) Slot.unset).toArray = ls at hl ⊢
  have hl : lv_has ls 2 [(0, .ref h), (1, .int p1)] := hl
  unfold FM_isThere at hF
  refine lv_iload_n hx hb dX10_isThere_0 rfl (lv_at hl 1 rfl) ?_
  refine lv_iconst (v := (0 : Int32)) hx hb dX10_isThere_1 (by decide) ?_
  refine lv_aload_n hx hb dX10_isThere_2 rfl (lv_at hl 0 rfl) ?_
  refine gM hx hb hts hin hown hK hP 0 (.int (σ.1 0)) (by decide) mf_138 rfl dX10_isThere_3 ?_
  refine lv_iconst (v := (1 : Int32)) hx hb dX10_isThere_6 (by decide) ?_
  refine lv_isub hx hb dX10_isThere_7 ?_
  obtain ⟨q_8, e_8, hF⟩ := ob_bd hF
  refine csM (As := [.int p1, .int (0 : Int32), .int ((σ.1 0) - (1 : Int32))]) (rest := []) ⟨hx, hb, hml, hown, hts⟩ (cM_in l p1 (0 : Int32) ((σ.1 0) - (1 : Int32)) _ e_8) (cw_in hts ⟨Nat.le_of_ble_eq_true rfl, Nat.le_of_ble_eq_true rfl⟩) rfl hl.1 rfl (lv_room (Nat.le_of_ble_eq_true rfl)) dX10_isThere_8 ?_
  refine lv_if_eq (tgt := 27) hx hb dX10_isThere_11 (by decide) (fun c_11 => ?_) (fun c_11 => ?_)
  · have hF := ob_t c_11 hF
    refine lv_iconst (v := (0 : Int32)) hx hb dX10_isThere_27 (by decide) ?_
    exact rzM hx hb hr hlocks rfl hF dX10_isThere_28
  · have hF := ob_f c_11 hF
    refine lv_aload_n hx hb dX10_isThere_14 rfl (lv_at hl 0 rfl) ?_
    refine gM hx hb hts hin hown hK hP 1 (.ref (ad 1)) (by decide) mf_7 rfl dX10_isThere_15 ?_
    refine lv_iload_n hx hb dX10_isThere_18 rfl (lv_at hl 1 rfl) ?_
    obtain ⟨g_19, hF⟩ := ob_gd hF
    refine va_zald (f := σ.2 1) hx hb hK hP 1 1 rfl rfl (inb_in g_19) dX10_isThere_19 ?_
    refine lv_if_eq (tgt := 27) hx hb dX10_isThere_20 (by decide) (fun c_20 => ?_) (fun c_20 => ?_)
    · have hF := ob_t c_20 hF
      refine lv_iconst (v := (0 : Int32)) hx hb dX10_isThere_27 (by decide) ?_
      exact rzM hx hb hr hlocks rfl hF dX10_isThere_28
    · have hF := ob_f c_20 hF
      refine lv_iconst (v := (1 : Int32)) hx hb dX10_isThere_23 (by decide) ?_
      refine lv_goto (tgt := 28) hx hb dX10_isThere_24 (by decide) ?_
      exact rzM hx hb hr hlocks rfl hF dX10_isThere_28
def FM_told (p0 : Int32) (p1 : Int32) : Option Int32 := (if p1 = 0 then (some (p0 - p0 / (10 : Int32) * (10 : Int32))) else (if p1 = (1 : Int32) then (some ((p0 / (10 : Int32)) - (p0 / (10 : Int32)) / (10 : Int32) * (10 : Int32))) else (if p1 = (2 : Int32) then (some (p0 / (100 : Int32))) else (some (-1 : Int32)))))
def wsM_told : List Cond := Cond.code yX10_told cX10_told 2 (some .int) :: wMa
theorem cw_told {R : Room} {s : State} {args : Array Value} {y : MethodName} {c : ByteArray} {n : Nat} {r : Option FieldType} (hts : ∀ w ∈ (Cond.code y c n r :: wMa), w.before args s = true) (hR : 0 + 1 ≤ R.frames ∧ 8 + (2 + 11) + 0 ≤ R.locals) : CallB R s args RX10 161 yX10_told cX10_told 2 (some .int) wsM_told { frames := 0, cells := 0, slots := 0, locals := 0 } 0 0 2 ∧ (Cond.static yX10_told).before args s = true := va_cwS 2 hts (goodMS mm_161 mt_told m_ini mc_told) rfl rfl rfl (by decide +kernel) hR
set_option maxHeartbeats 4000000 in
set_option maxRecDepth 100000 in
theorem cM_told (l : Launch) (p0 : Int32) (p1 : Int32) (q : Int32) (hF : FM_told p0 p1 = some q) : Met l yX10_told wsM_told { frames := 0, cells := 0, slots := 0, locals := 0 } (va_Pc [.int p0, .int p1] (fun _ => True)) (vp_Si (fun x => x = q)) 0 0 (fun _ => False) := by
  refine Met.ofW (cc := cX10_told) (maxL := 2) (ret := (some .int)) (by decide) rfl ?_
  intro p e s m args below meth c s₁ B hml hv
  obtain ⟨rfl, -⟩ := hv
  have hx := B.exec
  have hb := B.bytes
  have hr := B.returns
  have hts : ∀ w ∈ (Cond.code yX10_told cX10_told 2 (some .int) :: wMa), w.before ([.int p0, .int p1] : List Value).toArray s = true := atoms_spec (ws := wsM_told) B.pre
  have hin : ∀ w ∈ wMa, w ∈ (Cond.code yX10_told cX10_told 2 (some .int) :: wMa) := fun w hw => List.mem_cons_of_mem _ hw
  have hown : s.vm.findClass RX10 = some m.cls := findClass_of_methodNamed B.named
  have hlocks := B.notSynchronized
  have hl := lv_entry ([.int p0, .int p1]) (n := 2) (Nat.le_of_ble_eq_true rfl)
  rw [lg_entry_eq]
  generalize (lg_sl ([.int p0, .int p1]) ++ List.replicate (2 - (lg_sl ([.int p0, .int p1])).length) Slot.unset).toArray = ls at hl ⊢
  have hl : lv_has ls 2 [(0, .int p0), (1, .int p1)] := hl
  unfold FM_told at hF
  refine lv_iload_n hx hb dX10_told_0 rfl (lv_at hl 1 rfl) ?_
  refine lv_if_ne (tgt := 11) hx hb dX10_told_1 (by decide) (fun c_1 => ?_) (fun c_1 => ?_)
  · have hF := ob_f c_1 hF
    refine lv_iload_n hx hb dX10_told_11 rfl (lv_at hl 1 rfl) ?_
    refine lv_iconst (v := (1 : Int32)) hx hb dX10_told_12 (by decide) ?_
    refine lv_icmp_ne (tgt := 26) hx hb dX10_told_13 (by decide) (fun c_13 => ?_) (fun c_13 => ?_)
    · have hF := ob_f c_13 hF
      refine lv_iload_n hx hb dX10_told_26 rfl (lv_at hl 1 rfl) ?_
      refine lv_iconst (v := (2 : Int32)) hx hb dX10_told_27 (by decide) ?_
      refine lv_icmp_ne (tgt := 38) hx hb dX10_told_28 (by decide) (fun c_28 => ?_) (fun c_28 => ?_)
      · have hF := ob_f c_28 hF
        refine lv_iconst (v := (-1 : Int32)) hx hb dX10_told_38 (by decide) ?_
        exact rrM hx hb hr hlocks hF dX10_told_39
      · have hF := ob_t c_28 hF
        refine lv_iload_n hx hb dX10_told_31 rfl (lv_at hl 0 rfl) ?_
        refine lv_bipush (v := (100 : Int32)) hx hb dX10_told_32 (by decide) ?_
        refine lv_idiv hx hb dX10_told_34 (by decide) ?_
        refine lv_goto (tgt := 39) hx hb dX10_told_35 (by decide) ?_
        exact rrM hx hb hr hlocks hF dX10_told_39
    · have hF := ob_t c_13 hF
      refine lv_iload_n hx hb dX10_told_16 rfl (lv_at hl 0 rfl) ?_
      refine lv_bipush (v := (10 : Int32)) hx hb dX10_told_17 (by decide) ?_
      refine lv_idiv hx hb dX10_told_19 (by decide) ?_
      refine lv_bipush (v := (10 : Int32)) hx hb dX10_told_20 (by decide) ?_
      refine lv_irem hx hb dX10_told_22 (by decide) ?_
      refine lv_goto (tgt := 39) hx hb dX10_told_23 (by decide) ?_
      exact rrM hx hb hr hlocks hF dX10_told_39
  · have hF := ob_t c_1 hF
    refine lv_iload_n hx hb dX10_told_4 rfl (lv_at hl 0 rfl) ?_
    refine lv_bipush (v := (10 : Int32)) hx hb dX10_told_5 (by decide) ?_
    refine lv_irem hx hb dX10_told_7 (by decide) ?_
    refine lv_goto (tgt := 39) hx hb dX10_told_8 (by decide) ?_
    exact rrM hx hb hr hlocks hF dX10_told_39
def FM_missOf_67 (σ : MS) (t0_67 : Int32) : Option Int32 := (if t0_67 ≤ (σ.1 24) then (some (0 : Int32)) else (some (1 : Int32)))
def FM_missOf_49 (σ : MS) (t0_49 : Int32) : Option Int32 := (if t0_49 ≤ (5 : Int32) then (FM_missOf_67 σ t0_49) else (FM_missOf_67 σ ((10 : Int32) - t0_49)))
def FM_missOf (σ : MS) (p1 : Int32) (p2 : Int32) (p3 : Int32) (p4 : Int32) : Option Int32 := (gd (inb p1 6) (gd (inb ((σ.2 33 p1.toNatClampNeg) + p2) 120) (gd (inb p3 6) (gd (inb ((σ.2 33 p3.toNatClampNeg) + p4) 120) (if 0 ≤ (((σ.2 34 ((σ.2 33 p1.toNatClampNeg) + p2).toNatClampNeg) - (σ.2 34 ((σ.2 33 p1.toNatClampNeg) + p2).toNatClampNeg) / (10 : Int32) * (10 : Int32)) - ((σ.2 34 ((σ.2 33 p3.toNatClampNeg) + p4).toNatClampNeg) - (σ.2 34 ((σ.2 33 p3.toNatClampNeg) + p4).toNatClampNeg) / (10 : Int32) * (10 : Int32))) then (FM_missOf_49 σ (((σ.2 34 ((σ.2 33 p1.toNatClampNeg) + p2).toNatClampNeg) - (σ.2 34 ((σ.2 33 p1.toNatClampNeg) + p2).toNatClampNeg) / (10 : Int32) * (10 : Int32)) - ((σ.2 34 ((σ.2 33 p3.toNatClampNeg) + p4).toNatClampNeg) - (σ.2 34 ((σ.2 33 p3.toNatClampNeg) + p4).toNatClampNeg) / (10 : Int32) * (10 : Int32)))) else (FM_missOf_49 σ (-(((σ.2 34 ((σ.2 33 p1.toNatClampNeg) + p2).toNatClampNeg) - (σ.2 34 ((σ.2 33 p1.toNatClampNeg) + p2).toNatClampNeg) / (10 : Int32) * (10 : Int32)) - ((σ.2 34 ((σ.2 33 p3.toNatClampNeg) + p4).toNatClampNeg) - (σ.2 34 ((σ.2 33 p3.toNatClampNeg) + p4).toNatClampNeg) / (10 : Int32) * (10 : Int32))))))))))
def wsM_missOf : List Cond := Cond.code yX10_missOf cX10_missOf 6 (some .int) :: wMa
theorem cw_missOf {R : Room} {s : State} {args : Array Value} {y : MethodName} {c : ByteArray} {n : Nat} {r : Option FieldType} (hts : ∀ w ∈ (Cond.code y c n r :: wMa), w.before args s = true) (hR : 0 + 1 ≤ R.frames ∧ 8 + (6 + 11) + 0 ≤ R.locals) : CallW R s args RX10 RX10 172 yX10_missOf cX10_missOf 6 (some .int) wsM_missOf { frames := 0, cells := 0, slots := 0, locals := 0 } 0 0 4 := cwV 4 hts (goodMV mm_172 mi_missOf ms_missOf m_ini mc_missOf) rfl rfl rfl (by decide +kernel) hR
set_option maxHeartbeats 4000000 in
set_option maxRecDepth 100000 in
theorem cM_missOf (l : Launch) (D : va_G) (cI cZ : ClassId) (h : Nat) (ad : Nat → Nat) (σ : MS) (p1 : Int32) (p2 : Int32) (p3 : Int32) (p4 : Int32) (q : Int32) (hF : FM_missOf σ p1 p2 p3 p4 = some q) : Met l yX10_missOf wsM_missOf { frames := 0, cells := 0, slots := 0, locals := 0 } (va_Pc [.ref h, .int p1, .int p2, .int p3, .int p4] (preR D cI cZ h ad σ)) (vp_Si (fun x => x = q)) 0 0 (fun _ => False) := by
  refine Met.ofW (cc := cX10_missOf) (maxL := 6) (ret := (some .int)) (by decide) rfl ?_
  intro p e s m args below meth c s₁ B hml hv
  obtain ⟨rfl, hP, hK⟩ := hv
  have hx := B.exec
  have hb := B.bytes
  have hr := B.returns
  have hts : ∀ w ∈ (Cond.code yX10_missOf cX10_missOf 6 (some .int) :: wMa), w.before ([.ref h, .int p1, .int p2, .int p3, .int p4] : List Value).toArray s = true := atoms_spec (ws := wsM_missOf) B.pre
  have hin : ∀ w ∈ wMa, w ∈ (Cond.code yX10_missOf cX10_missOf 6 (some .int) :: wMa) := fun w hw => List.mem_cons_of_mem _ hw
  have hown : s.vm.findClass RX10 = some m.cls := findClass_of_methodNamed B.named
  have hlocks := B.notSynchronized
  have b_67 : ∀ (t0_67 : Int32) (ls : Array Slot), FM_missOf_67 σ t0_67 = some q → lv_has ls 6 [(0, .ref h)] → W p l e (headSpec wsM_missOf { frames := 0, cells := 0, slots := 0, locals := 0 }).room s m ([.ref h, .int p1, .int p2, .int p3, .int p4] : List Value).toArray below meth c s.heap [] 0 0 (MQ below (vp_Si (fun x => x = q)) ([.ref h, .int p1, .int p2, .int p3, .int p4] : List Value).toArray s 0 0 (fun _ => False)) (F0 m 67 ls [.int t0_67]) := by
    intro t0_67 ls hF hl
    unfold FM_missOf_67 at hF
    refine lv_aload_n hx hb dX10_missOf_67 rfl (lv_at hl 0 rfl) ?_
    refine gM hx hb hts hin hown hK hP 24 (.int (σ.1 24)) (by decide) mf_165 rfl dX10_missOf_68 ?_
    refine lv_icmp_le (tgt := 78) hx hb dX10_missOf_71 (by decide) (fun c_71 => ?_) (fun c_71 => ?_)
    · have hF := ob_t c_71 hF
      refine lv_iconst (v := (0 : Int32)) hx hb dX10_missOf_78 (by decide) ?_
      exact rrM hx hb hr hlocks hF dX10_missOf_79
    · have hF := ob_f c_71 hF
      refine lv_iconst (v := (1 : Int32)) hx hb dX10_missOf_74 (by decide) ?_
      refine lv_goto (tgt := 79) hx hb dX10_missOf_75 (by decide) ?_
      exact rrM hx hb hr hlocks hF dX10_missOf_79
  have b_49 : ∀ (t0_49 : Int32) (ls : Array Slot), FM_missOf_49 σ t0_49 = some q → lv_has ls 6 [(0, .ref h)] → W p l e (headSpec wsM_missOf { frames := 0, cells := 0, slots := 0, locals := 0 }).room s m ([.ref h, .int p1, .int p2, .int p3, .int p4] : List Value).toArray below meth c s.heap [] 0 0 (MQ below (vp_Si (fun x => x = q)) ([.ref h, .int p1, .int p2, .int p3, .int p4] : List Value).toArray s 0 0 (fun _ => False)) (F0 m 49 ls [.int t0_49]) := by
    intro t0_49 ls hF hl
    unfold FM_missOf_49 at hF
    refine lv_istore (lv' := [(5, .int t0_49), (0, .ref h)]) hx hb dX10_missOf_49 hl (by decide) rfl (fun ls hl => ?_)
    refine lv_iload hx hb dX10_missOf_51 (lv_at hl 0 rfl) ?_
    refine lv_iconst (v := (5 : Int32)) hx hb dX10_missOf_53 (by decide) ?_
    refine lv_icmp_le (tgt := 65) hx hb dX10_missOf_54 (by decide) (fun c_54 => ?_) (fun c_54 => ?_)
    · have hF := ob_t c_54 hF
      refine lv_iload hx hb dX10_missOf_65 (lv_at hl 0 rfl) ?_
      exact b_67 t0_49 _ hF (lv_sub hl [1] rfl)
    · have hF := ob_f c_54 hF
      refine lv_bipush (v := (10 : Int32)) hx hb dX10_missOf_57 (by decide) ?_
      refine lv_iload hx hb dX10_missOf_59 (lv_at hl 0 rfl) ?_
      refine lv_isub hx hb dX10_missOf_61 ?_
      refine lv_goto (tgt := 67) hx hb dX10_missOf_62 (by decide) ?_
      exact b_67 ((10 : Int32) - t0_49) _ hF (lv_sub hl [1] rfl)
  have hl := lv_entry ([.ref h, .int p1, .int p2, .int p3, .int p4]) (n := 6) (Nat.le_of_ble_eq_true rfl)
  rw [lg_entry_eq]
  generalize (lg_sl ([.ref h, .int p1, .int p2, .int p3, .int p4]) ++ List.replicate (6 - (lg_sl ([.ref h, .int p1, .int p2, .int p3, .int p4])).length) Slot.unset).toArray = ls at hl ⊢
  have hl : lv_has ls 6 [(0, .ref h), (1, .int p1), (2, .int p2), (3, .int p3), (4, .int p4)] := hl
  unfold FM_missOf at hF
  refine lv_aload_n hx hb dX10_missOf_0 rfl (lv_at hl 0 rfl) ?_
  refine gM hx hb hts hin hown hK hP 34 (.ref (ad 34)) (by decide) mf_102 rfl dX10_missOf_1 ?_
  refine lv_aload_n hx hb dX10_missOf_4 rfl (lv_at hl 0 rfl) ?_
  refine gM hx hb hts hin hown hK hP 33 (.ref (ad 33)) (by decide) mf_99 rfl dX10_missOf_5 ?_
  refine lv_iload_n hx hb dX10_missOf_8 rfl (lv_at hl 1 rfl) ?_
  obtain ⟨g_9, hF⟩ := ob_gd hF
  refine va_iald (f := σ.2 33) hx hb hK hP 26 0 rfl rfl (inb_in g_9) dX10_missOf_9 ?_
  refine lv_iload_n hx hb dX10_missOf_10 rfl (lv_at hl 2 rfl) ?_
  refine lv_iadd hx hb dX10_missOf_11 ?_
  obtain ⟨g_12, hF⟩ := ob_gd hF
  refine va_iald (f := σ.2 34) hx hb hK hP 27 0 rfl rfl (inb_in g_12) dX10_missOf_12 ?_
  refine lv_bipush (v := (10 : Int32)) hx hb dX10_missOf_13 (by decide) ?_
  refine lv_irem hx hb dX10_missOf_15 (by decide) ?_
  refine lv_aload_n hx hb dX10_missOf_16 rfl (lv_at hl 0 rfl) ?_
  refine gM hx hb hts hin hown hK hP 34 (.ref (ad 34)) (by decide) mf_102 rfl dX10_missOf_17 ?_
  refine lv_aload_n hx hb dX10_missOf_20 rfl (lv_at hl 0 rfl) ?_
  refine gM hx hb hts hin hown hK hP 33 (.ref (ad 33)) (by decide) mf_99 rfl dX10_missOf_21 ?_
  refine lv_iload_n hx hb dX10_missOf_24 rfl (lv_at hl 3 rfl) ?_
  obtain ⟨g_25, hF⟩ := ob_gd hF
  refine va_iald (f := σ.2 33) hx hb hK hP 26 0 rfl rfl (inb_in g_25) dX10_missOf_25 ?_
  refine lv_iload hx hb dX10_missOf_26 (lv_at hl 4 rfl) ?_
  refine lv_iadd hx hb dX10_missOf_28 ?_
  obtain ⟨g_29, hF⟩ := ob_gd hF
  refine va_iald (f := σ.2 34) hx hb hK hP 27 0 rfl rfl (inb_in g_29) dX10_missOf_29 ?_
  refine lv_bipush (v := (10 : Int32)) hx hb dX10_missOf_30 (by decide) ?_
  refine lv_irem hx hb dX10_missOf_32 (by decide) ?_
  refine lv_isub hx hb dX10_missOf_33 ?_
  refine lv_istore (lv' := [(5, .int (((σ.2 34 ((σ.2 33 p1.toNatClampNeg) + p2).toNatClampNeg) - (σ.2 34 ((σ.2 33 p1.toNatClampNeg) + p2).toNatClampNeg) / (10 : Int32) * (10 : Int32)) - ((σ.2 34 ((σ.2 33 p3.toNatClampNeg) + p4).toNatClampNeg) - (σ.2 34 ((σ.2 33 p3.toNatClampNeg) + p4).toNatClampNeg) / (10 : Int32) * (10 : Int32)))), (0, .ref h), (1, .int p1), (2, .int p2), (3, .int p3), (4, .int p4)]) hx hb dX10_missOf_34 hl (by decide) rfl (fun ls hl => ?_)
  refine lv_iload hx hb dX10_missOf_36 (lv_at hl 0 rfl) ?_
  refine lv_if_ge (tgt := 47) hx hb dX10_missOf_38 (by decide) (fun c_38 => ?_) (fun c_38 => ?_)
  · have hF := ob_t c_38 hF
    refine lv_iload hx hb dX10_missOf_47 (lv_at hl 0 rfl) ?_
    exact b_49 (((σ.2 34 ((σ.2 33 p1.toNatClampNeg) + p2).toNatClampNeg) - (σ.2 34 ((σ.2 33 p1.toNatClampNeg) + p2).toNatClampNeg) / (10 : Int32) * (10 : Int32)) - ((σ.2 34 ((σ.2 33 p3.toNatClampNeg) + p4).toNatClampNeg) - (σ.2 34 ((σ.2 33 p3.toNatClampNeg) + p4).toNatClampNeg) / (10 : Int32) * (10 : Int32))) _ hF (lv_sub hl [1] rfl)
  · have hF := ob_f c_38 hF
    refine lv_iload hx hb dX10_missOf_41 (lv_at hl 0 rfl) ?_
    refine lv_ineg hx hb dX10_missOf_43 ?_
    refine lv_goto (tgt := 49) hx hb dX10_missOf_44 (by decide) ?_
    exact b_49 (-(((σ.2 34 ((σ.2 33 p1.toNatClampNeg) + p2).toNatClampNeg) - (σ.2 34 ((σ.2 33 p1.toNatClampNeg) + p2).toNatClampNeg) / (10 : Int32) * (10 : Int32)) - ((σ.2 34 ((σ.2 33 p3.toNatClampNeg) + p4).toNatClampNeg) - (σ.2 34 ((σ.2 33 p3.toNatClampNeg) + p4).toNatClampNeg) / (10 : Int32) * (10 : Int32)))) _ hF (lv_sub hl [1] rfl)
def FM_seam_34 (σ : MS) : Nat → Int32 → Int32 → Option Int32
  | 0, _, _ => none
  | n_34 + 1, x2_34, x3_34 => (gd (inb (0 : Int32) 6) (if (σ.2 32 (0 : Int32).toNatClampNeg) ≤ x3_34 then (some x2_34) else ((FM_missOf σ (0 : Int32) x3_34 (1 : Int32) x3_34).bind fun q_50 => (FM_seam_34 σ  n_34 (x2_34 + q_50) (x3_34 + (1 : Int32))))))
def FM_seam_65 (σ : MS) (x1_65 : Int32) : Nat → Int32 → Int32 → Option Int32
  | 0, _, _ => none
  | n_65 + 1, x2_65, x3_65 => (gd (inb (0 : Int32) 6) (if ((σ.2 32 (0 : Int32).toNatClampNeg) / (2 : Int32)) ≤ x3_65 then (some x2_65) else (gd (inb (2 : Int32) 6) (if (σ.2 32 (2 : Int32).toNatClampNeg) ≤ x3_65 then (some x2_65) else ((FM_missOf σ (x1_65 + (1 : Int32)) x3_65 (x1_65 - (1 : Int32)) x3_65).bind fun q_97 => (FM_seam_65 σ  x1_65 n_65 (x2_65 + q_97) (x3_65 + (1 : Int32))))))))
def FM_seam_112 (σ : MS) : Nat → Int32 → Int32 → Option Int32
  | 0, _, _ => none
  | n_112 + 1, x2_112, x3_112 => (gd (inb (4 : Int32) 6) (if (σ.2 32 (4 : Int32).toNatClampNeg) ≤ x3_112 then (some x2_112) else (gd (inb (0 : Int32) 6) (if (σ.2 32 (0 : Int32).toNatClampNeg) ≤ x3_112 then (some x2_112) else (gd (inb (0 : Int32) 6) ((FM_missOf σ (4 : Int32) x3_112 (0 : Int32) (((σ.2 32 (0 : Int32).toNatClampNeg) - (1 : Int32)) - x3_112)).bind fun q_147 => (FM_seam_112 σ  n_112 (x2_112 + q_147) (x3_112 + (1 : Int32)))))))))
def FM_seam_162 (σ : MS) : Nat → Int32 → Int32 → Option Int32
  | 0, _, _ => none
  | n_162 + 1, x2_162, x3_162 => (gd (inb (5 : Int32) 6) (if (σ.2 32 (5 : Int32).toNatClampNeg) ≤ x3_162 then (some x2_162) else (gd (inb (4 : Int32) 6) (if (σ.2 32 (4 : Int32).toNatClampNeg) ≤ x3_162 then (some x2_162) else ((FM_missOf σ (5 : Int32) x3_162 (4 : Int32) x3_162).bind fun q_188 => (FM_seam_162 σ  n_162 (x2_162 + q_188) (x3_162 + (1 : Int32))))))))
def FM_seam (σ : MS) (p1 : Int32) : Option Int32 := (if p1 = (0 : Int32) then (FM_seam_34 σ fu (0 : Int32) (0 : Int32)) else (if p1 = (1 : Int32) then (FM_seam_65 σ p1 fu (0 : Int32) (0 : Int32)) else (if p1 = (2 : Int32) then (FM_seam_65 σ p1 fu (0 : Int32) (0 : Int32)) else (if p1 = (3 : Int32) then (FM_seam_112 σ fu (0 : Int32) (0 : Int32)) else (FM_seam_162 σ fu (0 : Int32) (0 : Int32))))))
def wsM_seam : List Cond := Cond.code yX10_seam cX10_seam 4 (some .int) :: wMa
theorem cw_seam {R : Room} {s : State} {args : Array Value} {y : MethodName} {c : ByteArray} {n : Nat} {r : Option FieldType} (hts : ∀ w ∈ (Cond.code y c n r :: wMa), w.before args s = true) (hR : 1 + 1 ≤ R.frames ∧ 8 + (4 + 11) + 25 ≤ R.locals) : CallW R s args RX10 RX10 180 yX10_seam cX10_seam 4 (some .int) wsM_seam { frames := 1, cells := 0, slots := 0, locals := 25 } 0 0 1 := cwV 1 hts (goodMV mm_180 mi_seam ms_seam m_ini mc_seam) rfl rfl rfl (by decide +kernel) hR
set_option maxHeartbeats 4000000 in
set_option maxRecDepth 100000 in
theorem cM_seam (l : Launch) (D : va_G) (cI cZ : ClassId) (h : Nat) (ad : Nat → Nat) (σ : MS) (p1 : Int32) (q : Int32) (hF : FM_seam σ p1 = some q) : Met l yX10_seam wsM_seam { frames := 1, cells := 0, slots := 0, locals := 25 } (va_Pc [.ref h, .int p1] (preR D cI cZ h ad σ)) (vp_Si (fun x => x = q)) 0 0 (fun _ => False) := by
  refine Met.ofW (cc := cX10_seam) (maxL := 4) (ret := (some .int)) (by decide) rfl ?_
  intro p e s m args below meth c s₁ B hml hv
  obtain ⟨rfl, hP, hK⟩ := hv
  have hx := B.exec
  have hb := B.bytes
  have hr := B.returns
  have hts : ∀ w ∈ (Cond.code yX10_seam cX10_seam 4 (some .int) :: wMa), w.before ([.ref h, .int p1] : List Value).toArray s = true := atoms_spec (ws := wsM_seam) B.pre
  have hin : ∀ w ∈ wMa, w ∈ (Cond.code yX10_seam cX10_seam 4 (some .int) :: wMa) := fun w hw => List.mem_cons_of_mem _ hw
  have hown : s.vm.findClass RX10 = some m.cls := findClass_of_methodNamed B.named
  have hlocks := B.notSynchronized
  have b_34 : ∀ (n_34 : Nat) (x2_34 : Int32) (x3_34 : Int32) (ls : Array Slot), FM_seam_34 σ n_34 x2_34 x3_34 = some q → lv_has ls 4 [(0, .ref h), (2, .int x2_34), (3, .int x3_34)] → W p l e (headSpec wsM_seam { frames := 1, cells := 0, slots := 0, locals := 25 }).room s m ([.ref h, .int p1] : List Value).toArray below meth c s.heap [] 0 0 (MQ below (vp_Si (fun x => x = q)) ([.ref h, .int p1] : List Value).toArray s 0 0 (fun _ => False)) (F0 m 34 ls []) := by
    intro n_34
    induction n_34 with
    | zero =>
      intro x2_34 x3_34 ls hF hl
      exact absurd hF (by simp [FM_seam_34])
    | succ n_34 ih_34 =>
      intro x2_34 x3_34 ls hF hl
      rw [FM_seam_34] at hF
      refine lv_iload_n hx hb dX10_seam_34 rfl (lv_at hl 2 rfl) ?_
      refine lv_aload_n hx hb dX10_seam_35 rfl (lv_at hl 0 rfl) ?_
      refine gM hx hb hts hin hown hK hP 32 (.ref (ad 32)) (by decide) mf_96 rfl dX10_seam_36 ?_
      refine lv_iconst (v := (0 : Int32)) hx hb dX10_seam_39 (by decide) ?_
      obtain ⟨g_40, hF⟩ := ob_gd hF
      refine va_iald (f := σ.2 32) hx hb hK hP 25 0 rfl rfl (inb_in g_40) dX10_seam_40 ?_
      refine lv_icmp_ge (tgt := 61) hx hb dX10_seam_41 (by decide) (fun c_41 => ?_) (fun c_41 => ?_)
      · have hF := ob_t c_41 hF
        refine lv_iload_n hx hb dX10_seam_61 rfl (lv_at hl 1 rfl) ?_
        exact rrM hx hb hr hlocks hF dX10_seam_62
      · have hF := ob_f c_41 hF
        refine lv_iload_n hx hb dX10_seam_44 rfl (lv_at hl 1 rfl) ?_
        refine lv_aload_n hx hb dX10_seam_45 rfl (lv_at hl 0 rfl) ?_
        refine lv_iconst (v := (0 : Int32)) hx hb dX10_seam_46 (by decide) ?_
        refine lv_iload_n hx hb dX10_seam_47 rfl (lv_at hl 2 rfl) ?_
        refine lv_iconst (v := (1 : Int32)) hx hb dX10_seam_48 (by decide) ?_
        refine lv_iload_n hx hb dX10_seam_49 rfl (lv_at hl 2 rfl) ?_
        obtain ⟨q_50, e_50, hF⟩ := ob_bd hF
        refine crM (As := [.int (0 : Int32), .int x3_34, .int (1 : Int32), .int x3_34]) (rest := [.int x2_34]) ⟨hx, hb, hml, hown, hts⟩ (cM_missOf l D cI cZ h ad σ (0 : Int32) x3_34 (1 : Int32) x3_34 _ e_50) (cw_missOf hts ⟨Nat.le_of_ble_eq_true rfl, Nat.le_of_ble_eq_true rfl⟩) hK hP rfl hl.1 rfl (lv_room (Nat.le_of_ble_eq_true rfl)) dX10_seam_50 ?_
        refine lv_iadd hx hb dX10_seam_53 ?_
        refine lv_istore_n (lv' := [(2, .int (x2_34 + q_50)), (0, .ref h), (3, .int x3_34)]) hx hb dX10_seam_54 rfl hl (by decide) rfl (fun ls hl => ?_)
        refine lv_iinc (v := x3_34 + (1 : Int32)) (lv' := [(3, .int (x3_34 + (1 : Int32))), (2, .int (x2_34 + q_50)), (0, .ref h)]) hx hb dX10_seam_55 hl (k := 2) rfl rfl (by decide) rfl (fun ls hl => ?_)
        refine lv_goto (tgt := 34) hx hb dX10_seam_58 (by decide) ?_
        exact ih_34 (x2_34 + q_50) (x3_34 + (1 : Int32)) _ hF (lv_sub hl [2, 1, 0] rfl)
  have b_65 : ∀ (x1_65 : Int32) (n_65 : Nat) (x2_65 : Int32) (x3_65 : Int32) (ls : Array Slot), FM_seam_65 σ x1_65 n_65 x2_65 x3_65 = some q → lv_has ls 4 [(0, .ref h), (1, .int x1_65), (2, .int x2_65), (3, .int x3_65)] → W p l e (headSpec wsM_seam { frames := 1, cells := 0, slots := 0, locals := 25 }).room s m ([.ref h, .int p1] : List Value).toArray below meth c s.heap [] 0 0 (MQ below (vp_Si (fun x => x = q)) ([.ref h, .int p1] : List Value).toArray s 0 0 (fun _ => False)) (F0 m 65 ls []) := by
    intro x1_65
    intro n_65
    induction n_65 with
    | zero =>
      intro x2_65 x3_65 ls hF hl
      exact absurd hF (by simp [FM_seam_65])
    | succ n_65 ih_65 =>
      intro x2_65 x3_65 ls hF hl
      rw [FM_seam_65] at hF
      refine lv_iload_n hx hb dX10_seam_65 rfl (lv_at hl 3 rfl) ?_
      refine lv_aload_n hx hb dX10_seam_66 rfl (lv_at hl 0 rfl) ?_
      refine gM hx hb hts hin hown hK hP 32 (.ref (ad 32)) (by decide) mf_96 rfl dX10_seam_67 ?_
      refine lv_iconst (v := (0 : Int32)) hx hb dX10_seam_70 (by decide) ?_
      obtain ⟨g_71, hF⟩ := ob_gd hF
      refine va_iald (f := σ.2 32) hx hb hK hP 25 0 rfl rfl (inb_in g_71) dX10_seam_71 ?_
      refine lv_iconst (v := (2 : Int32)) hx hb dX10_seam_72 (by decide) ?_
      refine lv_idiv hx hb dX10_seam_73 (by decide) ?_
      refine lv_icmp_ge (tgt := 108) hx hb dX10_seam_74 (by decide) (fun c_74 => ?_) (fun c_74 => ?_)
      · have hF := ob_t c_74 hF
        refine lv_iload_n hx hb dX10_seam_108 rfl (lv_at hl 2 rfl) ?_
        exact rrM hx hb hr hlocks hF dX10_seam_109
      · have hF := ob_f c_74 hF
        refine lv_iload_n hx hb dX10_seam_77 rfl (lv_at hl 3 rfl) ?_
        refine lv_aload_n hx hb dX10_seam_78 rfl (lv_at hl 0 rfl) ?_
        refine gM hx hb hts hin hown hK hP 32 (.ref (ad 32)) (by decide) mf_96 rfl dX10_seam_79 ?_
        refine lv_iconst (v := (2 : Int32)) hx hb dX10_seam_82 (by decide) ?_
        obtain ⟨g_83, hF⟩ := ob_gd hF
        refine va_iald (f := σ.2 32) hx hb hK hP 25 0 rfl rfl (inb_in g_83) dX10_seam_83 ?_
        refine lv_icmp_ge (tgt := 108) hx hb dX10_seam_84 (by decide) (fun c_84 => ?_) (fun c_84 => ?_)
        · have hF := ob_t c_84 hF
          refine lv_iload_n hx hb dX10_seam_108 rfl (lv_at hl 2 rfl) ?_
          exact rrM hx hb hr hlocks hF dX10_seam_109
        · have hF := ob_f c_84 hF
          refine lv_iload_n hx hb dX10_seam_87 rfl (lv_at hl 2 rfl) ?_
          refine lv_aload_n hx hb dX10_seam_88 rfl (lv_at hl 0 rfl) ?_
          refine lv_iload_n hx hb dX10_seam_89 rfl (lv_at hl 1 rfl) ?_
          refine lv_iconst (v := (1 : Int32)) hx hb dX10_seam_90 (by decide) ?_
          refine lv_iadd hx hb dX10_seam_91 ?_
          refine lv_iload_n hx hb dX10_seam_92 rfl (lv_at hl 3 rfl) ?_
          refine lv_iload_n hx hb dX10_seam_93 rfl (lv_at hl 1 rfl) ?_
          refine lv_iconst (v := (1 : Int32)) hx hb dX10_seam_94 (by decide) ?_
          refine lv_isub hx hb dX10_seam_95 ?_
          refine lv_iload_n hx hb dX10_seam_96 rfl (lv_at hl 3 rfl) ?_
          obtain ⟨q_97, e_97, hF⟩ := ob_bd hF
          refine crM (As := [.int (x1_65 + (1 : Int32)), .int x3_65, .int (x1_65 - (1 : Int32)), .int x3_65]) (rest := [.int x2_65]) ⟨hx, hb, hml, hown, hts⟩ (cM_missOf l D cI cZ h ad σ (x1_65 + (1 : Int32)) x3_65 (x1_65 - (1 : Int32)) x3_65 _ e_97) (cw_missOf hts ⟨Nat.le_of_ble_eq_true rfl, Nat.le_of_ble_eq_true rfl⟩) hK hP rfl hl.1 rfl (lv_room (Nat.le_of_ble_eq_true rfl)) dX10_seam_97 ?_
          refine lv_iadd hx hb dX10_seam_100 ?_
          refine lv_istore_n (lv' := [(2, .int (x2_65 + q_97)), (0, .ref h), (1, .int x1_65), (3, .int x3_65)]) hx hb dX10_seam_101 rfl hl (by decide) rfl (fun ls hl => ?_)
          refine lv_iinc (v := x3_65 + (1 : Int32)) (lv' := [(3, .int (x3_65 + (1 : Int32))), (2, .int (x2_65 + q_97)), (0, .ref h), (1, .int x1_65)]) hx hb dX10_seam_102 hl (k := 3) rfl rfl (by decide) rfl (fun ls hl => ?_)
          refine lv_goto (tgt := 65) hx hb dX10_seam_105 (by decide) ?_
          exact ih_65 (x2_65 + q_97) (x3_65 + (1 : Int32)) _ hF (lv_sub hl [2, 3, 1, 0] rfl)
  have b_112 : ∀ (n_112 : Nat) (x2_112 : Int32) (x3_112 : Int32) (ls : Array Slot), FM_seam_112 σ n_112 x2_112 x3_112 = some q → lv_has ls 4 [(0, .ref h), (2, .int x2_112), (3, .int x3_112)] → W p l e (headSpec wsM_seam { frames := 1, cells := 0, slots := 0, locals := 25 }).room s m ([.ref h, .int p1] : List Value).toArray below meth c s.heap [] 0 0 (MQ below (vp_Si (fun x => x = q)) ([.ref h, .int p1] : List Value).toArray s 0 0 (fun _ => False)) (F0 m 112 ls []) := by
    intro n_112
    induction n_112 with
    | zero =>
      intro x2_112 x3_112 ls hF hl
      exact absurd hF (by simp [FM_seam_112])
    | succ n_112 ih_112 =>
      intro x2_112 x3_112 ls hF hl
      rw [FM_seam_112] at hF
      refine lv_iload_n hx hb dX10_seam_112 rfl (lv_at hl 2 rfl) ?_
      refine lv_aload_n hx hb dX10_seam_113 rfl (lv_at hl 0 rfl) ?_
      refine gM hx hb hts hin hown hK hP 32 (.ref (ad 32)) (by decide) mf_96 rfl dX10_seam_114 ?_
      refine lv_iconst (v := (4 : Int32)) hx hb dX10_seam_117 (by decide) ?_
      obtain ⟨g_118, hF⟩ := ob_gd hF
      refine va_iald (f := σ.2 32) hx hb hK hP 25 0 rfl rfl (inb_in g_118) dX10_seam_118 ?_
      refine lv_icmp_ge (tgt := 158) hx hb dX10_seam_119 (by decide) (fun c_119 => ?_) (fun c_119 => ?_)
      · have hF := ob_t c_119 hF
        refine lv_iload_n hx hb dX10_seam_158 rfl (lv_at hl 1 rfl) ?_
        exact rrM hx hb hr hlocks hF dX10_seam_159
      · have hF := ob_f c_119 hF
        refine lv_iload_n hx hb dX10_seam_122 rfl (lv_at hl 2 rfl) ?_
        refine lv_aload_n hx hb dX10_seam_123 rfl (lv_at hl 0 rfl) ?_
        refine gM hx hb hts hin hown hK hP 32 (.ref (ad 32)) (by decide) mf_96 rfl dX10_seam_124 ?_
        refine lv_iconst (v := (0 : Int32)) hx hb dX10_seam_127 (by decide) ?_
        obtain ⟨g_128, hF⟩ := ob_gd hF
        refine va_iald (f := σ.2 32) hx hb hK hP 25 0 rfl rfl (inb_in g_128) dX10_seam_128 ?_
        refine lv_icmp_ge (tgt := 158) hx hb dX10_seam_129 (by decide) (fun c_129 => ?_) (fun c_129 => ?_)
        · have hF := ob_t c_129 hF
          refine lv_iload_n hx hb dX10_seam_158 rfl (lv_at hl 1 rfl) ?_
          exact rrM hx hb hr hlocks hF dX10_seam_159
        · have hF := ob_f c_129 hF
          refine lv_iload_n hx hb dX10_seam_132 rfl (lv_at hl 1 rfl) ?_
          refine lv_aload_n hx hb dX10_seam_133 rfl (lv_at hl 0 rfl) ?_
          refine lv_iconst (v := (4 : Int32)) hx hb dX10_seam_134 (by decide) ?_
          refine lv_iload_n hx hb dX10_seam_135 rfl (lv_at hl 2 rfl) ?_
          refine lv_iconst (v := (0 : Int32)) hx hb dX10_seam_136 (by decide) ?_
          refine lv_aload_n hx hb dX10_seam_137 rfl (lv_at hl 0 rfl) ?_
          refine gM hx hb hts hin hown hK hP 32 (.ref (ad 32)) (by decide) mf_96 rfl dX10_seam_138 ?_
          refine lv_iconst (v := (0 : Int32)) hx hb dX10_seam_141 (by decide) ?_
          obtain ⟨g_142, hF⟩ := ob_gd hF
          refine va_iald (f := σ.2 32) hx hb hK hP 25 0 rfl rfl (inb_in g_142) dX10_seam_142 ?_
          refine lv_iconst (v := (1 : Int32)) hx hb dX10_seam_143 (by decide) ?_
          refine lv_isub hx hb dX10_seam_144 ?_
          refine lv_iload_n hx hb dX10_seam_145 rfl (lv_at hl 2 rfl) ?_
          refine lv_isub hx hb dX10_seam_146 ?_
          obtain ⟨q_147, e_147, hF⟩ := ob_bd hF
          refine crM (As := [.int (4 : Int32), .int x3_112, .int (0 : Int32), .int (((σ.2 32 (0 : Int32).toNatClampNeg) - (1 : Int32)) - x3_112)]) (rest := [.int x2_112]) ⟨hx, hb, hml, hown, hts⟩ (cM_missOf l D cI cZ h ad σ (4 : Int32) x3_112 (0 : Int32) (((σ.2 32 (0 : Int32).toNatClampNeg) - (1 : Int32)) - x3_112) _ e_147) (cw_missOf hts ⟨Nat.le_of_ble_eq_true rfl, Nat.le_of_ble_eq_true rfl⟩) hK hP rfl hl.1 rfl (lv_room (Nat.le_of_ble_eq_true rfl)) dX10_seam_147 ?_
          refine lv_iadd hx hb dX10_seam_150 ?_
          refine lv_istore_n (lv' := [(2, .int (x2_112 + q_147)), (0, .ref h), (3, .int x3_112)]) hx hb dX10_seam_151 rfl hl (by decide) rfl (fun ls hl => ?_)
          refine lv_iinc (v := x3_112 + (1 : Int32)) (lv' := [(3, .int (x3_112 + (1 : Int32))), (2, .int (x2_112 + q_147)), (0, .ref h)]) hx hb dX10_seam_152 hl (k := 2) rfl rfl (by decide) rfl (fun ls hl => ?_)
          refine lv_goto (tgt := 112) hx hb dX10_seam_155 (by decide) ?_
          exact ih_112 (x2_112 + q_147) (x3_112 + (1 : Int32)) _ hF (lv_sub hl [2, 1, 0] rfl)
  have b_162 : ∀ (n_162 : Nat) (x2_162 : Int32) (x3_162 : Int32) (ls : Array Slot), FM_seam_162 σ n_162 x2_162 x3_162 = some q → lv_has ls 4 [(0, .ref h), (2, .int x2_162), (3, .int x3_162)] → W p l e (headSpec wsM_seam { frames := 1, cells := 0, slots := 0, locals := 25 }).room s m ([.ref h, .int p1] : List Value).toArray below meth c s.heap [] 0 0 (MQ below (vp_Si (fun x => x = q)) ([.ref h, .int p1] : List Value).toArray s 0 0 (fun _ => False)) (F0 m 162 ls []) := by
    intro n_162
    induction n_162 with
    | zero =>
      intro x2_162 x3_162 ls hF hl
      exact absurd hF (by simp [FM_seam_162])
    | succ n_162 ih_162 =>
      intro x2_162 x3_162 ls hF hl
      rw [FM_seam_162] at hF
      refine lv_iload_n hx hb dX10_seam_162 rfl (lv_at hl 2 rfl) ?_
      refine lv_aload_n hx hb dX10_seam_163 rfl (lv_at hl 0 rfl) ?_
      refine gM hx hb hts hin hown hK hP 32 (.ref (ad 32)) (by decide) mf_96 rfl dX10_seam_164 ?_
      refine lv_iconst (v := (5 : Int32)) hx hb dX10_seam_167 (by decide) ?_
      obtain ⟨g_168, hF⟩ := ob_gd hF
      refine va_iald (f := σ.2 32) hx hb hK hP 25 0 rfl rfl (inb_in g_168) dX10_seam_168 ?_
      refine lv_icmp_ge (tgt := 199) hx hb dX10_seam_169 (by decide) (fun c_169 => ?_) (fun c_169 => ?_)
      · have hF := ob_t c_169 hF
        refine lv_iload_n hx hb dX10_seam_199 rfl (lv_at hl 1 rfl) ?_
        exact rrM hx hb hr hlocks hF dX10_seam_200
      · have hF := ob_f c_169 hF
        refine lv_iload_n hx hb dX10_seam_172 rfl (lv_at hl 2 rfl) ?_
        refine lv_aload_n hx hb dX10_seam_173 rfl (lv_at hl 0 rfl) ?_
        refine gM hx hb hts hin hown hK hP 32 (.ref (ad 32)) (by decide) mf_96 rfl dX10_seam_174 ?_
        refine lv_iconst (v := (4 : Int32)) hx hb dX10_seam_177 (by decide) ?_
        obtain ⟨g_178, hF⟩ := ob_gd hF
        refine va_iald (f := σ.2 32) hx hb hK hP 25 0 rfl rfl (inb_in g_178) dX10_seam_178 ?_
        refine lv_icmp_ge (tgt := 199) hx hb dX10_seam_179 (by decide) (fun c_179 => ?_) (fun c_179 => ?_)
        · have hF := ob_t c_179 hF
          refine lv_iload_n hx hb dX10_seam_199 rfl (lv_at hl 1 rfl) ?_
          exact rrM hx hb hr hlocks hF dX10_seam_200
        · have hF := ob_f c_179 hF
          refine lv_iload_n hx hb dX10_seam_182 rfl (lv_at hl 1 rfl) ?_
          refine lv_aload_n hx hb dX10_seam_183 rfl (lv_at hl 0 rfl) ?_
          refine lv_iconst (v := (5 : Int32)) hx hb dX10_seam_184 (by decide) ?_
          refine lv_iload_n hx hb dX10_seam_185 rfl (lv_at hl 2 rfl) ?_
          refine lv_iconst (v := (4 : Int32)) hx hb dX10_seam_186 (by decide) ?_
          refine lv_iload_n hx hb dX10_seam_187 rfl (lv_at hl 2 rfl) ?_
          obtain ⟨q_188, e_188, hF⟩ := ob_bd hF
          refine crM (As := [.int (5 : Int32), .int x3_162, .int (4 : Int32), .int x3_162]) (rest := [.int x2_162]) ⟨hx, hb, hml, hown, hts⟩ (cM_missOf l D cI cZ h ad σ (5 : Int32) x3_162 (4 : Int32) x3_162 _ e_188) (cw_missOf hts ⟨Nat.le_of_ble_eq_true rfl, Nat.le_of_ble_eq_true rfl⟩) hK hP rfl hl.1 rfl (lv_room (Nat.le_of_ble_eq_true rfl)) dX10_seam_188 ?_
          refine lv_iadd hx hb dX10_seam_191 ?_
          refine lv_istore_n (lv' := [(2, .int (x2_162 + q_188)), (0, .ref h), (3, .int x3_162)]) hx hb dX10_seam_192 rfl hl (by decide) rfl (fun ls hl => ?_)
          refine lv_iinc (v := x3_162 + (1 : Int32)) (lv' := [(3, .int (x3_162 + (1 : Int32))), (2, .int (x2_162 + q_188)), (0, .ref h)]) hx hb dX10_seam_193 hl (k := 2) rfl rfl (by decide) rfl (fun ls hl => ?_)
          refine lv_goto (tgt := 162) hx hb dX10_seam_196 (by decide) ?_
          exact ih_162 (x2_162 + q_188) (x3_162 + (1 : Int32)) _ hF (lv_sub hl [2, 1, 0] rfl)
  have hl := lv_entry ([.ref h, .int p1]) (n := 4) (Nat.le_of_ble_eq_true rfl)
  rw [lg_entry_eq]
  generalize (lg_sl ([.ref h, .int p1]) ++ List.replicate (4 - (lg_sl ([.ref h, .int p1])).length) Slot.unset).toArray = ls at hl ⊢
  have hl : lv_has ls 4 [(0, .ref h), (1, .int p1)] := hl
  unfold FM_seam at hF
  refine lv_iconst (v := (0 : Int32)) hx hb dX10_seam_0 (by decide) ?_
  refine lv_istore_n (lv' := [(2, .int (0 : Int32)), (0, .ref h), (1, .int p1)]) hx hb dX10_seam_1 rfl hl (by decide) rfl (fun ls hl => ?_)
  refine lv_iload_n hx hb dX10_seam_2 rfl (lv_at hl 2 rfl) ?_
  by_cases c_3_0 : p1 = (0 : Int32)
  · have hF := ob_t c_3_0 hF
    refine lv_tableIn (off := 29) (tgt := 32) hx hb dX10_seam_3 (by rw [c_3_0]; decide) (by rw [c_3_0]; decide) (by rw [c_3_0]; rfl) (by decide) ?_
    refine lv_iconst (v := (0 : Int32)) hx hb dX10_seam_32 (by decide) ?_
    refine lv_istore_n (lv' := [(3, .int (0 : Int32)), (2, .int (0 : Int32)), (0, .ref h), (1, .int p1)]) hx hb dX10_seam_33 rfl hl (by decide) rfl (fun ls hl => ?_)
    exact b_34 fu (0 : Int32) (0 : Int32) _ hF (lv_sub hl [2, 1, 0] rfl)
  · have hF := ob_f c_3_0 hF
    by_cases c_3_1 : p1 = (1 : Int32)
    · have hF := ob_t c_3_1 hF
      refine lv_tableIn (off := 60) (tgt := 63) hx hb dX10_seam_3 (by rw [c_3_1]; decide) (by rw [c_3_1]; decide) (by rw [c_3_1]; rfl) (by decide) ?_
      refine lv_iconst (v := (0 : Int32)) hx hb dX10_seam_63 (by decide) ?_
      refine lv_istore_n (lv' := [(3, .int (0 : Int32)), (2, .int (0 : Int32)), (0, .ref h), (1, .int p1)]) hx hb dX10_seam_64 rfl hl (by decide) rfl (fun ls hl => ?_)
      exact b_65 p1 fu (0 : Int32) (0 : Int32) _ hF (lv_sub hl [2, 3, 1, 0] rfl)
    · have hF := ob_f c_3_1 hF
      by_cases c_3_2 : p1 = (2 : Int32)
      · have hF := ob_t c_3_2 hF
        refine lv_tableIn (off := 60) (tgt := 63) hx hb dX10_seam_3 (by rw [c_3_2]; decide) (by rw [c_3_2]; decide) (by rw [c_3_2]; rfl) (by decide) ?_
        refine lv_iconst (v := (0 : Int32)) hx hb dX10_seam_63 (by decide) ?_
        refine lv_istore_n (lv' := [(3, .int (0 : Int32)), (2, .int (0 : Int32)), (0, .ref h), (1, .int p1)]) hx hb dX10_seam_64 rfl hl (by decide) rfl (fun ls hl => ?_)
        exact b_65 p1 fu (0 : Int32) (0 : Int32) _ hF (lv_sub hl [2, 3, 1, 0] rfl)
      · have hF := ob_f c_3_2 hF
        by_cases c_3_3 : p1 = (3 : Int32)
        · have hF := ob_t c_3_3 hF
          refine lv_tableIn (off := 107) (tgt := 110) hx hb dX10_seam_3 (by rw [c_3_3]; decide) (by rw [c_3_3]; decide) (by rw [c_3_3]; rfl) (by decide) ?_
          refine lv_iconst (v := (0 : Int32)) hx hb dX10_seam_110 (by decide) ?_
          refine lv_istore_n (lv' := [(3, .int (0 : Int32)), (2, .int (0 : Int32)), (0, .ref h), (1, .int p1)]) hx hb dX10_seam_111 rfl hl (by decide) rfl (fun ls hl => ?_)
          exact b_112 fu (0 : Int32) (0 : Int32) _ hF (lv_sub hl [2, 1, 0] rfl)
        · have hF := ob_f c_3_3 hF
          refine lv_tableOut (tgt := 160) hx hb dX10_seam_3 (by have a0 : ¬ p1.toInt = 0 := ob_ti c_3_0; have a1 : ¬ p1.toInt = 1 := ob_ti c_3_1; have a2 : ¬ p1.toInt = 2 := ob_ti c_3_2; have a3 : ¬ p1.toInt = 3 := ob_ti c_3_3; omega) (by decide) ?_
          refine lv_iconst (v := (0 : Int32)) hx hb dX10_seam_160 (by decide) ?_
          refine lv_istore_n (lv' := [(3, .int (0 : Int32)), (2, .int (0 : Int32)), (0, .ref h), (1, .int p1)]) hx hb dX10_seam_161 rfl hl (by decide) rfl (fun ls hl => ?_)
          exact b_162 fu (0 : Int32) (0 : Int32) _ hF (lv_sub hl [2, 1, 0] rfl)
