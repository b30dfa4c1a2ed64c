def FM_here (σ : MS) : Option Int32 := (if (σ.1 31) ≤ (σ.1 38) then (some (-1 : Int32)) else (gd (inb (σ.1 38) 130) (some (σ.2 30 (σ.1 38).toNatClampNeg))))
def wsM_here : List Cond := Cond.code yX10_here cX10_here 1 (some .int) :: wMa
theorem cw_here {R : Room} {s : State} {args : Array Value} {y : MethodName} {c : ByteArray} {n : Nat} {r : Option FieldType} (hts : ∀ w ∈ (Cond.code y c n r :: wMa), w.before args s = true) (hR : 0 + 1 ≤ R.frames ∧ 8 + (1 + 11) + 0 ≤ R.locals) : CallW R s args RX10 RX10 239 yX10_here cX10_here 1 (some .int) wsM_here { frames := 0, cells := 0, slots := 0, locals := 0 } 0 0 0 := cwV 0 hts (goodMV mm_239 mi_here ms_here m_ini mc_here) rfl rfl rfl (by decide +kernel) hR
set_option maxHeartbeats 4000000 in
set_option maxRecDepth 100000 in
theorem cM_here (l : Launch) (D : va_G) (cI cZ : ClassId) (h : Nat) (ad : Nat → Nat) (σ : MS) (q : Int32) (hF : FM_here σ = some q) : Met l yX10_here wsM_here { frames := 0, cells := 0, slots := 0, locals := 0 } (va_Pc [.ref h] (preR D cI cZ h ad σ)) (vp_Si (fun x => x = q)) 0 0 (fun _ => False) := by
  refine Met.ofW (cc := cX10_here) (maxL := 1) (ret := (some .int)) (by decide) rfl ?_
  intro p e s m args below meth c s₁ B hml hv
  obtain ⟨rfl, hP, hK⟩ := hv
  have hx := B.exec
  have hb := B.bytes
  have hr := B.returns
  have hts : ∀ w ∈ (Cond.code yX10_here cX10_here 1 (some .int) :: wMa), w.before ([.ref h] : List Value).toArray s = true := atoms_spec (ws := wsM_here) B.pre
  have hin : ∀ w ∈ wMa, w ∈ (Cond.code yX10_here cX10_here 1 (some .int) :: wMa) := fun w hw => List.mem_cons_of_mem _ hw
  have hown : s.vm.findClass RX10 = some m.cls := findClass_of_methodNamed B.named
  have hlocks := B.notSynchronized
  have hl := lv_entry ([.ref h]) (n := 1) (Nat.le_of_ble_eq_true rfl)
  rw [lg_entry_eq]
  generalize (lg_sl ([.ref h]) ++ List.replicate (1 - (lg_sl ([.ref h])).length) Slot.unset).toArray = ls at hl ⊢
  have hl : lv_has ls 1 [(0, .ref h)] := hl
  unfold FM_here at hF
  refine lv_aload_n hx hb dX10_here_0 rfl (lv_at hl 0 rfl) ?_
  refine gM hx hb hts hin hown hK hP 38 (.int (σ.1 38)) (by decide) mf_232 rfl dX10_here_1 ?_
  refine lv_aload_n hx hb dX10_here_4 rfl (lv_at hl 0 rfl) ?_
  refine gM hx hb hts hin hown hK hP 31 (.int (σ.1 31)) (by decide) mf_148 rfl dX10_here_5 ?_
  refine lv_icmp_ge (tgt := 23) hx hb dX10_here_8 (by decide) (fun c_8 => ?_) (fun c_8 => ?_)
  · have hF := ob_t c_8 hF
    refine lv_iconst (v := (-1 : Int32)) hx hb dX10_here_23 (by decide) ?_
    exact rrM hx hb hr hlocks hF dX10_here_24
  · have hF := ob_f c_8 hF
    refine lv_aload_n hx hb dX10_here_11 rfl (lv_at hl 0 rfl) ?_
    refine gM hx hb hts hin hown hK hP 30 (.ref (ad 30)) (by decide) mf_93 rfl dX10_here_12 ?_
    refine lv_aload_n hx hb dX10_here_15 rfl (lv_at hl 0 rfl) ?_
    refine gM hx hb hts hin hown hK hP 38 (.int (σ.1 38)) (by decide) mf_232 rfl dX10_here_16 ?_
    obtain ⟨g_19, hF⟩ := ob_gd hF
    refine ldI hx hb hK hP (at_30 _ _ _ _ _) (σ.2 30 (σ.1 38).toNatClampNeg) g_19 rfl dX10_here_19 ?_
    refine lv_goto (tgt := 24) hx hb dX10_here_20 (by decide) ?_
    exact rrM hx hb hr hlocks hF dX10_here_24
def FM_eats_28 (σ_28 : MS) : Option MS := (some (si σ_28 39 (1 : Int32)))
def FM_eats (σ : MS) (p1 : Int32) : Option MS := (if (σ.1 39) = 0 then ((FM_here σ).bind fun q_8 => (if q_8 = p1 then (some (si σ 38 ((σ.1 38) + (1 : Int32)))) else (FM_eats_28 σ))) else (FM_eats_28 σ))
def wsM_eats : List Cond := Cond.code yX10_eats cX10_eats 2 none :: wMa
theorem cw_eats {R : Room} {s : State} {args : Array Value} {y : MethodName} {c : ByteArray} {n : Nat} {r : Option FieldType} (hts : ∀ w ∈ (Cond.code y c n r :: wMa), w.before args s = true) (hR : 1 + 1 ≤ R.frames ∧ 8 + (2 + 11) + 20 ≤ R.locals) : CallW R s args RX10 RX10 242 yX10_eats cX10_eats 2 none wsM_eats { frames := 1, cells := 0, slots := 0, locals := 20 } 0 0 1 := cwV 1 hts (goodMV mm_242 mi_eats ms_eats m_ini mc_eats) rfl rfl rfl (by decide +kernel) hR
set_option maxHeartbeats 4000000 in
set_option maxRecDepth 100000 in
theorem cM_eats (l : Launch) (D : va_G) (cI cZ : ClassId) (h : Nat) (ad : Nat → Nat) (A : Nat → Prop) (σ : MS) (p1 : Int32) (q : MS) (hF : FM_eats σ p1 = some q) : Met l yX10_eats wsM_eats { frames := 1, cells := 0, slots := 0, locals := 20 } (va_Pc [.ref h, .int p1] (preM D cI cZ h ad A σ)) (va_Qv (fun u => u = q) (preM D cI cZ h ad A) A) 0 0 A := by
  refine Met.ofW (cc := cX10_eats) (maxL := 2) (ret := none) (by decide) rfl ?_
  intro p e s m args below meth c s₁ B hml hv
  obtain ⟨rfl, hP, hK, hD⟩ := hv
  have hx := B.exec
  have hb := B.bytes
  have hr := B.returns
  have hts : ∀ w ∈ (Cond.code yX10_eats cX10_eats 2 none :: wMa), w.before ([.ref h, .int p1] : List Value).toArray s = true := atoms_spec (ws := wsM_eats) B.pre
  have hin : ∀ w ∈ wMa, w ∈ (Cond.code yX10_eats cX10_eats 2 none :: wMa) := fun w hw => List.mem_cons_of_mem _ hw
  have hown : s.vm.findClass RX10 = some m.cls := findClass_of_methodNamed B.named
  have hlocks := B.notSynchronized
  have hS : va_S A s.heap s.heap [] := va_S.rf
  have b_28 : ∀ (σ_28 : MS) (H : Heap) (locs : List Loc) (ls : Array Slot), FM_eats_28 σ_28 = some q → va_P D vwCl (wM cI cZ h ad σ_28) H → va_D A (wM cI cZ h ad σ_28) → va_S A s.heap H locs → lv_has ls 2 [(0, .ref h)] → W p l e (headSpec wsM_eats { frames := 1, cells := 0, slots := 0, locals := 20 }).room s m ([.ref h, .int p1] : List Value).toArray below meth c H locs 0 0 (MQ below (va_Qv (fun u => u = q) (preM D cI cZ h ad A) A) ([.ref h, .int p1] : List Value).toArray s 0 0 A) (F0 m 28 ls []) := by
    intro σ_28 H locs ls hF hP hD hS hl
    unfold FM_eats_28 at hF
    refine lv_aload_n hx hb dX10_eats_28 rfl (lv_at hl 0 rfl) ?_
    refine lv_iconst (v := (1 : Int32)) hx hb dX10_eats_29 (by decide) ?_
    refine pM (ty := .boolean) (v := (1 : Int32)) hx hb hts hin hown hK hP hD hS 39 (by decide) mf_235 rfl (by decide +kernel) rfl rfl (Nat.le_of_ble_eq_true rfl) (pu_39 _ _ _ _ _ _) dX10_eats_30 (fun H locs hP hD hS => ?_)
    exact rvM hx hb hr hlocks hF hK hP hD hS dX10_eats_33
  have hl := lv_entry ([.ref h, .int p1]) (n := 2) (Nat.le_of_ble_eq_true rfl)
  rw [lg_entry_eq]
  generalize (lg_sl ([.ref h, .int p1]) ++ List.replicate (2 - (lg_sl ([.ref h, .int p1])).length) Slot.unset).toArray = ls at hl ⊢
  have hl : lv_has ls 2 [(0, .ref h), (1, .int p1)] := hl
  unfold FM_eats at hF
  refine lv_aload_n hx hb dX10_eats_0 rfl (lv_at hl 0 rfl) ?_
  refine gM hx hb hts hin hown hK hP 39 (.int (σ.1 39)) (by decide) mf_235 rfl dX10_eats_1 ?_
  refine lv_if_ne (tgt := 28) hx hb dX10_eats_4 (by decide) (fun c_4 => ?_) (fun c_4 => ?_)
  · have hF := ob_f c_4 hF
    exact b_28 σ _ _ _ hF hP hD hS (lv_sub hl [0] rfl)
  · have hF := ob_t c_4 hF
    refine lv_aload_n hx hb dX10_eats_7 rfl (lv_at hl 0 rfl) ?_
    obtain ⟨q_8, e_8, hF⟩ := ob_bd hF
    refine crM (As := []) (rest := []) ⟨hx, hb, hml, hown, hts⟩ (cM_here l D cI cZ h ad σ _ e_8) (cw_here hts ⟨Nat.le_of_ble_eq_true rfl, Nat.le_of_ble_eq_true rfl⟩) hK hP rfl hl.1 rfl (lv_room (Nat.le_of_ble_eq_true rfl)) dX10_eats_8 ?_
    refine lv_iload_n hx hb dX10_eats_11 rfl (lv_at hl 1 rfl) ?_
    refine lv_icmp_ne (tgt := 28) hx hb dX10_eats_12 (by decide) (fun c_12 => ?_) (fun c_12 => ?_)
    · have hF := ob_f c_12 hF
      exact b_28 σ _ _ _ hF hP hD hS (lv_sub hl [0] rfl)
    · have hF := ob_t c_12 hF
      refine lv_aload_n hx hb dX10_eats_15 rfl (lv_at hl 0 rfl) ?_
      refine lv_dup hx hb dX10_eats_16 rfl ?_
      refine gM hx hb hts hin hown hK hP 38 (.int (σ.1 38)) (by decide) mf_232 rfl dX10_eats_17 ?_
      refine lv_iconst (v := (1 : Int32)) hx hb dX10_eats_20 (by decide) ?_
      refine lv_iadd hx hb dX10_eats_21 ?_
      refine pM (ty := .int) (v := ((σ.1 38) + (1 : Int32))) hx hb hts hin hown hK hP hD hS 38 (by decide) mf_232 rfl (by decide +kernel) rfl rfl (Nat.le_of_ble_eq_true rfl) (pu_38 _ _ _ _ _ _) dX10_eats_22 (fun H locs hP hD hS => ?_)
      refine lv_goto (tgt := 33) hx hb dX10_eats_25 (by decide) ?_
      exact rvM hx hb hr hlocks hF hK hP hD hS dX10_eats_33
def FM_eats3 (σ : MS) (p1 : Int32) (p2 : Int32) (p3 : Int32) : Option MS := ((FM_eats σ p1).bind fun q_2 => ((FM_eats q_2 p2).bind fun q_7 => ((FM_eats q_7 p3).bind fun q_12 => (some q_12))))
def wsM_eats3 : List Cond := Cond.code yX10_eats3 cX10_eats3 4 none :: wMa
theorem cw_eats3 {R : Room} {s : State} {args : Array Value} {y : MethodName} {c : ByteArray} {n : Nat} {r : Option FieldType} (hts : ∀ w ∈ (Cond.code y c n r :: wMa), w.before args s = true) (hR : 2 + 1 ≤ R.frames ∧ 8 + (4 + 11) + 41 ≤ R.locals) : CallW R s args RX10 RX10 245 yX10_eats3 cX10_eats3 4 none wsM_eats3 { frames := 2, cells := 0, slots := 0, locals := 41 } 0 0 3 := cwV 3 hts (goodMV mm_245 mi_eats3 ms_eats3 m_ini mc_eats3) rfl rfl rfl (by decide +kernel) hR
set_option maxHeartbeats 4000000 in
set_option maxRecDepth 100000 in
theorem cM_eats3 (l : Launch) (D : va_G) (cI cZ : ClassId) (h : Nat) (ad : Nat → Nat) (A : Nat → Prop) (σ : MS) (p1 : Int32) (p2 : Int32) (p3 : Int32) (q : MS) (hF : FM_eats3 σ p1 p2 p3 = some q) : Met l yX10_eats3 wsM_eats3 { frames := 2, cells := 0, slots := 0, locals := 41 } (va_Pc [.ref h, .int p1, .int p2, .int p3] (preM D cI cZ h ad A σ)) (va_Qv (fun u => u = q) (preM D cI cZ h ad A) A) 0 0 A := by
  refine Met.ofW (cc := cX10_eats3) (maxL := 4) (ret := none) (by decide) rfl ?_
  intro p e s m args below meth c s₁ B hml hv
  obtain ⟨rfl, hP, hK, hD⟩ := hv
  have hx := B.exec
  have hb := B.bytes
  have hr := B.returns
  have hts : ∀ w ∈ (Cond.code yX10_eats3 cX10_eats3 4 none :: wMa), w.before ([.ref h, .int p1, .int p2, .int p3] : List Value).toArray s = true := atoms_spec (ws := wsM_eats3) B.pre
  have hin : ∀ w ∈ wMa, w ∈ (Cond.code yX10_eats3 cX10_eats3 4 none :: wMa) := fun w hw => List.mem_cons_of_mem _ hw
  have hown : s.vm.findClass RX10 = some m.cls := findClass_of_methodNamed B.named
  have hlocks := B.notSynchronized
  have hS : va_S A s.heap s.heap [] := va_S.rf
  have hl := lv_entry ([.ref h, .int p1, .int p2, .int p3]) (n := 4) (Nat.le_of_ble_eq_true rfl)
  rw [lg_entry_eq]
  generalize (lg_sl ([.ref h, .int p1, .int p2, .int p3]) ++ List.replicate (4 - (lg_sl ([.ref h, .int p1, .int p2, .int p3])).length) Slot.unset).toArray = ls at hl ⊢
  have hl : lv_has ls 4 [(0, .ref h), (1, .int p1), (2, .int p2), (3, .int p3)] := hl
  unfold FM_eats3 at hF
  refine lv_aload_n hx hb dX10_eats3_0 rfl (lv_at hl 0 rfl) ?_
  refine lv_iload_n hx hb dX10_eats3_1 rfl (lv_at hl 1 rfl) ?_
  obtain ⟨q_2, e_2, hF⟩ := ob_bd hF
  refine cvM (As := [.int p1]) (rest := []) ⟨hx, hb, hml, hown, hts⟩ (cM_eats l D cI cZ h ad A σ p1 _ e_2) (cw_eats hts ⟨Nat.le_of_ble_eq_true rfl, Nat.le_of_ble_eq_true rfl⟩) hK hP hD hS rfl hl.1 rfl (lv_room (Nat.le_of_ble_eq_true rfl)) dX10_eats3_2 (fun H locs hP hD hS => ?_)
  refine lv_aload_n hx hb dX10_eats3_5 rfl (lv_at hl 0 rfl) ?_
  refine lv_iload_n hx hb dX10_eats3_6 rfl (lv_at hl 2 rfl) ?_
  obtain ⟨q_7, e_7, hF⟩ := ob_bd hF
  refine cvM (As := [.int p2]) (rest := []) ⟨hx, hb, hml, hown, hts⟩ (cM_eats l D cI cZ h ad A q_2 p2 _ e_7) (cw_eats hts ⟨Nat.le_of_ble_eq_true rfl, Nat.le_of_ble_eq_true rfl⟩) hK hP hD hS rfl hl.1 rfl (lv_room (Nat.le_of_ble_eq_true rfl)) dX10_eats3_7 (fun H locs hP hD hS => ?_)
  refine lv_aload_n hx hb dX10_eats3_10 rfl (lv_at hl 0 rfl) ?_
  refine lv_iload_n hx hb dX10_eats3_11 rfl (lv_at hl 3 rfl) ?_
  obtain ⟨q_12, e_12, hF⟩ := ob_bd hF
  refine cvM (As := [.int p3]) (rest := []) ⟨hx, hb, hml, hown, hts⟩ (cM_eats l D cI cZ h ad A q_7 p3 _ e_12) (cw_eats hts ⟨Nat.le_of_ble_eq_true rfl, Nat.le_of_ble_eq_true rfl⟩) hK hP hD hS rfl hl.1 rfl (lv_room (Nat.le_of_ble_eq_true rfl)) dX10_eats3_12 (fun H locs hP hD hS => ?_)
  exact rvM hx hb hr hlocks hF hK hP hD hS dX10_eats3_15
def FM_whatRead_170 (σ_170 : MS) : Option (Int32 × MS) := ((FM_eats3 σ_170 (101 : Int32) (97 : Int32) (115 : Int32)).bind fun q_177 => ((FM_eats q_177 (111 : Int32)).bind fun q_183 => ((FM_eats q_183 (110 : Int32)).bind fun q_189 => (some ((0 : Int32), q_189)))))
def FM_whatRead (σ : MS) : Option (Int32 × MS) := ((FM_here σ).bind fun q_1 => (if q_1 = (97 : Int32) then ((FM_eats3 σ (97 : Int32) (103 : Int32) (101 : Int32)).bind fun q_55 => (some ((1 : Int32), q_55))) else (if q_1 = (99 : Int32) then ((FM_eats3 σ (99 : Int32) (111 : Int32) (108 : Int32)).bind fun q_85 => ((FM_eats3 q_85 (111 : Int32) (117 : Int32) (114 : Int32)).bind fun q_95 => (some ((3 : Int32), q_95)))) else (if q_1 = (108 : Int32) then ((FM_eats3 σ (108 : Int32) (105 : Int32) (110 : Int32)).bind fun q_107 => ((FM_eats q_107 (101 : Int32)).bind fun q_113 => ((FM_eats q_113 (100 : Int32)).bind fun q_119 => (some ((4 : Int32), q_119))))) else (if q_1 = (114 : Int32) then ((FM_eats3 σ (114 : Int32) (97 : Int32) (110 : Int32)).bind fun q_67 => ((FM_eats q_67 (107 : Int32)).bind fun q_73 => (some ((2 : Int32), q_73)))) else ((FM_eats σ (115 : Int32)).bind fun q_127 => (if (q_127.1 39) = 0 then ((FM_here q_127).bind fun q_138 => (if q_138 = (108 : Int32) then ((FM_eats3 q_127 (108 : Int32) (101 : Int32) (101 : Int32)).bind fun q_153 => ((FM_eats q_153 (118 : Int32)).bind fun q_159 => ((FM_eats q_159 (101 : Int32)).bind fun q_165 => (some ((5 : Int32), q_165))))) else (FM_whatRead_170 q_127))) else (FM_whatRead_170 q_127))))))))
def wsM_whatRead : List Cond := Cond.code yX10_whatRead cX10_whatRead 1 (some .int) :: wMa
theorem cw_whatRead {R : Room} {s : State} {args : Array Value} {y : MethodName} {c : ByteArray} {n : Nat} {r : Option FieldType} (hts : ∀ w ∈ (Cond.code y c n r :: wMa), w.before args s = true) (hR : 3 + 1 ≤ R.frames ∧ 8 + (1 + 11) + 64 ≤ R.locals) : CallW R s args RX10 RX10 249 yX10_whatRead cX10_whatRead 1 (some .int) wsM_whatRead { frames := 3, cells := 0, slots := 0, locals := 64 } 0 0 0 := cwV 0 hts (goodMV mm_249 mi_whatRead ms_whatRead m_ini mc_whatRead) rfl rfl rfl (by decide +kernel) hR
set_option maxHeartbeats 4000000 in
set_option maxRecDepth 100000 in
theorem cM_whatRead (l : Launch) (D : va_G) (cI cZ : ClassId) (h : Nat) (ad : Nat → Nat) (A : Nat → Prop) (σ : MS) (q : Int32 × MS) (hF : FM_whatRead σ = some q) : Met l yX10_whatRead wsM_whatRead { frames := 3, cells := 0, slots := 0, locals := 64 } (va_Pc [.ref h] (preM D cI cZ h ad A σ)) (va_Qi (fun x u => x = q.1 ∧ u = q.2) (preM D cI cZ h ad A) A) 0 0 A := by
  refine Met.ofW (cc := cX10_whatRead) (maxL := 1) (ret := (some .int)) (by decide) rfl ?_
  intro p e s m args below meth c s₁ B hml hv
  obtain ⟨rfl, hP, hK, hD⟩ := hv
  have hx := B.exec
  have hb := B.bytes
  have hr := B.returns
  have hts : ∀ w ∈ (Cond.code yX10_whatRead cX10_whatRead 1 (some .int) :: wMa), w.before ([.ref h] : List Value).toArray s = true := atoms_spec (ws := wsM_whatRead) B.pre
  have hin : ∀ w ∈ wMa, w ∈ (Cond.code yX10_whatRead cX10_whatRead 1 (some .int) :: wMa) := fun w hw => List.mem_cons_of_mem _ hw
  have hown : s.vm.findClass RX10 = some m.cls := findClass_of_methodNamed B.named
  have hlocks := B.notSynchronized
  have hS : va_S A s.heap s.heap [] := va_S.rf
  have b_170 : ∀ (σ_170 : MS) (H : Heap) (locs : List Loc) (ls : Array Slot), FM_whatRead_170 σ_170 = some q → va_P D vwCl (wM cI cZ h ad σ_170) H → va_D A (wM cI cZ h ad σ_170) → va_S A s.heap H locs → lv_has ls 1 [(0, .ref h)] → W p l e (headSpec wsM_whatRead { frames := 3, cells := 0, slots := 0, locals := 64 }).room s m ([.ref h] : List Value).toArray below meth c H locs 0 0 (MQ below (va_Qi (fun x u => x = q.1 ∧ u = q.2) (preM D cI cZ h ad A) A) ([.ref h] : List Value).toArray s 0 0 A) (F0 m 170 ls []) := by
    intro σ_170 H locs ls hF hP hD hS hl
    unfold FM_whatRead_170 at hF
    refine lv_aload_n hx hb dX10_whatRead_170 rfl (lv_at hl 0 rfl) ?_
    refine lv_bipush (v := (101 : Int32)) hx hb dX10_whatRead_171 (by decide) ?_
    refine lv_bipush (v := (97 : Int32)) hx hb dX10_whatRead_173 (by decide) ?_
    refine lv_bipush (v := (115 : Int32)) hx hb dX10_whatRead_175 (by decide) ?_
    obtain ⟨q_177, e_177, hF⟩ := ob_bd hF
    refine cvM (As := [.int (101 : Int32), .int (97 : Int32), .int (115 : Int32)]) (rest := []) ⟨hx, hb, hml, hown, hts⟩ (cM_eats3 l D cI cZ h ad A σ_170 (101 : Int32) (97 : Int32) (115 : Int32) _ e_177) (cw_eats3 hts ⟨Nat.le_of_ble_eq_true rfl, Nat.le_of_ble_eq_true rfl⟩) hK hP hD hS rfl hl.1 rfl (lv_room (Nat.le_of_ble_eq_true rfl)) dX10_whatRead_177 (fun H locs hP hD hS => ?_)
    refine lv_aload_n hx hb dX10_whatRead_180 rfl (lv_at hl 0 rfl) ?_
    refine lv_bipush (v := (111 : Int32)) hx hb dX10_whatRead_181 (by decide) ?_
    obtain ⟨q_183, e_183, hF⟩ := ob_bd hF
    refine cvM (As := [.int (111 : Int32)]) (rest := []) ⟨hx, hb, hml, hown, hts⟩ (cM_eats l D cI cZ h ad A q_177 (111 : Int32) _ e_183) (cw_eats hts ⟨Nat.le_of_ble_eq_true rfl, Nat.le_of_ble_eq_true rfl⟩) hK hP hD hS rfl hl.1 rfl (lv_room (Nat.le_of_ble_eq_true rfl)) dX10_whatRead_183 (fun H locs hP hD hS => ?_)
    refine lv_aload_n hx hb dX10_whatRead_186 rfl (lv_at hl 0 rfl) ?_
    refine lv_bipush (v := (110 : Int32)) hx hb dX10_whatRead_187 (by decide) ?_
    obtain ⟨q_189, e_189, hF⟩ := ob_bd hF
    refine cvM (As := [.int (110 : Int32)]) (rest := []) ⟨hx, hb, hml, hown, hts⟩ (cM_eats l D cI cZ h ad A q_183 (110 : Int32) _ e_189) (cw_eats hts ⟨Nat.le_of_ble_eq_true rfl, Nat.le_of_ble_eq_true rfl⟩) hK hP hD hS rfl hl.1 rfl (lv_room (Nat.le_of_ble_eq_true rfl)) dX10_whatRead_189 (fun H locs hP hD hS => ?_)
    refine lv_iconst (v := (0 : Int32)) hx hb dX10_whatRead_192 (by decide) ?_
    exact rwM hx hb hr hlocks hF hK hP hD hS dX10_whatRead_193
  have hl := lv_entry ([.ref h]) (n := 1) (Nat.le_of_ble_eq_true rfl)
  rw [lg_entry_eq]
  generalize (lg_sl ([.ref h]) ++ List.replicate (1 - (lg_sl ([.ref h])).length) Slot.unset).toArray = ls at hl ⊢
  have hl : lv_has ls 1 [(0, .ref h)] := hl
  unfold FM_whatRead at hF
  refine lv_aload_n hx hb dX10_whatRead_0 rfl (lv_at hl 0 rfl) ?_
  obtain ⟨q_1, e_1, hF⟩ := ob_bd hF
  refine crM (As := []) (rest := []) ⟨hx, hb, hml, hown, hts⟩ (cM_here l D cI cZ h ad σ _ e_1) (cw_here hts ⟨Nat.le_of_ble_eq_true rfl, Nat.le_of_ble_eq_true rfl⟩) hK hP rfl hl.1 rfl (lv_room (Nat.le_of_ble_eq_true rfl)) dX10_whatRead_1 ?_
  by_cases c_4_97 : q_1 = (97 : Int32)
  · have hF := ob_t c_4_97 hF
    refine lv_lookup (off := 44) (tgt := 48) hx hb dX10_whatRead_4 (by decide) (by rw [c_4_97]; decide) (by decide) ?_
    refine lv_aload_n hx hb dX10_whatRead_48 rfl (lv_at hl 0 rfl) ?_
    refine lv_bipush (v := (97 : Int32)) hx hb dX10_whatRead_49 (by decide) ?_
    refine lv_bipush (v := (103 : Int32)) hx hb dX10_whatRead_51 (by decide) ?_
    refine lv_bipush (v := (101 : Int32)) hx hb dX10_whatRead_53 (by decide) ?_
    obtain ⟨q_55, e_55, hF⟩ := ob_bd hF
    refine cvM (As := [.int (97 : Int32), .int (103 : Int32), .int (101 : Int32)]) (rest := []) ⟨hx, hb, hml, hown, hts⟩ (cM_eats3 l D cI cZ h ad A σ (97 : Int32) (103 : Int32) (101 : Int32) _ e_55) (cw_eats3 hts ⟨Nat.le_of_ble_eq_true rfl, Nat.le_of_ble_eq_true rfl⟩) hK hP hD hS rfl hl.1 rfl (lv_room (Nat.le_of_ble_eq_true rfl)) dX10_whatRead_55 (fun H locs hP hD hS => ?_)
    refine lv_iconst (v := (1 : Int32)) hx hb dX10_whatRead_58 (by decide) ?_
    exact rwM hx hb hr hlocks hF hK hP hD hS dX10_whatRead_59
  · have hF := ob_f c_4_97 hF
    by_cases c_4_99 : q_1 = (99 : Int32)
    · have hF := ob_t c_4_99 hF
      refine lv_lookup (off := 74) (tgt := 78) hx hb dX10_whatRead_4 (by decide) (by rw [c_4_99]; decide) (by decide) ?_
      refine lv_aload_n hx hb dX10_whatRead_78 rfl (lv_at hl 0 rfl) ?_
      refine lv_bipush (v := (99 : Int32)) hx hb dX10_whatRead_79 (by decide) ?_
      refine lv_bipush (v := (111 : Int32)) hx hb dX10_whatRead_81 (by decide) ?_
      refine lv_bipush (v := (108 : Int32)) hx hb dX10_whatRead_83 (by decide) ?_
      obtain ⟨q_85, e_85, hF⟩ := ob_bd hF
      refine cvM (As := [.int (99 : Int32), .int (111 : Int32), .int (108 : Int32)]) (rest := []) ⟨hx, hb, hml, hown, hts⟩ (cM_eats3 l D cI cZ h ad A σ (99 : Int32) (111 : Int32) (108 : Int32) _ e_85) (cw_eats3 hts ⟨Nat.le_of_ble_eq_true rfl, Nat.le_of_ble_eq_true rfl⟩) hK hP hD hS rfl hl.1 rfl (lv_room (Nat.le_of_ble_eq_true rfl)) dX10_whatRead_85 (fun H locs hP hD hS => ?_)
      refine lv_aload_n hx hb dX10_whatRead_88 rfl (lv_at hl 0 rfl) ?_
      refine lv_bipush (v := (111 : Int32)) hx hb dX10_whatRead_89 (by decide) ?_
      refine lv_bipush (v := (117 : Int32)) hx hb dX10_whatRead_91 (by decide) ?_
      refine lv_bipush (v := (114 : Int32)) hx hb dX10_whatRead_93 (by decide) ?_
      obtain ⟨q_95, e_95, hF⟩ := ob_bd hF
      refine cvM (As := [.int (111 : Int32), .int (117 : Int32), .int (114 : Int32)]) (rest := []) ⟨hx, hb, hml, hown, hts⟩ (cM_eats3 l D cI cZ h ad A q_85 (111 : Int32) (117 : Int32) (114 : Int32) _ e_95) (cw_eats3 hts ⟨Nat.le_of_ble_eq_true rfl, Nat.le_of_ble_eq_true rfl⟩) hK hP hD hS rfl hl.1 rfl (lv_room (Nat.le_of_ble_eq_true rfl)) dX10_whatRead_95 (fun H locs hP hD hS => ?_)
      refine lv_iconst (v := (3 : Int32)) hx hb dX10_whatRead_98 (by decide) ?_
      exact rwM hx hb hr hlocks hF hK hP hD hS dX10_whatRead_99
    · have hF := ob_f c_4_99 hF
      by_cases c_4_108 : q_1 = (108 : Int32)
      · have hF := ob_t c_4_108 hF
        refine lv_lookup (off := 96) (tgt := 100) hx hb dX10_whatRead_4 (by decide) (by rw [c_4_108]; decide) (by decide) ?_
        refine lv_aload_n hx hb dX10_whatRead_100 rfl (lv_at hl 0 rfl) ?_
        refine lv_bipush (v := (108 : Int32)) hx hb dX10_whatRead_101 (by decide) ?_
        refine lv_bipush (v := (105 : Int32)) hx hb dX10_whatRead_103 (by decide) ?_
        refine lv_bipush (v := (110 : Int32)) hx hb dX10_whatRead_105 (by decide) ?_
        obtain ⟨q_107, e_107, hF⟩ := ob_bd hF
        refine cvM (As := [.int (108 : Int32), .int (105 : Int32), .int (110 : Int32)]) (rest := []) ⟨hx, hb, hml, hown, hts⟩ (cM_eats3 l D cI cZ h ad A σ (108 : Int32) (105 : Int32) (110 : Int32) _ e_107) (cw_eats3 hts ⟨Nat.le_of_ble_eq_true rfl, Nat.le_of_ble_eq_true rfl⟩) hK hP hD hS rfl hl.1 rfl (lv_room (Nat.le_of_ble_eq_true rfl)) dX10_whatRead_107 (fun H locs hP hD hS => ?_)
        refine lv_aload_n hx hb dX10_whatRead_110 rfl (lv_at hl 0 rfl) ?_
        refine lv_bipush (v := (101 : Int32)) hx hb dX10_whatRead_111 (by decide) ?_
        obtain ⟨q_113, e_113, hF⟩ := ob_bd hF
        refine cvM (As := [.int (101 : Int32)]) (rest := []) ⟨hx, hb, hml, hown, hts⟩ (cM_eats l D cI cZ h ad A q_107 (101 : Int32) _ e_113) (cw_eats hts ⟨Nat.le_of_ble_eq_true rfl, Nat.le_of_ble_eq_true rfl⟩) hK hP hD hS rfl hl.1 rfl (lv_room (Nat.le_of_ble_eq_true rfl)) dX10_whatRead_113 (fun H locs hP hD hS => ?_)
        refine lv_aload_n hx hb dX10_whatRead_116 rfl (lv_at hl 0 rfl) ?_
        refine lv_bipush (v := (100 : Int32)) hx hb dX10_whatRead_117 (by decide) ?_
        obtain ⟨q_119, e_119, hF⟩ := ob_bd hF
        refine cvM (As := [.int (100 : Int32)]) (rest := []) ⟨hx, hb, hml, hown, hts⟩ (cM_eats l D cI cZ h ad A q_113 (100 : Int32) _ e_119) (cw_eats hts ⟨Nat.le_of_ble_eq_true rfl, Nat.le_of_ble_eq_true rfl⟩) hK hP hD hS rfl hl.1 rfl (lv_room (Nat.le_of_ble_eq_true rfl)) dX10_whatRead_119 (fun H locs hP hD hS => ?_)
        refine lv_iconst (v := (4 : Int32)) hx hb dX10_whatRead_122 (by decide) ?_
        exact rwM hx hb hr hlocks hF hK hP hD hS dX10_whatRead_123
      · have hF := ob_f c_4_108 hF
        by_cases c_4_114 : q_1 = (114 : Int32)
        · have hF := ob_t c_4_114 hF
          refine lv_lookup (off := 56) (tgt := 60) hx hb dX10_whatRead_4 (by decide) (by rw [c_4_114]; decide) (by decide) ?_
          refine lv_aload_n hx hb dX10_whatRead_60 rfl (lv_at hl 0 rfl) ?_
          refine lv_bipush (v := (114 : Int32)) hx hb dX10_whatRead_61 (by decide) ?_
          refine lv_bipush (v := (97 : Int32)) hx hb dX10_whatRead_63 (by decide) ?_
          refine lv_bipush (v := (110 : Int32)) hx hb dX10_whatRead_65 (by decide) ?_
          obtain ⟨q_67, e_67, hF⟩ := ob_bd hF
          refine cvM (As := [.int (114 : Int32), .int (97 : Int32), .int (110 : Int32)]) (rest := []) ⟨hx, hb, hml, hown, hts⟩ (cM_eats3 l D cI cZ h ad A σ (114 : Int32) (97 : Int32) (110 : Int32) _ e_67) (cw_eats3 hts ⟨Nat.le_of_ble_eq_true rfl, Nat.le_of_ble_eq_true rfl⟩) hK hP hD hS rfl hl.1 rfl (lv_room (Nat.le_of_ble_eq_true rfl)) dX10_whatRead_67 (fun H locs hP hD hS => ?_)
          refine lv_aload_n hx hb dX10_whatRead_70 rfl (lv_at hl 0 rfl) ?_
          refine lv_bipush (v := (107 : Int32)) hx hb dX10_whatRead_71 (by decide) ?_
          obtain ⟨q_73, e_73, hF⟩ := ob_bd hF
          refine cvM (As := [.int (107 : Int32)]) (rest := []) ⟨hx, hb, hml, hown, hts⟩ (cM_eats l D cI cZ h ad A q_67 (107 : Int32) _ e_73) (cw_eats hts ⟨Nat.le_of_ble_eq_true rfl, Nat.le_of_ble_eq_true rfl⟩) hK hP hD hS rfl hl.1 rfl (lv_room (Nat.le_of_ble_eq_true rfl)) dX10_whatRead_73 (fun H locs hP hD hS => ?_)
          refine lv_iconst (v := (2 : Int32)) hx hb dX10_whatRead_76 (by decide) ?_
          exact rwM hx hb hr hlocks hF hK hP hD hS dX10_whatRead_77
        · have hF := ob_f c_4_114 hF
          refine lv_lookup (off := 120) (tgt := 124) hx hb dX10_whatRead_4 (by decide) (by have a97 : ¬ q_1.toInt = 97 := ob_ti c_4_97; have a99 : ¬ q_1.toInt = 99 := ob_ti c_4_99; have a108 : ¬ q_1.toInt = 108 := ob_ti c_4_108; have a114 : ¬ q_1.toInt = 114 := ob_ti c_4_114; have b97 : ¬ (97 : Int) = q_1.toInt := fun e => a97 e.symm; have b99 : ¬ (99 : Int) = q_1.toInt := fun e => a99 e.symm; have b108 : ¬ (108 : Int) = q_1.toInt := fun e => a108 e.symm; have b114 : ¬ (114 : Int) = q_1.toInt := fun e => a114 e.symm; simp [Op.lookupswitch.offset, b97, b99, b108, b114]) (by decide) ?_
          refine lv_aload_n hx hb dX10_whatRead_124 rfl (lv_at hl 0 rfl) ?_
          refine lv_bipush (v := (115 : Int32)) hx hb dX10_whatRead_125 (by decide) ?_
          obtain ⟨q_127, e_127, hF⟩ := ob_bd hF
          refine cvM (As := [.int (115 : Int32)]) (rest := []) ⟨hx, hb, hml, hown, hts⟩ (cM_eats l D cI cZ h ad A σ (115 : Int32) _ e_127) (cw_eats hts ⟨Nat.le_of_ble_eq_true rfl, Nat.le_of_ble_eq_true rfl⟩) hK hP hD hS rfl hl.1 rfl (lv_room (Nat.le_of_ble_eq_true rfl)) dX10_whatRead_127 (fun H locs hP hD hS => ?_)
          refine lv_aload_n hx hb dX10_whatRead_130 rfl (lv_at hl 0 rfl) ?_
          refine gM hx hb hts hin hown hK hP 39 (.int (q_127.1 39)) (by decide) mf_235 rfl dX10_whatRead_131 ?_
          refine lv_if_ne (tgt := 170) hx hb dX10_whatRead_134 (by decide) (fun c_134 => ?_) (fun c_134 => ?_)
          · have hF := ob_f c_134 hF
            exact b_170 q_127 _ _ _ hF hP hD hS hl
          · have hF := ob_t c_134 hF
            refine lv_aload_n hx hb dX10_whatRead_137 rfl (lv_at hl 0 rfl) ?_
            obtain ⟨q_138, e_138, hF⟩ := ob_bd hF
            refine crM (As := []) (rest := []) ⟨hx, hb, hml, hown, hts⟩ (cM_here l D cI cZ h ad q_127 _ e_138) (cw_here hts ⟨Nat.le_of_ble_eq_true rfl, Nat.le_of_ble_eq_true rfl⟩) hK hP rfl hl.1 rfl (lv_room (Nat.le_of_ble_eq_true rfl)) dX10_whatRead_138 ?_
            refine lv_bipush (v := (108 : Int32)) hx hb dX10_whatRead_141 (by decide) ?_
            refine lv_icmp_ne (tgt := 170) hx hb dX10_whatRead_143 (by decide) (fun c_143 => ?_) (fun c_143 => ?_)
            · have hF := ob_f c_143 hF
              exact b_170 q_127 _ _ _ hF hP hD hS hl
            · have hF := ob_t c_143 hF
              refine lv_aload_n hx hb dX10_whatRead_146 rfl (lv_at hl 0 rfl) ?_
              refine lv_bipush (v := (108 : Int32)) hx hb dX10_whatRead_147 (by decide) ?_
              refine lv_bipush (v := (101 : Int32)) hx hb dX10_whatRead_149 (by decide) ?_
              refine lv_bipush (v := (101 : Int32)) hx hb dX10_whatRead_151 (by decide) ?_
              obtain ⟨q_153, e_153, hF⟩ := ob_bd hF
              refine cvM (As := [.int (108 : Int32), .int (101 : Int32), .int (101 : Int32)]) (rest := []) ⟨hx, hb, hml, hown, hts⟩ (cM_eats3 l D cI cZ h ad A q_127 (108 : Int32) (101 : Int32) (101 : Int32) _ e_153) (cw_eats3 hts ⟨Nat.le_of_ble_eq_true rfl, Nat.le_of_ble_eq_true rfl⟩) hK hP hD hS rfl hl.1 rfl (lv_room (Nat.le_of_ble_eq_true rfl)) dX10_whatRead_153 (fun H locs hP hD hS => ?_)
              refine lv_aload_n hx hb dX10_whatRead_156 rfl (lv_at hl 0 rfl) ?_
              refine lv_bipush (v := (118 : Int32)) hx hb dX10_whatRead_157 (by decide) ?_
              obtain ⟨q_159, e_159, hF⟩ := ob_bd hF
              refine cvM (As := [.int (118 : Int32)]) (rest := []) ⟨hx, hb, hml, hown, hts⟩ (cM_eats l D cI cZ h ad A q_153 (118 : Int32) _ e_159) (cw_eats hts ⟨Nat.le_of_ble_eq_true rfl, Nat.le_of_ble_eq_true rfl⟩) hK hP hD hS rfl hl.1 rfl (lv_room (Nat.le_of_ble_eq_true rfl)) dX10_whatRead_159 (fun H locs hP hD hS => ?_)
              refine lv_aload_n hx hb dX10_whatRead_162 rfl (lv_at hl 0 rfl) ?_
              refine lv_bipush (v := (101 : Int32)) hx hb dX10_whatRead_163 (by decide) ?_
              obtain ⟨q_165, e_165, hF⟩ := ob_bd hF
              refine cvM (As := [.int (101 : Int32)]) (rest := []) ⟨hx, hb, hml, hown, hts⟩ (cM_eats l D cI cZ h ad A q_159 (101 : Int32) _ e_165) (cw_eats hts ⟨Nat.le_of_ble_eq_true rfl, Nat.le_of_ble_eq_true rfl⟩) hK hP hD hS rfl hl.1 rfl (lv_room (Nat.le_of_ble_eq_true rfl)) dX10_whatRead_165 (fun H locs hP hD hS => ?_)
              refine lv_iconst (v := (5 : Int32)) hx hb dX10_whatRead_168 (by decide) ?_
              exact rwM hx hb hr hlocks hF hK hP hD hS dX10_whatRead_169
def FM_clauseRead_94 (σ_94 : MS) : Option MS := (some (si σ_94 39 (1 : Int32)))
def FM_clauseRead_160 (x1_160 : Int32) (x4_160 : Int32) (σ_160 : MS) : Option MS := (gd (inb (((3 : Int32) * x1_160) + (2 : Int32)) 18) (some (sa σ_160 40 (((3 : Int32) * x1_160) + (2 : Int32)) x4_160)))
def FM_clauseRead_60 (x1_60 : Int32) (x2_60 : Int32) (σ_60 : MS) : Option MS := (gd (inb (((3 : Int32) * x1_60) + (1 : Int32)) 18) ((FM_here (sa σ_60 40 (((3 : Int32) * x1_60) + (1 : Int32)) x2_60)).bind fun q_72 => (if (σ_60.1 39) = 0 then ((FM_in q_72 (48 : Int32) (57 : Int32)).bind fun q_88 => (if q_88 = 0 then (FM_clauseRead_94 (sa σ_60 40 (((3 : Int32) * x1_60) + (1 : Int32)) x2_60)) else (if (q_72 - (48 : Int32)) = 0 then (FM_clauseRead_160 x1_60 (q_72 - (48 : Int32)) (si (sa σ_60 40 (((3 : Int32) * x1_60) + (1 : Int32)) x2_60) 38 ((σ_60.1 38) + (1 : Int32)))) else ((FM_here (si (sa σ_60 40 (((3 : Int32) * x1_60) + (1 : Int32)) x2_60) 38 ((σ_60.1 38) + (1 : Int32)))).bind fun q_122 => ((FM_in q_122 (48 : Int32) (57 : Int32)).bind fun q_129 => (if q_129 = 0 then (FM_clauseRead_160 x1_60 (q_72 - (48 : Int32)) (si (sa σ_60 40 (((3 : Int32) * x1_60) + (1 : Int32)) x2_60) 38 ((σ_60.1 38) + (1 : Int32)))) else ((FM_here (si (sa σ_60 40 (((3 : Int32) * x1_60) + (1 : Int32)) x2_60) 38 ((σ_60.1 38) + (1 : Int32)))).bind fun q_141 => (FM_clauseRead_160 x1_60 ((((10 : Int32) * (q_72 - (48 : Int32))) + q_141) - (48 : Int32)) (si (si (sa σ_60 40 (((3 : Int32) * x1_60) + (1 : Int32)) x2_60) 38 ((σ_60.1 38) + (1 : Int32))) 38 (((σ_60.1 38) + (1 : Int32)) + (1 : Int32))))))))))) else (FM_clauseRead_94 (sa σ_60 40 (((3 : Int32) * x1_60) + (1 : Int32)) x2_60)))))
def FM_clauseRead_55 (x1_55 : Int32) (x2_55 : Int32) (σ_55 : MS) : Option MS := (FM_clauseRead_60 x1_55 x2_55 (si σ_55 39 (1 : Int32)))
def FM_clauseRead_42 (x1_42 : Int32) (x2_42 : Int32) (σ_42 : MS) : Option MS := (FM_clauseRead_60 x1_42 x2_42 (si σ_42 38 ((σ_42.1 38) + (1 : Int32))))
def FM_clauseRead (σ : MS) (p1 : Int32) : Option MS := ((FM_whatRead σ).bind fun q_8 => (gd (inb ((3 : Int32) * p1) 18) ((FM_here (sa q_8.2 40 ((3 : Int32) * p1) q_8.1)).bind fun q_13 => (if (q_8.2.1 39) = 0 then (if q_13 = (60 : Int32) then (FM_clauseRead_42 p1 q_13 (sa q_8.2 40 ((3 : Int32) * p1) q_8.1)) else (if q_13 = (61 : Int32) then (FM_clauseRead_42 p1 q_13 (sa q_8.2 40 ((3 : Int32) * p1) q_8.1)) else (if q_13 = (62 : Int32) then (FM_clauseRead_42 p1 q_13 (sa q_8.2 40 ((3 : Int32) * p1) q_8.1)) else (FM_clauseRead_55 p1 q_13 (sa q_8.2 40 ((3 : Int32) * p1) q_8.1))))) else (FM_clauseRead_55 p1 q_13 (sa q_8.2 40 ((3 : Int32) * p1) q_8.1))))))
def wsM_clauseRead : List Cond := Cond.code yX10_clauseRead cX10_clauseRead 5 none :: wMa
theorem cw_clauseRead {R : Room} {s : State} {args : Array Value} {y : MethodName} {c : ByteArray} {n : Nat} {r : Option FieldType} (hts : ∀ w ∈ (Cond.code y c n r :: wMa), w.before args s = true) (hR : 4 + 1 ≤ R.frames ∧ 8 + (5 + 11) + 84 ≤ R.locals) : CallW R s args RX10 RX10 252 yX10_clauseRead cX10_clauseRead 5 none wsM_clauseRead { frames := 4, cells := 0, slots := 0, locals := 84 } 0 0 1 := cwV 1 hts (goodMV mm_252 mi_clauseRead ms_clauseRead m_ini mc_clauseRead) rfl rfl rfl (by decide +kernel) hR
set_option maxHeartbeats 4000000 in
set_option maxRecDepth 100000 in
theorem cM_clauseRead (l : Launch) (D : va_G) (cI cZ : ClassId) (h : Nat) (ad : Nat → Nat) (A : Nat → Prop) (σ : MS) (p1 : Int32) (q : MS) (hF : FM_clauseRead σ p1 = some q) : Met l yX10_clauseRead wsM_clauseRead { frames := 4, cells := 0, slots := 0, locals := 84 } (va_Pc [.ref h, .int p1] (preM D cI cZ h ad A σ)) (va_Qv (fun u => u = q) (preM D cI cZ h ad A) A) 0 0 A := by
  refine Met.ofW (cc := cX10_clauseRead) (maxL := 5) (ret := none) (by decide) rfl ?_
  intro p e s m args below meth c s₁ B hml hv
  obtain ⟨rfl, hP, hK, hD⟩ := hv
  have hx := B.exec
  have hb := B.bytes
  have hr := B.returns
  have hts : ∀ w ∈ (Cond.code yX10_clauseRead cX10_clauseRead 5 none :: wMa), w.before ([.ref h, .int p1] : List Value).toArray s = true := atoms_spec (ws := wsM_clauseRead) B.pre
  have hin : ∀ w ∈ wMa, w ∈ (Cond.code yX10_clauseRead cX10_clauseRead 5 none :: wMa) := fun w hw => List.mem_cons_of_mem _ hw
  have hown : s.vm.findClass RX10 = some m.cls := findClass_of_methodNamed B.named
  have hlocks := B.notSynchronized
  have hS : va_S A s.heap s.heap [] := va_S.rf
  have b_94 : ∀ (σ_94 : MS) (H : Heap) (locs : List Loc) (ls : Array Slot), FM_clauseRead_94 σ_94 = some q → va_P D vwCl (wM cI cZ h ad σ_94) H → va_D A (wM cI cZ h ad σ_94) → va_S A s.heap H locs → lv_has ls 5 [(0, .ref h)] → W p l e (headSpec wsM_clauseRead { frames := 4, cells := 0, slots := 0, locals := 84 }).room s m ([.ref h, .int p1] : List Value).toArray below meth c H locs 0 0 (MQ below (va_Qv (fun u => u = q) (preM D cI cZ h ad A) A) ([.ref h, .int p1] : List Value).toArray s 0 0 A) (F0 m 94 ls []) := by
    intro σ_94 H locs ls hF hP hD hS hl
    unfold FM_clauseRead_94 at hF
    refine lv_aload_n hx hb dX10_clauseRead_94 rfl (lv_at hl 0 rfl) ?_
    refine lv_iconst (v := (1 : Int32)) hx hb dX10_clauseRead_95 (by decide) ?_
    refine pM (ty := .boolean) (v := (1 : Int32)) hx hb hts hin hown hK hP hD hS 39 (by decide) mf_235 rfl (by decide +kernel) rfl rfl (Nat.le_of_ble_eq_true rfl) (pu_39 _ _ _ _ _ _) dX10_clauseRead_96 (fun H locs hP hD hS => ?_)
    exact rvM hx hb hr hlocks hF hK hP hD hS dX10_clauseRead_99
  have b_160 : ∀ (x1_160 : Int32) (x4_160 : Int32) (σ_160 : MS) (H : Heap) (locs : List Loc) (ls : Array Slot), FM_clauseRead_160 x1_160 x4_160 σ_160 = some q → va_P D vwCl (wM cI cZ h ad σ_160) H → va_D A (wM cI cZ h ad σ_160) → va_S A s.heap H locs → lv_has ls 5 [(0, .ref h), (1, .int x1_160), (4, .int x4_160)] → W p l e (headSpec wsM_clauseRead { frames := 4, cells := 0, slots := 0, locals := 84 }).room s m ([.ref h, .int p1] : List Value).toArray below meth c H locs 0 0 (MQ below (va_Qv (fun u => u = q) (preM D cI cZ h ad A) A) ([.ref h, .int p1] : List Value).toArray s 0 0 A) (F0 m 160 ls []) := by
    intro x1_160 x4_160 σ_160 H locs ls hF hP hD hS hl
    unfold FM_clauseRead_160 at hF
    refine lv_aload_n hx hb dX10_clauseRead_160 rfl (lv_at hl 0 rfl) ?_
    refine gM hx hb hts hin hown hK hP 40 (.ref (ad 40)) (by decide) mf_111 rfl dX10_clauseRead_161 ?_
    refine lv_iconst (v := (3 : Int32)) hx hb dX10_clauseRead_164 (by decide) ?_
    refine lv_iload_n hx hb dX10_clauseRead_165 rfl (lv_at hl 1 rfl) ?_
    refine lv_imul hx hb dX10_clauseRead_166 ?_
    refine lv_iconst (v := (2 : Int32)) hx hb dX10_clauseRead_167 (by decide) ?_
    refine lv_iadd hx hb dX10_clauseRead_168 ?_
    refine lv_iload hx hb dX10_clauseRead_169 (lv_at hl 2 rfl) ?_
    obtain ⟨g_171, hF⟩ := ob_gd hF
    refine stI hx hb hK hP hD hS (at_40 _ _ _ _ _) (st_40 _ _ _ _ _ _ _) g_171 dX10_clauseRead_171 (fun H locs hP hD hS => ?_)
    exact rvM hx hb hr hlocks hF hK hP hD hS dX10_clauseRead_172
  have b_60 : ∀ (x1_60 : Int32) (x2_60 : Int32) (σ_60 : MS) (H : Heap) (locs : List Loc) (ls : Array Slot), FM_clauseRead_60 x1_60 x2_60 σ_60 = some q → va_P D vwCl (wM cI cZ h ad σ_60) H → va_D A (wM cI cZ h ad σ_60) → va_S A s.heap H locs → lv_has ls 5 [(0, .ref h), (1, .int x1_60), (2, .int x2_60)] → W p l e (headSpec wsM_clauseRead { frames := 4, cells := 0, slots := 0, locals := 84 }).room s m ([.ref h, .int p1] : List Value).toArray below meth c H locs 0 0 (MQ below (va_Qv (fun u => u = q) (preM D cI cZ h ad A) A) ([.ref h, .int p1] : List Value).toArray s 0 0 A) (F0 m 60 ls []) := by
    intro x1_60 x2_60 σ_60 H locs ls hF hP hD hS hl
    unfold FM_clauseRead_60 at hF
    refine lv_aload_n hx hb dX10_clauseRead_60 rfl (lv_at hl 0 rfl) ?_
    refine gM hx hb hts hin hown hK hP 40 (.ref (ad 40)) (by decide) mf_111 rfl dX10_clauseRead_61 ?_
    refine lv_iconst (v := (3 : Int32)) hx hb dX10_clauseRead_64 (by decide) ?_
    refine lv_iload_n hx hb dX10_clauseRead_65 rfl (lv_at hl 1 rfl) ?_
    refine lv_imul hx hb dX10_clauseRead_66 ?_
    refine lv_iconst (v := (1 : Int32)) hx hb dX10_clauseRead_67 (by decide) ?_
    refine lv_iadd hx hb dX10_clauseRead_68 ?_
    refine lv_iload_n hx hb dX10_clauseRead_69 rfl (lv_at hl 2 rfl) ?_
    obtain ⟨g_70, hF⟩ := ob_gd hF
    refine stI hx hb hK hP hD hS (at_40 _ _ _ _ _) (st_40 _ _ _ _ _ _ _) g_70 dX10_clauseRead_70 (fun H locs hP hD hS => ?_)
    refine lv_aload_n hx hb dX10_clauseRead_71 rfl (lv_at hl 0 rfl) ?_
    obtain ⟨q_72, e_72, hF⟩ := ob_bd hF
    refine crM (As := []) (rest := []) ⟨hx, hb, hml, hown, hts⟩ (cM_here l D cI cZ h ad (sa σ_60 40 (((3 : Int32) * x1_60) + (1 : Int32)) x2_60) _ e_72) (cw_here hts ⟨Nat.le_of_ble_eq_true rfl, Nat.le_of_ble_eq_true rfl⟩) hK hP rfl hl.1 rfl (lv_room (Nat.le_of_ble_eq_true rfl)) dX10_clauseRead_72 ?_
    refine lv_istore_n (lv' := [(3, .int q_72), (0, .ref h), (1, .int x1_60), (2, .int x2_60)]) hx hb dX10_clauseRead_75 rfl hl (by decide) rfl (fun ls hl => ?_)
    refine lv_aload_n hx hb dX10_clauseRead_76 rfl (lv_at hl 1 rfl) ?_
    refine gM hx hb hts hin hown hK hP 39 (.int (σ_60.1 39)) (by decide) mf_235 rfl dX10_clauseRead_77 ?_
    refine lv_if_ne (tgt := 94) hx hb dX10_clauseRead_80 (by decide) (fun c_80 => ?_) (fun c_80 => ?_)
    · have hF := ob_f c_80 hF
      exact b_94 (sa σ_60 40 (((3 : Int32) * x1_60) + (1 : Int32)) x2_60) _ _ _ hF hP hD hS (lv_sub hl [1] rfl)
    · have hF := ob_t c_80 hF
      refine lv_iload_n hx hb dX10_clauseRead_83 rfl (lv_at hl 0 rfl) ?_
      refine lv_bipush (v := (48 : Int32)) hx hb dX10_clauseRead_84 (by decide) ?_
      refine lv_bipush (v := (57 : Int32)) hx hb dX10_clauseRead_86 (by decide) ?_
      obtain ⟨q_88, e_88, hF⟩ := ob_bd hF
      refine csM (As := [.int q_72, .int (48 : Int32), .int (57 : Int32)]) (rest := []) ⟨hx, hb, hml, hown, hts⟩ (cM_in l q_72 (48 : Int32) (57 : Int32) _ e_88) (cw_in hts ⟨Nat.le_of_ble_eq_true rfl, Nat.le_of_ble_eq_true rfl⟩) rfl hl.1 rfl (lv_room (Nat.le_of_ble_eq_true rfl)) dX10_clauseRead_88 ?_
      refine lv_if_ne (tgt := 100) hx hb dX10_clauseRead_91 (by decide) (fun c_91 => ?_) (fun c_91 => ?_)
      · have hF := ob_f c_91 hF
        refine lv_aload_n hx hb dX10_clauseRead_100 rfl (lv_at hl 1 rfl) ?_
        refine lv_dup hx hb dX10_clauseRead_101 rfl ?_
        refine gM hx hb hts hin hown hK hP 38 (.int (σ_60.1 38)) (by decide) mf_232 rfl dX10_clauseRead_102 ?_
        refine lv_iconst (v := (1 : Int32)) hx hb dX10_clauseRead_105 (by decide) ?_
        refine lv_iadd hx hb dX10_clauseRead_106 ?_
        refine pM (ty := .int) (v := ((σ_60.1 38) + (1 : Int32))) hx hb hts hin hown hK hP hD hS 38 (by decide) mf_232 rfl (by decide +kernel) rfl rfl (Nat.le_of_ble_eq_true rfl) (pu_38 _ _ _ _ _ _) dX10_clauseRead_107 (fun H locs hP hD hS => ?_)
        refine lv_iload_n hx hb dX10_clauseRead_110 rfl (lv_at hl 0 rfl) ?_
        refine lv_bipush (v := (48 : Int32)) hx hb dX10_clauseRead_111 (by decide) ?_
        refine lv_isub hx hb dX10_clauseRead_113 ?_
        refine lv_istore (lv' := [(4, .int (q_72 - (48 : Int32))), (3, .int q_72), (0, .ref h), (1, .int x1_60), (2, .int x2_60)]) hx hb dX10_clauseRead_114 hl (by decide) rfl (fun ls hl => ?_)
        refine lv_iload hx hb dX10_clauseRead_116 (lv_at hl 0 rfl) ?_
        refine lv_if_eq (tgt := 160) hx hb dX10_clauseRead_118 (by decide) (fun c_118 => ?_) (fun c_118 => ?_)
        · have hF := ob_t c_118 hF
          exact b_160 x1_60 (q_72 - (48 : Int32)) (si (sa σ_60 40 (((3 : Int32) * x1_60) + (1 : Int32)) x2_60) 38 ((σ_60.1 38) + (1 : Int32))) _ _ _ hF hP hD hS (lv_sub hl [2, 3, 0] rfl)
        · have hF := ob_f c_118 hF
          refine lv_aload_n hx hb dX10_clauseRead_121 rfl (lv_at hl 2 rfl) ?_
          obtain ⟨q_122, e_122, hF⟩ := ob_bd hF
          refine crM (As := []) (rest := []) ⟨hx, hb, hml, hown, hts⟩ (cM_here l D cI cZ h ad (si (sa σ_60 40 (((3 : Int32) * x1_60) + (1 : Int32)) x2_60) 38 ((σ_60.1 38) + (1 : Int32))) _ e_122) (cw_here hts ⟨Nat.le_of_ble_eq_true rfl, Nat.le_of_ble_eq_true rfl⟩) hK hP rfl hl.1 rfl (lv_room (Nat.le_of_ble_eq_true rfl)) dX10_clauseRead_122 ?_
          refine lv_bipush (v := (48 : Int32)) hx hb dX10_clauseRead_125 (by decide) ?_
          refine lv_bipush (v := (57 : Int32)) hx hb dX10_clauseRead_127 (by decide) ?_
          obtain ⟨q_129, e_129, hF⟩ := ob_bd hF
          refine csM (As := [.int q_122, .int (48 : Int32), .int (57 : Int32)]) (rest := []) ⟨hx, hb, hml, hown, hts⟩ (cM_in l q_122 (48 : Int32) (57 : Int32) _ e_129) (cw_in hts ⟨Nat.le_of_ble_eq_true rfl, Nat.le_of_ble_eq_true rfl⟩) rfl hl.1 rfl (lv_room (Nat.le_of_ble_eq_true rfl)) dX10_clauseRead_129 ?_
          refine lv_if_eq (tgt := 160) hx hb dX10_clauseRead_132 (by decide) (fun c_132 => ?_) (fun c_132 => ?_)
          · have hF := ob_t c_132 hF
            exact b_160 x1_60 (q_72 - (48 : Int32)) (si (sa σ_60 40 (((3 : Int32) * x1_60) + (1 : Int32)) x2_60) 38 ((σ_60.1 38) + (1 : Int32))) _ _ _ hF hP hD hS (lv_sub hl [2, 3, 0] rfl)
          · have hF := ob_f c_132 hF
            refine lv_bipush (v := (10 : Int32)) hx hb dX10_clauseRead_135 (by decide) ?_
            refine lv_iload hx hb dX10_clauseRead_137 (lv_at hl 0 rfl) ?_
            refine lv_imul hx hb dX10_clauseRead_139 ?_
            refine lv_aload_n hx hb dX10_clauseRead_140 rfl (lv_at hl 2 rfl) ?_
            obtain ⟨q_141, e_141, hF⟩ := ob_bd hF
            refine crM (As := []) (rest := [.int ((10 : Int32) * (q_72 - (48 : Int32)))]) ⟨hx, hb, hml, hown, hts⟩ (cM_here l D cI cZ h ad (si (sa σ_60 40 (((3 : Int32) * x1_60) + (1 : Int32)) x2_60) 38 ((σ_60.1 38) + (1 : Int32))) _ e_141) (cw_here hts ⟨Nat.le_of_ble_eq_true rfl, Nat.le_of_ble_eq_true rfl⟩) hK hP rfl hl.1 rfl (lv_room (Nat.le_of_ble_eq_true rfl)) dX10_clauseRead_141 ?_
            refine lv_iadd hx hb dX10_clauseRead_144 ?_
            refine lv_bipush (v := (48 : Int32)) hx hb dX10_clauseRead_145 (by decide) ?_
            refine lv_isub hx hb dX10_clauseRead_147 ?_
            refine lv_istore (lv' := [(4, .int ((((10 : Int32) * (q_72 - (48 : Int32))) + q_141) - (48 : Int32))), (3, .int q_72), (0, .ref h), (1, .int x1_60), (2, .int x2_60)]) hx hb dX10_clauseRead_148 hl (by decide) rfl (fun ls hl => ?_)
            refine lv_aload_n hx hb dX10_clauseRead_150 rfl (lv_at hl 2 rfl) ?_
            refine lv_dup hx hb dX10_clauseRead_151 rfl ?_
            refine gM hx hb hts hin hown hK hP 38 (.int ((σ_60.1 38) + (1 : Int32))) (by decide) mf_232 rfl dX10_clauseRead_152 ?_
            refine lv_iconst (v := (1 : Int32)) hx hb dX10_clauseRead_155 (by decide) ?_
            refine lv_iadd hx hb dX10_clauseRead_156 ?_
            refine pM (ty := .int) (v := (((σ_60.1 38) + (1 : Int32)) + (1 : Int32))) hx hb hts hin hown hK hP hD hS 38 (by decide) mf_232 rfl (by decide +kernel) rfl rfl (Nat.le_of_ble_eq_true rfl) (pu_38 _ _ _ _ _ _) dX10_clauseRead_157 (fun H locs hP hD hS => ?_)
            exact b_160 x1_60 ((((10 : Int32) * (q_72 - (48 : Int32))) + q_141) - (48 : Int32)) (si (si (sa σ_60 40 (((3 : Int32) * x1_60) + (1 : Int32)) x2_60) 38 ((σ_60.1 38) + (1 : Int32))) 38 (((σ_60.1 38) + (1 : Int32)) + (1 : Int32))) _ _ _ hF hP hD hS (lv_sub hl [2, 3, 0] rfl)
      · have hF := ob_t c_91 hF
        exact b_94 (sa σ_60 40 (((3 : Int32) * x1_60) + (1 : Int32)) x2_60) _ _ _ hF hP hD hS (lv_sub hl [1] rfl)
  have b_55 : ∀ (x1_55 : Int32) (x2_55 : Int32) (σ_55 : MS) (H : Heap) (locs : List Loc) (ls : Array Slot), FM_clauseRead_55 x1_55 x2_55 σ_55 = some q → va_P D vwCl (wM cI cZ h ad σ_55) H → va_D A (wM cI cZ h ad σ_55) → va_S A s.heap H locs → lv_has ls 5 [(0, .ref h), (1, .int x1_55), (2, .int x2_55)] → W p l e (headSpec wsM_clauseRead { frames := 4, cells := 0, slots := 0, locals := 84 }).room s m ([.ref h, .int p1] : List Value).toArray below meth c H locs 0 0 (MQ below (va_Qv (fun u => u = q) (preM D cI cZ h ad A) A) ([.ref h, .int p1] : List Value).toArray s 0 0 A) (F0 m 55 ls []) := by
    intro x1_55 x2_55 σ_55 H locs ls hF hP hD hS hl
    unfold FM_clauseRead_55 at hF
    refine lv_aload_n hx hb dX10_clauseRead_55 rfl (lv_at hl 0 rfl) ?_
    refine lv_iconst (v := (1 : Int32)) hx hb dX10_clauseRead_56 (by decide) ?_
    refine pM (ty := .boolean) (v := (1 : Int32)) hx hb hts hin hown hK hP hD hS 39 (by decide) mf_235 rfl (by decide +kernel) rfl rfl (Nat.le_of_ble_eq_true rfl) (pu_39 _ _ _ _ _ _) dX10_clauseRead_57 (fun H locs hP hD hS => ?_)
    exact b_60 x1_55 x2_55 (si σ_55 39 (1 : Int32)) _ _ _ hF hP hD hS hl
  have b_42 : ∀ (x1_42 : Int32) (x2_42 : Int32) (σ_42 : MS) (H : Heap) (locs : List Loc) (ls : Array Slot), FM_clauseRead_42 x1_42 x2_42 σ_42 = some q → va_P D vwCl (wM cI cZ h ad σ_42) H → va_D A (wM cI cZ h ad σ_42) → va_S A s.heap H locs → lv_has ls 5 [(0, .ref h), (1, .int x1_42), (2, .int x2_42)] → W p l e (headSpec wsM_clauseRead { frames := 4, cells := 0, slots := 0, locals := 84 }).room s m ([.ref h, .int p1] : List Value).toArray below meth c H locs 0 0 (MQ below (va_Qv (fun u => u = q) (preM D cI cZ h ad A) A) ([.ref h, .int p1] : List Value).toArray s 0 0 A) (F0 m 42 ls []) := by
    intro x1_42 x2_42 σ_42 H locs ls hF hP hD hS hl
    unfold FM_clauseRead_42 at hF
    refine lv_aload_n hx hb dX10_clauseRead_42 rfl (lv_at hl 0 rfl) ?_
    refine lv_dup hx hb dX10_clauseRead_43 rfl ?_
    refine gM hx hb hts hin hown hK hP 38 (.int (σ_42.1 38)) (by decide) mf_232 rfl dX10_clauseRead_44 ?_
    refine lv_iconst (v := (1 : Int32)) hx hb dX10_clauseRead_47 (by decide) ?_
    refine lv_iadd hx hb dX10_clauseRead_48 ?_
    refine pM (ty := .int) (v := ((σ_42.1 38) + (1 : Int32))) hx hb hts hin hown hK hP hD hS 38 (by decide) mf_232 rfl (by decide +kernel) rfl rfl (Nat.le_of_ble_eq_true rfl) (pu_38 _ _ _ _ _ _) dX10_clauseRead_49 (fun H locs hP hD hS => ?_)
    refine lv_goto (tgt := 60) hx hb dX10_clauseRead_52 (by decide) ?_
    exact b_60 x1_42 x2_42 (si σ_42 38 ((σ_42.1 38) + (1 : Int32))) _ _ _ hF hP hD hS hl
  have hl := lv_entry ([.ref h, .int p1]) (n := 5) (Nat.le_of_ble_eq_true rfl)
  rw [lg_entry_eq]
  generalize (lg_sl ([.ref h, .int p1]) ++ List.replicate (5 - (lg_sl ([.ref h, .int p1])).length) Slot.unset).toArray = ls at hl ⊢
  have hl : lv_has ls 5 [(0, .ref h), (1, .int p1)] := hl
  unfold FM_clauseRead at hF
  refine lv_aload_n hx hb dX10_clauseRead_0 rfl (lv_at hl 0 rfl) ?_
  refine gM hx hb hts hin hown hK hP 40 (.ref (ad 40)) (by decide) mf_111 rfl dX10_clauseRead_1 ?_
  refine lv_iconst (v := (3 : Int32)) hx hb dX10_clauseRead_4 (by decide) ?_
  refine lv_iload_n hx hb dX10_clauseRead_5 rfl (lv_at hl 1 rfl) ?_
  refine lv_imul hx hb dX10_clauseRead_6 ?_
  refine lv_aload_n hx hb dX10_clauseRead_7 rfl (lv_at hl 0 rfl) ?_
  obtain ⟨q_8, e_8, hF⟩ := ob_bd hF
  refine cwM (As := []) (rest := [.int ((3 : Int32) * p1), .ref (ad 40)]) ⟨hx, hb, hml, hown, hts⟩ (cM_whatRead l D cI cZ h ad A σ _ e_8) (cw_whatRead hts ⟨Nat.le_of_ble_eq_true rfl, Nat.le_of_ble_eq_true rfl⟩) hK hP hD hS rfl hl.1 rfl (lv_room (Nat.le_of_ble_eq_true rfl)) dX10_clauseRead_8 (fun H locs hP hD hS => ?_)
  obtain ⟨g_11, hF⟩ := ob_gd hF
  refine stI hx hb hK hP hD hS (at_40 _ _ _ _ _) (st_40 _ _ _ _ _ _ _) g_11 dX10_clauseRead_11 (fun H locs hP hD hS => ?_)
  refine lv_aload_n hx hb dX10_clauseRead_12 rfl (lv_at hl 0 rfl) ?_
  obtain ⟨q_13, e_13, hF⟩ := ob_bd hF
  refine crM (As := []) (rest := []) ⟨hx, hb, hml, hown, hts⟩ (cM_here l D cI cZ h ad (sa q_8.2 40 ((3 : Int32) * p1) q_8.1) _ e_13) (cw_here hts ⟨Nat.le_of_ble_eq_true rfl, Nat.le_of_ble_eq_true rfl⟩) hK hP rfl hl.1 rfl (lv_room (Nat.le_of_ble_eq_true rfl)) dX10_clauseRead_13 ?_
  refine lv_istore_n (lv' := [(2, .int q_13), (0, .ref h), (1, .int p1)]) hx hb dX10_clauseRead_16 rfl hl (by decide) rfl (fun ls hl => ?_)
  refine lv_aload_n hx hb dX10_clauseRead_17 rfl (lv_at hl 1 rfl) ?_
  refine gM hx hb hts hin hown hK hP 39 (.int (q_8.2.1 39)) (by decide) mf_235 rfl dX10_clauseRead_18 ?_
  refine lv_if_ne (tgt := 55) hx hb dX10_clauseRead_21 (by decide) (fun c_21 => ?_) (fun c_21 => ?_)
  · have hF := ob_f c_21 hF
    exact b_55 p1 q_13 (sa q_8.2 40 ((3 : Int32) * p1) q_8.1) _ _ _ hF hP hD hS (lv_sub hl [1, 2, 0] rfl)
  · have hF := ob_t c_21 hF
    refine lv_iload_n hx hb dX10_clauseRead_24 rfl (lv_at hl 0 rfl) ?_
    refine lv_bipush (v := (60 : Int32)) hx hb dX10_clauseRead_25 (by decide) ?_
    refine lv_icmp_eq (tgt := 42) hx hb dX10_clauseRead_27 (by decide) (fun c_27 => ?_) (fun c_27 => ?_)
    · have hF := ob_t c_27 hF
      exact b_42 p1 q_13 (sa q_8.2 40 ((3 : Int32) * p1) q_8.1) _ _ _ hF hP hD hS (lv_sub hl [1, 2, 0] rfl)
    · have hF := ob_f c_27 hF
      refine lv_iload_n hx hb dX10_clauseRead_30 rfl (lv_at hl 0 rfl) ?_
      refine lv_bipush (v := (61 : Int32)) hx hb dX10_clauseRead_31 (by decide) ?_
      refine lv_icmp_eq (tgt := 42) hx hb dX10_clauseRead_33 (by decide) (fun c_33 => ?_) (fun c_33 => ?_)
      · have hF := ob_t c_33 hF
        exact b_42 p1 q_13 (sa q_8.2 40 ((3 : Int32) * p1) q_8.1) _ _ _ hF hP hD hS (lv_sub hl [1, 2, 0] rfl)
      · have hF := ob_f c_33 hF
        refine lv_iload_n hx hb dX10_clauseRead_36 rfl (lv_at hl 0 rfl) ?_
        refine lv_bipush (v := (62 : Int32)) hx hb dX10_clauseRead_37 (by decide) ?_
        refine lv_icmp_ne (tgt := 55) hx hb dX10_clauseRead_39 (by decide) (fun c_39 => ?_) (fun c_39 => ?_)
        · have hF := ob_f c_39 hF
          exact b_55 p1 q_13 (sa q_8.2 40 ((3 : Int32) * p1) q_8.1) _ _ _ hF hP hD hS (lv_sub hl [1, 2, 0] rfl)
        · have hF := ob_t c_39 hF
          exact b_42 p1 q_13 (sa q_8.2 40 ((3 : Int32) * p1) q_8.1) _ _ _ hF hP hD hS (lv_sub hl [1, 2, 0] rfl)
def FM_rules_69 (K_23 : Int32 → MS → Option (Int32 × MS)) (x1_69 : Int32) (x2_69 : Int32) (σ_69 : MS) : Option (Int32 × MS) := (if (σ_69.1 39) = 0 then ((FM_clauseRead σ_69 x2_69).bind fun q_78 => (K_23 (x2_69 + (1 : Int32)) q_78)) else (K_23 (x2_69 + (1 : Int32)) σ_69))
def FM_rules_45 (K_23 : Int32 → MS → Option (Int32 × MS)) (x1_45 : Int32) (x2_45 : Int32) (σ_45 : MS) : Option (Int32 × MS) := (if x2_45 = (6 : Int32) then (K_23 x2_45 (si σ_45 39 (1 : Int32))) else (if x2_45 ≤ 0 then (FM_rules_69 K_23 x1_45 x2_45 σ_45) else ((FM_eats σ_45 (59 : Int32)).bind fun q_66 => (FM_rules_69 K_23 x1_45 x2_45 q_66))))
def FM_rules_23 (K_87 : Int32 → MS → Option (Int32 × MS)) (x1_23 : Int32) : Nat → Int32 → MS → Option (Int32 × MS)
  | 0, _, _ => none
  | n_23 + 1, x2_23, σ_23 => (if (σ_23.1 39) = 0 then (if x2_23 = 0 then (FM_rules_45 (fun x2_23 σ_23 => FM_rules_23 K_87 x1_23 n_23 x2_23 σ_23) x1_23 x2_23 σ_23) else (if (σ_23.1 31) ≤ (σ_23.1 38) then (K_87 x2_23 σ_23) else (FM_rules_45 (fun x2_23 σ_23 => FM_rules_23 K_87 x1_23 n_23 x2_23 σ_23) x1_23 x2_23 σ_23))) else (K_87 x2_23 σ_23))
def FM_rules_116 (x1_116 : Int32) (x2_116 : Int32) : Nat → Int32 → MS → Option (Int32 × MS)
  | 0, _, _ => none
  | n_116 + 1, x3_116, σ_116 => (if ((3 : Int32) * x2_116) ≤ x3_116 then (some (x2_116, σ_116)) else (gd (inb x3_116 18) (gd (inb (((18 : Int32) * x1_116) + x3_116) 72) (FM_rules_116  x1_116 x2_116 n_116 (x3_116 + (1 : Int32)) (sa σ_116 29 (((18 : Int32) * x1_116) + x3_116) (σ_116.2 40 x3_116.toNatClampNeg))))))
def FM_rules_87 (x1_87 : Int32) (x2_87 : Int32) (σ_87 : MS) : Option (Int32 × MS) := (if (σ_87.1 39) = 0 then (gd (inb x1_87 4) (FM_rules_116 x1_87 x2_87 fu (0 : Int32) (sa (si σ_87 31 (0 : Int32)) 28 x1_87 x2_87))) else (some (((-10 : Int32) - (σ_87.1 38)), (si σ_87 31 (0 : Int32)))))
def FM_rules (σ : MS) (p1 : Int32) : Option (Int32 × MS) := ((FM_in p1 (0 : Int32) (3 : Int32)).bind fun q_3 => (if q_3 = 0 then (some ((-1 : Int32), σ)) else (FM_rules_23 (fun x2_87 σ_87 => FM_rules_87 p1 x2_87 σ_87) p1 fu (0 : Int32) (si (si σ 38 (0 : Int32)) 39 (0 : Int32)))))
def wsM_rules : List Cond := Cond.code yX10_rules cX10_rules 4 (some .int) :: wMa
set_option maxHeartbeats 4000000 in
set_option maxRecDepth 100000 in
theorem cM_rules (l : Launch) (D : va_G) (cI cZ : ClassId) (h : Nat) (ad : Nat → Nat) (A : Nat → Prop) (σ : MS) (p1 : Int32) (q : Int32 × MS) (hF : FM_rules σ p1 = some q) : Met l yX10_rules wsM_rules { frames := 5, cells := 0, slots := 0, locals := 108 } (va_Pc [.ref h, .int p1] (preM D cI cZ h ad A σ)) (va_Qi (fun x u => x = q.1 ∧ u = q.2) (preM D cI cZ h ad A) A) 0 0 A := by
  refine Met.ofW (cc := cX10_rules) (maxL := 4) (ret := (some .int)) (by decide) rfl ?_
  intro p e s m args below meth c s₁ B hml hv
  obtain ⟨rfl, hP, hK, hD⟩ := hv
  have hx := B.exec
  have hb := B.bytes
  have hr := B.returns
  have hts : ∀ w ∈ (Cond.code yX10_rules cX10_rules 4 (some .int) :: wMa), w.before ([.ref h, .int p1] : List Value).toArray s = true := atoms_spec (ws := wsM_rules) B.pre
  have hin : ∀ w ∈ wMa, w ∈ (Cond.code yX10_rules cX10_rules 4 (some .int) :: wMa) := fun w hw => List.mem_cons_of_mem _ hw
  have hown : s.vm.findClass RX10 = some m.cls := findClass_of_methodNamed B.named
  have hlocks := B.notSynchronized
  have hS : va_S A s.heap s.heap [] := va_S.rf
  have b_69 : ∀ (x1_69 : Int32) (x2_69 : Int32) (K_23 : Int32 → MS → Option (Int32 × MS)) (k_23 : ∀ (x2_23 : Int32) (σ_23 : MS) (H : Heap) (locs : List Loc) (ls : Array Slot), K_23 x2_23 σ_23 = some q → va_P D vwCl (wM cI cZ h ad σ_23) H → va_D A (wM cI cZ h ad σ_23) → va_S A s.heap H locs → lv_has ls 4 [(0, .ref h), (1, .int x1_69), (2, .int x2_23)] → W p l e (headSpec wsM_rules { frames := 5, cells := 0, slots := 0, locals := 108 }).room s m ([.ref h, .int p1] : List Value).toArray below meth c H locs 0 0 (MQ below (va_Qi (fun x u => x = q.1 ∧ u = q.2) (preM D cI cZ h ad A) A) ([.ref h, .int p1] : List Value).toArray s 0 0 A) (F0 m 23 ls [])) (σ_69 : MS) (H : Heap) (locs : List Loc) (ls : Array Slot), FM_rules_69 K_23 x1_69 x2_69 σ_69 = some q → va_P D vwCl (wM cI cZ h ad σ_69) H → va_D A (wM cI cZ h ad σ_69) → va_S A s.heap H locs → lv_has ls 4 [(0, .ref h), (1, .int x1_69), (2, .int x2_69)] → W p l e (headSpec wsM_rules { frames := 5, cells := 0, slots := 0, locals := 108 }).room s m ([.ref h, .int p1] : List Value).toArray below meth c H locs 0 0 (MQ below (va_Qi (fun x u => x = q.1 ∧ u = q.2) (preM D cI cZ h ad A) A) ([.ref h, .int p1] : List Value).toArray s 0 0 A) (F0 m 69 ls []) := by
    intro x1_69 x2_69 K_23 k_23 σ_69 H locs ls hF hP hD hS hl
    unfold FM_rules_69 at hF
    refine lv_aload_n hx hb dX10_rules_69 rfl (lv_at hl 0 rfl) ?_
    refine gM hx hb hts hin hown hK hP 39 (.int (σ_69.1 39)) (by decide) mf_235 rfl dX10_rules_70 ?_
    refine lv_if_ne (tgt := 81) hx hb dX10_rules_73 (by decide) (fun c_73 => ?_) (fun c_73 => ?_)
    · have hF := ob_f c_73 hF
      refine lv_iinc (v := x2_69 + (1 : Int32)) (lv' := [(2, .int (x2_69 + (1 : Int32))), (0, .ref h), (1, .int x1_69)]) hx hb dX10_rules_81 hl (k := 2) rfl rfl (by decide) rfl (fun ls hl => ?_)
      refine lv_goto (tgt := 23) hx hb dX10_rules_84 (by decide) ?_
      exact k_23 (x2_69 + (1 : Int32)) σ_69 _ _ _ hF hP hD hS (lv_sub hl [1, 2, 0] rfl)
    · have hF := ob_t c_73 hF
      refine lv_aload_n hx hb dX10_rules_76 rfl (lv_at hl 0 rfl) ?_
      refine lv_iload_n hx hb dX10_rules_77 rfl (lv_at hl 2 rfl) ?_
      obtain ⟨q_78, e_78, hF⟩ := ob_bd hF
      refine cvM (As := [.int x2_69]) (rest := []) ⟨hx, hb, hml, hown, hts⟩ (cM_clauseRead l D cI cZ h ad A σ_69 x2_69 _ e_78) (cw_clauseRead hts ⟨Nat.le_of_ble_eq_true rfl, Nat.le_of_ble_eq_true rfl⟩) hK hP hD hS rfl hl.1 rfl (lv_room (Nat.le_of_ble_eq_true rfl)) dX10_rules_78 (fun H locs hP hD hS => ?_)
      refine lv_iinc (v := x2_69 + (1 : Int32)) (lv' := [(2, .int (x2_69 + (1 : Int32))), (0, .ref h), (1, .int x1_69)]) hx hb dX10_rules_81 hl (k := 2) rfl rfl (by decide) rfl (fun ls hl => ?_)
      refine lv_goto (tgt := 23) hx hb dX10_rules_84 (by decide) ?_
      exact k_23 (x2_69 + (1 : Int32)) q_78 _ _ _ hF hP hD hS (lv_sub hl [1, 2, 0] rfl)
  have b_45 : ∀ (x1_45 : Int32) (x2_45 : Int32) (K_23 : Int32 → MS → Option (Int32 × MS)) (k_23 : ∀ (x2_23 : Int32) (σ_23 : MS) (H : Heap) (locs : List Loc) (ls : Array Slot), K_23 x2_23 σ_23 = some q → va_P D vwCl (wM cI cZ h ad σ_23) H → va_D A (wM cI cZ h ad σ_23) → va_S A s.heap H locs → lv_has ls 4 [(0, .ref h), (1, .int x1_45), (2, .int x2_23)] → W p l e (headSpec wsM_rules { frames := 5, cells := 0, slots := 0, locals := 108 }).room s m ([.ref h, .int p1] : List Value).toArray below meth c H locs 0 0 (MQ below (va_Qi (fun x u => x = q.1 ∧ u = q.2) (preM D cI cZ h ad A) A) ([.ref h, .int p1] : List Value).toArray s 0 0 A) (F0 m 23 ls [])) (σ_45 : MS) (H : Heap) (locs : List Loc) (ls : Array Slot), FM_rules_45 K_23 x1_45 x2_45 σ_45 = some q → va_P D vwCl (wM cI cZ h ad σ_45) H → va_D A (wM cI cZ h ad σ_45) → va_S A s.heap H locs → lv_has ls 4 [(0, .ref h), (1, .int x1_45), (2, .int x2_45)] → W p l e (headSpec wsM_rules { frames := 5, cells := 0, slots := 0, locals := 108 }).room s m ([.ref h, .int p1] : List Value).toArray below meth c H locs 0 0 (MQ below (va_Qi (fun x u => x = q.1 ∧ u = q.2) (preM D cI cZ h ad A) A) ([.ref h, .int p1] : List Value).toArray s 0 0 A) (F0 m 45 ls []) := by
    intro x1_45 x2_45 K_23 k_23 σ_45 H locs ls hF hP hD hS hl
    unfold FM_rules_45 at hF
    refine lv_iload_n hx hb dX10_rules_45 rfl (lv_at hl 2 rfl) ?_
    refine lv_bipush (v := (6 : Int32)) hx hb dX10_rules_46 (by decide) ?_
    refine lv_icmp_ne (tgt := 59) hx hb dX10_rules_48 (by decide) (fun c_48 => ?_) (fun c_48 => ?_)
    · have hF := ob_f c_48 hF
      refine lv_iload_n hx hb dX10_rules_59 rfl (lv_at hl 2 rfl) ?_
      refine lv_if_le (tgt := 69) hx hb dX10_rules_60 (by decide) (fun c_60 => ?_) (fun c_60 => ?_)
      · have hF := ob_t c_60 hF
        exact b_69 x1_45 x2_45 K_23 k_23 σ_45 _ _ _ hF hP hD hS hl
      · have hF := ob_f c_60 hF
        refine lv_aload_n hx hb dX10_rules_63 rfl (lv_at hl 0 rfl) ?_
        refine lv_bipush (v := (59 : Int32)) hx hb dX10_rules_64 (by decide) ?_
        obtain ⟨q_66, e_66, hF⟩ := ob_bd hF
        refine cvM (As := [.int (59 : Int32)]) (rest := []) ⟨hx, hb, hml, hown, hts⟩ (cM_eats l D cI cZ h ad A σ_45 (59 : Int32) _ e_66) (cw_eats hts ⟨Nat.le_of_ble_eq_true rfl, Nat.le_of_ble_eq_true rfl⟩) hK hP hD hS rfl hl.1 rfl (lv_room (Nat.le_of_ble_eq_true rfl)) dX10_rules_66 (fun H locs hP hD hS => ?_)
        exact b_69 x1_45 x2_45 K_23 k_23 q_66 _ _ _ hF hP hD hS hl
    · have hF := ob_t c_48 hF
      refine lv_aload_n hx hb dX10_rules_51 rfl (lv_at hl 0 rfl) ?_
      refine lv_iconst (v := (1 : Int32)) hx hb dX10_rules_52 (by decide) ?_
      refine pM (ty := .boolean) (v := (1 : Int32)) hx hb hts hin hown hK hP hD hS 39 (by decide) mf_235 rfl (by decide +kernel) rfl rfl (Nat.le_of_ble_eq_true rfl) (pu_39 _ _ _ _ _ _) dX10_rules_53 (fun H locs hP hD hS => ?_)
      refine lv_goto (tgt := 23) hx hb dX10_rules_56 (by decide) ?_
      exact k_23 x2_45 (si σ_45 39 (1 : Int32)) _ _ _ hF hP hD hS hl
  have b_23 : ∀ (x1_23 : Int32) (K_87 : Int32 → MS → Option (Int32 × MS)) (k_87 : ∀ (x2_87 : Int32) (σ_87 : MS) (H : Heap) (locs : List Loc) (ls : Array Slot), K_87 x2_87 σ_87 = some q → va_P D vwCl (wM cI cZ h ad σ_87) H → va_D A (wM cI cZ h ad σ_87) → va_S A s.heap H locs → lv_has ls 4 [(0, .ref h), (1, .int x1_23), (2, .int x2_87)] → W p l e (headSpec wsM_rules { frames := 5, cells := 0, slots := 0, locals := 108 }).room s m ([.ref h, .int p1] : List Value).toArray below meth c H locs 0 0 (MQ below (va_Qi (fun x u => x = q.1 ∧ u = q.2) (preM D cI cZ h ad A) A) ([.ref h, .int p1] : List Value).toArray s 0 0 A) (F0 m 87 ls [])) (n_23 : Nat) (x2_23 : Int32) (σ_23 : MS) (H : Heap) (locs : List Loc) (ls : Array Slot), FM_rules_23 K_87 x1_23 n_23 x2_23 σ_23 = some q → va_P D vwCl (wM cI cZ h ad σ_23) H → va_D A (wM cI cZ h ad σ_23) → va_S A s.heap H locs → lv_has ls 4 [(0, .ref h), (1, .int x1_23), (2, .int x2_23)] → W p l e (headSpec wsM_rules { frames := 5, cells := 0, slots := 0, locals := 108 }).room s m ([.ref h, .int p1] : List Value).toArray below meth c H locs 0 0 (MQ below (va_Qi (fun x u => x = q.1 ∧ u = q.2) (preM D cI cZ h ad A) A) ([.ref h, .int p1] : List Value).toArray s 0 0 A) (F0 m 23 ls []) := by
    intro x1_23 K_87 k_87
    intro n_23
    induction n_23 with
    | zero =>
      intro x2_23 σ_23 H locs ls hF hP hD hS hl
      exact absurd hF (by simp [FM_rules_23])
    | succ n_23 ih_23 =>
      intro x2_23 σ_23 H locs ls hF hP hD hS hl
      rw [FM_rules_23] at hF
      refine lv_aload_n hx hb dX10_rules_23 rfl (lv_at hl 0 rfl) ?_
      refine gM hx hb hts hin hown hK hP 39 (.int (σ_23.1 39)) (by decide) mf_235 rfl dX10_rules_24 ?_
      refine lv_if_ne (tgt := 87) hx hb dX10_rules_27 (by decide) (fun c_27 => ?_) (fun c_27 => ?_)
      · have hF := ob_f c_27 hF
        exact k_87 x2_23 σ_23 _ _ _ hF hP hD hS hl
      · have hF := ob_t c_27 hF
        refine lv_iload_n hx hb dX10_rules_30 rfl (lv_at hl 2 rfl) ?_
        refine lv_if_eq (tgt := 45) hx hb dX10_rules_31 (by decide) (fun c_31 => ?_) (fun c_31 => ?_)
        · have hF := ob_t c_31 hF
          exact b_45 x1_23 x2_23 (fun x2_23 σ_23 => FM_rules_23 K_87 x1_23 n_23 x2_23 σ_23) ih_23 σ_23 _ _ _ hF hP hD hS hl
        · have hF := ob_f c_31 hF
          refine lv_aload_n hx hb dX10_rules_34 rfl (lv_at hl 0 rfl) ?_
          refine gM hx hb hts hin hown hK hP 38 (.int (σ_23.1 38)) (by decide) mf_232 rfl dX10_rules_35 ?_
          refine lv_aload_n hx hb dX10_rules_38 rfl (lv_at hl 0 rfl) ?_
          refine gM hx hb hts hin hown hK hP 31 (.int (σ_23.1 31)) (by decide) mf_148 rfl dX10_rules_39 ?_
          refine lv_icmp_ge (tgt := 87) hx hb dX10_rules_42 (by decide) (fun c_42 => ?_) (fun c_42 => ?_)
          · have hF := ob_t c_42 hF
            exact k_87 x2_23 σ_23 _ _ _ hF hP hD hS hl
          · have hF := ob_f c_42 hF
            exact b_45 x1_23 x2_23 (fun x2_23 σ_23 => FM_rules_23 K_87 x1_23 n_23 x2_23 σ_23) ih_23 σ_23 _ _ _ hF hP hD hS hl
  have b_116 : ∀ (x1_116 : Int32) (x2_116 : Int32) (n_116 : Nat) (x3_116 : Int32) (σ_116 : MS) (H : Heap) (locs : List Loc) (ls : Array Slot), FM_rules_116 x1_116 x2_116 n_116 x3_116 σ_116 = some q → va_P D vwCl (wM cI cZ h ad σ_116) H → va_D A (wM cI cZ h ad σ_116) → va_S A s.heap H locs → lv_has ls 4 [(0, .ref h), (1, .int x1_116), (2, .int x2_116), (3, .int x3_116)] → W p l e (headSpec wsM_rules { frames := 5, cells := 0, slots := 0, locals := 108 }).room s m ([.ref h, .int p1] : List Value).toArray below meth c H locs 0 0 (MQ below (va_Qi (fun x u => x = q.1 ∧ u = q.2) (preM D cI cZ h ad A) A) ([.ref h, .int p1] : List Value).toArray s 0 0 A) (F0 m 116 ls []) := by
    intro x1_116 x2_116
    intro n_116
    induction n_116 with
    | zero =>
      intro x3_116 σ_116 H locs ls hF hP hD hS hl
      exact absurd hF (by simp [FM_rules_116])
    | succ n_116 ih_116 =>
      intro x3_116 σ_116 H locs ls hF hP hD hS hl
      rw [FM_rules_116] at hF
      refine lv_iload_n hx hb dX10_rules_116 rfl (lv_at hl 3 rfl) ?_
      refine lv_iconst (v := (3 : Int32)) hx hb dX10_rules_117 (by decide) ?_
      refine lv_iload_n hx hb dX10_rules_118 rfl (lv_at hl 2 rfl) ?_
      refine lv_imul hx hb dX10_rules_119 ?_
      refine lv_icmp_ge (tgt := 146) hx hb dX10_rules_120 (by decide) (fun c_120 => ?_) (fun c_120 => ?_)
      · have hF := ob_t c_120 hF
        refine lv_iload_n hx hb dX10_rules_146 rfl (lv_at hl 2 rfl) ?_
        exact rwM hx hb hr hlocks hF hK hP hD hS dX10_rules_147
      · have hF := ob_f c_120 hF
        refine lv_aload_n hx hb dX10_rules_123 rfl (lv_at hl 0 rfl) ?_
        refine gM hx hb hts hin hown hK hP 29 (.ref (ad 29)) (by decide) mf_90 rfl dX10_rules_124 ?_
        refine lv_bipush (v := (18 : Int32)) hx hb dX10_rules_127 (by decide) ?_
        refine lv_iload_n hx hb dX10_rules_129 rfl (lv_at hl 1 rfl) ?_
        refine lv_imul hx hb dX10_rules_130 ?_
        refine lv_iload_n hx hb dX10_rules_131 rfl (lv_at hl 3 rfl) ?_
        refine lv_iadd hx hb dX10_rules_132 ?_
        refine lv_aload_n hx hb dX10_rules_133 rfl (lv_at hl 0 rfl) ?_
        refine gM hx hb hts hin hown hK hP 40 (.ref (ad 40)) (by decide) mf_111 rfl dX10_rules_134 ?_
        refine lv_iload_n hx hb dX10_rules_137 rfl (lv_at hl 3 rfl) ?_
        obtain ⟨g_138, hF⟩ := ob_gd hF
        refine ldI hx hb hK hP (at_40 _ _ _ _ _) (σ_116.2 40 x3_116.toNatClampNeg) g_138 rfl dX10_rules_138 ?_
        obtain ⟨g_139, hF⟩ := ob_gd hF
        refine stI hx hb hK hP hD hS (at_29 _ _ _ _ _) (st_29 _ _ _ _ _ _ _) g_139 dX10_rules_139 (fun H locs hP hD hS => ?_)
        refine lv_iinc (v := x3_116 + (1 : Int32)) (lv' := [(3, .int (x3_116 + (1 : Int32))), (0, .ref h), (1, .int x1_116), (2, .int x2_116)]) hx hb dX10_rules_140 hl (k := 3) rfl rfl (by decide) rfl (fun ls hl => ?_)
        refine lv_goto (tgt := 116) hx hb dX10_rules_143 (by decide) ?_
        exact ih_116 (x3_116 + (1 : Int32)) (sa σ_116 29 (((18 : Int32) * x1_116) + x3_116) (σ_116.2 40 x3_116.toNatClampNeg)) _ _ _ hF hP hD hS (lv_sub hl [1, 2, 3, 0] rfl)
  have b_87 : ∀ (x1_87 : Int32) (x2_87 : Int32) (σ_87 : MS) (H : Heap) (locs : List Loc) (ls : Array Slot), FM_rules_87 x1_87 x2_87 σ_87 = some q → va_P D vwCl (wM cI cZ h ad σ_87) H → va_D A (wM cI cZ h ad σ_87) → va_S A s.heap H locs → lv_has ls 4 [(0, .ref h), (1, .int x1_87), (2, .int x2_87)] → W p l e (headSpec wsM_rules { frames := 5, cells := 0, slots := 0, locals := 108 }).room s m ([.ref h, .int p1] : List Value).toArray below meth c H locs 0 0 (MQ below (va_Qi (fun x u => x = q.1 ∧ u = q.2) (preM D cI cZ h ad A) A) ([.ref h, .int p1] : List Value).toArray s 0 0 A) (F0 m 87 ls []) := by
    intro x1_87 x2_87 σ_87 H locs ls hF hP hD hS hl
    unfold FM_rules_87 at hF
    refine lv_aload_n hx hb dX10_rules_87 rfl (lv_at hl 0 rfl) ?_
    refine lv_iconst (v := (0 : Int32)) hx hb dX10_rules_88 (by decide) ?_
    refine pM (ty := .int) (v := (0 : Int32)) hx hb hts hin hown hK hP hD hS 31 (by decide) mf_148 rfl (by decide +kernel) rfl rfl (Nat.le_of_ble_eq_true rfl) (pu_31 _ _ _ _ _ _) dX10_rules_89 (fun H locs hP hD hS => ?_)
    refine lv_aload_n hx hb dX10_rules_92 rfl (lv_at hl 0 rfl) ?_
    refine gM hx hb hts hin hown hK hP 39 (.int (σ_87.1 39)) (by decide) mf_235 rfl dX10_rules_93 ?_
    refine lv_if_eq (tgt := 107) hx hb dX10_rules_96 (by decide) (fun c_96 => ?_) (fun c_96 => ?_)
    · have hF := ob_t c_96 hF
      refine lv_aload_n hx hb dX10_rules_107 rfl (lv_at hl 0 rfl) ?_
      refine gM hx hb hts hin hown hK hP 28 (.ref (ad 28)) (by decide) mf_87 rfl dX10_rules_108 ?_
      refine lv_iload_n hx hb dX10_rules_111 rfl (lv_at hl 1 rfl) ?_
      refine lv_iload_n hx hb dX10_rules_112 rfl (lv_at hl 2 rfl) ?_
      obtain ⟨g_113, hF⟩ := ob_gd hF
      refine stI hx hb hK hP hD hS (at_28 _ _ _ _ _) (st_28 _ _ _ _ _ _ _) g_113 dX10_rules_113 (fun H locs hP hD hS => ?_)
      refine lv_iconst (v := (0 : Int32)) hx hb dX10_rules_114 (by decide) ?_
      refine lv_istore_n (lv' := [(3, .int (0 : Int32)), (0, .ref h), (1, .int x1_87), (2, .int x2_87)]) hx hb dX10_rules_115 rfl hl (by decide) rfl (fun ls hl => ?_)
      exact b_116 x1_87 x2_87 fu (0 : Int32) (sa (si σ_87 31 (0 : Int32)) 28 x1_87 x2_87) _ _ _ hF hP hD hS (lv_sub hl [1, 2, 3, 0] rfl)
    · have hF := ob_f c_96 hF
      refine lv_bipush (v := (-10 : Int32)) hx hb dX10_rules_99 (by decide) ?_
      refine lv_aload_n hx hb dX10_rules_101 rfl (lv_at hl 0 rfl) ?_
      refine gM hx hb hts hin hown hK hP 38 (.int (σ_87.1 38)) (by decide) mf_232 rfl dX10_rules_102 ?_
      refine lv_isub hx hb dX10_rules_105 ?_
      exact rwM hx hb hr hlocks hF hK hP hD hS dX10_rules_106
  have hl := lv_entry ([.ref h, .int p1]) (n := 4) (Nat.le_of_ble_eq_true rfl)
  rw [lg_entry_eq]
  generalize (lg_sl ([.ref h, .int p1]) ++ List.replicate (4 - (lg_sl ([.ref h, .int p1])).length) Slot.unset).toArray = ls at hl ⊢
  have hl : lv_has ls 4 [(0, .ref h), (1, .int p1)] := hl
  unfold FM_rules at hF
  refine lv_iload_n hx hb dX10_rules_0 rfl (lv_at hl 1 rfl) ?_
  refine lv_iconst (v := (0 : Int32)) hx hb dX10_rules_1 (by decide) ?_
  refine lv_iconst (v := (3 : Int32)) hx hb dX10_rules_2 (by decide) ?_
  obtain ⟨q_3, e_3, hF⟩ := ob_bd hF
  refine csM (As := [.int p1, .int (0 : Int32), .int (3 : Int32)]) (rest := []) ⟨hx, hb, hml, hown, hts⟩ (cM_in l p1 (0 : Int32) (3 : Int32) _ e_3) (cw_in hts ⟨Nat.le_of_ble_eq_true rfl, Nat.le_of_ble_eq_true rfl⟩) rfl hl.1 rfl (lv_room (Nat.le_of_ble_eq_true rfl)) dX10_rules_3 ?_
  refine lv_if_ne (tgt := 11) hx hb dX10_rules_6 (by decide) (fun c_6 => ?_) (fun c_6 => ?_)
  · have hF := ob_f c_6 hF
    refine lv_aload_n hx hb dX10_rules_11 rfl (lv_at hl 0 rfl) ?_
    refine lv_iconst (v := (0 : Int32)) hx hb dX10_rules_12 (by decide) ?_
    refine pM (ty := .int) (v := (0 : Int32)) hx hb hts hin hown hK hP hD hS 38 (by decide) mf_232 rfl (by decide +kernel) rfl rfl (Nat.le_of_ble_eq_true rfl) (pu_38 _ _ _ _ _ _) dX10_rules_13 (fun H locs hP hD hS => ?_)
    refine lv_aload_n hx hb dX10_rules_16 rfl (lv_at hl 0 rfl) ?_
    refine lv_iconst (v := (0 : Int32)) hx hb dX10_rules_17 (by decide) ?_
    refine pM (ty := .boolean) (v := (0 : Int32)) hx hb hts hin hown hK hP hD hS 39 (by decide) mf_235 rfl (by decide +kernel) rfl rfl (Nat.le_of_ble_eq_true rfl) (pu_39 _ _ _ _ _ _) dX10_rules_18 (fun H locs hP hD hS => ?_)
    refine lv_iconst (v := (0 : Int32)) hx hb dX10_rules_21 (by decide) ?_
    refine lv_istore_n (lv' := [(2, .int (0 : Int32)), (0, .ref h), (1, .int p1)]) hx hb dX10_rules_22 rfl hl (by decide) rfl (fun ls hl => ?_)
    exact b_23 p1 (fun x2_87 σ_87 => FM_rules_87 p1 x2_87 σ_87) (fun x2_87 σ_87 => b_87 p1 x2_87 σ_87) fu (0 : Int32) (si (si σ 38 (0 : Int32)) 39 (0 : Int32)) _ _ _ hF hP hD hS (lv_sub hl [1, 2, 0] rfl)
  · have hF := ob_t c_6 hF
    refine lv_iconst (v := (-1 : Int32)) hx hb dX10_rules_9 (by decide) ?_
    exact rwM hx hb hr hlocks hF hK hP hD hS dX10_rules_10
def FM_chest (σ : MS) (p1 : Int32) (p2 : Int32) : Option (Int32 × MS) := ((FM_isMade σ p1).bind fun q_2 => (if q_2 = 0 then (some ((-5 : Int32), σ)) else ((FM_in p2 (-1 : Int32) (3 : Int32)).bind fun q_11 => (if q_11 = 0 then (some ((-5 : Int32), σ)) else (gd (inb p1 30) (if (σ.2 20 p1.toNatClampNeg) = (-1 : Int32) then (gd (inb p1 30) (gd (inb p1 30) (some ((σ.2 19 p1.toNatClampNeg), (sa σ 19 p1 p2))))) else (some ((-3 : Int32), σ))))))))
def wsM_chest : List Cond := Cond.code yX10_chest cX10_chest 4 (some .int) :: wMa
set_option maxHeartbeats 4000000 in
set_option maxRecDepth 100000 in
theorem cM_chest (l : Launch) (D : va_G) (cI cZ : ClassId) (h : Nat) (ad : Nat → Nat) (A : Nat → Prop) (σ : MS) (p1 : Int32) (p2 : Int32) (q : Int32 × MS) (hF : FM_chest σ p1 p2 = some q) : Met l yX10_chest wsM_chest { frames := 2, cells := 0, slots := 0, locals := 43 } (va_Pc [.ref h, .int p1, .int p2] (preM D cI cZ h ad A σ)) (va_Qi (fun x u => x = q.1 ∧ u = q.2) (preM D cI cZ h ad A) A) 0 0 A := by
  refine Met.ofW (cc := cX10_chest) (maxL := 4) (ret := (some .int)) (by decide) rfl ?_
  intro p e s m args below meth c s₁ B hml hv
  obtain ⟨rfl, hP, hK, hD⟩ := hv
  have hx := B.exec
  have hb := B.bytes
  have hr := B.returns
  have hts : ∀ w ∈ (Cond.code yX10_chest cX10_chest 4 (some .int) :: wMa), w.before ([.ref h, .int p1, .int p2] : List Value).toArray s = true := atoms_spec (ws := wsM_chest) B.pre
  have hin : ∀ w ∈ wMa, w ∈ (Cond.code yX10_chest cX10_chest 4 (some .int) :: wMa) := fun w hw => List.mem_cons_of_mem _ hw
  have hown : s.vm.findClass RX10 = some m.cls := findClass_of_methodNamed B.named
  have hlocks := B.notSynchronized
  have hS : va_S A s.heap s.heap [] := va_S.rf
  have hl := lv_entry ([.ref h, .int p1, .int p2]) (n := 4) (Nat.le_of_ble_eq_true rfl)
  rw [lg_entry_eq]
  generalize (lg_sl ([.ref h, .int p1, .int p2]) ++ List.replicate (4 - (lg_sl ([.ref h, .int p1, .int p2])).length) Slot.unset).toArray = ls at hl ⊢
  have hl : lv_has ls 4 [(0, .ref h), (1, .int p1), (2, .int p2)] := hl
  unfold FM_chest at hF
  refine lv_aload_n hx hb dX10_chest_0 rfl (lv_at hl 0 rfl) ?_
  refine lv_iload_n hx hb dX10_chest_1 rfl (lv_at hl 1 rfl) ?_
  obtain ⟨q_2, e_2, hF⟩ := ob_bd hF
  refine crM (As := [.int p1]) (rest := []) ⟨hx, hb, hml, hown, hts⟩ (cM_isMade l D cI cZ h ad σ p1 _ e_2) (cw_isMade hts ⟨Nat.le_of_ble_eq_true rfl, Nat.le_of_ble_eq_true rfl⟩) hK hP rfl hl.1 rfl (lv_room (Nat.le_of_ble_eq_true rfl)) dX10_chest_2 ?_
  refine lv_if_eq (tgt := 17) hx hb dX10_chest_5 (by decide) (fun c_5 => ?_) (fun c_5 => ?_)
  · have hF := ob_t c_5 hF
    refine lv_bipush (v := (-5 : Int32)) hx hb dX10_chest_17 (by decide) ?_
    exact rwM hx hb hr hlocks hF hK hP hD hS dX10_chest_19
  · have hF := ob_f c_5 hF
    refine lv_iload_n hx hb dX10_chest_8 rfl (lv_at hl 2 rfl) ?_
    refine lv_iconst (v := (-1 : Int32)) hx hb dX10_chest_9 (by decide) ?_
    refine lv_iconst (v := (3 : Int32)) hx hb dX10_chest_10 (by decide) ?_
    obtain ⟨q_11, e_11, hF⟩ := ob_bd hF
    refine csM (As := [.int p2, .int (-1 : Int32), .int (3 : Int32)]) (rest := []) ⟨hx, hb, hml, hown, hts⟩ (cM_in l p2 (-1 : Int32) (3 : Int32) _ e_11) (cw_in hts ⟨Nat.le_of_ble_eq_true rfl, Nat.le_of_ble_eq_true rfl⟩) rfl hl.1 rfl (lv_room (Nat.le_of_ble_eq_true rfl)) dX10_chest_11 ?_
    refine lv_if_ne (tgt := 20) hx hb dX10_chest_14 (by decide) (fun c_14 => ?_) (fun c_14 => ?_)
    · have hF := ob_f c_14 hF
      refine lv_aload_n hx hb dX10_chest_20 rfl (lv_at hl 0 rfl) ?_
      refine gM hx hb hts hin hown hK hP 20 (.ref (ad 20)) (by decide) mf_65 rfl dX10_chest_21 ?_
      refine lv_iload_n hx hb dX10_chest_24 rfl (lv_at hl 1 rfl) ?_
      obtain ⟨g_25, hF⟩ := ob_gd hF
      refine ldI hx hb hK hP (at_20 _ _ _ _ _) (σ.2 20 p1.toNatClampNeg) g_25 rfl dX10_chest_25 ?_
      refine lv_iconst (v := (-1 : Int32)) hx hb dX10_chest_26 (by decide) ?_
      refine lv_icmp_eq (tgt := 33) hx hb dX10_chest_27 (by decide) (fun c_27 => ?_) (fun c_27 => ?_)
      · have hF := ob_t c_27 hF
        refine lv_aload_n hx hb dX10_chest_33 rfl (lv_at hl 0 rfl) ?_
        refine gM hx hb hts hin hown hK hP 19 (.ref (ad 19)) (by decide) mf_62 rfl dX10_chest_34 ?_
        refine lv_iload_n hx hb dX10_chest_37 rfl (lv_at hl 1 rfl) ?_
        obtain ⟨g_38, hF⟩ := ob_gd hF
        refine ldI hx hb hK hP (at_19 _ _ _ _ _) (σ.2 19 p1.toNatClampNeg) g_38 rfl dX10_chest_38 ?_
        refine lv_istore_n (lv' := [(3, .int (σ.2 19 p1.toNatClampNeg)), (0, .ref h), (1, .int p1), (2, .int p2)]) hx hb dX10_chest_39 rfl hl (by decide) rfl (fun ls hl => ?_)
        refine lv_aload_n hx hb dX10_chest_40 rfl (lv_at hl 1 rfl) ?_
        refine gM hx hb hts hin hown hK hP 19 (.ref (ad 19)) (by decide) mf_62 rfl dX10_chest_41 ?_
        refine lv_iload_n hx hb dX10_chest_44 rfl (lv_at hl 2 rfl) ?_
        refine lv_iload_n hx hb dX10_chest_45 rfl (lv_at hl 3 rfl) ?_
        obtain ⟨g_46, hF⟩ := ob_gd hF
        refine stI hx hb hK hP hD hS (at_19 _ _ _ _ _) (st_19 _ _ _ _ _ _ _) g_46 dX10_chest_46 (fun H locs hP hD hS => ?_)
        refine lv_iload_n hx hb dX10_chest_47 rfl (lv_at hl 0 rfl) ?_
        exact rwM hx hb hr hlocks hF hK hP hD hS dX10_chest_48
      · have hF := ob_f c_27 hF
        refine lv_bipush (v := (-3 : Int32)) hx hb dX10_chest_30 (by decide) ?_
        exact rwM hx hb hr hlocks hF hK hP hD hS dX10_chest_32
    · have hF := ob_t c_14 hF
      refine lv_bipush (v := (-5 : Int32)) hx hb dX10_chest_17 (by decide) ?_
      exact rwM hx hb hr hlocks hF hK hP hD hS dX10_chest_19
def FM_person_50 (x1_50 : Int32) (x2_50 : Int32) (x3_50 : Int32) (t0_50 : Int32) (σ_50 : MS) : Option (Int32 × MS) := (gd (inb x1_50 10) (gd (inb x1_50 10) (some (t0_50, (sa (sa σ_50 26 x1_50 x2_50) 27 x1_50 x3_50)))))
def FM_person (σ : MS) (p1 : Int32) (p2 : Int32) (p3 : Int32) : Option (Int32 × MS) := ((FM_in p1 (0 : Int32) (9 : Int32)).bind fun q_4 => (if q_4 = 0 then (some ((-1 : Int32), σ)) else ((FM_in p2 (0 : Int32) (99 : Int32)).bind fun q_16 => (if q_16 = 0 then (some ((-2 : Int32), σ)) else ((FM_in p3 (0 : Int32) (9 : Int32)).bind fun q_26 => (if q_26 = 0 then (some ((-2 : Int32), σ)) else (gd (inb p1 10) (if (σ.2 26 p1.toNatClampNeg) = (-1 : Int32) then (FM_person_50 p1 p2 p3 (1 : Int32) σ) else (FM_person_50 p1 p2 p3 (0 : Int32) σ)))))))))
def wsM_person : List Cond := Cond.code yX10_person cX10_person 5 (some .int) :: wMa
set_option maxHeartbeats 4000000 in
set_option maxRecDepth 100000 in
theorem cM_person (l : Launch) (D : va_G) (cI cZ : ClassId) (h : Nat) (ad : Nat → Nat) (A : Nat → Prop) (σ : MS) (p1 : Int32) (p2 : Int32) (p3 : Int32) (q : Int32 × MS) (hF : FM_person σ p1 p2 p3 = some q) : Met l yX10_person wsM_person { frames := 1, cells := 0, slots := 0, locals := 22 } (va_Pc [.ref h, .int p1, .int p2, .int p3] (preM D cI cZ h ad A σ)) (va_Qi (fun x u => x = q.1 ∧ u = q.2) (preM D cI cZ h ad A) A) 0 0 A := by
  refine Met.ofW (cc := cX10_person) (maxL := 5) (ret := (some .int)) (by decide) rfl ?_
  intro p e s m args below meth c s₁ B hml hv
  obtain ⟨rfl, hP, hK, hD⟩ := hv
  have hx := B.exec
  have hb := B.bytes
  have hr := B.returns
  have hts : ∀ w ∈ (Cond.code yX10_person cX10_person 5 (some .int) :: wMa), w.before ([.ref h, .int p1, .int p2, .int p3] : List Value).toArray s = true := atoms_spec (ws := wsM_person) B.pre
  have hin : ∀ w ∈ wMa, w ∈ (Cond.code yX10_person cX10_person 5 (some .int) :: wMa) := fun w hw => List.mem_cons_of_mem _ hw
  have hown : s.vm.findClass RX10 = some m.cls := findClass_of_methodNamed B.named
  have hlocks := B.notSynchronized
  have hS : va_S A s.heap s.heap [] := va_S.rf
  have b_50 : ∀ (x1_50 : Int32) (x2_50 : Int32) (x3_50 : Int32) (t0_50 : Int32) (σ_50 : MS) (H : Heap) (locs : List Loc) (ls : Array Slot), FM_person_50 x1_50 x2_50 x3_50 t0_50 σ_50 = some q → va_P D vwCl (wM cI cZ h ad σ_50) H → va_D A (wM cI cZ h ad σ_50) → va_S A s.heap H locs → lv_has ls 5 [(0, .ref h), (1, .int x1_50), (2, .int x2_50), (3, .int x3_50)] → W p l e (headSpec wsM_person { frames := 1, cells := 0, slots := 0, locals := 22 }).room s m ([.ref h, .int p1, .int p2, .int p3] : List Value).toArray below meth c H locs 0 0 (MQ below (va_Qi (fun x u => x = q.1 ∧ u = q.2) (preM D cI cZ h ad A) A) ([.ref h, .int p1, .int p2, .int p3] : List Value).toArray s 0 0 A) (F0 m 50 ls [.int t0_50]) := by
    intro x1_50 x2_50 x3_50 t0_50 σ_50 H locs ls hF hP hD hS hl
    unfold FM_person_50 at hF
    refine lv_istore (lv' := [(4, .int t0_50), (0, .ref h), (1, .int x1_50), (2, .int x2_50), (3, .int x3_50)]) hx hb dX10_person_50 hl (by decide) rfl (fun ls hl => ?_)
    refine lv_aload_n hx hb dX10_person_52 rfl (lv_at hl 1 rfl) ?_
    refine gM hx hb hts hin hown hK hP 26 (.ref (ad 26)) (by decide) mf_81 rfl dX10_person_53 ?_
    refine lv_iload_n hx hb dX10_person_56 rfl (lv_at hl 2 rfl) ?_
    refine lv_iload_n hx hb dX10_person_57 rfl (lv_at hl 3 rfl) ?_
    obtain ⟨g_58, hF⟩ := ob_gd hF
    refine stI hx hb hK hP hD hS (at_26 _ _ _ _ _) (st_26 _ _ _ _ _ _ _) g_58 dX10_person_58 (fun H locs hP hD hS => ?_)
    refine lv_aload_n hx hb dX10_person_59 rfl (lv_at hl 1 rfl) ?_
    refine gM hx hb hts hin hown hK hP 27 (.ref (ad 27)) (by decide) mf_84 rfl dX10_person_60 ?_
    refine lv_iload_n hx hb dX10_person_63 rfl (lv_at hl 2 rfl) ?_
    refine lv_iload_n hx hb dX10_person_64 rfl (lv_at hl 4 rfl) ?_
    obtain ⟨g_65, hF⟩ := ob_gd hF
    refine stI hx hb hK hP hD hS (at_27 _ _ _ _ _) (st_27 _ _ _ _ _ _ _) g_65 dX10_person_65 (fun H locs hP hD hS => ?_)
    refine lv_iload hx hb dX10_person_66 (lv_at hl 0 rfl) ?_
    exact rwM hx hb hr hlocks hF hK hP hD hS dX10_person_68
  have hl := lv_entry ([.ref h, .int p1, .int p2, .int p3]) (n := 5) (Nat.le_of_ble_eq_true rfl)
  rw [lg_entry_eq]
  generalize (lg_sl ([.ref h, .int p1, .int p2, .int p3]) ++ List.replicate (5 - (lg_sl ([.ref h, .int p1, .int p2, .int p3])).length) Slot.unset).toArray = ls at hl ⊢
  have hl : lv_has ls 5 [(0, .ref h), (1, .int p1), (2, .int p2), (3, .int p3)] := hl
  unfold FM_person at hF
  refine lv_iload_n hx hb dX10_person_0 rfl (lv_at hl 1 rfl) ?_
  refine lv_iconst (v := (0 : Int32)) hx hb dX10_person_1 (by decide) ?_
  refine lv_bipush (v := (9 : Int32)) hx hb dX10_person_2 (by decide) ?_
  obtain ⟨q_4, e_4, hF⟩ := ob_bd hF
  refine csM (As := [.int p1, .int (0 : Int32), .int (9 : Int32)]) (rest := []) ⟨hx, hb, hml, hown, hts⟩ (cM_in l p1 (0 : Int32) (9 : Int32) _ e_4) (cw_in hts ⟨Nat.le_of_ble_eq_true rfl, Nat.le_of_ble_eq_true rfl⟩) rfl hl.1 rfl (lv_room (Nat.le_of_ble_eq_true rfl)) dX10_person_4 ?_
  refine lv_if_ne (tgt := 12) hx hb dX10_person_7 (by decide) (fun c_7 => ?_) (fun c_7 => ?_)
  · have hF := ob_f c_7 hF
    refine lv_iload_n hx hb dX10_person_12 rfl (lv_at hl 2 rfl) ?_
    refine lv_iconst (v := (0 : Int32)) hx hb dX10_person_13 (by decide) ?_
    refine lv_bipush (v := (99 : Int32)) hx hb dX10_person_14 (by decide) ?_
    obtain ⟨q_16, e_16, hF⟩ := ob_bd hF
    refine csM (As := [.int p2, .int (0 : Int32), .int (99 : Int32)]) (rest := []) ⟨hx, hb, hml, hown, hts⟩ (cM_in l p2 (0 : Int32) (99 : Int32) _ e_16) (cw_in hts ⟨Nat.le_of_ble_eq_true rfl, Nat.le_of_ble_eq_true rfl⟩) rfl hl.1 rfl (lv_room (Nat.le_of_ble_eq_true rfl)) dX10_person_16 ?_
    refine lv_if_eq (tgt := 32) hx hb dX10_person_19 (by decide) (fun c_19 => ?_) (fun c_19 => ?_)
    · have hF := ob_t c_19 hF
      refine lv_bipush (v := (-2 : Int32)) hx hb dX10_person_32 (by decide) ?_
      exact rwM hx hb hr hlocks hF hK hP hD hS dX10_person_34
    · have hF := ob_f c_19 hF
      refine lv_iload_n hx hb dX10_person_22 rfl (lv_at hl 3 rfl) ?_
      refine lv_iconst (v := (0 : Int32)) hx hb dX10_person_23 (by decide) ?_
      refine lv_bipush (v := (9 : Int32)) hx hb dX10_person_24 (by decide) ?_
      obtain ⟨q_26, e_26, hF⟩ := ob_bd hF
      refine csM (As := [.int p3, .int (0 : Int32), .int (9 : Int32)]) (rest := []) ⟨hx, hb, hml, hown, hts⟩ (cM_in l p3 (0 : Int32) (9 : Int32) _ e_26) (cw_in hts ⟨Nat.le_of_ble_eq_true rfl, Nat.le_of_ble_eq_true rfl⟩) rfl hl.1 rfl (lv_room (Nat.le_of_ble_eq_true rfl)) dX10_person_26 ?_
      refine lv_if_ne (tgt := 35) hx hb dX10_person_29 (by decide) (fun c_29 => ?_) (fun c_29 => ?_)
      · have hF := ob_f c_29 hF
        refine lv_aload_n hx hb dX10_person_35 rfl (lv_at hl 0 rfl) ?_
        refine gM hx hb hts hin hown hK hP 26 (.ref (ad 26)) (by decide) mf_81 rfl dX10_person_36 ?_
        refine lv_iload_n hx hb dX10_person_39 rfl (lv_at hl 1 rfl) ?_
        obtain ⟨g_40, hF⟩ := ob_gd hF
        refine ldI hx hb hK hP (at_26 _ _ _ _ _) (σ.2 26 p1.toNatClampNeg) g_40 rfl dX10_person_40 ?_
        refine lv_iconst (v := (-1 : Int32)) hx hb dX10_person_41 (by decide) ?_
        refine lv_icmp_ne (tgt := 49) hx hb dX10_person_42 (by decide) (fun c_42 => ?_) (fun c_42 => ?_)
        · have hF := ob_f c_42 hF
          refine lv_iconst (v := (0 : Int32)) hx hb dX10_person_49 (by decide) ?_
          exact b_50 p1 p2 p3 (0 : Int32) σ _ _ _ hF hP hD hS hl
        · have hF := ob_t c_42 hF
          refine lv_iconst (v := (1 : Int32)) hx hb dX10_person_45 (by decide) ?_
          refine lv_goto (tgt := 50) hx hb dX10_person_46 (by decide) ?_
          exact b_50 p1 p2 p3 (1 : Int32) σ _ _ _ hF hP hD hS hl
      · have hF := ob_t c_29 hF
        refine lv_bipush (v := (-2 : Int32)) hx hb dX10_person_32 (by decide) ?_
        exact rwM hx hb hr hlocks hF hK hP hD hS dX10_person_34
  · have hF := ob_t c_7 hF
    refine lv_iconst (v := (-1 : Int32)) hx hb dX10_person_10 (by decide) ?_
    exact rwM hx hb hr hlocks hF hK hP hD hS dX10_person_11
def FM_mayWear_220 (σ : MS) (K_11 : Int32 → Option Int32) (x1_220 : Int32) (x2_220 : Int32) (x3_220 : Int32) (x4_220 : Int32) (x5_220 : Int32) (t0_220 : Int32) : Option Int32 := (if t0_220 = 0 then (some (0 : Int32)) else (K_11 (x5_220 + (1 : Int32))))
def FM_mayWear_127 (σ : MS) (K_11 : Int32 → Option Int32) (x1_127 : Int32) (x2_127 : Int32) (x3_127 : Int32) (x4_127 : Int32) (x5_127 : Int32) (x6_127 : Int32) (t0_127 : Int32) : Option Int32 := (gd (inb (x6_127 + (1 : Int32)) 72) (if (σ.2 29 (x6_127 + (1 : Int32)).toNatClampNeg) = (60 : Int32) then (gd (inb (x6_127 + (2 : Int32)) 72) (if (σ.2 29 (x6_127 + (2 : Int32)).toNatClampNeg) ≤ t0_127 then (FM_mayWear_220 σ K_11 x1_127 x2_127 x3_127 x4_127 x5_127 (0 : Int32)) else (FM_mayWear_220 σ K_11 x1_127 x2_127 x3_127 x4_127 x5_127 (1 : Int32)))) else (gd (inb (x6_127 + (1 : Int32)) 72) (if (σ.2 29 (x6_127 + (1 : Int32)).toNatClampNeg) = (61 : Int32) then (gd (inb (x6_127 + (2 : Int32)) 72) (if t0_127 = (σ.2 29 (x6_127 + (2 : Int32)).toNatClampNeg) then (FM_mayWear_220 σ K_11 x1_127 x2_127 x3_127 x4_127 x5_127 (1 : Int32)) else (FM_mayWear_220 σ K_11 x1_127 x2_127 x3_127 x4_127 x5_127 (0 : Int32)))) else (gd (inb (x6_127 + (2 : Int32)) 72) (if t0_127 ≤ (σ.2 29 (x6_127 + (2 : Int32)).toNatClampNeg) then (FM_mayWear_220 σ K_11 x1_127 x2_127 x3_127 x4_127 x5_127 (0 : Int32)) else (FM_mayWear_220 σ K_11 x1_127 x2_127 x3_127 x4_127 x5_127 (1 : Int32))))))))
def FM_mayWear_11 (σ : MS) (x1_11 : Int32) (x2_11 : Int32) (x3_11 : Int32) (x4_11 : Int32) : Nat → Int32 → Option Int32
  | 0, _ => none
  | n_11 + 1, x5_11 => (gd (inb x4_11 4) (if (σ.2 28 x4_11.toNatClampNeg) ≤ x5_11 then (some (1 : Int32)) else (gd (inb (((18 : Int32) * x4_11) + ((3 : Int32) * x5_11)) 72) (if (σ.2 29 (((18 : Int32) * x4_11) + ((3 : Int32) * x5_11)).toNatClampNeg) = 0 then (FM_mayWear_127 σ (fun x5_11 => FM_mayWear_11 σ  x1_11 x2_11 x3_11 x4_11 n_11 x5_11) x1_11 x2_11 x3_11 x4_11 x5_11 (((18 : Int32) * x4_11) + ((3 : Int32) * x5_11)) x3_11) else (if (σ.2 29 (((18 : Int32) * x4_11) + ((3 : Int32) * x5_11)).toNatClampNeg) = (1 : Int32) then (gd (inb x2_11 10) (FM_mayWear_127 σ (fun x5_11 => FM_mayWear_11 σ  x1_11 x2_11 x3_11 x4_11 n_11 x5_11) x1_11 x2_11 x3_11 x4_11 x5_11 (((18 : Int32) * x4_11) + ((3 : Int32) * x5_11)) (σ.2 26 x2_11.toNatClampNeg))) else (if (σ.2 29 (((18 : Int32) * x4_11) + ((3 : Int32) * x5_11)).toNatClampNeg) = (2 : Int32) then (gd (inb x2_11 10) (FM_mayWear_127 σ (fun x5_11 => FM_mayWear_11 σ  x1_11 x2_11 x3_11 x4_11 n_11 x5_11) x1_11 x2_11 x3_11 x4_11 x5_11 (((18 : Int32) * x4_11) + ((3 : Int32) * x5_11)) (σ.2 27 x2_11.toNatClampNeg))) else (if (σ.2 29 (((18 : Int32) * x4_11) + ((3 : Int32) * x5_11)).toNatClampNeg) = (3 : Int32) then (gd (inb x1_11 30) (FM_mayWear_127 σ (fun x5_11 => FM_mayWear_11 σ  x1_11 x2_11 x3_11 x4_11 n_11 x5_11) x1_11 x2_11 x3_11 x4_11 x5_11 (((18 : Int32) * x4_11) + ((3 : Int32) * x5_11)) (σ.2 8 x1_11.toNatClampNeg))) else (if (σ.2 29 (((18 : Int32) * x4_11) + ((3 : Int32) * x5_11)).toNatClampNeg) = (4 : Int32) then (gd (inb x1_11 30) (if (σ.2 15 x1_11.toNatClampNeg) = 0 then (FM_mayWear_127 σ (fun x5_11 => FM_mayWear_11 σ  x1_11 x2_11 x3_11 x4_11 n_11 x5_11) x1_11 x2_11 x3_11 x4_11 x5_11 (((18 : Int32) * x4_11) + ((3 : Int32) * x5_11)) (0 : Int32)) else (FM_mayWear_127 σ (fun x5_11 => FM_mayWear_11 σ  x1_11 x2_11 x3_11 x4_11 n_11 x5_11) x1_11 x2_11 x3_11 x4_11 x5_11 (((18 : Int32) * x4_11) + ((3 : Int32) * x5_11)) (1 : Int32)))) else (gd (inb x1_11 30) (FM_mayWear_127 σ (fun x5_11 => FM_mayWear_11 σ  x1_11 x2_11 x3_11 x4_11 n_11 x5_11) x1_11 x2_11 x3_11 x4_11 x5_11 (((18 : Int32) * x4_11) + ((3 : Int32) * x5_11)) (σ.2 13 x1_11.toNatClampNeg)))))))))))
def FM_mayWear (σ : MS) (p1 : Int32) (p2 : Int32) (p3 : Int32) : Option Int32 := (gd (inb p1 30) (FM_mayWear_11 σ p1 p2 p3 (σ.2 19 p1.toNatClampNeg) fu (0 : Int32)))
def wsM_mayWear : List Cond := Cond.code yX10_mayWear cX10_mayWear 10 (some .boolean) :: wMa
theorem cw_mayWear {R : Room} {s : State} {args : Array Value} {y : MethodName} {c : ByteArray} {n : Nat} {r : Option FieldType} (hts : ∀ w ∈ (Cond.code y c n r :: wMa), w.before args s = true) (hR : 0 + 1 ≤ R.frames ∧ 8 + (10 + 11) + 0 ≤ R.locals) : CallW R s args RX10 RX10 261 yX10_mayWear cX10_mayWear 10 (some .boolean) wsM_mayWear { frames := 0, cells := 0, slots := 0, locals := 0 } 0 0 3 := cwV 3 hts (goodMV mm_261 mi_mayWear ms_mayWear m_ini mc_mayWear) rfl rfl rfl (by decide +kernel) hR
set_option maxHeartbeats 4000000 in
set_option maxRecDepth 100000 in
theorem cM_mayWear (l : Launch) (D : va_G) (cI cZ : ClassId) (h : Nat) (ad : Nat → Nat) (σ : MS) (p1 : Int32) (p2 : Int32) (p3 : Int32) (q : Int32) (hF : FM_mayWear σ p1 p2 p3 = some q) : Met l yX10_mayWear wsM_mayWear { frames := 0, cells := 0, slots := 0, locals := 0 } (va_Pc [.ref h, .int p1, .int p2, .int p3] (preR D cI cZ h ad σ)) (vp_Si (fun x => x = q)) 0 0 (fun _ => False) := by
  refine Met.ofW (cc := cX10_mayWear) (maxL := 10) (ret := (some .boolean)) (by decide) rfl ?_
  intro p e s m args below meth c s₁ B hml hv
  obtain ⟨rfl, hP, hK⟩ := hv
  have hx := B.exec
  have hb := B.bytes
  have hr := B.returns
  have hts : ∀ w ∈ (Cond.code yX10_mayWear cX10_mayWear 10 (some .boolean) :: wMa), w.before ([.ref h, .int p1, .int p2, .int p3] : List Value).toArray s = true := atoms_spec (ws := wsM_mayWear) B.pre
  have hin : ∀ w ∈ wMa, w ∈ (Cond.code yX10_mayWear cX10_mayWear 10 (some .boolean) :: wMa) := fun w hw => List.mem_cons_of_mem _ hw
  have hown : s.vm.findClass RX10 = some m.cls := findClass_of_methodNamed B.named
  have hlocks := B.notSynchronized
  have b_220 : ∀ (x1_220 : Int32) (x2_220 : Int32) (x3_220 : Int32) (x4_220 : Int32) (x5_220 : Int32) (K_11 : Int32 → Option Int32) (k_11 : ∀ (x5_11 : Int32) (ls : Array Slot), K_11 x5_11 = some q → lv_has ls 10 [(0, .ref h), (1, .int x1_220), (2, .int x2_220), (3, .int x3_220), (4, .int x4_220), (5, .int x5_11)] → W p l e (headSpec wsM_mayWear { frames := 0, cells := 0, slots := 0, locals := 0 }).room s m ([.ref h, .int p1, .int p2, .int p3] : List Value).toArray below meth c s.heap [] 0 0 (MQ below (vp_Si (fun x => x = q)) ([.ref h, .int p1, .int p2, .int p3] : List Value).toArray s 0 0 (fun _ => False)) (F0 m 11 ls [])) (t0_220 : Int32) (ls : Array Slot), FM_mayWear_220 σ K_11 x1_220 x2_220 x3_220 x4_220 x5_220 t0_220 = some q → lv_has ls 10 [(0, .ref h), (1, .int x1_220), (2, .int x2_220), (3, .int x3_220), (4, .int x4_220), (5, .int x5_220)] → W p l e (headSpec wsM_mayWear { frames := 0, cells := 0, slots := 0, locals := 0 }).room s m ([.ref h, .int p1, .int p2, .int p3] : List Value).toArray below meth c s.heap [] 0 0 (MQ below (vp_Si (fun x => x = q)) ([.ref h, .int p1, .int p2, .int p3] : List Value).toArray s 0 0 (fun _ => False)) (F0 m 220 ls [.int t0_220]) := by
    intro x1_220 x2_220 x3_220 x4_220 x5_220 K_11 k_11 t0_220 ls hF hl
    unfold FM_mayWear_220 at hF
    refine lv_istore (lv' := [(9, .int t0_220), (0, .ref h), (1, .int x1_220), (2, .int x2_220), (3, .int x3_220), (4, .int x4_220), (5, .int x5_220)]) hx hb dX10_mayWear_220 hl (by decide) rfl (fun ls hl => ?_)
    refine lv_iload hx hb dX10_mayWear_222 (lv_at hl 0 rfl) ?_
    refine lv_if_ne (tgt := 229) hx hb dX10_mayWear_224 (by decide) (fun c_224 => ?_) (fun c_224 => ?_)
    · have hF := ob_f c_224 hF
      refine lv_iinc (v := x5_220 + (1 : Int32)) (lv' := [(5, .int (x5_220 + (1 : Int32))), (9, .int t0_220), (0, .ref h), (1, .int x1_220), (2, .int x2_220), (3, .int x3_220), (4, .int x4_220)]) hx hb dX10_mayWear_229 hl (k := 6) rfl rfl (by decide) rfl (fun ls hl => ?_)
      refine lv_goto (tgt := 11) hx hb dX10_mayWear_232 (by decide) ?_
      exact k_11 (x5_220 + (1 : Int32)) _ hF (lv_sub hl [2, 3, 4, 5, 6, 0] rfl)
    · have hF := ob_t c_224 hF
      refine lv_iconst (v := (0 : Int32)) hx hb dX10_mayWear_227 (by decide) ?_
      exact rzM hx hb hr hlocks rfl hF dX10_mayWear_228
  have b_127 : ∀ (x1_127 : Int32) (x2_127 : Int32) (x3_127 : Int32) (x4_127 : Int32) (x5_127 : Int32) (x6_127 : Int32) (K_11 : Int32 → Option Int32) (k_11 : ∀ (x5_11 : Int32) (ls : Array Slot), K_11 x5_11 = some q → lv_has ls 10 [(0, .ref h), (1, .int x1_127), (2, .int x2_127), (3, .int x3_127), (4, .int x4_127), (5, .int x5_11)] → W p l e (headSpec wsM_mayWear { frames := 0, cells := 0, slots := 0, locals := 0 }).room s m ([.ref h, .int p1, .int p2, .int p3] : List Value).toArray below meth c s.heap [] 0 0 (MQ below (vp_Si (fun x => x = q)) ([.ref h, .int p1, .int p2, .int p3] : List Value).toArray s 0 0 (fun _ => False)) (F0 m 11 ls [])) (t0_127 : Int32) (ls : Array Slot), FM_mayWear_127 σ K_11 x1_127 x2_127 x3_127 x4_127 x5_127 x6_127 t0_127 = some q → lv_has ls 10 [(0, .ref h), (1, .int x1_127), (2, .int x2_127), (3, .int x3_127), (4, .int x4_127), (5, .int x5_127), (6, .int x6_127)] → W p l e (headSpec wsM_mayWear { frames := 0, cells := 0, slots := 0, locals := 0 }).room s m ([.ref h, .int p1, .int p2, .int p3] : List Value).toArray below meth c s.heap [] 0 0 (MQ below (vp_Si (fun x => x = q)) ([.ref h, .int p1, .int p2, .int p3] : List Value).toArray s 0 0 (fun _ => False)) (F0 m 127 ls [.int t0_127]) := by
    intro x1_127 x2_127 x3_127 x4_127 x5_127 x6_127 K_11 k_11 t0_127 ls hF hl
    unfold FM_mayWear_127 at hF
    refine lv_istore (lv' := [(8, .int t0_127), (0, .ref h), (1, .int x1_127), (2, .int x2_127), (3, .int x3_127), (4, .int x4_127), (5, .int x5_127), (6, .int x6_127)]) hx hb dX10_mayWear_127 hl (by decide) rfl (fun ls hl => ?_)
    refine lv_aload_n hx hb dX10_mayWear_129 rfl (lv_at hl 1 rfl) ?_
    refine gM hx hb hts hin hown hK hP 29 (.ref (ad 29)) (by decide) mf_90 rfl dX10_mayWear_130 ?_
    refine lv_iload hx hb dX10_mayWear_133 (lv_at hl 7 rfl) ?_
    refine lv_iconst (v := (1 : Int32)) hx hb dX10_mayWear_135 (by decide) ?_
    refine lv_iadd hx hb dX10_mayWear_136 ?_
    obtain ⟨g_137, hF⟩ := ob_gd hF
    refine ldI hx hb hK hP (at_29 _ _ _ _ _) (σ.2 29 (x6_127 + (1 : Int32)).toNatClampNeg) g_137 rfl dX10_mayWear_137 ?_
    refine lv_bipush (v := (60 : Int32)) hx hb dX10_mayWear_138 (by decide) ?_
    refine lv_icmp_ne (tgt := 165) hx hb dX10_mayWear_140 (by decide) (fun c_140 => ?_) (fun c_140 => ?_)
    · have hF := ob_f c_140 hF
      refine lv_aload_n hx hb dX10_mayWear_165 rfl (lv_at hl 1 rfl) ?_
      refine gM hx hb hts hin hown hK hP 29 (.ref (ad 29)) (by decide) mf_90 rfl dX10_mayWear_166 ?_
      refine lv_iload hx hb dX10_mayWear_169 (lv_at hl 7 rfl) ?_
      refine lv_iconst (v := (1 : Int32)) hx hb dX10_mayWear_171 (by decide) ?_
      refine lv_iadd hx hb dX10_mayWear_172 ?_
      obtain ⟨g_173, hF⟩ := ob_gd hF
      refine ldI hx hb hK hP (at_29 _ _ _ _ _) (σ.2 29 (x6_127 + (1 : Int32)).toNatClampNeg) g_173 rfl dX10_mayWear_173 ?_
      refine lv_bipush (v := (61 : Int32)) hx hb dX10_mayWear_174 (by decide) ?_
      refine lv_icmp_ne (tgt := 201) hx hb dX10_mayWear_176 (by decide) (fun c_176 => ?_) (fun c_176 => ?_)
      · have hF := ob_f c_176 hF
        refine lv_iload hx hb dX10_mayWear_201 (lv_at hl 0 rfl) ?_
        refine lv_aload_n hx hb dX10_mayWear_203 rfl (lv_at hl 1 rfl) ?_
        refine gM hx hb hts hin hown hK hP 29 (.ref (ad 29)) (by decide) mf_90 rfl dX10_mayWear_204 ?_
        refine lv_iload hx hb dX10_mayWear_207 (lv_at hl 7 rfl) ?_
        refine lv_iconst (v := (2 : Int32)) hx hb dX10_mayWear_209 (by decide) ?_
        refine lv_iadd hx hb dX10_mayWear_210 ?_
        obtain ⟨g_211, hF⟩ := ob_gd hF
        refine ldI hx hb hK hP (at_29 _ _ _ _ _) (σ.2 29 (x6_127 + (2 : Int32)).toNatClampNeg) g_211 rfl dX10_mayWear_211 ?_
        refine lv_icmp_le (tgt := 219) hx hb dX10_mayWear_212 (by decide) (fun c_212 => ?_) (fun c_212 => ?_)
        · have hF := ob_t c_212 hF
          refine lv_iconst (v := (0 : Int32)) hx hb dX10_mayWear_219 (by decide) ?_
          exact b_220 x1_127 x2_127 x3_127 x4_127 x5_127 K_11 k_11 (0 : Int32) _ hF (lv_sub hl [1, 2, 3, 4, 5, 6] rfl)
        · have hF := ob_f c_212 hF
          refine lv_iconst (v := (1 : Int32)) hx hb dX10_mayWear_215 (by decide) ?_
          refine lv_goto (tgt := 220) hx hb dX10_mayWear_216 (by decide) ?_
          exact b_220 x1_127 x2_127 x3_127 x4_127 x5_127 K_11 k_11 (1 : Int32) _ hF (lv_sub hl [1, 2, 3, 4, 5, 6] rfl)
      · have hF := ob_t c_176 hF
        refine lv_iload hx hb dX10_mayWear_179 (lv_at hl 0 rfl) ?_
        refine lv_aload_n hx hb dX10_mayWear_181 rfl (lv_at hl 1 rfl) ?_
        refine gM hx hb hts hin hown hK hP 29 (.ref (ad 29)) (by decide) mf_90 rfl dX10_mayWear_182 ?_
        refine lv_iload hx hb dX10_mayWear_185 (lv_at hl 7 rfl) ?_
        refine lv_iconst (v := (2 : Int32)) hx hb dX10_mayWear_187 (by decide) ?_
        refine lv_iadd hx hb dX10_mayWear_188 ?_
        obtain ⟨g_189, hF⟩ := ob_gd hF
        refine ldI hx hb hK hP (at_29 _ _ _ _ _) (σ.2 29 (x6_127 + (2 : Int32)).toNatClampNeg) g_189 rfl dX10_mayWear_189 ?_
        refine lv_icmp_ne (tgt := 197) hx hb dX10_mayWear_190 (by decide) (fun c_190 => ?_) (fun c_190 => ?_)
        · have hF := ob_f c_190 hF
          refine lv_iconst (v := (0 : Int32)) hx hb dX10_mayWear_197 (by decide) ?_
          refine lv_goto (tgt := 220) hx hb dX10_mayWear_198 (by decide) ?_
          exact b_220 x1_127 x2_127 x3_127 x4_127 x5_127 K_11 k_11 (0 : Int32) _ hF (lv_sub hl [1, 2, 3, 4, 5, 6] rfl)
        · have hF := ob_t c_190 hF
          refine lv_iconst (v := (1 : Int32)) hx hb dX10_mayWear_193 (by decide) ?_
          refine lv_goto (tgt := 220) hx hb dX10_mayWear_194 (by decide) ?_
          exact b_220 x1_127 x2_127 x3_127 x4_127 x5_127 K_11 k_11 (1 : Int32) _ hF (lv_sub hl [1, 2, 3, 4, 5, 6] rfl)
    · have hF := ob_t c_140 hF
      refine lv_iload hx hb dX10_mayWear_143 (lv_at hl 0 rfl) ?_
      refine lv_aload_n hx hb dX10_mayWear_145 rfl (lv_at hl 1 rfl) ?_
      refine gM hx hb hts hin hown hK hP 29 (.ref (ad 29)) (by decide) mf_90 rfl dX10_mayWear_146 ?_
      refine lv_iload hx hb dX10_mayWear_149 (lv_at hl 7 rfl) ?_
      refine lv_iconst (v := (2 : Int32)) hx hb dX10_mayWear_151 (by decide) ?_
      refine lv_iadd hx hb dX10_mayWear_152 ?_
      obtain ⟨g_153, hF⟩ := ob_gd hF
      refine ldI hx hb hK hP (at_29 _ _ _ _ _) (σ.2 29 (x6_127 + (2 : Int32)).toNatClampNeg) g_153 rfl dX10_mayWear_153 ?_
      refine lv_icmp_ge (tgt := 161) hx hb dX10_mayWear_154 (by decide) (fun c_154 => ?_) (fun c_154 => ?_)
      · have hF := ob_t c_154 hF
        refine lv_iconst (v := (0 : Int32)) hx hb dX10_mayWear_161 (by decide) ?_
        refine lv_goto (tgt := 220) hx hb dX10_mayWear_162 (by decide) ?_
        exact b_220 x1_127 x2_127 x3_127 x4_127 x5_127 K_11 k_11 (0 : Int32) _ hF (lv_sub hl [1, 2, 3, 4, 5, 6] rfl)
      · have hF := ob_f c_154 hF
        refine lv_iconst (v := (1 : Int32)) hx hb dX10_mayWear_157 (by decide) ?_
        refine lv_goto (tgt := 220) hx hb dX10_mayWear_158 (by decide) ?_
        exact b_220 x1_127 x2_127 x3_127 x4_127 x5_127 K_11 k_11 (1 : Int32) _ hF (lv_sub hl [1, 2, 3, 4, 5, 6] rfl)
  have b_11 : ∀ (x1_11 : Int32) (x2_11 : Int32) (x3_11 : Int32) (x4_11 : Int32) (n_11 : Nat) (x5_11 : Int32) (ls : Array Slot), FM_mayWear_11 σ x1_11 x2_11 x3_11 x4_11 n_11 x5_11 = some q → lv_has ls 10 [(0, .ref h), (1, .int x1_11), (2, .int x2_11), (3, .int x3_11), (4, .int x4_11), (5, .int x5_11)] → W p l e (headSpec wsM_mayWear { frames := 0, cells := 0, slots := 0, locals := 0 }).room s m ([.ref h, .int p1, .int p2, .int p3] : List Value).toArray below meth c s.heap [] 0 0 (MQ below (vp_Si (fun x => x = q)) ([.ref h, .int p1, .int p2, .int p3] : List Value).toArray s 0 0 (fun _ => False)) (F0 m 11 ls []) := by
    intro x1_11 x2_11 x3_11 x4_11
    intro n_11
    induction n_11 with
    | zero =>
      intro x5_11 ls hF hl
      exact absurd hF (by simp [FM_mayWear_11])
    | succ n_11 ih_11 =>
      intro x5_11 ls hF hl
      rw [FM_mayWear_11] at hF
      refine lv_iload hx hb dX10_mayWear_11 (lv_at hl 5 rfl) ?_
      refine lv_aload_n hx hb dX10_mayWear_13 rfl (lv_at hl 0 rfl) ?_
      refine gM hx hb hts hin hown hK hP 28 (.ref (ad 28)) (by decide) mf_87 rfl dX10_mayWear_14 ?_
      refine lv_iload hx hb dX10_mayWear_17 (lv_at hl 4 rfl) ?_
      obtain ⟨g_19, hF⟩ := ob_gd hF
      refine ldI hx hb hK hP (at_28 _ _ _ _ _) (σ.2 28 x4_11.toNatClampNeg) g_19 rfl dX10_mayWear_19 ?_
      refine lv_icmp_ge (tgt := 235) hx hb dX10_mayWear_20 (by decide) (fun c_20 => ?_) (fun c_20 => ?_)
      · have hF := ob_t c_20 hF
        refine lv_iconst (v := (1 : Int32)) hx hb dX10_mayWear_235 (by decide) ?_
        exact rzM hx hb hr hlocks rfl hF dX10_mayWear_236
      · have hF := ob_f c_20 hF
        refine lv_bipush (v := (18 : Int32)) hx hb dX10_mayWear_23 (by decide) ?_
        refine lv_iload hx hb dX10_mayWear_25 (lv_at hl 4 rfl) ?_
        refine lv_imul hx hb dX10_mayWear_27 ?_
        refine lv_iconst (v := (3 : Int32)) hx hb dX10_mayWear_28 (by decide) ?_
        refine lv_iload hx hb dX10_mayWear_29 (lv_at hl 5 rfl) ?_
        refine lv_imul hx hb dX10_mayWear_31 ?_
        refine lv_iadd hx hb dX10_mayWear_32 ?_
        refine lv_istore (lv' := [(6, .int (((18 : Int32) * x4_11) + ((3 : Int32) * x5_11))), (0, .ref h), (1, .int x1_11), (2, .int x2_11), (3, .int x3_11), (4, .int x4_11), (5, .int x5_11)]) hx hb dX10_mayWear_33 hl (by decide) rfl (fun ls hl => ?_)
        refine lv_aload_n hx hb dX10_mayWear_35 rfl (lv_at hl 1 rfl) ?_
        refine gM hx hb hts hin hown hK hP 29 (.ref (ad 29)) (by decide) mf_90 rfl dX10_mayWear_36 ?_
        refine lv_iload hx hb dX10_mayWear_39 (lv_at hl 0 rfl) ?_
        obtain ⟨g_41, hF⟩ := ob_gd hF
        refine ldI hx hb hK hP (at_29 _ _ _ _ _) (σ.2 29 (((18 : Int32) * x4_11) + ((3 : Int32) * x5_11)).toNatClampNeg) g_41 rfl dX10_mayWear_41 ?_
        refine lv_istore (lv' := [(7, .int (σ.2 29 (((18 : Int32) * x4_11) + ((3 : Int32) * x5_11)).toNatClampNeg)), (6, .int (((18 : Int32) * x4_11) + ((3 : Int32) * x5_11))), (0, .ref h), (1, .int x1_11), (2, .int x2_11), (3, .int x3_11), (4, .int x4_11), (5, .int x5_11)]) hx hb dX10_mayWear_42 hl (by decide) rfl (fun ls hl => ?_)
        refine lv_iload hx hb dX10_mayWear_44 (lv_at hl 0 rfl) ?_
        refine lv_if_ne (tgt := 53) hx hb dX10_mayWear_46 (by decide) (fun c_46 => ?_) (fun c_46 => ?_)
        · have hF := ob_f c_46 hF
          refine lv_iload hx hb dX10_mayWear_53 (lv_at hl 0 rfl) ?_
          refine lv_iconst (v := (1 : Int32)) hx hb dX10_mayWear_55 (by decide) ?_
          refine lv_icmp_ne (tgt := 68) hx hb dX10_mayWear_56 (by decide) (fun c_56 => ?_) (fun c_56 => ?_)
          · have hF := ob_f c_56 hF
            refine lv_iload hx hb dX10_mayWear_68 (lv_at hl 0 rfl) ?_
            refine lv_iconst (v := (2 : Int32)) hx hb dX10_mayWear_70 (by decide) ?_
            refine lv_icmp_ne (tgt := 83) hx hb dX10_mayWear_71 (by decide) (fun c_71 => ?_) (fun c_71 => ?_)
            · have hF := ob_f c_71 hF
              refine lv_iload hx hb dX10_mayWear_83 (lv_at hl 0 rfl) ?_
              refine lv_iconst (v := (3 : Int32)) hx hb dX10_mayWear_85 (by decide) ?_
              refine lv_icmp_ne (tgt := 98) hx hb dX10_mayWear_86 (by decide) (fun c_86 => ?_) (fun c_86 => ?_)
              · have hF := ob_f c_86 hF
                refine lv_iload hx hb dX10_mayWear_98 (lv_at hl 0 rfl) ?_
                refine lv_iconst (v := (4 : Int32)) hx hb dX10_mayWear_100 (by decide) ?_
                refine lv_icmp_ne (tgt := 121) hx hb dX10_mayWear_101 (by decide) (fun c_101 => ?_) (fun c_101 => ?_)
                · have hF := ob_f c_101 hF
                  refine lv_aload_n hx hb dX10_mayWear_121 rfl (lv_at hl 2 rfl) ?_
                  refine gM hx hb hts hin hown hK hP 13 (.ref (ad 13)) (by decide) mf_44 rfl dX10_mayWear_122 ?_
                  refine lv_iload_n hx hb dX10_mayWear_125 rfl (lv_at hl 3 rfl) ?_
                  obtain ⟨g_126, hF⟩ := ob_gd hF
                  refine ldI hx hb hK hP (at_13 _ _ _ _ _) (σ.2 13 x1_11.toNatClampNeg) g_126 rfl dX10_mayWear_126 ?_
                  exact b_127 x1_11 x2_11 x3_11 x4_11 x5_11 (((18 : Int32) * x4_11) + ((3 : Int32) * x5_11)) (fun x5_11 => FM_mayWear_11 σ  x1_11 x2_11 x3_11 x4_11 n_11 x5_11) ih_11 (σ.2 13 x1_11.toNatClampNeg) _ hF (lv_sub hl [2, 3, 4, 5, 6, 7, 1] rfl)
                · have hF := ob_t c_101 hF
                  refine lv_aload_n hx hb dX10_mayWear_104 rfl (lv_at hl 2 rfl) ?_
                  refine gM hx hb hts hin hown hK hP 15 (.ref (ad 15)) (by decide) mf_50 rfl dX10_mayWear_105 ?_
                  refine lv_iload_n hx hb dX10_mayWear_108 rfl (lv_at hl 3 rfl) ?_
                  obtain ⟨g_109, hF⟩ := ob_gd hF
                  refine ldZ hx hb hK hP (at_15 _ _ _ _ _) (σ.2 15 x1_11.toNatClampNeg) g_109 rfl dX10_mayWear_109 ?_
                  refine lv_if_eq (tgt := 117) hx hb dX10_mayWear_110 (by decide) (fun c_110 => ?_) (fun c_110 => ?_)
                  · have hF := ob_t c_110 hF
                    refine lv_iconst (v := (0 : Int32)) hx hb dX10_mayWear_117 (by decide) ?_
                    refine lv_goto (tgt := 127) hx hb dX10_mayWear_118 (by decide) ?_
                    exact b_127 x1_11 x2_11 x3_11 x4_11 x5_11 (((18 : Int32) * x4_11) + ((3 : Int32) * x5_11)) (fun x5_11 => FM_mayWear_11 σ  x1_11 x2_11 x3_11 x4_11 n_11 x5_11) ih_11 (0 : Int32) _ hF (lv_sub hl [2, 3, 4, 5, 6, 7, 1] rfl)
                  · have hF := ob_f c_110 hF
                    refine lv_iconst (v := (1 : Int32)) hx hb dX10_mayWear_113 (by decide) ?_
                    refine lv_goto (tgt := 127) hx hb dX10_mayWear_114 (by decide) ?_
                    exact b_127 x1_11 x2_11 x3_11 x4_11 x5_11 (((18 : Int32) * x4_11) + ((3 : Int32) * x5_11)) (fun x5_11 => FM_mayWear_11 σ  x1_11 x2_11 x3_11 x4_11 n_11 x5_11) ih_11 (1 : Int32) _ hF (lv_sub hl [2, 3, 4, 5, 6, 7, 1] rfl)
              · have hF := ob_t c_86 hF
                refine lv_aload_n hx hb dX10_mayWear_89 rfl (lv_at hl 2 rfl) ?_
                refine gM hx hb hts hin hown hK hP 8 (.ref (ad 8)) (by decide) mf_29 rfl dX10_mayWear_90 ?_
                refine lv_iload_n hx hb dX10_mayWear_93 rfl (lv_at hl 3 rfl) ?_
                obtain ⟨g_94, hF⟩ := ob_gd hF
                refine ldI hx hb hK hP (at_8 _ _ _ _ _) (σ.2 8 x1_11.toNatClampNeg) g_94 rfl dX10_mayWear_94 ?_
                refine lv_goto (tgt := 127) hx hb dX10_mayWear_95 (by decide) ?_
                exact b_127 x1_11 x2_11 x3_11 x4_11 x5_11 (((18 : Int32) * x4_11) + ((3 : Int32) * x5_11)) (fun x5_11 => FM_mayWear_11 σ  x1_11 x2_11 x3_11 x4_11 n_11 x5_11) ih_11 (σ.2 8 x1_11.toNatClampNeg) _ hF (lv_sub hl [2, 3, 4, 5, 6, 7, 1] rfl)
            · have hF := ob_t c_71 hF
              refine lv_aload_n hx hb dX10_mayWear_74 rfl (lv_at hl 2 rfl) ?_
              refine gM hx hb hts hin hown hK hP 27 (.ref (ad 27)) (by decide) mf_84 rfl dX10_mayWear_75 ?_
              refine lv_iload_n hx hb dX10_mayWear_78 rfl (lv_at hl 4 rfl) ?_
              obtain ⟨g_79, hF⟩ := ob_gd hF
              refine ldI hx hb hK hP (at_27 _ _ _ _ _) (σ.2 27 x2_11.toNatClampNeg) g_79 rfl dX10_mayWear_79 ?_
              refine lv_goto (tgt := 127) hx hb dX10_mayWear_80 (by decide) ?_
              exact b_127 x1_11 x2_11 x3_11 x4_11 x5_11 (((18 : Int32) * x4_11) + ((3 : Int32) * x5_11)) (fun x5_11 => FM_mayWear_11 σ  x1_11 x2_11 x3_11 x4_11 n_11 x5_11) ih_11 (σ.2 27 x2_11.toNatClampNeg) _ hF (lv_sub hl [2, 3, 4, 5, 6, 7, 1] rfl)
          · have hF := ob_t c_56 hF
            refine lv_aload_n hx hb dX10_mayWear_59 rfl (lv_at hl 2 rfl) ?_
            refine gM hx hb hts hin hown hK hP 26 (.ref (ad 26)) (by decide) mf_81 rfl dX10_mayWear_60 ?_
            refine lv_iload_n hx hb dX10_mayWear_63 rfl (lv_at hl 4 rfl) ?_
            obtain ⟨g_64, hF⟩ := ob_gd hF
            refine ldI hx hb hK hP (at_26 _ _ _ _ _) (σ.2 26 x2_11.toNatClampNeg) g_64 rfl dX10_mayWear_64 ?_
            refine lv_goto (tgt := 127) hx hb dX10_mayWear_65 (by decide) ?_
            exact b_127 x1_11 x2_11 x3_11 x4_11 x5_11 (((18 : Int32) * x4_11) + ((3 : Int32) * x5_11)) (fun x5_11 => FM_mayWear_11 σ  x1_11 x2_11 x3_11 x4_11 n_11 x5_11) ih_11 (σ.2 26 x2_11.toNatClampNeg) _ hF (lv_sub hl [2, 3, 4, 5, 6, 7, 1] rfl)
        · have hF := ob_t c_46 hF
          refine lv_iload_n hx hb dX10_mayWear_49 rfl (lv_at hl 5 rfl) ?_
          refine lv_goto (tgt := 127) hx hb dX10_mayWear_50 (by decide) ?_
          exact b_127 x1_11 x2_11 x3_11 x4_11 x5_11 (((18 : Int32) * x4_11) + ((3 : Int32) * x5_11)) (fun x5_11 => FM_mayWear_11 σ  x1_11 x2_11 x3_11 x4_11 n_11 x5_11) ih_11 x3_11 _ hF (lv_sub hl [2, 3, 4, 5, 6, 7, 1] rfl)
  have hl := lv_entry ([.ref h, .int p1, .int p2, .int p3]) (n := 10) (Nat.le_of_ble_eq_true rfl)
  rw [lg_entry_eq]
  generalize (lg_sl ([.ref h, .int p1, .int p2, .int p3]) ++ List.replicate (10 - (lg_sl ([.ref h, .int p1, .int p2, .int p3])).length) Slot.unset).toArray = ls at hl ⊢
  have hl : lv_has ls 10 [(0, .ref h), (1, .int p1), (2, .int p2), (3, .int p3)] := hl
  unfold FM_mayWear at hF
  refine lv_aload_n hx hb dX10_mayWear_0 rfl (lv_at hl 0 rfl) ?_
  refine gM hx hb hts hin hown hK hP 19 (.ref (ad 19)) (by decide) mf_62 rfl dX10_mayWear_1 ?_
  refine lv_iload_n hx hb dX10_mayWear_4 rfl (lv_at hl 1 rfl) ?_
  obtain ⟨g_5, hF⟩ := ob_gd hF
  refine ldI hx hb hK hP (at_19 _ _ _ _ _) (σ.2 19 p1.toNatClampNeg) g_5 rfl dX10_mayWear_5 ?_
  refine lv_istore (lv' := [(4, .int (σ.2 19 p1.toNatClampNeg)), (0, .ref h), (1, .int p1), (2, .int p2), (3, .int p3)]) hx hb dX10_mayWear_6 hl (by decide) rfl (fun ls hl => ?_)
  refine lv_iconst (v := (0 : Int32)) hx hb dX10_mayWear_8 (by decide) ?_
  refine lv_istore (lv' := [(5, .int (0 : Int32)), (4, .int (σ.2 19 p1.toNatClampNeg)), (0, .ref h), (1, .int p1), (2, .int p2), (3, .int p3)]) hx hb dX10_mayWear_9 hl (by decide) rfl (fun ls hl => ?_)
  exact b_11 p1 p2 p3 (σ.2 19 p1.toNatClampNeg) fu (0 : Int32) _ hF (lv_sub hl [2, 3, 4, 5, 1, 0] rfl)
def FM_isTold (σ : MS) (p1 : Int32) : Option Int32 := ((FM_in p1 (0 : Int32) (9 : Int32)).bind fun q_4 => (if q_4 = 0 then (some (0 : Int32)) else (gd (inb p1 10) (if (σ.2 26 p1.toNatClampNeg) = (-1 : Int32) then (some (0 : Int32)) else (some (1 : Int32))))))
def wsM_isTold : List Cond := Cond.code yX10_isTold cX10_isTold 2 (some .boolean) :: wMa
theorem cw_isTold {R : Room} {s : State} {args : Array Value} {y : MethodName} {c : ByteArray} {n : Nat} {r : Option FieldType} (hts : ∀ w ∈ (Cond.code y c n r :: wMa), w.before args s = true) (hR : 1 + 1 ≤ R.frames ∧ 8 + (2 + 11) + 22 ≤ R.locals) : CallW R s args RX10 RX10 255 yX10_isTold cX10_isTold 2 (some .boolean) wsM_isTold { frames := 1, cells := 0, slots := 0, locals := 22 } 0 0 1 := cwV 1 hts (goodMV mm_255 mi_isTold ms_isTold m_ini mc_isTold) rfl rfl rfl (by decide +kernel) hR
set_option maxHeartbeats 4000000 in
set_option maxRecDepth 100000 in
theorem cM_isTold (l : Launch) (D : va_G) (cI cZ : ClassId) (h : Nat) (ad : Nat → Nat) (σ : MS) (p1 : Int32) (q : Int32) (hF : FM_isTold σ p1 = some q) : Met l yX10_isTold wsM_isTold { frames := 1, cells := 0, slots := 0, locals := 22 } (va_Pc [.ref h, .int p1] (preR D cI cZ h ad σ)) (vp_Si (fun x => x = q)) 0 0 (fun _ => False) := by
  refine Met.ofW (cc := cX10_isTold) (maxL := 2) (ret := (some .boolean)) (by decide) rfl ?_
  intro p e s m args below meth c s₁ B hml hv
  obtain ⟨rfl, hP, hK⟩ := hv
  have hx := B.exec
  have hb := B.bytes
  have hr := B.returns
  have hts : ∀ w ∈ (Cond.code yX10_isTold cX10_isTold 2 (some .boolean) :: wMa), w.before ([.ref h, .int p1] : List Value).toArray s = true := atoms_spec (ws := wsM_isTold) B.pre
  have hin : ∀ w ∈ wMa, w ∈ (Cond.code yX10_isTold cX10_isTold 2 (some .boolean) :: wMa) := fun w hw => List.mem_cons_of_mem _ hw
  have hown : s.vm.findClass RX10 = some m.cls := findClass_of_methodNamed B.named
  have hlocks := B.notSynchronized
  have hl := lv_entry ([.ref h, .int p1]) (n := 2) (Nat.le_of_ble_eq_true rfl)
  rw [lg_entry_eq]
  generalize (lg_sl ([.ref h, .int p1]) ++ List.replicate (2 - (lg_sl ([.ref h, .int p1])).length) Slot.unset).toArray = ls at hl ⊢
  have hl : lv_has ls 2 [(0, .ref h), (1, .int p1)] := hl
  unfold FM_isTold at hF
  refine lv_iload_n hx hb dX10_isTold_0 rfl (lv_at hl 1 rfl) ?_
  refine lv_iconst (v := (0 : Int32)) hx hb dX10_isTold_1 (by decide) ?_
  refine lv_bipush (v := (9 : Int32)) hx hb dX10_isTold_2 (by decide) ?_
  obtain ⟨q_4, e_4, hF⟩ := ob_bd hF
  refine csM (As := [.int p1, .int (0 : Int32), .int (9 : Int32)]) (rest := []) ⟨hx, hb, hml, hown, hts⟩ (cM_in l p1 (0 : Int32) (9 : Int32) _ e_4) (cw_in hts ⟨Nat.le_of_ble_eq_true rfl, Nat.le_of_ble_eq_true rfl⟩) rfl hl.1 rfl (lv_room (Nat.le_of_ble_eq_true rfl)) dX10_isTold_4 ?_
  refine lv_if_eq (tgt := 24) hx hb dX10_isTold_7 (by decide) (fun c_7 => ?_) (fun c_7 => ?_)
  · have hF := ob_t c_7 hF
    refine lv_iconst (v := (0 : Int32)) hx hb dX10_isTold_24 (by decide) ?_
    exact rzM hx hb hr hlocks rfl hF dX10_isTold_25
  · have hF := ob_f c_7 hF
    refine lv_aload_n hx hb dX10_isTold_10 rfl (lv_at hl 0 rfl) ?_
    refine gM hx hb hts hin hown hK hP 26 (.ref (ad 26)) (by decide) mf_81 rfl dX10_isTold_11 ?_
    refine lv_iload_n hx hb dX10_isTold_14 rfl (lv_at hl 1 rfl) ?_
    obtain ⟨g_15, hF⟩ := ob_gd hF
    refine ldI hx hb hK hP (at_26 _ _ _ _ _) (σ.2 26 p1.toNatClampNeg) g_15 rfl dX10_isTold_15 ?_
    refine lv_iconst (v := (-1 : Int32)) hx hb dX10_isTold_16 (by decide) ?_
    refine lv_icmp_eq (tgt := 24) hx hb dX10_isTold_17 (by decide) (fun c_17 => ?_) (fun c_17 => ?_)
    · have hF := ob_t c_17 hF
      refine lv_iconst (v := (0 : Int32)) hx hb dX10_isTold_24 (by decide) ?_
      exact rzM hx hb hr hlocks rfl hF dX10_isTold_25
    · have hF := ob_f c_17 hF
      refine lv_iconst (v := (1 : Int32)) hx hb dX10_isTold_20 (by decide) ?_
      refine lv_goto (tgt := 25) hx hb dX10_isTold_21 (by decide) ?_
      exact rzM hx hb hr hlocks rfl hF dX10_isTold_25
def FM_cannot (σ : MS) (p1 : Int32) (p2 : Int32) (p3 : Int32) : Option Int32 := ((FM_isMade σ p1).bind fun q_2 => (if q_2 = 0 then (some (-1 : Int32)) else ((FM_isTold σ p2).bind fun q_10 => (if q_10 = 0 then (some (-1 : Int32)) else ((FM_in p3 (0 : Int32) (3 : Int32)).bind fun q_21 => (if q_21 = 0 then (some (-2 : Int32)) else (gd (inb p1 30) (if (σ.2 19 p1.toNatClampNeg) = (-1 : Int32) then (some (-3 : Int32)) else (gd (inb p1 30) (if (σ.2 20 p1.toNatClampNeg) = (-1 : Int32) then (some (0 : Int32)) else (some (-3 : Int32))))))))))))
def wsM_cannot : List Cond := Cond.code yX10_cannot cX10_cannot 4 (some .int) :: wMa
theorem cw_cannot {R : Room} {s : State} {args : Array Value} {y : MethodName} {c : ByteArray} {n : Nat} {r : Option FieldType} (hts : ∀ w ∈ (Cond.code y c n r :: wMa), w.before args s = true) (hR : 2 + 1 ≤ R.frames ∧ 8 + (4 + 11) + 43 ≤ R.locals) : CallW R s args RX10 RX10 258 yX10_cannot cX10_cannot 4 (some .int) wsM_cannot { frames := 2, cells := 0, slots := 0, locals := 43 } 0 0 3 := cwV 3 hts (goodMV mm_258 mi_cannot ms_cannot m_ini mc_cannot) rfl rfl rfl (by decide +kernel) hR
set_option maxHeartbeats 4000000 in
set_option maxRecDepth 100000 in
theorem cM_cannot (l : Launch) (D : va_G) (cI cZ : ClassId) (h : Nat) (ad : Nat → Nat) (σ : MS) (p1 : Int32) (p2 : Int32) (p3 : Int32) (q : Int32) (hF : FM_cannot σ p1 p2 p3 = some q) : Met l yX10_cannot wsM_cannot { frames := 2, cells := 0, slots := 0, locals := 43 } (va_Pc [.ref h, .int p1, .int p2, .int p3] (preR D cI cZ h ad σ)) (vp_Si (fun x => x = q)) 0 0 (fun _ => False) := by
  refine Met.ofW (cc := cX10_cannot) (maxL := 4) (ret := (some .int)) (by decide) rfl ?_
  intro p e s m args below meth c s₁ B hml hv
  obtain ⟨rfl, hP, hK⟩ := hv
  have hx := B.exec
  have hb := B.bytes
  have hr := B.returns
  have hts : ∀ w ∈ (Cond.code yX10_cannot cX10_cannot 4 (some .int) :: wMa), w.before ([.ref h, .int p1, .int p2, .int p3] : List Value).toArray s = true := atoms_spec (ws := wsM_cannot) B.pre
  have hin : ∀ w ∈ wMa, w ∈ (Cond.code yX10_cannot cX10_cannot 4 (some .int) :: wMa) := fun w hw => List.mem_cons_of_mem _ hw
  have hown : s.vm.findClass RX10 = some m.cls := findClass_of_methodNamed B.named
  have hlocks := B.notSynchronized
  have hl := lv_entry ([.ref h, .int p1, .int p2, .int p3]) (n := 4) (Nat.le_of_ble_eq_true rfl)
  rw [lg_entry_eq]
  generalize (lg_sl ([.ref h, .int p1, .int p2, .int p3]) ++ List.replicate (4 - (lg_sl ([.ref h, .int p1, .int p2, .int p3])).length) Slot.unset).toArray = ls at hl ⊢
  have hl : lv_has ls 4 [(0, .ref h), (1, .int p1), (2, .int p2), (3, .int p3)] := hl
  unfold FM_cannot at hF
  refine lv_aload_n hx hb dX10_cannot_0 rfl (lv_at hl 0 rfl) ?_
  refine lv_iload_n hx hb dX10_cannot_1 rfl (lv_at hl 1 rfl) ?_
  obtain ⟨q_2, e_2, hF⟩ := ob_bd hF
  refine crM (As := [.int p1]) (rest := []) ⟨hx, hb, hml, hown, hts⟩ (cM_isMade l D cI cZ h ad σ p1 _ e_2) (cw_isMade hts ⟨Nat.le_of_ble_eq_true rfl, Nat.le_of_ble_eq_true rfl⟩) hK hP rfl hl.1 rfl (lv_room (Nat.le_of_ble_eq_true rfl)) dX10_cannot_2 ?_
  refine lv_if_eq (tgt := 16) hx hb dX10_cannot_5 (by decide) (fun c_5 => ?_) (fun c_5 => ?_)
  · have hF := ob_t c_5 hF
    refine lv_iconst (v := (-1 : Int32)) hx hb dX10_cannot_16 (by decide) ?_
    exact rrM hx hb hr hlocks hF dX10_cannot_17
  · have hF := ob_f c_5 hF
    refine lv_aload_n hx hb dX10_cannot_8 rfl (lv_at hl 0 rfl) ?_
    refine lv_iload_n hx hb dX10_cannot_9 rfl (lv_at hl 2 rfl) ?_
    obtain ⟨q_10, e_10, hF⟩ := ob_bd hF
    refine crM (As := [.int p2]) (rest := []) ⟨hx, hb, hml, hown, hts⟩ (cM_isTold l D cI cZ h ad σ p2 _ e_10) (cw_isTold hts ⟨Nat.le_of_ble_eq_true rfl, Nat.le_of_ble_eq_true rfl⟩) hK hP rfl hl.1 rfl (lv_room (Nat.le_of_ble_eq_true rfl)) dX10_cannot_10 ?_
    refine lv_if_ne (tgt := 18) hx hb dX10_cannot_13 (by decide) (fun c_13 => ?_) (fun c_13 => ?_)
    · have hF := ob_f c_13 hF
      refine lv_iload_n hx hb dX10_cannot_18 rfl (lv_at hl 3 rfl) ?_
      refine lv_iconst (v := (0 : Int32)) hx hb dX10_cannot_19 (by decide) ?_
      refine lv_iconst (v := (3 : Int32)) hx hb dX10_cannot_20 (by decide) ?_
      obtain ⟨q_21, e_21, hF⟩ := ob_bd hF
      refine csM (As := [.int p3, .int (0 : Int32), .int (3 : Int32)]) (rest := []) ⟨hx, hb, hml, hown, hts⟩ (cM_in l p3 (0 : Int32) (3 : Int32) _ e_21) (cw_in hts ⟨Nat.le_of_ble_eq_true rfl, Nat.le_of_ble_eq_true rfl⟩) rfl hl.1 rfl (lv_room (Nat.le_of_ble_eq_true rfl)) dX10_cannot_21 ?_
      refine lv_if_ne (tgt := 30) hx hb dX10_cannot_24 (by decide) (fun c_24 => ?_) (fun c_24 => ?_)
      · have hF := ob_f c_24 hF
        refine lv_aload_n hx hb dX10_cannot_30 rfl (lv_at hl 0 rfl) ?_
        refine gM hx hb hts hin hown hK hP 19 (.ref (ad 19)) (by decide) mf_62 rfl dX10_cannot_31 ?_
        refine lv_iload_n hx hb dX10_cannot_34 rfl (lv_at hl 1 rfl) ?_
        obtain ⟨g_35, hF⟩ := ob_gd hF
        refine ldI hx hb hK hP (at_19 _ _ _ _ _) (σ.2 19 p1.toNatClampNeg) g_35 rfl dX10_cannot_35 ?_
        refine lv_iconst (v := (-1 : Int32)) hx hb dX10_cannot_36 (by decide) ?_
        refine lv_icmp_eq (tgt := 50) hx hb dX10_cannot_37 (by decide) (fun c_37 => ?_) (fun c_37 => ?_)
        · have hF := ob_t c_37 hF
          refine lv_bipush (v := (-3 : Int32)) hx hb dX10_cannot_50 (by decide) ?_
          refine lv_goto (tgt := 56) hx hb dX10_cannot_52 (by decide) ?_
          exact rrM hx hb hr hlocks hF dX10_cannot_56
        · have hF := ob_f c_37 hF
          refine lv_aload_n hx hb dX10_cannot_40 rfl (lv_at hl 0 rfl) ?_
          refine gM hx hb hts hin hown hK hP 20 (.ref (ad 20)) (by decide) mf_65 rfl dX10_cannot_41 ?_
          refine lv_iload_n hx hb dX10_cannot_44 rfl (lv_at hl 1 rfl) ?_
          obtain ⟨g_45, hF⟩ := ob_gd hF
          refine ldI hx hb hK hP (at_20 _ _ _ _ _) (σ.2 20 p1.toNatClampNeg) g_45 rfl dX10_cannot_45 ?_
          refine lv_iconst (v := (-1 : Int32)) hx hb dX10_cannot_46 (by decide) ?_
          refine lv_icmp_eq (tgt := 55) hx hb dX10_cannot_47 (by decide) (fun c_47 => ?_) (fun c_47 => ?_)
          · have hF := ob_t c_47 hF
            refine lv_iconst (v := (0 : Int32)) hx hb dX10_cannot_55 (by decide) ?_
            exact rrM hx hb hr hlocks hF dX10_cannot_56
          · have hF := ob_f c_47 hF
            refine lv_bipush (v := (-3 : Int32)) hx hb dX10_cannot_50 (by decide) ?_
            refine lv_goto (tgt := 56) hx hb dX10_cannot_52 (by decide) ?_
            exact rrM hx hb hr hlocks hF dX10_cannot_56
      · have hF := ob_t c_24 hF
        refine lv_bipush (v := (-2 : Int32)) hx hb dX10_cannot_27 (by decide) ?_
        exact rrM hx hb hr hlocks hF dX10_cannot_29
    · have hF := ob_t c_13 hF
      refine lv_iconst (v := (-1 : Int32)) hx hb dX10_cannot_16 (by decide) ?_
      exact rrM hx hb hr hlocks hF dX10_cannot_17
def FM_may (σ : MS) (p1 : Int32) (p2 : Int32) (p3 : Int32) : Option Int32 := ((FM_cannot σ p1 p2 p3).bind fun q_4 => (if q_4 = 0 then ((FM_mayWear σ p1 p2 p3).bind fun q_23 => (if q_23 = 0 then (some (0 : Int32)) else (some (1 : Int32)))) else (some q_4)))
def wsM_may : List Cond := Cond.code yX10_may cX10_may 5 (some .int) :: wMa
set_option maxHeartbeats 4000000 in
set_option maxRecDepth 100000 in
theorem cM_may (l : Launch) (D : va_G) (cI cZ : ClassId) (h : Nat) (ad : Nat → Nat) (σ : MS) (p1 : Int32) (p2 : Int32) (p3 : Int32) (q : Int32) (hF : FM_may σ p1 p2 p3 = some q) : Met l yX10_may wsM_may { frames := 3, cells := 0, slots := 0, locals := 66 } (va_Pc [.ref h, .int p1, .int p2, .int p3] (preR D cI cZ h ad σ)) (vp_Si (fun x => x = q)) 0 0 (fun _ => False) := by
  refine Met.ofW (cc := cX10_may) (maxL := 5) (ret := (some .int)) (by decide) rfl ?_
  intro p e s m args below meth c s₁ B hml hv
  obtain ⟨rfl, hP, hK⟩ := hv
  have hx := B.exec
  have hb := B.bytes
  have hr := B.returns
  have hts : ∀ w ∈ (Cond.code yX10_may cX10_may 5 (some .int) :: wMa), w.before ([.ref h, .int p1, .int p2, .int p3] : List Value).toArray s = true := atoms_spec (ws := wsM_may) B.pre
  have hin : ∀ w ∈ wMa, w ∈ (Cond.code yX10_may cX10_may 5 (some .int) :: wMa) := fun w hw => List.mem_cons_of_mem _ hw
  have hown : s.vm.findClass RX10 = some m.cls := findClass_of_methodNamed B.named
  have hlocks := B.notSynchronized
  have hl := lv_entry ([.ref h, .int p1, .int p2, .int p3]) (n := 5) (Nat.le_of_ble_eq_true rfl)
  rw [lg_entry_eq]
  generalize (lg_sl ([.ref h, .int p1, .int p2, .int p3]) ++ List.replicate (5 - (lg_sl ([.ref h, .int p1, .int p2, .int p3])).length) Slot.unset).toArray = ls at hl ⊢
  have hl : lv_has ls 5 [(0, .ref h), (1, .int p1), (2, .int p2), (3, .int p3)] := hl
  unfold FM_may at hF
  refine lv_aload_n hx hb dX10_may_0 rfl (lv_at hl 0 rfl) ?_
  refine lv_iload_n hx hb dX10_may_1 rfl (lv_at hl 1 rfl) ?_
  refine lv_iload_n hx hb dX10_may_2 rfl (lv_at hl 2 rfl) ?_
  refine lv_iload_n hx hb dX10_may_3 rfl (lv_at hl 3 rfl) ?_
  obtain ⟨q_4, e_4, hF⟩ := ob_bd hF
  refine crM (As := [.int p1, .int p2, .int p3]) (rest := []) ⟨hx, hb, hml, hown, hts⟩ (cM_cannot l D cI cZ h ad σ p1 p2 p3 _ e_4) (cw_cannot hts ⟨Nat.le_of_ble_eq_true rfl, Nat.le_of_ble_eq_true rfl⟩) hK hP rfl hl.1 rfl (lv_room (Nat.le_of_ble_eq_true rfl)) dX10_may_4 ?_
  refine lv_istore (lv' := [(4, .int q_4), (0, .ref h), (1, .int p1), (2, .int p2), (3, .int p3)]) hx hb dX10_may_7 hl (by decide) rfl (fun ls hl => ?_)
  refine lv_iload hx hb dX10_may_9 (lv_at hl 0 rfl) ?_
  refine lv_if_eq (tgt := 19) hx hb dX10_may_11 (by decide) (fun c_11 => ?_) (fun c_11 => ?_)
  · have hF := ob_t c_11 hF
    refine lv_aload_n hx hb dX10_may_19 rfl (lv_at hl 1 rfl) ?_
    refine lv_iload_n hx hb dX10_may_20 rfl (lv_at hl 2 rfl) ?_
    refine lv_iload_n hx hb dX10_may_21 rfl (lv_at hl 3 rfl) ?_
    refine lv_iload_n hx hb dX10_may_22 rfl (lv_at hl 4 rfl) ?_
    obtain ⟨q_23, e_23, hF⟩ := ob_bd hF
    refine crM (As := [.int p1, .int p2, .int p3]) (rest := []) ⟨hx, hb, hml, hown, hts⟩ (cM_mayWear l D cI cZ h ad σ p1 p2 p3 _ e_23) (cw_mayWear hts ⟨Nat.le_of_ble_eq_true rfl, Nat.le_of_ble_eq_true rfl⟩) hK hP rfl hl.1 rfl (lv_room (Nat.le_of_ble_eq_true rfl)) dX10_may_23 ?_
    refine lv_if_eq (tgt := 33) hx hb dX10_may_26 (by decide) (fun c_26 => ?_) (fun c_26 => ?_)
    · have hF := ob_t c_26 hF
      refine lv_iconst (v := (0 : Int32)) hx hb dX10_may_33 (by decide) ?_
      exact rrM hx hb hr hlocks hF dX10_may_34
    · have hF := ob_f c_26 hF
      refine lv_iconst (v := (1 : Int32)) hx hb dX10_may_29 (by decide) ?_
      refine lv_goto (tgt := 34) hx hb dX10_may_30 (by decide) ?_
      exact rrM hx hb hr hlocks hF dX10_may_34
  · have hF := ob_f c_11 hF
    refine lv_iload hx hb dX10_may_14 (lv_at hl 0 rfl) ?_
    refine lv_goto (tgt := 34) hx hb dX10_may_16 (by decide) ?_
    exact rrM hx hb hr hlocks hF dX10_may_34
def FM_hasSome_2 (σ : MS) (x1_2 : Int32) : Nat → Int32 → Option Int32
  | 0, _ => none
  | n_2 + 1, x2_2 => (if (σ.1 6) ≤ x2_2 then (some (0 : Int32)) else (gd (inb x2_2 30) (if (σ.2 7 x2_2.toNatClampNeg) = 0 then (FM_hasSome_2 σ  x1_2 n_2 (x2_2 + (1 : Int32))) else (gd (inb x2_2 30) (if (σ.2 20 x2_2.toNatClampNeg) = x1_2 then (some (1 : Int32)) else (FM_hasSome_2 σ  x1_2 n_2 (x2_2 + (1 : Int32))))))))
def FM_hasSome (σ : MS) (p1 : Int32) : Option Int32 := (FM_hasSome_2 σ p1 fu (0 : Int32))
def wsM_hasSome : List Cond := Cond.code yX10_hasSome cX10_hasSome 3 (some .boolean) :: wMa
theorem cw_hasSome {R : Room} {s : State} {args : Array Value} {y : MethodName} {c : ByteArray} {n : Nat} {r : Option FieldType} (hts : ∀ w ∈ (Cond.code y c n r :: wMa), w.before args s = true) (hR : 0 + 1 ≤ R.frames ∧ 8 + (3 + 11) + 0 ≤ R.locals) : CallW R s args RX10 RX10 264 yX10_hasSome cX10_hasSome 3 (some .boolean) wsM_hasSome { frames := 0, cells := 0, slots := 0, locals := 0 } 0 0 1 := cwV 1 hts (goodMV mm_264 mi_hasSome ms_hasSome m_ini mc_hasSome) rfl rfl rfl (by decide +kernel) hR
set_option maxHeartbeats 4000000 in
set_option maxRecDepth 100000 in
theorem cM_hasSome (l : Launch) (D : va_G) (cI cZ : ClassId) (h : Nat) (ad : Nat → Nat) (σ : MS) (p1 : Int32) (q : Int32) (hF : FM_hasSome σ p1 = some q) : Met l yX10_hasSome wsM_hasSome { frames := 0, cells := 0, slots := 0, locals := 0 } (va_Pc [.ref h, .int p1] (preR D cI cZ h ad σ)) (vp_Si (fun x => x = q)) 0 0 (fun _ => False) := by
  refine Met.ofW (cc := cX10_hasSome) (maxL := 3) (ret := (some .boolean)) (by decide) rfl ?_
  intro p e s m args below meth c s₁ B hml hv
  obtain ⟨rfl, hP, hK⟩ := hv
  have hx := B.exec
  have hb := B.bytes
  have hr := B.returns
  have hts : ∀ w ∈ (Cond.code yX10_hasSome cX10_hasSome 3 (some .boolean) :: wMa), w.before ([.ref h, .int p1] : List Value).toArray s = true := atoms_spec (ws := wsM_hasSome) B.pre
  have hin : ∀ w ∈ wMa, w ∈ (Cond.code yX10_hasSome cX10_hasSome 3 (some .boolean) :: wMa) := fun w hw => List.mem_cons_of_mem _ hw
  have hown : s.vm.findClass RX10 = some m.cls := findClass_of_methodNamed B.named
  have hlocks := B.notSynchronized
  have b_2 : ∀ (x1_2 : Int32) (n_2 : Nat) (x2_2 : Int32) (ls : Array Slot), FM_hasSome_2 σ x1_2 n_2 x2_2 = some q → lv_has ls 3 [(0, .ref h), (1, .int x1_2), (2, .int x2_2)] → W p l e (headSpec wsM_hasSome { frames := 0, cells := 0, slots := 0, locals := 0 }).room s m ([.ref h, .int p1] : List Value).toArray below meth c s.heap [] 0 0 (MQ below (vp_Si (fun x => x = q)) ([.ref h, .int p1] : List Value).toArray s 0 0 (fun _ => False)) (F0 m 2 ls []) := by
    intro x1_2
    intro n_2
    induction n_2 with
    | zero =>
      intro x2_2 ls hF hl
      exact absurd hF (by simp [FM_hasSome_2])
    | succ n_2 ih_2 =>
      intro x2_2 ls hF hl
      rw [FM_hasSome_2] at hF
      refine lv_iload_n hx hb dX10_hasSome_2 rfl (lv_at hl 2 rfl) ?_
      refine lv_aload_n hx hb dX10_hasSome_3 rfl (lv_at hl 0 rfl) ?_
      refine gM hx hb hts hin hown hK hP 6 (.int (σ.1 6)) (by decide) mf_145 rfl dX10_hasSome_4 ?_
      refine lv_icmp_ge (tgt := 37) hx hb dX10_hasSome_7 (by decide) (fun c_7 => ?_) (fun c_7 => ?_)
      · have hF := ob_t c_7 hF
        refine lv_iconst (v := (0 : Int32)) hx hb dX10_hasSome_37 (by decide) ?_
        exact rzM hx hb hr hlocks rfl hF dX10_hasSome_38
      · have hF := ob_f c_7 hF
        refine lv_aload_n hx hb dX10_hasSome_10 rfl (lv_at hl 0 rfl) ?_
        refine gM hx hb hts hin hown hK hP 7 (.ref (ad 7)) (by decide) mf_26 rfl dX10_hasSome_11 ?_
        refine lv_iload_n hx hb dX10_hasSome_14 rfl (lv_at hl 2 rfl) ?_
        obtain ⟨g_15, hF⟩ := ob_gd hF
        refine ldZ hx hb hK hP (at_7 _ _ _ _ _) (σ.2 7 x2_2.toNatClampNeg) g_15 rfl dX10_hasSome_15 ?_
        refine lv_if_eq (tgt := 31) hx hb dX10_hasSome_16 (by decide) (fun c_16 => ?_) (fun c_16 => ?_)
        · have hF := ob_t c_16 hF
          refine lv_iinc (v := x2_2 + (1 : Int32)) (lv' := [(2, .int (x2_2 + (1 : Int32))), (0, .ref h), (1, .int x1_2)]) hx hb dX10_hasSome_31 hl (k := 2) rfl rfl (by decide) rfl (fun ls hl => ?_)
          refine lv_goto (tgt := 2) hx hb dX10_hasSome_34 (by decide) ?_
          exact ih_2 (x2_2 + (1 : Int32)) _ hF (lv_sub hl [1, 2, 0] rfl)
        · have hF := ob_f c_16 hF
          refine lv_aload_n hx hb dX10_hasSome_19 rfl (lv_at hl 0 rfl) ?_
          refine gM hx hb hts hin hown hK hP 20 (.ref (ad 20)) (by decide) mf_65 rfl dX10_hasSome_20 ?_
          refine lv_iload_n hx hb dX10_hasSome_23 rfl (lv_at hl 2 rfl) ?_
          obtain ⟨g_24, hF⟩ := ob_gd hF
          refine ldI hx hb hK hP (at_20 _ _ _ _ _) (σ.2 20 x2_2.toNatClampNeg) g_24 rfl dX10_hasSome_24 ?_
          refine lv_iload_n hx hb dX10_hasSome_25 rfl (lv_at hl 1 rfl) ?_
          refine lv_icmp_ne (tgt := 31) hx hb dX10_hasSome_26 (by decide) (fun c_26 => ?_) (fun c_26 => ?_)
          · have hF := ob_f c_26 hF
            refine lv_iinc (v := x2_2 + (1 : Int32)) (lv' := [(2, .int (x2_2 + (1 : Int32))), (0, .ref h), (1, .int x1_2)]) hx hb dX10_hasSome_31 hl (k := 2) rfl rfl (by decide) rfl (fun ls hl => ?_)
            refine lv_goto (tgt := 2) hx hb dX10_hasSome_34 (by decide) ?_
            exact ih_2 (x2_2 + (1 : Int32)) _ hF (lv_sub hl [1, 2, 0] rfl)
          · have hF := ob_t c_26 hF
            refine lv_iconst (v := (1 : Int32)) hx hb dX10_hasSome_29 (by decide) ?_
            exact rzM hx hb hr hlocks rfl hF dX10_hasSome_30
  have hl := lv_entry ([.ref h, .int p1]) (n := 3) (Nat.le_of_ble_eq_true rfl)
  rw [lg_entry_eq]
  generalize (lg_sl ([.ref h, .int p1]) ++ List.replicate (3 - (lg_sl ([.ref h, .int p1])).length) Slot.unset).toArray = ls at hl ⊢
  have hl : lv_has ls 3 [(0, .ref h), (1, .int p1)] := hl
  unfold FM_hasSome at hF
  refine lv_iconst (v := (0 : Int32)) hx hb dX10_hasSome_0 (by decide) ?_
  refine lv_istore_n (lv' := [(2, .int (0 : Int32)), (0, .ref h), (1, .int p1)]) hx hb dX10_hasSome_1 rfl hl (by decide) rfl (fun ls hl => ?_)
  exact b_2 p1 fu (0 : Int32) _ hF (lv_sub hl [1, 2, 0] rfl)
def FM_lend (σ : MS) (p1 : Int32) (p2 : Int32) (p3 : Int32) : Option (Int32 × MS) := ((FM_cannot σ p1 p2 p3).bind fun q_4 => (if q_4 = 0 then ((FM_hasSome σ p2).bind fun q_19 => (if q_19 = 0 then ((FM_mayWear σ p1 p2 p3).bind fun q_29 => (if q_29 = 0 then (some ((-3 : Int32), σ)) else (gd (inb p1 30) (some ((0 : Int32), (sa σ 20 p1 p2)))))) else (some ((-3 : Int32), σ)))) else (some (q_4, σ))))
def wsM_lend : List Cond := Cond.code yX10_lend cX10_lend 5 (some .int) :: wMa
set_option maxHeartbeats 4000000 in
set_option maxRecDepth 100000 in
theorem cM_lend (l : Launch) (D : va_G) (cI cZ : ClassId) (h : Nat) (ad : Nat → Nat) (A : Nat → Prop) (σ : MS) (p1 : Int32) (p2 : Int32) (p3 : Int32) (q : Int32 × MS) (hF : FM_lend σ p1 p2 p3 = some q) : Met l yX10_lend wsM_lend { frames := 3, cells := 0, slots := 0, locals := 66 } (va_Pc [.ref h, .int p1, .int p2, .int p3] (preM D cI cZ h ad A σ)) (va_Qi (fun x u => x = q.1 ∧ u = q.2) (preM D cI cZ h ad A) A) 0 0 A := by
  refine Met.ofW (cc := cX10_lend) (maxL := 5) (ret := (some .int)) (by decide) rfl ?_
  intro p e s m args below meth c s₁ B hml hv
  obtain ⟨rfl, hP, hK, hD⟩ := hv
  have hx := B.exec
  have hb := B.bytes
  have hr := B.returns
  have hts : ∀ w ∈ (Cond.code yX10_lend cX10_lend 5 (some .int) :: wMa), w.before ([.ref h, .int p1, .int p2, .int p3] : List Value).toArray s = true := atoms_spec (ws := wsM_lend) B.pre
  have hin : ∀ w ∈ wMa, w ∈ (Cond.code yX10_lend cX10_lend 5 (some .int) :: wMa) := fun w hw => List.mem_cons_of_mem _ hw
  have hown : s.vm.findClass RX10 = some m.cls := findClass_of_methodNamed B.named
  have hlocks := B.notSynchronized
  have hS : va_S A s.heap s.heap [] := va_S.rf
  have hl := lv_entry ([.ref h, .int p1, .int p2, .int p3]) (n := 5) (Nat.le_of_ble_eq_true rfl)
  rw [lg_entry_eq]
  generalize (lg_sl ([.ref h, .int p1, .int p2, .int p3]) ++ List.replicate (5 - (lg_sl ([.ref h, .int p1, .int p2, .int p3])).length) Slot.unset).toArray = ls at hl ⊢
  have hl : lv_has ls 5 [(0, .ref h), (1, .int p1), (2, .int p2), (3, .int p3)] := hl
  unfold FM_lend at hF
  refine lv_aload_n hx hb dX10_lend_0 rfl (lv_at hl 0 rfl) ?_
  refine lv_iload_n hx hb dX10_lend_1 rfl (lv_at hl 1 rfl) ?_
  refine lv_iload_n hx hb dX10_lend_2 rfl (lv_at hl 2 rfl) ?_
  refine lv_iload_n hx hb dX10_lend_3 rfl (lv_at hl 3 rfl) ?_
  obtain ⟨q_4, e_4, hF⟩ := ob_bd hF
  refine crM (As := [.int p1, .int p2, .int p3]) (rest := []) ⟨hx, hb, hml, hown, hts⟩ (cM_cannot l D cI cZ h ad σ p1 p2 p3 _ e_4) (cw_cannot hts ⟨Nat.le_of_ble_eq_true rfl, Nat.le_of_ble_eq_true rfl⟩) hK hP rfl hl.1 rfl (lv_room (Nat.le_of_ble_eq_true rfl)) dX10_lend_4 ?_
  refine lv_istore (lv' := [(4, .int q_4), (0, .ref h), (1, .int p1), (2, .int p2), (3, .int p3)]) hx hb dX10_lend_7 hl (by decide) rfl (fun ls hl => ?_)
  refine lv_iload hx hb dX10_lend_9 (lv_at hl 0 rfl) ?_
  refine lv_if_eq (tgt := 17) hx hb dX10_lend_11 (by decide) (fun c_11 => ?_) (fun c_11 => ?_)
  · have hF := ob_t c_11 hF
    refine lv_aload_n hx hb dX10_lend_17 rfl (lv_at hl 1 rfl) ?_
    refine lv_iload_n hx hb dX10_lend_18 rfl (lv_at hl 3 rfl) ?_
    obtain ⟨q_19, e_19, hF⟩ := ob_bd hF
    refine crM (As := [.int p2]) (rest := []) ⟨hx, hb, hml, hown, hts⟩ (cM_hasSome l D cI cZ h ad σ p2 _ e_19) (cw_hasSome hts ⟨Nat.le_of_ble_eq_true rfl, Nat.le_of_ble_eq_true rfl⟩) hK hP rfl hl.1 rfl (lv_room (Nat.le_of_ble_eq_true rfl)) dX10_lend_19 ?_
    refine lv_if_ne (tgt := 35) hx hb dX10_lend_22 (by decide) (fun c_22 => ?_) (fun c_22 => ?_)
    · have hF := ob_f c_22 hF
      refine lv_bipush (v := (-3 : Int32)) hx hb dX10_lend_35 (by decide) ?_
      exact rwM hx hb hr hlocks hF hK hP hD hS dX10_lend_37
    · have hF := ob_t c_22 hF
      refine lv_aload_n hx hb dX10_lend_25 rfl (lv_at hl 1 rfl) ?_
      refine lv_iload_n hx hb dX10_lend_26 rfl (lv_at hl 2 rfl) ?_
      refine lv_iload_n hx hb dX10_lend_27 rfl (lv_at hl 3 rfl) ?_
      refine lv_iload_n hx hb dX10_lend_28 rfl (lv_at hl 4 rfl) ?_
      obtain ⟨q_29, e_29, hF⟩ := ob_bd hF
      refine crM (As := [.int p1, .int p2, .int p3]) (rest := []) ⟨hx, hb, hml, hown, hts⟩ (cM_mayWear l D cI cZ h ad σ p1 p2 p3 _ e_29) (cw_mayWear hts ⟨Nat.le_of_ble_eq_true rfl, Nat.le_of_ble_eq_true rfl⟩) hK hP rfl hl.1 rfl (lv_room (Nat.le_of_ble_eq_true rfl)) dX10_lend_29 ?_
      refine lv_if_ne (tgt := 38) hx hb dX10_lend_32 (by decide) (fun c_32 => ?_) (fun c_32 => ?_)
      · have hF := ob_f c_32 hF
        refine lv_aload_n hx hb dX10_lend_38 rfl (lv_at hl 1 rfl) ?_
        refine gM hx hb hts hin hown hK hP 20 (.ref (ad 20)) (by decide) mf_65 rfl dX10_lend_39 ?_
        refine lv_iload_n hx hb dX10_lend_42 rfl (lv_at hl 2 rfl) ?_
        refine lv_iload_n hx hb dX10_lend_43 rfl (lv_at hl 3 rfl) ?_
        obtain ⟨g_44, hF⟩ := ob_gd hF
        refine stI hx hb hK hP hD hS (at_20 _ _ _ _ _) (st_20 _ _ _ _ _ _ _) g_44 dX10_lend_44 (fun H locs hP hD hS => ?_)
        refine lv_iconst (v := (0 : Int32)) hx hb dX10_lend_45 (by decide) ?_
        exact rwM hx hb hr hlocks hF hK hP hD hS dX10_lend_46
      · have hF := ob_t c_32 hF
        refine lv_bipush (v := (-3 : Int32)) hx hb dX10_lend_35 (by decide) ?_
        exact rwM hx hb hr hlocks hF hK hP hD hS dX10_lend_37
  · have hF := ob_f c_11 hF
    refine lv_iload hx hb dX10_lend_14 (lv_at hl 0 rfl) ?_
    exact rwM hx hb hr hlocks hF hK hP hD hS dX10_lend_16
def FM_back_53 (x1_53 : Int32) (x2_53 : Int32) (x3_53 : Int32) : Nat → Int32 → MS → Option (Int32 × MS)
  | 0, _, _ => none
  | n_53 + 1, x4_53, σ_53 => (if x2_53 ≤ x4_53 then (some (x3_53, σ_53)) else ((FM_wornOnce σ_53 x1_53).bind fun q_61 => (FM_back_53  x1_53 x2_53 x3_53 n_53 (x4_53 + (1 : Int32)) q_61.2)))
def FM_back (σ : MS) (p1 : Int32) (p2 : Int32) : Option (Int32 × MS) := ((FM_isMade σ p1).bind fun q_2 => (if q_2 = 0 then (some ((-1 : Int32), σ)) else ((FM_in p2 (0 : Int32) (9 : Int32)).bind fun q_14 => (if q_14 = 0 then (some ((-2 : Int32), σ)) else (gd (inb p1 30) (if (σ.2 20 p1.toNatClampNeg) = (-1 : Int32) then (some ((-3 : Int32), σ)) else (gd (inb p1 30) (gd (inb p1 30) (FM_back_53 p1 p2 (σ.2 20 p1.toNatClampNeg) fu (0 : Int32) (sa σ 20 p1 (-1 : Int32)))))))))))
def wsM_back : List Cond := Cond.code yX10_back cX10_back 6 (some .int) :: wMa
set_option maxHeartbeats 4000000 in
set_option maxRecDepth 100000 in
theorem cM_back (l : Launch) (D : va_G) (cI cZ : ClassId) (h : Nat) (ad : Nat → Nat) (A : Nat → Prop) (σ : MS) (p1 : Int32) (p2 : Int32) (q : Int32 × MS) (hF : FM_back σ p1 p2 = some q) : Met l yX10_back wsM_back { frames := 3, cells := 0, slots := 0, locals := 71 } (va_Pc [.ref h, .int p1, .int p2] (preM D cI cZ h ad A σ)) (va_Qi (fun x u => x = q.1 ∧ u = q.2) (preM D cI cZ h ad A) A) 0 0 A := by
  refine Met.ofW (cc := cX10_back) (maxL := 6) (ret := (some .int)) (by decide) rfl ?_
  intro p e s m args below meth c s₁ B hml hv
  obtain ⟨rfl, hP, hK, hD⟩ := hv
  have hx := B.exec
  have hb := B.bytes
  have hr := B.returns
  have hts : ∀ w ∈ (Cond.code yX10_back cX10_back 6 (some .int) :: wMa), w.before ([.ref h, .int p1, .int p2] : List Value).toArray s = true := atoms_spec (ws := wsM_back) B.pre
  have hin : ∀ w ∈ wMa, w ∈ (Cond.code yX10_back cX10_back 6 (some .int) :: wMa) := fun w hw => List.mem_cons_of_mem _ hw
  have hown : s.vm.findClass RX10 = some m.cls := findClass_of_methodNamed B.named
  have hlocks := B.notSynchronized
  have hS : va_S A s.heap s.heap [] := va_S.rf
  have b_53 : ∀ (x1_53 : Int32) (x2_53 : Int32) (x3_53 : Int32) (n_53 : Nat) (x4_53 : Int32) (σ_53 : MS) (H : Heap) (locs : List Loc) (ls : Array Slot), FM_back_53 x1_53 x2_53 x3_53 n_53 x4_53 σ_53 = some q → va_P D vwCl (wM cI cZ h ad σ_53) H → va_D A (wM cI cZ h ad σ_53) → va_S A s.heap H locs → lv_has ls 6 [(0, .ref h), (1, .int x1_53), (2, .int x2_53), (3, .int x3_53), (4, .int x4_53)] → W p l e (headSpec wsM_back { frames := 3, cells := 0, slots := 0, locals := 71 }).room s m ([.ref h, .int p1, .int p2] : List Value).toArray below meth c H locs 0 0 (MQ below (va_Qi (fun x u => x = q.1 ∧ u = q.2) (preM D cI cZ h ad A) A) ([.ref h, .int p1, .int p2] : List Value).toArray s 0 0 A) (F0 m 53 ls []) := by
    intro x1_53 x2_53 x3_53
    intro n_53
    induction n_53 with
    | zero =>
      intro x4_53 σ_53 H locs ls hF hP hD hS hl
      exact absurd hF (by simp [FM_back_53])
    | succ n_53 ih_53 =>
      intro x4_53 σ_53 H locs ls hF hP hD hS hl
      rw [FM_back_53] at hF
      refine lv_iload hx hb dX10_back_53 (lv_at hl 4 rfl) ?_
      refine lv_iload_n hx hb dX10_back_55 rfl (lv_at hl 2 rfl) ?_
      refine lv_icmp_ge (tgt := 72) hx hb dX10_back_56 (by decide) (fun c_56 => ?_) (fun c_56 => ?_)
      · have hF := ob_t c_56 hF
        refine lv_iload_n hx hb dX10_back_72 rfl (lv_at hl 3 rfl) ?_
        exact rwM hx hb hr hlocks hF hK hP hD hS dX10_back_73
      · have hF := ob_f c_56 hF
        refine lv_aload_n hx hb dX10_back_59 rfl (lv_at hl 0 rfl) ?_
        refine lv_iload_n hx hb dX10_back_60 rfl (lv_at hl 1 rfl) ?_
        obtain ⟨q_61, e_61, hF⟩ := ob_bd hF
        refine cwM (As := [.int x1_53]) (rest := []) ⟨hx, hb, hml, hown, hts⟩ (cM_wornOnce l D cI cZ h ad A σ_53 x1_53 _ e_61) (cw_wornOnce hts ⟨Nat.le_of_ble_eq_true rfl, Nat.le_of_ble_eq_true rfl⟩) hK hP hD hS rfl hl.1 rfl (lv_room (Nat.le_of_ble_eq_true rfl)) dX10_back_61 (fun H locs hP hD hS => ?_)
        refine lv_istore (lv' := [(5, .int q_61.1), (0, .ref h), (1, .int x1_53), (2, .int x2_53), (3, .int x3_53), (4, .int x4_53)]) hx hb dX10_back_64 hl (by decide) rfl (fun ls hl => ?_)
        refine lv_iinc (v := x4_53 + (1 : Int32)) (lv' := [(4, .int (x4_53 + (1 : Int32))), (5, .int q_61.1), (0, .ref h), (1, .int x1_53), (2, .int x2_53), (3, .int x3_53)]) hx hb dX10_back_66 hl (k := 5) rfl rfl (by decide) rfl (fun ls hl => ?_)
        refine lv_goto (tgt := 53) hx hb dX10_back_69 (by decide) ?_
        exact ih_53 (x4_53 + (1 : Int32)) q_61.2 _ _ _ hF hP hD hS (lv_sub hl [2, 3, 4, 5, 0] rfl)
  have hl := lv_entry ([.ref h, .int p1, .int p2]) (n := 6) (Nat.le_of_ble_eq_true rfl)
  rw [lg_entry_eq]
  generalize (lg_sl ([.ref h, .int p1, .int p2]) ++ List.replicate (6 - (lg_sl ([.ref h, .int p1, .int p2])).length) Slot.unset).toArray = ls at hl ⊢
  have hl : lv_has ls 6 [(0, .ref h), (1, .int p1), (2, .int p2)] := hl
  unfold FM_back at hF
  refine lv_aload_n hx hb dX10_back_0 rfl (lv_at hl 0 rfl) ?_
  refine lv_iload_n hx hb dX10_back_1 rfl (lv_at hl 1 rfl) ?_
  obtain ⟨q_2, e_2, hF⟩ := ob_bd hF
  refine crM (As := [.int p1]) (rest := []) ⟨hx, hb, hml, hown, hts⟩ (cM_isMade l D cI cZ h ad σ p1 _ e_2) (cw_isMade hts ⟨Nat.le_of_ble_eq_true rfl, Nat.le_of_ble_eq_true rfl⟩) hK hP rfl hl.1 rfl (lv_room (Nat.le_of_ble_eq_true rfl)) dX10_back_2 ?_
  refine lv_if_ne (tgt := 10) hx hb dX10_back_5 (by decide) (fun c_5 => ?_) (fun c_5 => ?_)
  · have hF := ob_f c_5 hF
    refine lv_iload_n hx hb dX10_back_10 rfl (lv_at hl 2 rfl) ?_
    refine lv_iconst (v := (0 : Int32)) hx hb dX10_back_11 (by decide) ?_
    refine lv_bipush (v := (9 : Int32)) hx hb dX10_back_12 (by decide) ?_
    obtain ⟨q_14, e_14, hF⟩ := ob_bd hF
    refine csM (As := [.int p2, .int (0 : Int32), .int (9 : Int32)]) (rest := []) ⟨hx, hb, hml, hown, hts⟩ (cM_in l p2 (0 : Int32) (9 : Int32) _ e_14) (cw_in hts ⟨Nat.le_of_ble_eq_true rfl, Nat.le_of_ble_eq_true rfl⟩) rfl hl.1 rfl (lv_room (Nat.le_of_ble_eq_true rfl)) dX10_back_14 ?_
    refine lv_if_ne (tgt := 23) hx hb dX10_back_17 (by decide) (fun c_17 => ?_) (fun c_17 => ?_)
    · have hF := ob_f c_17 hF
      refine lv_aload_n hx hb dX10_back_23 rfl (lv_at hl 0 rfl) ?_
      refine gM hx hb hts hin hown hK hP 20 (.ref (ad 20)) (by decide) mf_65 rfl dX10_back_24 ?_
      refine lv_iload_n hx hb dX10_back_27 rfl (lv_at hl 1 rfl) ?_
      obtain ⟨g_28, hF⟩ := ob_gd hF
      refine ldI hx hb hK hP (at_20 _ _ _ _ _) (σ.2 20 p1.toNatClampNeg) g_28 rfl dX10_back_28 ?_
      refine lv_iconst (v := (-1 : Int32)) hx hb dX10_back_29 (by decide) ?_
      refine lv_icmp_ne (tgt := 36) hx hb dX10_back_30 (by decide) (fun c_30 => ?_) (fun c_30 => ?_)
      · have hF := ob_f c_30 hF
        refine lv_aload_n hx hb dX10_back_36 rfl (lv_at hl 0 rfl) ?_
        refine gM hx hb hts hin hown hK hP 20 (.ref (ad 20)) (by decide) mf_65 rfl dX10_back_37 ?_
        refine lv_iload_n hx hb dX10_back_40 rfl (lv_at hl 1 rfl) ?_
        obtain ⟨g_41, hF⟩ := ob_gd hF
        refine ldI hx hb hK hP (at_20 _ _ _ _ _) (σ.2 20 p1.toNatClampNeg) g_41 rfl dX10_back_41 ?_
        refine lv_istore_n (lv' := [(3, .int (σ.2 20 p1.toNatClampNeg)), (0, .ref h), (1, .int p1), (2, .int p2)]) hx hb dX10_back_42 rfl hl (by decide) rfl (fun ls hl => ?_)
        refine lv_aload_n hx hb dX10_back_43 rfl (lv_at hl 1 rfl) ?_
        refine gM hx hb hts hin hown hK hP 20 (.ref (ad 20)) (by decide) mf_65 rfl dX10_back_44 ?_
        refine lv_iload_n hx hb dX10_back_47 rfl (lv_at hl 2 rfl) ?_
        refine lv_iconst (v := (-1 : Int32)) hx hb dX10_back_48 (by decide) ?_
        obtain ⟨g_49, hF⟩ := ob_gd hF
        refine stI hx hb hK hP hD hS (at_20 _ _ _ _ _) (st_20 _ _ _ _ _ _ _) g_49 dX10_back_49 (fun H locs hP hD hS => ?_)
        refine lv_iconst (v := (0 : Int32)) hx hb dX10_back_50 (by decide) ?_
        refine lv_istore (lv' := [(4, .int (0 : Int32)), (3, .int (σ.2 20 p1.toNatClampNeg)), (0, .ref h), (1, .int p1), (2, .int p2)]) hx hb dX10_back_51 hl (by decide) rfl (fun ls hl => ?_)
        exact b_53 p1 p2 (σ.2 20 p1.toNatClampNeg) fu (0 : Int32) (sa σ 20 p1 (-1 : Int32)) _ _ _ hF hP hD hS (lv_sub hl [2, 3, 4, 1, 0] rfl)
      · have hF := ob_t c_30 hF
        refine lv_bipush (v := (-3 : Int32)) hx hb dX10_back_33 (by decide) ?_
        exact rwM hx hb hr hlocks hF hK hP hD hS dX10_back_35
    · have hF := ob_t c_17 hF
      refine lv_bipush (v := (-2 : Int32)) hx hb dX10_back_20 (by decide) ?_
      exact rwM hx hb hr hlocks hF hK hP hD hS dX10_back_22
  · have hF := ob_t c_5 hF
    refine lv_iconst (v := (-1 : Int32)) hx hb dX10_back_8 (by decide) ?_
    exact rwM hx hb hr hlocks hF hK hP hD hS dX10_back_9
