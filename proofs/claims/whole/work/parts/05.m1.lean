def FM_in (p0 : Int32) (p1 : Int32) (p2 : Int32) : Option Int32 := (if p0 < p1 then (some (0 : Int32)) else (if p2 < p0 then (some (0 : Int32)) else (some (1 : Int32))))
def wsM_in : List Cond := Cond.code yX10_in cX10_in 3 (some .boolean) :: wMa
theorem cw_in {R : Room} {s : State} {args : Array Value} {y : MethodName} {c : ByteArray} {n : Nat} {r : Option FieldType} (hts : ∀ w ∈ (Cond.code y c n r :: wMa), w.before args s = true) (hR : 0 + 1 ≤ R.frames ∧ 8 + (3 + 11) + 0 ≤ R.locals) : CallB R s args RX10 141 yX10_in cX10_in 3 (some .boolean) wsM_in { frames := 0, cells := 0, slots := 0, locals := 0 } 0 0 3 ∧ (Cond.static yX10_in).before args s = true := va_cwS 3 hts (goodMS mm_141 mt_in m_ini mc_in) rfl rfl rfl (by decide +kernel) hR
set_option maxHeartbeats 4000000 in
set_option maxRecDepth 100000 in
theorem cM_in (l : Launch) (p0 : Int32) (p1 : Int32) (p2 : Int32) (q : Int32) (hF : FM_in p0 p1 p2 = some q) : Met l yX10_in wsM_in { frames := 0, cells := 0, slots := 0, locals := 0 } (va_Pc [.int p0, .int p1, .int p2] (fun _ => True)) (vp_Si (fun x => x = q)) 0 0 (fun _ => False) := by
  refine Met.ofW (cc := cX10_in) (maxL := 3) (ret := (some .boolean)) (by decide) rfl ?_
  intro p e s m args below meth c s₁ B hml hv
  obtain ⟨rfl, -⟩ := hv
  have hx := B.exec
  have hb := B.bytes
  have hr := B.returns
  have hts : ∀ w ∈ (Cond.code yX10_in cX10_in 3 (some .boolean) :: wMa), w.before ([.int p0, .int p1, .int p2] : List Value).toArray s = true := atoms_spec (ws := wsM_in) B.pre
  have hin : ∀ w ∈ wMa, w ∈ (Cond.code yX10_in cX10_in 3 (some .boolean) :: wMa) := fun w hw => List.mem_cons_of_mem _ hw
  have hown : s.vm.findClass RX10 = some m.cls := findClass_of_methodNamed B.named
  have hlocks := B.notSynchronized
  have hl := lv_entry ([.int p0, .int p1, .int p2]) (n := 3) (Nat.le_of_ble_eq_true rfl)
  rw [lg_entry_eq]
  generalize (lg_sl ([.int p0, .int p1, .int p2]) ++ List.replicate (3 - (lg_sl ([.int p0, .int p1, .int p2])).length) Slot.unset).toArray = ls at hl ⊢
  have hl : lv_has ls 3 [(0, .int p0), (1, .int p1), (2, .int p2)] := hl
  unfold FM_in at hF
  refine lv_iload_n hx hb dX10_in_0 rfl (lv_at hl 0 rfl) ?_
  refine lv_iload_n hx hb dX10_in_1 rfl (lv_at hl 1 rfl) ?_
  refine lv_icmp_lt (tgt := 14) hx hb dX10_in_2 (by decide) (fun c_2 => ?_) (fun c_2 => ?_)
  · have hF := ob_t c_2 hF
    refine lv_iconst (v := (0 : Int32)) hx hb dX10_in_14 (by decide) ?_
    exact rzM hx hb hr hlocks rfl hF dX10_in_15
  · have hF := ob_f c_2 hF
    refine lv_iload_n hx hb dX10_in_5 rfl (lv_at hl 0 rfl) ?_
    refine lv_iload_n hx hb dX10_in_6 rfl (lv_at hl 2 rfl) ?_
    refine lv_icmp_gt (tgt := 14) hx hb dX10_in_7 (by decide) (fun c_7 => ?_) (fun c_7 => ?_)
    · have hF := ob_t c_7 hF
      refine lv_iconst (v := (0 : Int32)) hx hb dX10_in_14 (by decide) ?_
      exact rzM hx hb hr hlocks rfl hF dX10_in_15
    · have hF := ob_f c_7 hF
      refine lv_iconst (v := (1 : Int32)) hx hb dX10_in_10 (by decide) ?_
      refine lv_goto (tgt := 15) hx hb dX10_in_11 (by decide) ?_
      exact rzM hx hb hr hlocks rfl hF dX10_in_15
def FM_isThere (σ : MS) (p1 : Int32) : Option Int32 := ((FM_in p1 (0 : Int32) ((σ.1 0) - (1 : Int32))).bind fun q_8 => (if q_8 = 0 then (some (0 : Int32)) else (gd (inb p1 40) (if (σ.2 1 p1.toNatClampNeg) = 0 then (some (0 : Int32)) else (some (1 : Int32))))))
def wsM_isThere : List Cond := Cond.code yX10_isThere cX10_isThere 2 (some .boolean) :: wMa
theorem cw_isThere {R : Room} {s : State} {args : Array Value} {y : MethodName} {c : ByteArray} {n : Nat} {r : Option FieldType} (hts : ∀ w ∈ (Cond.code y c n r :: wMa), w.before args s = true) (hR : 1 + 1 ≤ R.frames ∧ 8 + (2 + 11) + 22 ≤ R.locals) : CallW R s args RX10 RX10 157 yX10_isThere cX10_isThere 2 (some .boolean) wsM_isThere { frames := 1, cells := 0, slots := 0, locals := 22 } 0 0 1 := cwV 1 hts (goodMV mm_157 mi_isThere ms_isThere m_ini mc_isThere) rfl rfl rfl (by decide +kernel) hR
set_option maxHeartbeats 4000000 in
set_option maxRecDepth 100000 in
theorem cM_isThere (l : Launch) (D : va_G) (cI cZ : ClassId) (h : Nat) (ad : Nat → Nat) (σ : MS) (p1 : Int32) (q : Int32) (hF : FM_isThere σ p1 = some q) : Met l yX10_isThere wsM_isThere { frames := 1, cells := 0, slots := 0, locals := 22 } (va_Pc [.ref h, .int p1] (preR D cI cZ h ad σ)) (vp_Si (fun x => x = q)) 0 0 (fun _ => False) := by
  refine Met.ofW (cc := cX10_isThere) (maxL := 2) (ret := (some .boolean)) (by decide) rfl ?_
  intro p e s m args below meth c s₁ B hml hv
  obtain ⟨rfl, hP, hK⟩ := hv
  have hx := B.exec
  have hb := B.bytes
  have hr := B.returns
  have hts : ∀ w ∈ (Cond.code yX10_isThere cX10_isThere 2 (some .boolean) :: wMa), w.before ([.ref h, .int p1] : List Value).toArray s = true := atoms_spec (ws := wsM_isThere) B.pre
  have hin : ∀ w ∈ wMa, w ∈ (Cond.code yX10_isThere cX10_isThere 2 (some .boolean) :: wMa) := fun w hw => List.mem_cons_of_mem _ hw
  have hown : s.vm.findClass RX10 = some m.cls := findClass_of_methodNamed B.named
  have hlocks := B.notSynchronized
  have hl := lv_entry ([.ref h, .int p1]) (n := 2) (Nat.le_of_ble_eq_true rfl)
  rw [lg_entry_eq]
  generalize (lg_sl ([.ref h, .int p1]) ++ List.replicate (2 - (lg_sl ([.ref h, .int p1])).length) Slot.unset).toArray = ls at hl ⊢
  have hl : lv_has ls 2 [(0, .ref h), (1, .int p1)] := hl
  unfold FM_isThere at hF
  refine lv_iload_n hx hb dX10_isThere_0 rfl (lv_at hl 1 rfl) ?_
  refine lv_iconst (v := (0 : Int32)) hx hb dX10_isThere_1 (by decide) ?_
  refine lv_aload_n hx hb dX10_isThere_2 rfl (lv_at hl 0 rfl) ?_
  refine gM hx hb hts hin hown hK hP 0 (.int (σ.1 0)) (by decide) mf_138 rfl dX10_isThere_3 ?_
  refine lv_iconst (v := (1 : Int32)) hx hb dX10_isThere_6 (by decide) ?_
  refine lv_isub hx hb dX10_isThere_7 ?_
  obtain ⟨q_8, e_8, hF⟩ := ob_bd hF
  refine csM (As := [.int p1, .int (0 : Int32), .int ((σ.1 0) - (1 : Int32))]) (rest := []) ⟨hx, hb, hml, hown, hts⟩ (cM_in l p1 (0 : Int32) ((σ.1 0) - (1 : Int32)) _ e_8) (cw_in hts ⟨Nat.le_of_ble_eq_true rfl, Nat.le_of_ble_eq_true rfl⟩) rfl hl.1 rfl (lv_room (Nat.le_of_ble_eq_true rfl)) dX10_isThere_8 ?_
  refine lv_if_eq (tgt := 27) hx hb dX10_isThere_11 (by decide) (fun c_11 => ?_) (fun c_11 => ?_)
  · have hF := ob_t c_11 hF
    refine lv_iconst (v := (0 : Int32)) hx hb dX10_isThere_27 (by decide) ?_
    exact rzM hx hb hr hlocks rfl hF dX10_isThere_28
  · have hF := ob_f c_11 hF
    refine lv_aload_n hx hb dX10_isThere_14 rfl (lv_at hl 0 rfl) ?_
    refine gM hx hb hts hin hown hK hP 1 (.ref (ad 1)) (by decide) mf_7 rfl dX10_isThere_15 ?_
    refine lv_iload_n hx hb dX10_isThere_18 rfl (lv_at hl 1 rfl) ?_
    obtain ⟨g_19, hF⟩ := ob_gd hF
    refine ldZ hx hb hK hP (at_1 _ _ _ _ _) (σ.2 1 p1.toNatClampNeg) g_19 rfl dX10_isThere_19 ?_
    refine lv_if_eq (tgt := 27) hx hb dX10_isThere_20 (by decide) (fun c_20 => ?_) (fun c_20 => ?_)
    · have hF := ob_t c_20 hF
      refine lv_iconst (v := (0 : Int32)) hx hb dX10_isThere_27 (by decide) ?_
      exact rzM hx hb hr hlocks rfl hF dX10_isThere_28
    · have hF := ob_f c_20 hF
      refine lv_iconst (v := (1 : Int32)) hx hb dX10_isThere_23 (by decide) ?_
      refine lv_goto (tgt := 28) hx hb dX10_isThere_24 (by decide) ?_
      exact rzM hx hb hr hlocks rfl hF dX10_isThere_28
def FM_isMade (σ : MS) (p1 : Int32) : Option Int32 := ((FM_in p1 (0 : Int32) ((σ.1 6) - (1 : Int32))).bind fun q_8 => (if q_8 = 0 then (some (0 : Int32)) else (gd (inb p1 30) (if (σ.2 7 p1.toNatClampNeg) = 0 then (some (0 : Int32)) else (some (1 : Int32))))))
def wsM_isMade : List Cond := Cond.code yX10_isMade cX10_isMade 2 (some .boolean) :: wMa
theorem cw_isMade {R : Room} {s : State} {args : Array Value} {y : MethodName} {c : ByteArray} {n : Nat} {r : Option FieldType} (hts : ∀ w ∈ (Cond.code y c n r :: wMa), w.before args s = true) (hR : 1 + 1 ≤ R.frames ∧ 8 + (2 + 11) + 22 ≤ R.locals) : CallW R s args RX10 RX10 219 yX10_isMade cX10_isMade 2 (some .boolean) wsM_isMade { frames := 1, cells := 0, slots := 0, locals := 22 } 0 0 1 := cwV 1 hts (goodMV mm_219 mi_isMade ms_isMade m_ini mc_isMade) rfl rfl rfl (by decide +kernel) hR
set_option maxHeartbeats 4000000 in
set_option maxRecDepth 100000 in
theorem cM_isMade (l : Launch) (D : va_G) (cI cZ : ClassId) (h : Nat) (ad : Nat → Nat) (σ : MS) (p1 : Int32) (q : Int32) (hF : FM_isMade σ p1 = some q) : Met l yX10_isMade wsM_isMade { frames := 1, cells := 0, slots := 0, locals := 22 } (va_Pc [.ref h, .int p1] (preR D cI cZ h ad σ)) (vp_Si (fun x => x = q)) 0 0 (fun _ => False) := by
  refine Met.ofW (cc := cX10_isMade) (maxL := 2) (ret := (some .boolean)) (by decide) rfl ?_
  intro p e s m args below meth c s₁ B hml hv
  obtain ⟨rfl, hP, hK⟩ := hv
  have hx := B.exec
  have hb := B.bytes
  have hr := B.returns
  have hts : ∀ w ∈ (Cond.code yX10_isMade cX10_isMade 2 (some .boolean) :: wMa), w.before ([.ref h, .int p1] : List Value).toArray s = true := atoms_spec (ws := wsM_isMade) B.pre
  have hin : ∀ w ∈ wMa, w ∈ (Cond.code yX10_isMade cX10_isMade 2 (some .boolean) :: wMa) := fun w hw => List.mem_cons_of_mem _ hw
  have hown : s.vm.findClass RX10 = some m.cls := findClass_of_methodNamed B.named
  have hlocks := B.notSynchronized
  have hl := lv_entry ([.ref h, .int p1]) (n := 2) (Nat.le_of_ble_eq_true rfl)
  rw [lg_entry_eq]
  generalize (lg_sl ([.ref h, .int p1]) ++ List.replicate (2 - (lg_sl ([.ref h, .int p1])).length) Slot.unset).toArray = ls at hl ⊢
  have hl : lv_has ls 2 [(0, .ref h), (1, .int p1)] := hl
  unfold FM_isMade at hF
  refine lv_iload_n hx hb dX10_isMade_0 rfl (lv_at hl 1 rfl) ?_
  refine lv_iconst (v := (0 : Int32)) hx hb dX10_isMade_1 (by decide) ?_
  refine lv_aload_n hx hb dX10_isMade_2 rfl (lv_at hl 0 rfl) ?_
  refine gM hx hb hts hin hown hK hP 6 (.int (σ.1 6)) (by decide) mf_145 rfl dX10_isMade_3 ?_
  refine lv_iconst (v := (1 : Int32)) hx hb dX10_isMade_6 (by decide) ?_
  refine lv_isub hx hb dX10_isMade_7 ?_
  obtain ⟨q_8, e_8, hF⟩ := ob_bd hF
  refine csM (As := [.int p1, .int (0 : Int32), .int ((σ.1 6) - (1 : Int32))]) (rest := []) ⟨hx, hb, hml, hown, hts⟩ (cM_in l p1 (0 : Int32) ((σ.1 6) - (1 : Int32)) _ e_8) (cw_in hts ⟨Nat.le_of_ble_eq_true rfl, Nat.le_of_ble_eq_true rfl⟩) rfl hl.1 rfl (lv_room (Nat.le_of_ble_eq_true rfl)) dX10_isMade_8 ?_
  refine lv_if_eq (tgt := 27) hx hb dX10_isMade_11 (by decide) (fun c_11 => ?_) (fun c_11 => ?_)
  · have hF := ob_t c_11 hF
    refine lv_iconst (v := (0 : Int32)) hx hb dX10_isMade_27 (by decide) ?_
    exact rzM hx hb hr hlocks rfl hF dX10_isMade_28
  · have hF := ob_f c_11 hF
    refine lv_aload_n hx hb dX10_isMade_14 rfl (lv_at hl 0 rfl) ?_
    refine gM hx hb hts hin hown hK hP 7 (.ref (ad 7)) (by decide) mf_26 rfl dX10_isMade_15 ?_
    refine lv_iload_n hx hb dX10_isMade_18 rfl (lv_at hl 1 rfl) ?_
    obtain ⟨g_19, hF⟩ := ob_gd hF
    refine ldZ hx hb hK hP (at_7 _ _ _ _ _) (σ.2 7 p1.toNatClampNeg) g_19 rfl dX10_isMade_19 ?_
    refine lv_if_eq (tgt := 27) hx hb dX10_isMade_20 (by decide) (fun c_20 => ?_) (fun c_20 => ?_)
    · have hF := ob_t c_20 hF
      refine lv_iconst (v := (0 : Int32)) hx hb dX10_isMade_27 (by decide) ?_
      exact rzM hx hb hr hlocks rfl hF dX10_isMade_28
    · have hF := ob_f c_20 hF
      refine lv_iconst (v := (1 : Int32)) hx hb dX10_isMade_23 (by decide) ?_
      refine lv_goto (tgt := 28) hx hb dX10_isMade_24 (by decide) ?_
      exact rzM hx hb hr hlocks rfl hF dX10_isMade_28
def FM_feed_33 (x1_33 : Int64) : Nat → Int32 → MS → Option (Int32 × MS)
  | 0, _, _ => none
  | n_33 + 1, x4_33, σ_33 => (if x4_33 < 0 then (some ((σ_33.1 31), σ_33)) else (gd (inb (σ_33.1 31) 130) (FM_feed_33  x1_33 n_33 (x4_33 + (-1 : Int32)) (si (sa σ_33 30 (σ_33.1 31) (((x1_33 >>> (((8 : Int32) * x4_33).toInt64 &&& 63)) &&& (255 : Int64)).toInt32)) 31 ((σ_33.1 31) + (1 : Int32))))))
def FM_feed (σ : MS) (p1 : Int64) (p3 : Int32) : Option (Int32 × MS) := ((FM_in p3 (1 : Int32) (8 : Int32)).bind fun q_4 => (if q_4 = 0 then (some ((-2 : Int32), σ)) else (if ((σ.1 31) + p3) ≤ (130 : Int32) then (FM_feed_33 p1 fu (p3 - (1 : Int32)) σ) else (some ((-4 : Int32), σ)))))
def wsM_feed : List Cond := Cond.code yX10_feed cX10_feed 5 (some .int) :: wMa
set_option maxHeartbeats 4000000 in
set_option maxRecDepth 100000 in
theorem cM_feed (l : Launch) (D : va_G) (cI cZ : ClassId) (h : Nat) (ad : Nat → Nat) (A : Nat → Prop) (σ : MS) (p1 : Int64) (p3 : Int32) (q : Int32 × MS) (hF : FM_feed σ p1 p3 = some q) : Met l yX10_feed wsM_feed { frames := 1, cells := 0, slots := 0, locals := 22 } (va_Pc [.ref h, .long p1, .int p3] (preM D cI cZ h ad A σ)) (va_Qi (fun x u => x = q.1 ∧ u = q.2) (preM D cI cZ h ad A) A) 0 0 A := by
  refine Met.ofW (cc := cX10_feed) (maxL := 5) (ret := (some .int)) (by decide) rfl ?_
  intro p e s m args below meth c s₁ B hml hv
  obtain ⟨rfl, hP, hK, hD⟩ := hv
  have hx := B.exec
  have hb := B.bytes
  have hr := B.returns
  have hts : ∀ w ∈ (Cond.code yX10_feed cX10_feed 5 (some .int) :: wMa), w.before ([.ref h, .long p1, .int p3] : List Value).toArray s = true := atoms_spec (ws := wsM_feed) B.pre
  have hin : ∀ w ∈ wMa, w ∈ (Cond.code yX10_feed cX10_feed 5 (some .int) :: wMa) := fun w hw => List.mem_cons_of_mem _ hw
  have hown : s.vm.findClass RX10 = some m.cls := findClass_of_methodNamed B.named
  have hlocks := B.notSynchronized
  have hS : va_S A s.heap s.heap [] := va_S.rf
  have b_33 : ∀ (x1_33 : Int64) (n_33 : Nat) (x4_33 : Int32) (σ_33 : MS) (H : Heap) (locs : List Loc) (ls : Array Slot), FM_feed_33 x1_33 n_33 x4_33 σ_33 = some q → va_P D vwCl (wM cI cZ h ad σ_33) H → va_D A (wM cI cZ h ad σ_33) → va_S A s.heap H locs → lv_has ls 5 [(0, .ref h), (1, .long x1_33), (4, .int x4_33)] → W p l e (headSpec wsM_feed { frames := 1, cells := 0, slots := 0, locals := 22 }).room s m ([.ref h, .long p1, .int p3] : List Value).toArray below meth c H locs 0 0 (MQ below (va_Qi (fun x u => x = q.1 ∧ u = q.2) (preM D cI cZ h ad A) A) ([.ref h, .long p1, .int p3] : List Value).toArray s 0 0 A) (F0 m 33 ls []) := by
    intro x1_33
    intro n_33
    induction n_33 with
    | zero =>
      intro x4_33 σ_33 H locs ls hF hP hD hS hl
      exact absurd hF (by simp [FM_feed_33])
    | succ n_33 ih_33 =>
      intro x4_33 σ_33 H locs ls hF hP hD hS hl
      rw [FM_feed_33] at hF
      refine lv_iload hx hb dX10_feed_33 (lv_at hl 2 rfl) ?_
      refine lv_if_lt (tgt := 75) hx hb dX10_feed_35 (by decide) (fun c_35 => ?_) (fun c_35 => ?_)
      · have hF := ob_t c_35 hF
        refine lv_aload_n hx hb dX10_feed_75 rfl (lv_at hl 0 rfl) ?_
        refine gM hx hb hts hin hown hK hP 31 (.int (σ_33.1 31)) (by decide) mf_148 rfl dX10_feed_76 ?_
        exact rwM hx hb hr hlocks hF hK hP hD hS dX10_feed_79
      · have hF := ob_f c_35 hF
        refine lv_aload_n hx hb dX10_feed_38 rfl (lv_at hl 0 rfl) ?_
        refine gM hx hb hts hin hown hK hP 30 (.ref (ad 30)) (by decide) mf_93 rfl dX10_feed_39 ?_
        refine lv_aload_n hx hb dX10_feed_42 rfl (lv_at hl 0 rfl) ?_
        refine gM hx hb hts hin hown hK hP 31 (.int (σ_33.1 31)) (by decide) mf_148 rfl dX10_feed_43 ?_
        refine lv_lload_n hx hb dX10_feed_46 rfl (lv_at hl 1 rfl) ?_
        refine lv_bipush (v := (8 : Int32)) hx hb dX10_feed_47 (by decide) ?_
        refine lv_iload hx hb dX10_feed_49 (lv_at hl 2 rfl) ?_
        refine lv_imul hx hb dX10_feed_51 ?_
        refine lv_lshr (v := (x1_33 >>> (((8 : Int32) * x4_33).toInt64 &&& 63))) hx hb dX10_feed_52 rfl ?_
        refine lv_ldc2 (v := (255 : Int64)) hx hb hown (hts _ (hin _ mk_151)) dX10_feed_53 ?_
        refine lv_land hx hb dX10_feed_56 ?_
        refine lv_l2i (v := ((x1_33 >>> (((8 : Int32) * x4_33).toInt64 &&& 63)) &&& (255 : Int64)).toInt32) hx hb dX10_feed_57 rfl ?_
        obtain ⟨g_58, hF⟩ := ob_gd hF
        refine stI hx hb hK hP hD hS (at_30 _ _ _ _ _) (st_30 _ _ _ _ _ _ _) g_58 dX10_feed_58 (fun H locs hP hD hS => ?_)
        refine lv_aload_n hx hb dX10_feed_59 rfl (lv_at hl 0 rfl) ?_
        refine lv_dup hx hb dX10_feed_60 rfl ?_
        refine gM hx hb hts hin hown hK hP 31 (.int (σ_33.1 31)) (by decide) mf_148 rfl dX10_feed_61 ?_
        refine lv_iconst (v := (1 : Int32)) hx hb dX10_feed_64 (by decide) ?_
        refine lv_iadd hx hb dX10_feed_65 ?_
        refine pM (ty := .int) (v := ((σ_33.1 31) + (1 : Int32))) hx hb hts hin hown hK hP hD hS 31 (by decide) mf_148 rfl (by decide +kernel) rfl rfl (Nat.le_of_ble_eq_true rfl) (pu_31 _ _ _ _ _ _) dX10_feed_66 (fun H locs hP hD hS => ?_)
        refine lv_iinc (v := x4_33 + (-1 : Int32)) (lv' := [(4, .int (x4_33 + (-1 : Int32))), (0, .ref h), (1, .long x1_33)]) hx hb dX10_feed_69 hl (k := 2) rfl rfl (by decide) rfl (fun ls hl => ?_)
        refine lv_goto (tgt := 33) hx hb dX10_feed_72 (by decide) ?_
        exact ih_33 (x4_33 + (-1 : Int32)) (si (sa σ_33 30 (σ_33.1 31) (((x1_33 >>> (((8 : Int32) * x4_33).toInt64 &&& 63)) &&& (255 : Int64)).toInt32)) 31 ((σ_33.1 31) + (1 : Int32))) _ _ _ hF hP hD hS (lv_sub hl [1, 2, 0] rfl)
  have hl := lv_entry ([.ref h, .long p1, .int p3]) (n := 5) (Nat.le_of_ble_eq_true rfl)
  rw [lg_entry_eq]
  generalize (lg_sl ([.ref h, .long p1, .int p3]) ++ List.replicate (5 - (lg_sl ([.ref h, .long p1, .int p3])).length) Slot.unset).toArray = ls at hl ⊢
  have hl : lv_has ls 5 [(0, .ref h), (1, .long p1), (3, .int p3)] := hl
  unfold FM_feed at hF
  refine lv_iload_n hx hb dX10_feed_0 rfl (lv_at hl 2 rfl) ?_
  refine lv_iconst (v := (1 : Int32)) hx hb dX10_feed_1 (by decide) ?_
  refine lv_bipush (v := (8 : Int32)) hx hb dX10_feed_2 (by decide) ?_
  obtain ⟨q_4, e_4, hF⟩ := ob_bd hF
  refine csM (As := [.int p3, .int (1 : Int32), .int (8 : Int32)]) (rest := []) ⟨hx, hb, hml, hown, hts⟩ (cM_in l p3 (1 : Int32) (8 : Int32) _ e_4) (cw_in hts ⟨Nat.le_of_ble_eq_true rfl, Nat.le_of_ble_eq_true rfl⟩) rfl hl.1 rfl (lv_room (Nat.le_of_ble_eq_true rfl)) dX10_feed_4 ?_
  refine lv_if_ne (tgt := 13) hx hb dX10_feed_7 (by decide) (fun c_7 => ?_) (fun c_7 => ?_)
  · have hF := ob_f c_7 hF
    refine lv_aload_n hx hb dX10_feed_13 rfl (lv_at hl 0 rfl) ?_
    refine gM hx hb hts hin hown hK hP 31 (.int (σ.1 31)) (by decide) mf_148 rfl dX10_feed_14 ?_
    refine lv_iload_n hx hb dX10_feed_17 rfl (lv_at hl 2 rfl) ?_
    refine lv_iadd hx hb dX10_feed_18 ?_
    refine lv_sipush (v := (130 : Int32)) hx hb dX10_feed_19 (by decide) ?_
    refine lv_icmp_le (tgt := 28) hx hb dX10_feed_22 (by decide) (fun c_22 => ?_) (fun c_22 => ?_)
    · have hF := ob_t c_22 hF
      refine lv_iload_n hx hb dX10_feed_28 rfl (lv_at hl 2 rfl) ?_
      refine lv_iconst (v := (1 : Int32)) hx hb dX10_feed_29 (by decide) ?_
      refine lv_isub hx hb dX10_feed_30 ?_
      refine lv_istore (lv' := [(4, .int (p3 - (1 : Int32))), (0, .ref h), (1, .long p1), (3, .int p3)]) hx hb dX10_feed_31 hl (by decide) rfl (fun ls hl => ?_)
      exact b_33 p1 fu (p3 - (1 : Int32)) σ _ _ _ hF hP hD hS (lv_sub hl [1, 2, 0] rfl)
    · have hF := ob_f c_22 hF
      refine lv_bipush (v := (-4 : Int32)) hx hb dX10_feed_25 (by decide) ?_
      exact rwM hx hb hr hlocks hF hK hP hD hS dX10_feed_27
  · have hF := ob_t c_7 hF
    refine lv_bipush (v := (-2 : Int32)) hx hb dX10_feed_10 (by decide) ?_
    exact rwM hx hb hr hlocks hF hK hP hD hS dX10_feed_12
def FM_comes (σ : MS) (p1 : Int32) (p2 : Int32) (p3 : Int32) : Option (Int32 × MS) := (gd (inb (σ.1 0) 40) (gd (inb (σ.1 0) 40) (gd (inb (σ.1 0) 40) (gd (inb (σ.1 0) 40) (some ((((σ.1 0) + (1 : Int32)) - (1 : Int32)), (si (sa (sa (sa (sa σ 1 (σ.1 0) (1 : Int32)) 2 (σ.1 0) p1) 3 (σ.1 0) p2) 4 (σ.1 0) p3) 0 ((σ.1 0) + (1 : Int32)))))))))
def wsM_comes : List Cond := Cond.code yX10_comes cX10_comes 4 (some .int) :: wMa
theorem cw_comes {R : Room} {s : State} {args : Array Value} {y : MethodName} {c : ByteArray} {n : Nat} {r : Option FieldType} (hts : ∀ w ∈ (Cond.code y c n r :: wMa), w.before args s = true) (hR : 0 + 1 ≤ R.frames ∧ 8 + (4 + 11) + 0 ≤ R.locals) : CallW R s args RX10 RX10 153 yX10_comes cX10_comes 4 (some .int) wsM_comes { frames := 0, cells := 0, slots := 0, locals := 0 } 0 0 3 := cwV 3 hts (goodMV mm_153 mi_comes ms_comes m_ini mc_comes) rfl rfl rfl (by decide +kernel) hR
set_option maxHeartbeats 4000000 in
set_option maxRecDepth 100000 in
theorem cM_comes (l : Launch) (D : va_G) (cI cZ : ClassId) (h : Nat) (ad : Nat → Nat) (A : Nat → Prop) (σ : MS) (p1 : Int32) (p2 : Int32) (p3 : Int32) (q : Int32 × MS) (hF : FM_comes σ p1 p2 p3 = some q) : Met l yX10_comes wsM_comes { frames := 0, cells := 0, slots := 0, locals := 0 } (va_Pc [.ref h, .int p1, .int p2, .int p3] (preM D cI cZ h ad A σ)) (va_Qi (fun x u => x = q.1 ∧ u = q.2) (preM D cI cZ h ad A) A) 0 0 A := by
  refine Met.ofW (cc := cX10_comes) (maxL := 4) (ret := (some .int)) (by decide) rfl ?_
  intro p e s m args below meth c s₁ B hml hv
  obtain ⟨rfl, hP, hK, hD⟩ := hv
  have hx := B.exec
  have hb := B.bytes
  have hr := B.returns
  have hts : ∀ w ∈ (Cond.code yX10_comes cX10_comes 4 (some .int) :: wMa), w.before ([.ref h, .int p1, .int p2, .int p3] : List Value).toArray s = true := atoms_spec (ws := wsM_comes) B.pre
  have hin : ∀ w ∈ wMa, w ∈ (Cond.code yX10_comes cX10_comes 4 (some .int) :: wMa) := fun w hw => List.mem_cons_of_mem _ hw
  have hown : s.vm.findClass RX10 = some m.cls := findClass_of_methodNamed B.named
  have hlocks := B.notSynchronized
  have hS : va_S A s.heap s.heap [] := va_S.rf
  have hl := lv_entry ([.ref h, .int p1, .int p2, .int p3]) (n := 4) (Nat.le_of_ble_eq_true rfl)
  rw [lg_entry_eq]
  generalize (lg_sl ([.ref h, .int p1, .int p2, .int p3]) ++ List.replicate (4 - (lg_sl ([.ref h, .int p1, .int p2, .int p3])).length) Slot.unset).toArray = ls at hl ⊢
  have hl : lv_has ls 4 [(0, .ref h), (1, .int p1), (2, .int p2), (3, .int p3)] := hl
  unfold FM_comes at hF
  refine lv_aload_n hx hb dX10_comes_0 rfl (lv_at hl 0 rfl) ?_
  refine gM hx hb hts hin hown hK hP 1 (.ref (ad 1)) (by decide) mf_7 rfl dX10_comes_1 ?_
  refine lv_aload_n hx hb dX10_comes_4 rfl (lv_at hl 0 rfl) ?_
  refine gM hx hb hts hin hown hK hP 0 (.int (σ.1 0)) (by decide) mf_138 rfl dX10_comes_5 ?_
  refine lv_iconst (v := (1 : Int32)) hx hb dX10_comes_8 (by decide) ?_
  obtain ⟨g_9, hF⟩ := ob_gd hF
  refine stZ (y := (1 : Int32)) hx hb hK hP hD hS (at_1 _ _ _ _ _) rfl (st_1 _ _ _ _ _ _ _) g_9 dX10_comes_9 (fun H locs hP hD hS => ?_)
  refine lv_aload_n hx hb dX10_comes_10 rfl (lv_at hl 0 rfl) ?_
  refine gM hx hb hts hin hown hK hP 2 (.ref (ad 2)) (by decide) mf_13 rfl dX10_comes_11 ?_
  refine lv_aload_n hx hb dX10_comes_14 rfl (lv_at hl 0 rfl) ?_
  refine gM hx hb hts hin hown hK hP 0 (.int (σ.1 0)) (by decide) mf_138 rfl dX10_comes_15 ?_
  refine lv_iload_n hx hb dX10_comes_18 rfl (lv_at hl 1 rfl) ?_
  obtain ⟨g_19, hF⟩ := ob_gd hF
  refine stI hx hb hK hP hD hS (at_2 _ _ _ _ _) (st_2 _ _ _ _ _ _ _) g_19 dX10_comes_19 (fun H locs hP hD hS => ?_)
  refine lv_aload_n hx hb dX10_comes_20 rfl (lv_at hl 0 rfl) ?_
  refine gM hx hb hts hin hown hK hP 3 (.ref (ad 3)) (by decide) mf_17 rfl dX10_comes_21 ?_
  refine lv_aload_n hx hb dX10_comes_24 rfl (lv_at hl 0 rfl) ?_
  refine gM hx hb hts hin hown hK hP 0 (.int (σ.1 0)) (by decide) mf_138 rfl dX10_comes_25 ?_
  refine lv_iload_n hx hb dX10_comes_28 rfl (lv_at hl 2 rfl) ?_
  obtain ⟨g_29, hF⟩ := ob_gd hF
  refine stI hx hb hK hP hD hS (at_3 _ _ _ _ _) (st_3 _ _ _ _ _ _ _) g_29 dX10_comes_29 (fun H locs hP hD hS => ?_)
  refine lv_aload_n hx hb dX10_comes_30 rfl (lv_at hl 0 rfl) ?_
  refine gM hx hb hts hin hown hK hP 4 (.ref (ad 4)) (by decide) mf_20 rfl dX10_comes_31 ?_
  refine lv_aload_n hx hb dX10_comes_34 rfl (lv_at hl 0 rfl) ?_
  refine gM hx hb hts hin hown hK hP 0 (.int (σ.1 0)) (by decide) mf_138 rfl dX10_comes_35 ?_
  refine lv_iload_n hx hb dX10_comes_38 rfl (lv_at hl 3 rfl) ?_
  obtain ⟨g_39, hF⟩ := ob_gd hF
  refine stI hx hb hK hP hD hS (at_4 _ _ _ _ _) (st_4 _ _ _ _ _ _ _) g_39 dX10_comes_39 (fun H locs hP hD hS => ?_)
  refine lv_aload_n hx hb dX10_comes_40 rfl (lv_at hl 0 rfl) ?_
  refine lv_dup hx hb dX10_comes_41 rfl ?_
  refine gM hx hb hts hin hown hK hP 0 (.int (σ.1 0)) (by decide) mf_138 rfl dX10_comes_42 ?_
  refine lv_iconst (v := (1 : Int32)) hx hb dX10_comes_45 (by decide) ?_
  refine lv_iadd hx hb dX10_comes_46 ?_
  refine pM (ty := .int) (v := ((σ.1 0) + (1 : Int32))) hx hb hts hin hown hK hP hD hS 0 (by decide) mf_138 rfl (by decide +kernel) rfl rfl (Nat.le_of_ble_eq_true rfl) (pu_0 _ _ _ _ _ _) dX10_comes_47 (fun H locs hP hD hS => ?_)
  refine lv_aload_n hx hb dX10_comes_50 rfl (lv_at hl 0 rfl) ?_
  refine gM hx hb hts hin hown hK hP 0 (.int ((σ.1 0) + (1 : Int32))) (by decide) mf_138 rfl dX10_comes_51 ?_
  refine lv_iconst (v := (1 : Int32)) hx hb dX10_comes_54 (by decide) ?_
  refine lv_isub hx hb dX10_comes_55 ?_
  exact rwM hx hb hr hlocks hF hK hP hD hS dX10_comes_56
def FM_bolt_118 (K_45 : Int32 → Int32 → Int32 → Int32 → MS → Option (Int32 × MS)) (x1_118 : Int32) (x2_118 : Int32) (x3_118 : Int32) (x4_118 : Int32) (x5_118 : Int32) (x6_118 : Int32) (σ_118 : MS) : Option (Int32 × MS) := (gd (inb x4_118 130) (if (σ_118.2 30 x4_118.toNatClampNeg) = (33 : Int32) then (if x5_118 = 0 then (K_45 x3_118 x4_118 x5_118 (0 : Int32) σ_118) else (gd (inb ((((120 : Int32) * (σ_118.1 0)) + x3_118) - (1 : Int32)) 4800) (gd (inb ((((120 : Int32) * (σ_118.1 0)) + x3_118) - (1 : Int32)) 4800) (K_45 x3_118 (x4_118 + (1 : Int32)) (0 : Int32) x6_118 (sa σ_118 5 ((((120 : Int32) * (σ_118.1 0)) + x3_118) - (1 : Int32)) ((σ_118.2 5 ((((120 : Int32) * (σ_118.1 0)) + x3_118) - (1 : Int32)).toNatClampNeg) + (10 : Int32))))))) else (K_45 x3_118 x4_118 x5_118 (0 : Int32) σ_118)))
def FM_bolt_45 (K_171 : Int32 → Int32 → Int32 → MS → Option (Int32 × MS)) (x1_45 : Int32) (x2_45 : Int32) : Nat → Int32 → Int32 → Int32 → Int32 → MS → Option (Int32 × MS)
  | 0, _, _, _, _, _ => none
  | n_45 + 1, x3_45, x4_45, x5_45, x6_45, σ_45 => (if x6_45 = 0 then (K_171 x3_45 x4_45 x6_45 σ_45) else (if (σ_45.1 31) ≤ x4_45 then (K_171 x3_45 x4_45 x6_45 σ_45) else (gd (inb x4_45 130) ((FM_in (σ_45.2 30 x4_45.toNatClampNeg) (48 : Int32) (57 : Int32)).bind fun q_70 => (if q_70 = 0 then (FM_bolt_118 (fun x3_45 x4_45 x5_45 x6_45 σ_45 => FM_bolt_45 K_171 x1_45 x2_45 n_45 x3_45 x4_45 x5_45 x6_45 σ_45) x1_45 x2_45 x3_45 x4_45 x5_45 x6_45 σ_45) else (if (120 : Int32) ≤ x3_45 then (FM_bolt_118 (fun x3_45 x4_45 x5_45 x6_45 σ_45 => FM_bolt_45 K_171 x1_45 x2_45 n_45 x3_45 x4_45 x5_45 x6_45 σ_45) x1_45 x2_45 x3_45 x4_45 x5_45 x6_45 σ_45) else (gd (inb x4_45 130) (gd (inb (((120 : Int32) * (σ_45.1 0)) + x3_45) 4800) (FM_bolt_45 K_171 x1_45 x2_45 n_45 (x3_45 + (1 : Int32)) (x4_45 + (1 : Int32)) (1 : Int32) x6_45 (sa σ_45 5 (((120 : Int32) * (σ_45.1 0)) + x3_45) ((σ_45.2 30 x4_45.toNatClampNeg) - (48 : Int32))))))))))))
def FM_bolt_185 (x1_185 : Int32) (x2_185 : Int32) (x3_185 : Int32) (x4_185 : Int32) (t0_185 : Int32) (σ_185 : MS) : Option (Int32 × MS) := (if t0_185 = 0 then ((FM_comes (si σ_185 31 (0 : Int32)) x3_185 x1_185 x2_185).bind fun q_209 => (some (q_209.1, q_209.2))) else (some (((-10 : Int32) - x4_185), (si σ_185 31 (0 : Int32)))))
def FM_bolt_171 (x1_171 : Int32) (x2_171 : Int32) (x3_171 : Int32) (x4_171 : Int32) (x6_171 : Int32) (σ_171 : MS) : Option (Int32 × MS) := (if x6_171 = 0 then (FM_bolt_185 x1_171 x2_171 x3_171 x4_171 (1 : Int32) σ_171) else (if x3_171 = 0 then (FM_bolt_185 x1_171 x2_171 x3_171 x4_171 (1 : Int32) σ_171) else (FM_bolt_185 x1_171 x2_171 x3_171 x4_171 (0 : Int32) σ_171)))
def FM_bolt (σ : MS) (p1 : Int32) (p2 : Int32) : Option (Int32 × MS) := ((FM_in p1 (0 : Int32) (9 : Int32)).bind fun q_4 => (if q_4 = 0 then (some ((-2 : Int32), σ)) else ((FM_in p2 (0 : Int32) (1 : Int32)).bind fun q_13 => (if q_13 = 0 then (some ((-2 : Int32), σ)) else (if (σ.1 0) = (40 : Int32) then (some ((-4 : Int32), σ)) else (FM_bolt_45 (fun x3_171 x4_171 x6_171 σ_171 => FM_bolt_171 p1 p2 x3_171 x4_171 x6_171 σ_171) p1 p2 fu (0 : Int32) (0 : Int32) (0 : Int32) (1 : Int32) σ))))))
def wsM_bolt : List Cond := Cond.code yX10_bolt cX10_bolt 8 (some .int) :: wMa
set_option maxHeartbeats 4000000 in
set_option maxRecDepth 100000 in
theorem cM_bolt (l : Launch) (D : va_G) (cI cZ : ClassId) (h : Nat) (ad : Nat → Nat) (A : Nat → Prop) (σ : MS) (p1 : Int32) (p2 : Int32) (q : Int32 × MS) (hF : FM_bolt σ p1 p2 = some q) : Met l yX10_bolt wsM_bolt { frames := 1, cells := 0, slots := 0, locals := 23 } (va_Pc [.ref h, .int p1, .int p2] (preM D cI cZ h ad A σ)) (va_Qi (fun x u => x = q.1 ∧ u = q.2) (preM D cI cZ h ad A) A) 0 0 A := by
  refine Met.ofW (cc := cX10_bolt) (maxL := 8) (ret := (some .int)) (by decide) rfl ?_
  intro p e s m args below meth c s₁ B hml hv
  obtain ⟨rfl, hP, hK, hD⟩ := hv
  have hx := B.exec
  have hb := B.bytes
  have hr := B.returns
  have hts : ∀ w ∈ (Cond.code yX10_bolt cX10_bolt 8 (some .int) :: wMa), w.before ([.ref h, .int p1, .int p2] : List Value).toArray s = true := atoms_spec (ws := wsM_bolt) B.pre
  have hin : ∀ w ∈ wMa, w ∈ (Cond.code yX10_bolt cX10_bolt 8 (some .int) :: wMa) := fun w hw => List.mem_cons_of_mem _ hw
  have hown : s.vm.findClass RX10 = some m.cls := findClass_of_methodNamed B.named
  have hlocks := B.notSynchronized
  have hS : va_S A s.heap s.heap [] := va_S.rf
  have b_118 : ∀ (x1_118 : Int32) (x2_118 : Int32) (x3_118 : Int32) (x4_118 : Int32) (x5_118 : Int32) (x6_118 : Int32) (K_45 : Int32 → Int32 → Int32 → Int32 → MS → Option (Int32 × MS)) (k_45 : ∀ (x3_45 : Int32) (x4_45 : Int32) (x5_45 : Int32) (x6_45 : Int32) (σ_45 : MS) (H : Heap) (locs : List Loc) (ls : Array Slot), K_45 x3_45 x4_45 x5_45 x6_45 σ_45 = some q → va_P D vwCl (wM cI cZ h ad σ_45) H → va_D A (wM cI cZ h ad σ_45) → va_S A s.heap H locs → lv_has ls 8 [(0, .ref h), (1, .int x1_118), (2, .int x2_118), (3, .int x3_45), (4, .int x4_45), (5, .int x5_45), (6, .int x6_45)] → W p l e (headSpec wsM_bolt { frames := 1, cells := 0, slots := 0, locals := 23 }).room s m ([.ref h, .int p1, .int p2] : List Value).toArray below meth c H locs 0 0 (MQ below (va_Qi (fun x u => x = q.1 ∧ u = q.2) (preM D cI cZ h ad A) A) ([.ref h, .int p1, .int p2] : List Value).toArray s 0 0 A) (F0 m 45 ls [])) (σ_118 : MS) (H : Heap) (locs : List Loc) (ls : Array Slot), FM_bolt_118 K_45 x1_118 x2_118 x3_118 x4_118 x5_118 x6_118 σ_118 = some q → va_P D vwCl (wM cI cZ h ad σ_118) H → va_D A (wM cI cZ h ad σ_118) → va_S A s.heap H locs → lv_has ls 8 [(0, .ref h), (1, .int x1_118), (2, .int x2_118), (3, .int x3_118), (4, .int x4_118), (5, .int x5_118), (6, .int x6_118)] → W p l e (headSpec wsM_bolt { frames := 1, cells := 0, slots := 0, locals := 23 }).room s m ([.ref h, .int p1, .int p2] : List Value).toArray below meth c H locs 0 0 (MQ below (va_Qi (fun x u => x = q.1 ∧ u = q.2) (preM D cI cZ h ad A) A) ([.ref h, .int p1, .int p2] : List Value).toArray s 0 0 A) (F0 m 118 ls []) := by
    intro x1_118 x2_118 x3_118 x4_118 x5_118 x6_118 K_45 k_45 σ_118 H locs ls hF hP hD hS hl
    unfold FM_bolt_118 at hF
    refine lv_aload_n hx hb dX10_bolt_118 rfl (lv_at hl 0 rfl) ?_
    refine gM hx hb hts hin hown hK hP 30 (.ref (ad 30)) (by decide) mf_93 rfl dX10_bolt_119 ?_
    refine lv_iload hx hb dX10_bolt_122 (lv_at hl 4 rfl) ?_
    obtain ⟨g_124, hF⟩ := ob_gd hF
    refine ldI hx hb hK hP (at_30 _ _ _ _ _) (σ_118.2 30 x4_118.toNatClampNeg) g_124 rfl dX10_bolt_124 ?_
    refine lv_bipush (v := (33 : Int32)) hx hb dX10_bolt_125 (by decide) ?_
    refine lv_icmp_ne (tgt := 165) hx hb dX10_bolt_127 (by decide) (fun c_127 => ?_) (fun c_127 => ?_)
    · have hF := ob_f c_127 hF
      refine lv_iconst (v := (0 : Int32)) hx hb dX10_bolt_165 (by decide) ?_
      refine lv_istore (lv' := [(6, .int (0 : Int32)), (0, .ref h), (1, .int x1_118), (2, .int x2_118), (3, .int x3_118), (4, .int x4_118), (5, .int x5_118)]) hx hb dX10_bolt_166 hl (by decide) rfl (fun ls hl => ?_)
      refine lv_goto (tgt := 45) hx hb dX10_bolt_168 (by decide) ?_
      exact k_45 x3_118 x4_118 x5_118 (0 : Int32) σ_118 _ _ _ hF hP hD hS (lv_sub hl [1, 2, 3, 4, 5, 6, 0] rfl)
    · have hF := ob_t c_127 hF
      refine lv_iload hx hb dX10_bolt_130 (lv_at hl 5 rfl) ?_
      refine lv_if_eq (tgt := 165) hx hb dX10_bolt_132 (by decide) (fun c_132 => ?_) (fun c_132 => ?_)
      · have hF := ob_t c_132 hF
        refine lv_iconst (v := (0 : Int32)) hx hb dX10_bolt_165 (by decide) ?_
        refine lv_istore (lv' := [(6, .int (0 : Int32)), (0, .ref h), (1, .int x1_118), (2, .int x2_118), (3, .int x3_118), (4, .int x4_118), (5, .int x5_118)]) hx hb dX10_bolt_166 hl (by decide) rfl (fun ls hl => ?_)
        refine lv_goto (tgt := 45) hx hb dX10_bolt_168 (by decide) ?_
        exact k_45 x3_118 x4_118 x5_118 (0 : Int32) σ_118 _ _ _ hF hP hD hS (lv_sub hl [1, 2, 3, 4, 5, 6, 0] rfl)
      · have hF := ob_f c_132 hF
        refine lv_aload_n hx hb dX10_bolt_135 rfl (lv_at hl 0 rfl) ?_
        refine gM hx hb hts hin hown hK hP 5 (.ref (ad 5)) (by decide) mf_23 rfl dX10_bolt_136 ?_
        refine lv_bipush (v := (120 : Int32)) hx hb dX10_bolt_139 (by decide) ?_
        refine lv_aload_n hx hb dX10_bolt_141 rfl (lv_at hl 0 rfl) ?_
        refine gM hx hb hts hin hown hK hP 0 (.int (σ_118.1 0)) (by decide) mf_138 rfl dX10_bolt_142 ?_
        refine lv_imul hx hb dX10_bolt_145 ?_
        refine lv_iload_n hx hb dX10_bolt_146 rfl (lv_at hl 3 rfl) ?_
        refine lv_iadd hx hb dX10_bolt_147 ?_
        refine lv_iconst (v := (1 : Int32)) hx hb dX10_bolt_148 (by decide) ?_
        refine lv_isub hx hb dX10_bolt_149 ?_
        refine lv_dup2_11 hx hb dX10_bolt_150 rfl rfl ?_
        obtain ⟨g_151, hF⟩ := ob_gd hF
        refine ldI hx hb hK hP (at_5 _ _ _ _ _) (σ_118.2 5 ((((120 : Int32) * (σ_118.1 0)) + x3_118) - (1 : Int32)).toNatClampNeg) g_151 rfl dX10_bolt_151 ?_
        refine lv_bipush (v := (10 : Int32)) hx hb dX10_bolt_152 (by decide) ?_
        refine lv_iadd hx hb dX10_bolt_154 ?_
        obtain ⟨g_155, hF⟩ := ob_gd hF
        refine stI hx hb hK hP hD hS (at_5 _ _ _ _ _) (st_5 _ _ _ _ _ _ _) g_155 dX10_bolt_155 (fun H locs hP hD hS => ?_)
        refine lv_iconst (v := (0 : Int32)) hx hb dX10_bolt_156 (by decide) ?_
        refine lv_istore (lv' := [(5, .int (0 : Int32)), (0, .ref h), (1, .int x1_118), (2, .int x2_118), (3, .int x3_118), (4, .int x4_118), (6, .int x6_118)]) hx hb dX10_bolt_157 hl (by decide) rfl (fun ls hl => ?_)
        refine lv_iinc (v := x4_118 + (1 : Int32)) (lv' := [(4, .int (x4_118 + (1 : Int32))), (5, .int (0 : Int32)), (0, .ref h), (1, .int x1_118), (2, .int x2_118), (3, .int x3_118), (6, .int x6_118)]) hx hb dX10_bolt_159 hl (k := 5) rfl rfl (by decide) rfl (fun ls hl => ?_)
        refine lv_goto (tgt := 45) hx hb dX10_bolt_162 (by decide) ?_
        exact k_45 x3_118 (x4_118 + (1 : Int32)) (0 : Int32) x6_118 (sa σ_118 5 ((((120 : Int32) * (σ_118.1 0)) + x3_118) - (1 : Int32)) ((σ_118.2 5 ((((120 : Int32) * (σ_118.1 0)) + x3_118) - (1 : Int32)).toNatClampNeg) + (10 : Int32))) _ _ _ hF hP hD hS (lv_sub hl [2, 3, 4, 5, 0, 1, 6] rfl)
  have b_45 : ∀ (x1_45 : Int32) (x2_45 : Int32) (K_171 : Int32 → Int32 → Int32 → MS → Option (Int32 × MS)) (k_171 : ∀ (x3_171 : Int32) (x4_171 : Int32) (x6_171 : Int32) (σ_171 : MS) (H : Heap) (locs : List Loc) (ls : Array Slot), K_171 x3_171 x4_171 x6_171 σ_171 = some q → va_P D vwCl (wM cI cZ h ad σ_171) H → va_D A (wM cI cZ h ad σ_171) → va_S A s.heap H locs → lv_has ls 8 [(0, .ref h), (1, .int x1_45), (2, .int x2_45), (3, .int x3_171), (4, .int x4_171), (6, .int x6_171)] → W p l e (headSpec wsM_bolt { frames := 1, cells := 0, slots := 0, locals := 23 }).room s m ([.ref h, .int p1, .int p2] : List Value).toArray below meth c H locs 0 0 (MQ below (va_Qi (fun x u => x = q.1 ∧ u = q.2) (preM D cI cZ h ad A) A) ([.ref h, .int p1, .int p2] : List Value).toArray s 0 0 A) (F0 m 171 ls [])) (n_45 : Nat) (x3_45 : Int32) (x4_45 : Int32) (x5_45 : Int32) (x6_45 : Int32) (σ_45 : MS) (H : Heap) (locs : List Loc) (ls : Array Slot), FM_bolt_45 K_171 x1_45 x2_45 n_45 x3_45 x4_45 x5_45 x6_45 σ_45 = some q → va_P D vwCl (wM cI cZ h ad σ_45) H → va_D A (wM cI cZ h ad σ_45) → va_S A s.heap H locs → lv_has ls 8 [(0, .ref h), (1, .int x1_45), (2, .int x2_45), (3, .int x3_45), (4, .int x4_45), (5, .int x5_45), (6, .int x6_45)] → W p l e (headSpec wsM_bolt { frames := 1, cells := 0, slots := 0, locals := 23 }).room s m ([.ref h, .int p1, .int p2] : List Value).toArray below meth c H locs 0 0 (MQ below (va_Qi (fun x u => x = q.1 ∧ u = q.2) (preM D cI cZ h ad A) A) ([.ref h, .int p1, .int p2] : List Value).toArray s 0 0 A) (F0 m 45 ls []) := by
    intro x1_45 x2_45 K_171 k_171
    intro n_45
    induction n_45 with
    | zero =>
      intro x3_45 x4_45 x5_45 x6_45 σ_45 H locs ls hF hP hD hS hl
      exact absurd hF (by simp [FM_bolt_45])
    | succ n_45 ih_45 =>
      intro x3_45 x4_45 x5_45 x6_45 σ_45 H locs ls hF hP hD hS hl
      rw [FM_bolt_45] at hF
      refine lv_iload hx hb dX10_bolt_45 (lv_at hl 6 rfl) ?_
      refine lv_if_eq (tgt := 171) hx hb dX10_bolt_47 (by decide) (fun c_47 => ?_) (fun c_47 => ?_)
      · have hF := ob_t c_47 hF
        exact k_171 x3_45 x4_45 x6_45 σ_45 _ _ _ hF hP hD hS (lv_sub hl [0, 1, 2, 3, 4, 6] rfl)
      · have hF := ob_f c_47 hF
        refine lv_iload hx hb dX10_bolt_50 (lv_at hl 4 rfl) ?_
        refine lv_aload_n hx hb dX10_bolt_52 rfl (lv_at hl 0 rfl) ?_
        refine gM hx hb hts hin hown hK hP 31 (.int (σ_45.1 31)) (by decide) mf_148 rfl dX10_bolt_53 ?_
        refine lv_icmp_ge (tgt := 171) hx hb dX10_bolt_56 (by decide) (fun c_56 => ?_) (fun c_56 => ?_)
        · have hF := ob_t c_56 hF
          exact k_171 x3_45 x4_45 x6_45 σ_45 _ _ _ hF hP hD hS (lv_sub hl [0, 1, 2, 3, 4, 6] rfl)
        · have hF := ob_f c_56 hF
          refine lv_aload_n hx hb dX10_bolt_59 rfl (lv_at hl 0 rfl) ?_
          refine gM hx hb hts hin hown hK hP 30 (.ref (ad 30)) (by decide) mf_93 rfl dX10_bolt_60 ?_
          refine lv_iload hx hb dX10_bolt_63 (lv_at hl 4 rfl) ?_
          obtain ⟨g_65, hF⟩ := ob_gd hF
          refine ldI hx hb hK hP (at_30 _ _ _ _ _) (σ_45.2 30 x4_45.toNatClampNeg) g_65 rfl dX10_bolt_65 ?_
          refine lv_bipush (v := (48 : Int32)) hx hb dX10_bolt_66 (by decide) ?_
          refine lv_bipush (v := (57 : Int32)) hx hb dX10_bolt_68 (by decide) ?_
          obtain ⟨q_70, e_70, hF⟩ := ob_bd hF
          refine csM (As := [.int (σ_45.2 30 x4_45.toNatClampNeg), .int (48 : Int32), .int (57 : Int32)]) (rest := []) ⟨hx, hb, hml, hown, hts⟩ (cM_in l (σ_45.2 30 x4_45.toNatClampNeg) (48 : Int32) (57 : Int32) _ e_70) (cw_in hts ⟨Nat.le_of_ble_eq_true rfl, Nat.le_of_ble_eq_true rfl⟩) rfl hl.1 rfl (lv_room (Nat.le_of_ble_eq_true rfl)) dX10_bolt_70 ?_
          refine lv_if_eq (tgt := 118) hx hb dX10_bolt_73 (by decide) (fun c_73 => ?_) (fun c_73 => ?_)
          · have hF := ob_t c_73 hF
            exact b_118 x1_45 x2_45 x3_45 x4_45 x5_45 x6_45 (fun x3_45 x4_45 x5_45 x6_45 σ_45 => FM_bolt_45 K_171 x1_45 x2_45 n_45 x3_45 x4_45 x5_45 x6_45 σ_45) ih_45 σ_45 _ _ _ hF hP hD hS hl
          · have hF := ob_f c_73 hF
            refine lv_iload_n hx hb dX10_bolt_76 rfl (lv_at hl 3 rfl) ?_
            refine lv_bipush (v := (120 : Int32)) hx hb dX10_bolt_77 (by decide) ?_
            refine lv_icmp_ge (tgt := 118) hx hb dX10_bolt_79 (by decide) (fun c_79 => ?_) (fun c_79 => ?_)
            · have hF := ob_t c_79 hF
              exact b_118 x1_45 x2_45 x3_45 x4_45 x5_45 x6_45 (fun x3_45 x4_45 x5_45 x6_45 σ_45 => FM_bolt_45 K_171 x1_45 x2_45 n_45 x3_45 x4_45 x5_45 x6_45 σ_45) ih_45 σ_45 _ _ _ hF hP hD hS hl
            · have hF := ob_f c_79 hF
              refine lv_aload_n hx hb dX10_bolt_82 rfl (lv_at hl 0 rfl) ?_
              refine gM hx hb hts hin hown hK hP 5 (.ref (ad 5)) (by decide) mf_23 rfl dX10_bolt_83 ?_
              refine lv_bipush (v := (120 : Int32)) hx hb dX10_bolt_86 (by decide) ?_
              refine lv_aload_n hx hb dX10_bolt_88 rfl (lv_at hl 0 rfl) ?_
              refine gM hx hb hts hin hown hK hP 0 (.int (σ_45.1 0)) (by decide) mf_138 rfl dX10_bolt_89 ?_
              refine lv_imul hx hb dX10_bolt_92 ?_
              refine lv_iload_n hx hb dX10_bolt_93 rfl (lv_at hl 3 rfl) ?_
              refine lv_iadd hx hb dX10_bolt_94 ?_
              refine lv_aload_n hx hb dX10_bolt_95 rfl (lv_at hl 0 rfl) ?_
              refine gM hx hb hts hin hown hK hP 30 (.ref (ad 30)) (by decide) mf_93 rfl dX10_bolt_96 ?_
              refine lv_iload hx hb dX10_bolt_99 (lv_at hl 4 rfl) ?_
              obtain ⟨g_101, hF⟩ := ob_gd hF
              refine ldI hx hb hK hP (at_30 _ _ _ _ _) (σ_45.2 30 x4_45.toNatClampNeg) g_101 rfl dX10_bolt_101 ?_
              refine lv_bipush (v := (48 : Int32)) hx hb dX10_bolt_102 (by decide) ?_
              refine lv_isub hx hb dX10_bolt_104 ?_
              obtain ⟨g_105, hF⟩ := ob_gd hF
              refine stI hx hb hK hP hD hS (at_5 _ _ _ _ _) (st_5 _ _ _ _ _ _ _) g_105 dX10_bolt_105 (fun H locs hP hD hS => ?_)
              refine lv_iinc (v := x3_45 + (1 : Int32)) (lv' := [(3, .int (x3_45 + (1 : Int32))), (0, .ref h), (1, .int x1_45), (2, .int x2_45), (4, .int x4_45), (5, .int x5_45), (6, .int x6_45)]) hx hb dX10_bolt_106 hl (k := 3) rfl rfl (by decide) rfl (fun ls hl => ?_)
              refine lv_iconst (v := (1 : Int32)) hx hb dX10_bolt_109 (by decide) ?_
              refine lv_istore (lv' := [(5, .int (1 : Int32)), (3, .int (x3_45 + (1 : Int32))), (0, .ref h), (1, .int x1_45), (2, .int x2_45), (4, .int x4_45), (6, .int x6_45)]) hx hb dX10_bolt_110 hl (by decide) rfl (fun ls hl => ?_)
              refine lv_iinc (v := x4_45 + (1 : Int32)) (lv' := [(4, .int (x4_45 + (1 : Int32))), (5, .int (1 : Int32)), (3, .int (x3_45 + (1 : Int32))), (0, .ref h), (1, .int x1_45), (2, .int x2_45), (6, .int x6_45)]) hx hb dX10_bolt_112 hl (k := 5) rfl rfl (by decide) rfl (fun ls hl => ?_)
              refine lv_goto (tgt := 45) hx hb dX10_bolt_115 (by decide) ?_
              exact ih_45 (x3_45 + (1 : Int32)) (x4_45 + (1 : Int32)) (1 : Int32) x6_45 (sa σ_45 5 (((120 : Int32) * (σ_45.1 0)) + x3_45) ((σ_45.2 30 x4_45.toNatClampNeg) - (48 : Int32))) _ _ _ hF hP hD hS (lv_sub hl [3, 4, 5, 2, 0, 1, 6] rfl)
  have b_185 : ∀ (x1_185 : Int32) (x2_185 : Int32) (x3_185 : Int32) (x4_185 : Int32) (t0_185 : Int32) (σ_185 : MS) (H : Heap) (locs : List Loc) (ls : Array Slot), FM_bolt_185 x1_185 x2_185 x3_185 x4_185 t0_185 σ_185 = some q → va_P D vwCl (wM cI cZ h ad σ_185) H → va_D A (wM cI cZ h ad σ_185) → va_S A s.heap H locs → lv_has ls 8 [(0, .ref h), (1, .int x1_185), (2, .int x2_185), (3, .int x3_185), (4, .int x4_185)] → W p l e (headSpec wsM_bolt { frames := 1, cells := 0, slots := 0, locals := 23 }).room s m ([.ref h, .int p1, .int p2] : List Value).toArray below meth c H locs 0 0 (MQ below (va_Qi (fun x u => x = q.1 ∧ u = q.2) (preM D cI cZ h ad A) A) ([.ref h, .int p1, .int p2] : List Value).toArray s 0 0 A) (F0 m 185 ls [.int t0_185]) := by
    intro x1_185 x2_185 x3_185 x4_185 t0_185 σ_185 H locs ls hF hP hD hS hl
    unfold FM_bolt_185 at hF
    refine lv_istore (lv' := [(7, .int t0_185), (0, .ref h), (1, .int x1_185), (2, .int x2_185), (3, .int x3_185), (4, .int x4_185)]) hx hb dX10_bolt_185 hl (by decide) rfl (fun ls hl => ?_)
    refine lv_aload_n hx hb dX10_bolt_187 rfl (lv_at hl 1 rfl) ?_
    refine lv_iconst (v := (0 : Int32)) hx hb dX10_bolt_188 (by decide) ?_
    refine pM (ty := .int) (v := (0 : Int32)) hx hb hts hin hown hK hP hD hS 31 (by decide) mf_148 rfl (by decide +kernel) rfl rfl (Nat.le_of_ble_eq_true rfl) (pu_31 _ _ _ _ _ _) dX10_bolt_189 (fun H locs hP hD hS => ?_)
    refine lv_iload hx hb dX10_bolt_192 (lv_at hl 0 rfl) ?_
    refine lv_if_eq (tgt := 205) hx hb dX10_bolt_194 (by decide) (fun c_194 => ?_) (fun c_194 => ?_)
    · have hF := ob_t c_194 hF
      refine lv_aload_n hx hb dX10_bolt_205 rfl (lv_at hl 1 rfl) ?_
      refine lv_iload_n hx hb dX10_bolt_206 rfl (lv_at hl 4 rfl) ?_
      refine lv_iload_n hx hb dX10_bolt_207 rfl (lv_at hl 2 rfl) ?_
      refine lv_iload_n hx hb dX10_bolt_208 rfl (lv_at hl 3 rfl) ?_
      obtain ⟨q_209, e_209, hF⟩ := ob_bd hF
      refine cwM (As := [.int x3_185, .int x1_185, .int x2_185]) (rest := []) ⟨hx, hb, hml, hown, hts⟩ (cM_comes l D cI cZ h ad A (si σ_185 31 (0 : Int32)) x3_185 x1_185 x2_185 _ e_209) (cw_comes hts ⟨Nat.le_of_ble_eq_true rfl, Nat.le_of_ble_eq_true rfl⟩) hK hP hD hS rfl hl.1 rfl (lv_room (Nat.le_of_ble_eq_true rfl)) dX10_bolt_209 (fun H locs hP hD hS => ?_)
      exact rwM hx hb hr hlocks hF hK hP hD hS dX10_bolt_212
    · have hF := ob_f c_194 hF
      refine lv_bipush (v := (-10 : Int32)) hx hb dX10_bolt_197 (by decide) ?_
      refine lv_iload hx hb dX10_bolt_199 (lv_at hl 5 rfl) ?_
      refine lv_isub hx hb dX10_bolt_201 ?_
      refine lv_goto (tgt := 212) hx hb dX10_bolt_202 (by decide) ?_
      exact rwM hx hb hr hlocks hF hK hP hD hS dX10_bolt_212
  have b_171 : ∀ (x1_171 : Int32) (x2_171 : Int32) (x3_171 : Int32) (x4_171 : Int32) (x6_171 : Int32) (σ_171 : MS) (H : Heap) (locs : List Loc) (ls : Array Slot), FM_bolt_171 x1_171 x2_171 x3_171 x4_171 x6_171 σ_171 = some q → va_P D vwCl (wM cI cZ h ad σ_171) H → va_D A (wM cI cZ h ad σ_171) → va_S A s.heap H locs → lv_has ls 8 [(0, .ref h), (1, .int x1_171), (2, .int x2_171), (3, .int x3_171), (4, .int x4_171), (6, .int x6_171)] → W p l e (headSpec wsM_bolt { frames := 1, cells := 0, slots := 0, locals := 23 }).room s m ([.ref h, .int p1, .int p2] : List Value).toArray below meth c H locs 0 0 (MQ below (va_Qi (fun x u => x = q.1 ∧ u = q.2) (preM D cI cZ h ad A) A) ([.ref h, .int p1, .int p2] : List Value).toArray s 0 0 A) (F0 m 171 ls []) := by
    intro x1_171 x2_171 x3_171 x4_171 x6_171 σ_171 H locs ls hF hP hD hS hl
    unfold FM_bolt_171 at hF
    refine lv_iload hx hb dX10_bolt_171 (lv_at hl 5 rfl) ?_
    refine lv_if_eq (tgt := 180) hx hb dX10_bolt_173 (by decide) (fun c_173 => ?_) (fun c_173 => ?_)
    · have hF := ob_t c_173 hF
      refine lv_iconst (v := (1 : Int32)) hx hb dX10_bolt_180 (by decide) ?_
      refine lv_goto (tgt := 185) hx hb dX10_bolt_181 (by decide) ?_
      exact b_185 x1_171 x2_171 x3_171 x4_171 (1 : Int32) σ_171 _ _ _ hF hP hD hS (lv_sub hl [0, 1, 2, 3, 4] rfl)
    · have hF := ob_f c_173 hF
      refine lv_iload_n hx hb dX10_bolt_176 rfl (lv_at hl 3 rfl) ?_
      refine lv_if_ne (tgt := 184) hx hb dX10_bolt_177 (by decide) (fun c_177 => ?_) (fun c_177 => ?_)
      · have hF := ob_f c_177 hF
        refine lv_iconst (v := (0 : Int32)) hx hb dX10_bolt_184 (by decide) ?_
        exact b_185 x1_171 x2_171 x3_171 x4_171 (0 : Int32) σ_171 _ _ _ hF hP hD hS (lv_sub hl [0, 1, 2, 3, 4] rfl)
      · have hF := ob_t c_177 hF
        refine lv_iconst (v := (1 : Int32)) hx hb dX10_bolt_180 (by decide) ?_
        refine lv_goto (tgt := 185) hx hb dX10_bolt_181 (by decide) ?_
        exact b_185 x1_171 x2_171 x3_171 x4_171 (1 : Int32) σ_171 _ _ _ hF hP hD hS (lv_sub hl [0, 1, 2, 3, 4] rfl)
  have hl := lv_entry ([.ref h, .int p1, .int p2]) (n := 8) (Nat.le_of_ble_eq_true rfl)
  rw [lg_entry_eq]
  generalize (lg_sl ([.ref h, .int p1, .int p2]) ++ List.replicate (8 - (lg_sl ([.ref h, .int p1, .int p2])).length) Slot.unset).toArray = ls at hl ⊢
  have hl : lv_has ls 8 [(0, .ref h), (1, .int p1), (2, .int p2)] := hl
  unfold FM_bolt at hF
  refine lv_iload_n hx hb dX10_bolt_0 rfl (lv_at hl 1 rfl) ?_
  refine lv_iconst (v := (0 : Int32)) hx hb dX10_bolt_1 (by decide) ?_
  refine lv_bipush (v := (9 : Int32)) hx hb dX10_bolt_2 (by decide) ?_
  obtain ⟨q_4, e_4, hF⟩ := ob_bd hF
  refine csM (As := [.int p1, .int (0 : Int32), .int (9 : Int32)]) (rest := []) ⟨hx, hb, hml, hown, hts⟩ (cM_in l p1 (0 : Int32) (9 : Int32) _ e_4) (cw_in hts ⟨Nat.le_of_ble_eq_true rfl, Nat.le_of_ble_eq_true rfl⟩) rfl hl.1 rfl (lv_room (Nat.le_of_ble_eq_true rfl)) dX10_bolt_4 ?_
  refine lv_if_eq (tgt := 19) hx hb dX10_bolt_7 (by decide) (fun c_7 => ?_) (fun c_7 => ?_)
  · have hF := ob_t c_7 hF
    refine lv_bipush (v := (-2 : Int32)) hx hb dX10_bolt_19 (by decide) ?_
    exact rwM hx hb hr hlocks hF hK hP hD hS dX10_bolt_21
  · have hF := ob_f c_7 hF
    refine lv_iload_n hx hb dX10_bolt_10 rfl (lv_at hl 2 rfl) ?_
    refine lv_iconst (v := (0 : Int32)) hx hb dX10_bolt_11 (by decide) ?_
    refine lv_iconst (v := (1 : Int32)) hx hb dX10_bolt_12 (by decide) ?_
    obtain ⟨q_13, e_13, hF⟩ := ob_bd hF
    refine csM (As := [.int p2, .int (0 : Int32), .int (1 : Int32)]) (rest := []) ⟨hx, hb, hml, hown, hts⟩ (cM_in l p2 (0 : Int32) (1 : Int32) _ e_13) (cw_in hts ⟨Nat.le_of_ble_eq_true rfl, Nat.le_of_ble_eq_true rfl⟩) rfl hl.1 rfl (lv_room (Nat.le_of_ble_eq_true rfl)) dX10_bolt_13 ?_
    refine lv_if_ne (tgt := 22) hx hb dX10_bolt_16 (by decide) (fun c_16 => ?_) (fun c_16 => ?_)
    · have hF := ob_f c_16 hF
      refine lv_aload_n hx hb dX10_bolt_22 rfl (lv_at hl 0 rfl) ?_
      refine gM hx hb hts hin hown hK hP 0 (.int (σ.1 0)) (by decide) mf_138 rfl dX10_bolt_23 ?_
      refine lv_bipush (v := (40 : Int32)) hx hb dX10_bolt_26 (by decide) ?_
      refine lv_icmp_ne (tgt := 34) hx hb dX10_bolt_28 (by decide) (fun c_28 => ?_) (fun c_28 => ?_)
      · have hF := ob_f c_28 hF
        refine lv_iconst (v := (0 : Int32)) hx hb dX10_bolt_34 (by decide) ?_
        refine lv_istore_n (lv' := [(3, .int (0 : Int32)), (0, .ref h), (1, .int p1), (2, .int p2)]) hx hb dX10_bolt_35 rfl hl (by decide) rfl (fun ls hl => ?_)
        refine lv_iconst (v := (0 : Int32)) hx hb dX10_bolt_36 (by decide) ?_
        refine lv_istore (lv' := [(4, .int (0 : Int32)), (3, .int (0 : Int32)), (0, .ref h), (1, .int p1), (2, .int p2)]) hx hb dX10_bolt_37 hl (by decide) rfl (fun ls hl => ?_)
        refine lv_iconst (v := (0 : Int32)) hx hb dX10_bolt_39 (by decide) ?_
        refine lv_istore (lv' := [(5, .int (0 : Int32)), (4, .int (0 : Int32)), (3, .int (0 : Int32)), (0, .ref h), (1, .int p1), (2, .int p2)]) hx hb dX10_bolt_40 hl (by decide) rfl (fun ls hl => ?_)
        refine lv_iconst (v := (1 : Int32)) hx hb dX10_bolt_42 (by decide) ?_
        refine lv_istore (lv' := [(6, .int (1 : Int32)), (5, .int (0 : Int32)), (4, .int (0 : Int32)), (3, .int (0 : Int32)), (0, .ref h), (1, .int p1), (2, .int p2)]) hx hb dX10_bolt_43 hl (by decide) rfl (fun ls hl => ?_)
        exact b_45 p1 p2 (fun x3_171 x4_171 x6_171 σ_171 => FM_bolt_171 p1 p2 x3_171 x4_171 x6_171 σ_171) (fun x3_171 x4_171 x6_171 σ_171 => b_171 p1 p2 x3_171 x4_171 x6_171 σ_171) fu (0 : Int32) (0 : Int32) (0 : Int32) (1 : Int32) σ _ _ _ hF hP hD hS (lv_sub hl [4, 5, 6, 3, 2, 1, 0] rfl)
      · have hF := ob_t c_28 hF
        refine lv_bipush (v := (-4 : Int32)) hx hb dX10_bolt_31 (by decide) ?_
        exact rwM hx hb hr hlocks hF hK hP hD hS dX10_bolt_33
    · have hF := ob_t c_16 hF
      refine lv_bipush (v := (-2 : Int32)) hx hb dX10_bolt_19 (by decide) ?_
      exact rwM hx hb hr hlocks hF hK hP hD hS dX10_bolt_21
def FM_about (σ : MS) (p1 : Int32) (p2 : Int32) : Option Int32 := ((FM_isThere σ p1).bind fun q_2 => (if q_2 = 0 then (some (-1 : Int32)) else (if p2 = 0 then (gd (inb p1 40) (some (σ.2 2 p1.toNatClampNeg))) else (if p2 = (1 : Int32) then (gd (inb p1 40) (some (σ.2 3 p1.toNatClampNeg))) else (if p2 = (2 : Int32) then (gd (inb p1 40) (some (σ.2 4 p1.toNatClampNeg))) else (some (-1 : Int32)))))))
def wsM_about : List Cond := Cond.code yX10_about cX10_about 3 (some .int) :: wMa
set_option maxHeartbeats 4000000 in
set_option maxRecDepth 100000 in
theorem cM_about (l : Launch) (D : va_G) (cI cZ : ClassId) (h : Nat) (ad : Nat → Nat) (σ : MS) (p1 : Int32) (p2 : Int32) (q : Int32) (hF : FM_about σ p1 p2 = some q) : Met l yX10_about wsM_about { frames := 2, cells := 0, slots := 0, locals := 43 } (va_Pc [.ref h, .int p1, .int p2] (preR D cI cZ h ad σ)) (vp_Si (fun x => x = q)) 0 0 (fun _ => False) := by
  refine Met.ofW (cc := cX10_about) (maxL := 3) (ret := (some .int)) (by decide) rfl ?_
  intro p e s m args below meth c s₁ B hml hv
  obtain ⟨rfl, hP, hK⟩ := hv
  have hx := B.exec
  have hb := B.bytes
  have hr := B.returns
  have hts : ∀ w ∈ (Cond.code yX10_about cX10_about 3 (some .int) :: wMa), w.before ([.ref h, .int p1, .int p2] : List Value).toArray s = true := atoms_spec (ws := wsM_about) B.pre
  have hin : ∀ w ∈ wMa, w ∈ (Cond.code yX10_about cX10_about 3 (some .int) :: wMa) := fun w hw => List.mem_cons_of_mem _ hw
  have hown : s.vm.findClass RX10 = some m.cls := findClass_of_methodNamed B.named
  have hlocks := B.notSynchronized
  have hl := lv_entry ([.ref h, .int p1, .int p2]) (n := 3) (Nat.le_of_ble_eq_true rfl)
  rw [lg_entry_eq]
  generalize (lg_sl ([.ref h, .int p1, .int p2]) ++ List.replicate (3 - (lg_sl ([.ref h, .int p1, .int p2])).length) Slot.unset).toArray = ls at hl ⊢
  have hl : lv_has ls 3 [(0, .ref h), (1, .int p1), (2, .int p2)] := hl
  unfold FM_about at hF
  refine lv_aload_n hx hb dX10_about_0 rfl (lv_at hl 0 rfl) ?_
  refine lv_iload_n hx hb dX10_about_1 rfl (lv_at hl 1 rfl) ?_
  obtain ⟨q_2, e_2, hF⟩ := ob_bd hF
  refine crM (As := [.int p1]) (rest := []) ⟨hx, hb, hml, hown, hts⟩ (cM_isThere l D cI cZ h ad σ p1 _ e_2) (cw_isThere hts ⟨Nat.le_of_ble_eq_true rfl, Nat.le_of_ble_eq_true rfl⟩) hK hP rfl hl.1 rfl (lv_room (Nat.le_of_ble_eq_true rfl)) dX10_about_2 ?_
  refine lv_if_ne (tgt := 10) hx hb dX10_about_5 (by decide) (fun c_5 => ?_) (fun c_5 => ?_)
  · have hF := ob_f c_5 hF
    refine lv_iload_n hx hb dX10_about_10 rfl (lv_at hl 2 rfl) ?_
    refine lv_if_ne (tgt := 23) hx hb dX10_about_11 (by decide) (fun c_11 => ?_) (fun c_11 => ?_)
    · have hF := ob_f c_11 hF
      refine lv_iload_n hx hb dX10_about_23 rfl (lv_at hl 2 rfl) ?_
      refine lv_iconst (v := (1 : Int32)) hx hb dX10_about_24 (by decide) ?_
      refine lv_icmp_ne (tgt := 37) hx hb dX10_about_25 (by decide) (fun c_25 => ?_) (fun c_25 => ?_)
      · have hF := ob_f c_25 hF
        refine lv_iload_n hx hb dX10_about_37 rfl (lv_at hl 2 rfl) ?_
        refine lv_iconst (v := (2 : Int32)) hx hb dX10_about_38 (by decide) ?_
        refine lv_icmp_ne (tgt := 51) hx hb dX10_about_39 (by decide) (fun c_39 => ?_) (fun c_39 => ?_)
        · have hF := ob_f c_39 hF
          refine lv_iconst (v := (-1 : Int32)) hx hb dX10_about_51 (by decide) ?_
          exact rrM hx hb hr hlocks hF dX10_about_52
        · have hF := ob_t c_39 hF
          refine lv_aload_n hx hb dX10_about_42 rfl (lv_at hl 0 rfl) ?_
          refine gM hx hb hts hin hown hK hP 4 (.ref (ad 4)) (by decide) mf_20 rfl dX10_about_43 ?_
          refine lv_iload_n hx hb dX10_about_46 rfl (lv_at hl 1 rfl) ?_
          obtain ⟨g_47, hF⟩ := ob_gd hF
          refine ldI hx hb hK hP (at_4 _ _ _ _ _) (σ.2 4 p1.toNatClampNeg) g_47 rfl dX10_about_47 ?_
          refine lv_goto (tgt := 52) hx hb dX10_about_48 (by decide) ?_
          exact rrM hx hb hr hlocks hF dX10_about_52
      · have hF := ob_t c_25 hF
        refine lv_aload_n hx hb dX10_about_28 rfl (lv_at hl 0 rfl) ?_
        refine gM hx hb hts hin hown hK hP 3 (.ref (ad 3)) (by decide) mf_17 rfl dX10_about_29 ?_
        refine lv_iload_n hx hb dX10_about_32 rfl (lv_at hl 1 rfl) ?_
        obtain ⟨g_33, hF⟩ := ob_gd hF
        refine ldI hx hb hK hP (at_3 _ _ _ _ _) (σ.2 3 p1.toNatClampNeg) g_33 rfl dX10_about_33 ?_
        refine lv_goto (tgt := 52) hx hb dX10_about_34 (by decide) ?_
        exact rrM hx hb hr hlocks hF dX10_about_52
    · have hF := ob_t c_11 hF
      refine lv_aload_n hx hb dX10_about_14 rfl (lv_at hl 0 rfl) ?_
      refine gM hx hb hts hin hown hK hP 2 (.ref (ad 2)) (by decide) mf_13 rfl dX10_about_15 ?_
      refine lv_iload_n hx hb dX10_about_18 rfl (lv_at hl 1 rfl) ?_
      obtain ⟨g_19, hF⟩ := ob_gd hF
      refine ldI hx hb hK hP (at_2 _ _ _ _ _) (σ.2 2 p1.toNatClampNeg) g_19 rfl dX10_about_19 ?_
      refine lv_goto (tgt := 52) hx hb dX10_about_20 (by decide) ?_
      exact rrM hx hb hr hlocks hF dX10_about_52
  · have hF := ob_t c_5 hF
    refine lv_iconst (v := (-1 : Int32)) hx hb dX10_about_8 (by decide) ?_
    exact rrM hx hb hr hlocks hF dX10_about_9
def FM_told (p0 : Int32) (p1 : Int32) : Option Int32 := (if p1 = 0 then (some (p0 - p0 / (10 : Int32) * (10 : Int32))) else (if p1 = (1 : Int32) then (some ((p0 / (10 : Int32)) - (p0 / (10 : Int32)) / (10 : Int32) * (10 : Int32))) else (if p1 = (2 : Int32) then (some (p0 / (100 : Int32))) else (some (-1 : Int32)))))
def wsM_told : List Cond := Cond.code yX10_told cX10_told 2 (some .int) :: wMa
theorem cw_told {R : Room} {s : State} {args : Array Value} {y : MethodName} {c : ByteArray} {n : Nat} {r : Option FieldType} (hts : ∀ w ∈ (Cond.code y c n r :: wMa), w.before args s = true) (hR : 0 + 1 ≤ R.frames ∧ 8 + (2 + 11) + 0 ≤ R.locals) : CallB R s args RX10 161 yX10_told cX10_told 2 (some .int) wsM_told { frames := 0, cells := 0, slots := 0, locals := 0 } 0 0 2 ∧ (Cond.static yX10_told).before args s = true := va_cwS 2 hts (goodMS mm_161 mt_told m_ini mc_told) rfl rfl rfl (by decide +kernel) hR
set_option maxHeartbeats 4000000 in
set_option maxRecDepth 100000 in
theorem cM_told (l : Launch) (p0 : Int32) (p1 : Int32) (q : Int32) (hF : FM_told p0 p1 = some q) : Met l yX10_told wsM_told { frames := 0, cells := 0, slots := 0, locals := 0 } (va_Pc [.int p0, .int p1] (fun _ => True)) (vp_Si (fun x => x = q)) 0 0 (fun _ => False) := by
  refine Met.ofW (cc := cX10_told) (maxL := 2) (ret := (some .int)) (by decide) rfl ?_
  intro p e s m args below meth c s₁ B hml hv
  obtain ⟨rfl, -⟩ := hv
  have hx := B.exec
  have hb := B.bytes
  have hr := B.returns
  have hts : ∀ w ∈ (Cond.code yX10_told cX10_told 2 (some .int) :: wMa), w.before ([.int p0, .int p1] : List Value).toArray s = true := atoms_spec (ws := wsM_told) B.pre
  have hin : ∀ w ∈ wMa, w ∈ (Cond.code yX10_told cX10_told 2 (some .int) :: wMa) := fun w hw => List.mem_cons_of_mem _ hw
  have hown : s.vm.findClass RX10 = some m.cls := findClass_of_methodNamed B.named
  have hlocks := B.notSynchronized
  have hl := lv_entry ([.int p0, .int p1]) (n := 2) (Nat.le_of_ble_eq_true rfl)
  rw [lg_entry_eq]
  generalize (lg_sl ([.int p0, .int p1]) ++ List.replicate (2 - (lg_sl ([.int p0, .int p1])).length) Slot.unset).toArray = ls at hl ⊢
  have hl : lv_has ls 2 [(0, .int p0), (1, .int p1)] := hl
  unfold FM_told at hF
  refine lv_iload_n hx hb dX10_told_0 rfl (lv_at hl 1 rfl) ?_
  refine lv_if_ne (tgt := 11) hx hb dX10_told_1 (by decide) (fun c_1 => ?_) (fun c_1 => ?_)
  · have hF := ob_f c_1 hF
    refine lv_iload_n hx hb dX10_told_11 rfl (lv_at hl 1 rfl) ?_
    refine lv_iconst (v := (1 : Int32)) hx hb dX10_told_12 (by decide) ?_
    refine lv_icmp_ne (tgt := 26) hx hb dX10_told_13 (by decide) (fun c_13 => ?_) (fun c_13 => ?_)
    · have hF := ob_f c_13 hF
      refine lv_iload_n hx hb dX10_told_26 rfl (lv_at hl 1 rfl) ?_
      refine lv_iconst (v := (2 : Int32)) hx hb dX10_told_27 (by decide) ?_
      refine lv_icmp_ne (tgt := 38) hx hb dX10_told_28 (by decide) (fun c_28 => ?_) (fun c_28 => ?_)
      · have hF := ob_f c_28 hF
        refine lv_iconst (v := (-1 : Int32)) hx hb dX10_told_38 (by decide) ?_
        exact rrM hx hb hr hlocks hF dX10_told_39
      · have hF := ob_t c_28 hF
        refine lv_iload_n hx hb dX10_told_31 rfl (lv_at hl 0 rfl) ?_
        refine lv_bipush (v := (100 : Int32)) hx hb dX10_told_32 (by decide) ?_
        refine lv_idiv hx hb dX10_told_34 (by decide) ?_
        refine lv_goto (tgt := 39) hx hb dX10_told_35 (by decide) ?_
        exact rrM hx hb hr hlocks hF dX10_told_39
    · have hF := ob_t c_13 hF
      refine lv_iload_n hx hb dX10_told_16 rfl (lv_at hl 0 rfl) ?_
      refine lv_bipush (v := (10 : Int32)) hx hb dX10_told_17 (by decide) ?_
      refine lv_idiv hx hb dX10_told_19 (by decide) ?_
      refine lv_bipush (v := (10 : Int32)) hx hb dX10_told_20 (by decide) ?_
      refine lv_irem hx hb dX10_told_22 (by decide) ?_
      refine lv_goto (tgt := 39) hx hb dX10_told_23 (by decide) ?_
      exact rrM hx hb hr hlocks hF dX10_told_39
  · have hF := ob_t c_1 hF
    refine lv_iload_n hx hb dX10_told_4 rfl (lv_at hl 0 rfl) ?_
    refine lv_bipush (v := (10 : Int32)) hx hb dX10_told_5 (by decide) ?_
    refine lv_irem hx hb dX10_told_7 (by decide) ?_
    refine lv_goto (tgt := 39) hx hb dX10_told_8 (by decide) ?_
    exact rrM hx hb hr hlocks hF dX10_told_39
def FM_row (σ : MS) (p1 : Int32) (p2 : Int32) (p3 : Int32) : Option Int32 := ((FM_isThere σ p1).bind fun q_2 => (if q_2 = 0 then (some (-1 : Int32)) else (gd (inb p1 40) ((FM_in p2 (0 : Int32) ((σ.2 2 p1.toNatClampNeg) - (1 : Int32))).bind fun q_18 => (if q_18 = 0 then (some (-1 : Int32)) else (gd (inb (((120 : Int32) * p1) + p2) 4800) ((FM_told (σ.2 5 (((120 : Int32) * p1) + p2).toNatClampNeg) p3).bind fun q_36 => (some q_36))))))))
def wsM_row : List Cond := Cond.code yX10_row cX10_row 4 (some .int) :: wMa
set_option maxHeartbeats 4000000 in
set_option maxRecDepth 100000 in
theorem cM_row (l : Launch) (D : va_G) (cI cZ : ClassId) (h : Nat) (ad : Nat → Nat) (σ : MS) (p1 : Int32) (p2 : Int32) (p3 : Int32) (q : Int32) (hF : FM_row σ p1 p2 p3 = some q) : Met l yX10_row wsM_row { frames := 2, cells := 0, slots := 0, locals := 43 } (va_Pc [.ref h, .int p1, .int p2, .int p3] (preR D cI cZ h ad σ)) (vp_Si (fun x => x = q)) 0 0 (fun _ => False) := by
  refine Met.ofW (cc := cX10_row) (maxL := 4) (ret := (some .int)) (by decide) rfl ?_
  intro p e s m args below meth c s₁ B hml hv
  obtain ⟨rfl, hP, hK⟩ := hv
  have hx := B.exec
  have hb := B.bytes
  have hr := B.returns
  have hts : ∀ w ∈ (Cond.code yX10_row cX10_row 4 (some .int) :: wMa), w.before ([.ref h, .int p1, .int p2, .int p3] : List Value).toArray s = true := atoms_spec (ws := wsM_row) B.pre
  have hin : ∀ w ∈ wMa, w ∈ (Cond.code yX10_row cX10_row 4 (some .int) :: wMa) := fun w hw => List.mem_cons_of_mem _ hw
  have hown : s.vm.findClass RX10 = some m.cls := findClass_of_methodNamed B.named
  have hlocks := B.notSynchronized
  have hl := lv_entry ([.ref h, .int p1, .int p2, .int p3]) (n := 4) (Nat.le_of_ble_eq_true rfl)
  rw [lg_entry_eq]
  generalize (lg_sl ([.ref h, .int p1, .int p2, .int p3]) ++ List.replicate (4 - (lg_sl ([.ref h, .int p1, .int p2, .int p3])).length) Slot.unset).toArray = ls at hl ⊢
  have hl : lv_has ls 4 [(0, .ref h), (1, .int p1), (2, .int p2), (3, .int p3)] := hl
  unfold FM_row at hF
  refine lv_aload_n hx hb dX10_row_0 rfl (lv_at hl 0 rfl) ?_
  refine lv_iload_n hx hb dX10_row_1 rfl (lv_at hl 1 rfl) ?_
  obtain ⟨q_2, e_2, hF⟩ := ob_bd hF
  refine crM (As := [.int p1]) (rest := []) ⟨hx, hb, hml, hown, hts⟩ (cM_isThere l D cI cZ h ad σ p1 _ e_2) (cw_isThere hts ⟨Nat.le_of_ble_eq_true rfl, Nat.le_of_ble_eq_true rfl⟩) hK hP rfl hl.1 rfl (lv_room (Nat.le_of_ble_eq_true rfl)) dX10_row_2 ?_
  refine lv_if_eq (tgt := 42) hx hb dX10_row_5 (by decide) (fun c_5 => ?_) (fun c_5 => ?_)
  · have hF := ob_t c_5 hF
    refine lv_iconst (v := (-1 : Int32)) hx hb dX10_row_42 (by decide) ?_
    exact rrM hx hb hr hlocks hF dX10_row_43
  · have hF := ob_f c_5 hF
    refine lv_iload_n hx hb dX10_row_8 rfl (lv_at hl 2 rfl) ?_
    refine lv_iconst (v := (0 : Int32)) hx hb dX10_row_9 (by decide) ?_
    refine lv_aload_n hx hb dX10_row_10 rfl (lv_at hl 0 rfl) ?_
    refine gM hx hb hts hin hown hK hP 2 (.ref (ad 2)) (by decide) mf_13 rfl dX10_row_11 ?_
    refine lv_iload_n hx hb dX10_row_14 rfl (lv_at hl 1 rfl) ?_
    obtain ⟨g_15, hF⟩ := ob_gd hF
    refine ldI hx hb hK hP (at_2 _ _ _ _ _) (σ.2 2 p1.toNatClampNeg) g_15 rfl dX10_row_15 ?_
    refine lv_iconst (v := (1 : Int32)) hx hb dX10_row_16 (by decide) ?_
    refine lv_isub hx hb dX10_row_17 ?_
    obtain ⟨q_18, e_18, hF⟩ := ob_bd hF
    refine csM (As := [.int p2, .int (0 : Int32), .int ((σ.2 2 p1.toNatClampNeg) - (1 : Int32))]) (rest := []) ⟨hx, hb, hml, hown, hts⟩ (cM_in l p2 (0 : Int32) ((σ.2 2 p1.toNatClampNeg) - (1 : Int32)) _ e_18) (cw_in hts ⟨Nat.le_of_ble_eq_true rfl, Nat.le_of_ble_eq_true rfl⟩) rfl hl.1 rfl (lv_room (Nat.le_of_ble_eq_true rfl)) dX10_row_18 ?_
    refine lv_if_eq (tgt := 42) hx hb dX10_row_21 (by decide) (fun c_21 => ?_) (fun c_21 => ?_)
    · have hF := ob_t c_21 hF
      refine lv_iconst (v := (-1 : Int32)) hx hb dX10_row_42 (by decide) ?_
      exact rrM hx hb hr hlocks hF dX10_row_43
    · have hF := ob_f c_21 hF
      refine lv_aload_n hx hb dX10_row_24 rfl (lv_at hl 0 rfl) ?_
      refine gM hx hb hts hin hown hK hP 5 (.ref (ad 5)) (by decide) mf_23 rfl dX10_row_25 ?_
      refine lv_bipush (v := (120 : Int32)) hx hb dX10_row_28 (by decide) ?_
      refine lv_iload_n hx hb dX10_row_30 rfl (lv_at hl 1 rfl) ?_
      refine lv_imul hx hb dX10_row_31 ?_
      refine lv_iload_n hx hb dX10_row_32 rfl (lv_at hl 2 rfl) ?_
      refine lv_iadd hx hb dX10_row_33 ?_
      obtain ⟨g_34, hF⟩ := ob_gd hF
      refine ldI hx hb hK hP (at_5 _ _ _ _ _) (σ.2 5 (((120 : Int32) * p1) + p2).toNatClampNeg) g_34 rfl dX10_row_34 ?_
      refine lv_iload_n hx hb dX10_row_35 rfl (lv_at hl 3 rfl) ?_
      obtain ⟨q_36, e_36, hF⟩ := ob_bd hF
      refine csM (As := [.int (σ.2 5 (((120 : Int32) * p1) + p2).toNatClampNeg), .int p3]) (rest := []) ⟨hx, hb, hml, hown, hts⟩ (cM_told l (σ.2 5 (((120 : Int32) * p1) + p2).toNatClampNeg) p3 _ e_36) (cw_told hts ⟨Nat.le_of_ble_eq_true rfl, Nat.le_of_ble_eq_true rfl⟩) rfl hl.1 rfl (lv_room (Nat.le_of_ble_eq_true rfl)) dX10_row_36 ?_
      refine lv_goto (tgt := 43) hx hb dX10_row_39 (by decide) ?_
      exact rrM hx hb hr hlocks hF dX10_row_43
def FM_wash_31 (x1_31 : Int32) (t1_31 : Int32) (t2_31 : Int32) (t3_31 : Int32) (σ_31 : MS) : Option (Int32 × MS) := (gd (inb t1_31 40) (gd (inb x1_31 40) (some (((sa σ_31 3 t1_31 (t2_31 - t3_31)).2 3 x1_31.toNatClampNeg), (sa σ_31 3 t1_31 (t2_31 - t3_31))))))
def FM_wash (σ : MS) (p1 : Int32) : Option (Int32 × MS) := ((FM_isThere σ p1).bind fun q_2 => (if q_2 = 0 then (some ((-1 : Int32), σ)) else (gd (inb p1 40) (gd (inb p1 40) (if (σ.2 3 p1.toNatClampNeg) ≤ 0 then (FM_wash_31 p1 p1 (σ.2 3 p1.toNatClampNeg) (0 : Int32) σ) else (FM_wash_31 p1 p1 (σ.2 3 p1.toNatClampNeg) (1 : Int32) σ))))))
def wsM_wash : List Cond := Cond.code yX10_wash cX10_wash 2 (some .int) :: wMa
set_option maxHeartbeats 4000000 in
set_option maxRecDepth 100000 in
theorem cM_wash (l : Launch) (D : va_G) (cI cZ : ClassId) (h : Nat) (ad : Nat → Nat) (A : Nat → Prop) (σ : MS) (p1 : Int32) (q : Int32 × MS) (hF : FM_wash σ p1 = some q) : Met l yX10_wash wsM_wash { frames := 2, cells := 0, slots := 0, locals := 43 } (va_Pc [.ref h, .int p1] (preM D cI cZ h ad A σ)) (va_Qi (fun x u => x = q.1 ∧ u = q.2) (preM D cI cZ h ad A) A) 0 0 A := by
  refine Met.ofW (cc := cX10_wash) (maxL := 2) (ret := (some .int)) (by decide) rfl ?_
  intro p e s m args below meth c s₁ B hml hv
  obtain ⟨rfl, hP, hK, hD⟩ := hv
  have hx := B.exec
  have hb := B.bytes
  have hr := B.returns
  have hts : ∀ w ∈ (Cond.code yX10_wash cX10_wash 2 (some .int) :: wMa), w.before ([.ref h, .int p1] : List Value).toArray s = true := atoms_spec (ws := wsM_wash) B.pre
  have hin : ∀ w ∈ wMa, w ∈ (Cond.code yX10_wash cX10_wash 2 (some .int) :: wMa) := fun w hw => List.mem_cons_of_mem _ hw
  have hown : s.vm.findClass RX10 = some m.cls := findClass_of_methodNamed B.named
  have hlocks := B.notSynchronized
  have hS : va_S A s.heap s.heap [] := va_S.rf
  have b_31 : ∀ (x1_31 : Int32) (t1_31 : Int32) (t2_31 : Int32) (t3_31 : Int32) (σ_31 : MS) (H : Heap) (locs : List Loc) (ls : Array Slot), FM_wash_31 x1_31 t1_31 t2_31 t3_31 σ_31 = some q → va_P D vwCl (wM cI cZ h ad σ_31) H → va_D A (wM cI cZ h ad σ_31) → va_S A s.heap H locs → lv_has ls 2 [(0, .ref h), (1, .int x1_31)] → W p l e (headSpec wsM_wash { frames := 2, cells := 0, slots := 0, locals := 43 }).room s m ([.ref h, .int p1] : List Value).toArray below meth c H locs 0 0 (MQ below (va_Qi (fun x u => x = q.1 ∧ u = q.2) (preM D cI cZ h ad A) A) ([.ref h, .int p1] : List Value).toArray s 0 0 A) (F0 m 31 ls [.int t3_31, .int t2_31, .int t1_31, .ref (ad 3)]) := by
    intro x1_31 t1_31 t2_31 t3_31 σ_31 H locs ls hF hP hD hS hl
    unfold FM_wash_31 at hF
    refine lv_isub hx hb dX10_wash_31 ?_
    obtain ⟨g_32, hF⟩ := ob_gd hF
    refine stI hx hb hK hP hD hS (at_3 _ _ _ _ _) (st_3 _ _ _ _ _ _ _) g_32 dX10_wash_32 (fun H locs hP hD hS => ?_)
    refine lv_aload_n hx hb dX10_wash_33 rfl (lv_at hl 0 rfl) ?_
    refine gM hx hb hts hin hown hK hP 3 (.ref (ad 3)) (by decide) mf_17 rfl dX10_wash_34 ?_
    refine lv_iload_n hx hb dX10_wash_37 rfl (lv_at hl 1 rfl) ?_
    obtain ⟨g_38, hF⟩ := ob_gd hF
    refine ldI hx hb hK hP (at_3 _ _ _ _ _) ((sa σ_31 3 t1_31 (t2_31 - t3_31)).2 3 x1_31.toNatClampNeg) g_38 rfl dX10_wash_38 ?_
    exact rwM hx hb hr hlocks hF hK hP hD hS dX10_wash_39
  have hl := lv_entry ([.ref h, .int p1]) (n := 2) (Nat.le_of_ble_eq_true rfl)
  rw [lg_entry_eq]
  generalize (lg_sl ([.ref h, .int p1]) ++ List.replicate (2 - (lg_sl ([.ref h, .int p1])).length) Slot.unset).toArray = ls at hl ⊢
  have hl : lv_has ls 2 [(0, .ref h), (1, .int p1)] := hl
  unfold FM_wash at hF
  refine lv_aload_n hx hb dX10_wash_0 rfl (lv_at hl 0 rfl) ?_
  refine lv_iload_n hx hb dX10_wash_1 rfl (lv_at hl 1 rfl) ?_
  obtain ⟨q_2, e_2, hF⟩ := ob_bd hF
  refine crM (As := [.int p1]) (rest := []) ⟨hx, hb, hml, hown, hts⟩ (cM_isThere l D cI cZ h ad σ p1 _ e_2) (cw_isThere hts ⟨Nat.le_of_ble_eq_true rfl, Nat.le_of_ble_eq_true rfl⟩) hK hP rfl hl.1 rfl (lv_room (Nat.le_of_ble_eq_true rfl)) dX10_wash_2 ?_
  refine lv_if_ne (tgt := 10) hx hb dX10_wash_5 (by decide) (fun c_5 => ?_) (fun c_5 => ?_)
  · have hF := ob_f c_5 hF
    refine lv_aload_n hx hb dX10_wash_10 rfl (lv_at hl 0 rfl) ?_
    refine gM hx hb hts hin hown hK hP 3 (.ref (ad 3)) (by decide) mf_17 rfl dX10_wash_11 ?_
    refine lv_iload_n hx hb dX10_wash_14 rfl (lv_at hl 1 rfl) ?_
    refine lv_dup2_11 hx hb dX10_wash_15 rfl rfl ?_
    obtain ⟨g_16, hF⟩ := ob_gd hF
    refine ldI hx hb hK hP (at_3 _ _ _ _ _) (σ.2 3 p1.toNatClampNeg) g_16 rfl dX10_wash_16 ?_
    refine lv_aload_n hx hb dX10_wash_17 rfl (lv_at hl 0 rfl) ?_
    refine gM hx hb hts hin hown hK hP 3 (.ref (ad 3)) (by decide) mf_17 rfl dX10_wash_18 ?_
    refine lv_iload_n hx hb dX10_wash_21 rfl (lv_at hl 1 rfl) ?_
    obtain ⟨g_22, hF⟩ := ob_gd hF
    refine ldI hx hb hK hP (at_3 _ _ _ _ _) (σ.2 3 p1.toNatClampNeg) g_22 rfl dX10_wash_22 ?_
    refine lv_if_le (tgt := 30) hx hb dX10_wash_23 (by decide) (fun c_23 => ?_) (fun c_23 => ?_)
    · have hF := ob_t c_23 hF
      refine lv_iconst (v := (0 : Int32)) hx hb dX10_wash_30 (by decide) ?_
      exact b_31 p1 p1 (σ.2 3 p1.toNatClampNeg) (0 : Int32) σ _ _ _ hF hP hD hS hl
    · have hF := ob_f c_23 hF
      refine lv_iconst (v := (1 : Int32)) hx hb dX10_wash_26 (by decide) ?_
      refine lv_goto (tgt := 31) hx hb dX10_wash_27 (by decide) ?_
      exact b_31 p1 p1 (σ.2 3 p1.toNatClampNeg) (1 : Int32) σ _ _ _ hF hP hD hS hl
  · have hF := ob_t c_5 hF
    refine lv_iconst (v := (-1 : Int32)) hx hb dX10_wash_8 (by decide) ?_
    exact rwM hx hb hr hlocks hF hK hP hD hS dX10_wash_9
def FM_dye_51 (x1_51 : Int32) (x2_51 : Int32) : Nat → Int32 → Int32 → MS → Option (Int32 × MS)
  | 0, _, _, _ => none
  | n_51 + 1, x3_51, x4_51, σ_51 => (gd (inb x1_51 40) (if (((120 : Int32) * x1_51) + (σ_51.2 2 x1_51.toNatClampNeg)) ≤ x4_51 then (some (x3_51, σ_51)) else (gd (inb x4_51 4800) (if x2_51 ≤ ((σ_51.2 5 x4_51.toNatClampNeg) - (σ_51.2 5 x4_51.toNatClampNeg) / (10 : Int32) * (10 : Int32)) then (FM_dye_51  x1_51 x2_51 n_51 x3_51 (x4_51 + (1 : Int32)) σ_51) else (gd (inb x4_51 4800) (gd (inb x4_51 4800) (FM_dye_51  x1_51 x2_51 n_51 (x3_51 + (1 : Int32)) (x4_51 + (1 : Int32)) (sa σ_51 5 x4_51 ((σ_51.2 5 x4_51.toNatClampNeg) + (x2_51 - ((σ_51.2 5 x4_51.toNatClampNeg) - (σ_51.2 5 x4_51.toNatClampNeg) / (10 : Int32) * (10 : Int32))))))))))))
def FM_dye (σ : MS) (p1 : Int32) (p2 : Int32) : Option (Int32 × MS) := ((FM_isThere σ p1).bind fun q_2 => (if q_2 = 0 then (some ((-1 : Int32), σ)) else ((FM_in p2 (0 : Int32) (9 : Int32)).bind fun q_14 => (if q_14 = 0 then (some ((-2 : Int32), σ)) else (gd (inb p1 40) (if (σ.2 3 p1.toNatClampNeg) < p2 then (gd (inb p1 40) (FM_dye_51 p1 p2 fu (0 : Int32) ((120 : Int32) * p1) (sa σ 3 p1 p2))) else (some ((-3 : Int32), σ))))))))
def wsM_dye : List Cond := Cond.code yX10_dye cX10_dye 6 (some .int) :: wMa
set_option maxHeartbeats 4000000 in
set_option maxRecDepth 100000 in
theorem cM_dye (l : Launch) (D : va_G) (cI cZ : ClassId) (h : Nat) (ad : Nat → Nat) (A : Nat → Prop) (σ : MS) (p1 : Int32) (p2 : Int32) (q : Int32 × MS) (hF : FM_dye σ p1 p2 = some q) : Met l yX10_dye wsM_dye { frames := 2, cells := 0, slots := 0, locals := 43 } (va_Pc [.ref h, .int p1, .int p2] (preM D cI cZ h ad A σ)) (va_Qi (fun x u => x = q.1 ∧ u = q.2) (preM D cI cZ h ad A) A) 0 0 A := by
  refine Met.ofW (cc := cX10_dye) (maxL := 6) (ret := (some .int)) (by decide) rfl ?_
  intro p e s m args below meth c s₁ B hml hv
  obtain ⟨rfl, hP, hK, hD⟩ := hv
  have hx := B.exec
  have hb := B.bytes
  have hr := B.returns
  have hts : ∀ w ∈ (Cond.code yX10_dye cX10_dye 6 (some .int) :: wMa), w.before ([.ref h, .int p1, .int p2] : List Value).toArray s = true := atoms_spec (ws := wsM_dye) B.pre
  have hin : ∀ w ∈ wMa, w ∈ (Cond.code yX10_dye cX10_dye 6 (some .int) :: wMa) := fun w hw => List.mem_cons_of_mem _ hw
  have hown : s.vm.findClass RX10 = some m.cls := findClass_of_methodNamed B.named
  have hlocks := B.notSynchronized
  have hS : va_S A s.heap s.heap [] := va_S.rf
  have b_51 : ∀ (x1_51 : Int32) (x2_51 : Int32) (n_51 : Nat) (x3_51 : Int32) (x4_51 : Int32) (σ_51 : MS) (H : Heap) (locs : List Loc) (ls : Array Slot), FM_dye_51 x1_51 x2_51 n_51 x3_51 x4_51 σ_51 = some q → va_P D vwCl (wM cI cZ h ad σ_51) H → va_D A (wM cI cZ h ad σ_51) → va_S A s.heap H locs → lv_has ls 6 [(0, .ref h), (1, .int x1_51), (2, .int x2_51), (3, .int x3_51), (4, .int x4_51)] → W p l e (headSpec wsM_dye { frames := 2, cells := 0, slots := 0, locals := 43 }).room s m ([.ref h, .int p1, .int p2] : List Value).toArray below meth c H locs 0 0 (MQ below (va_Qi (fun x u => x = q.1 ∧ u = q.2) (preM D cI cZ h ad A) A) ([.ref h, .int p1, .int p2] : List Value).toArray s 0 0 A) (F0 m 51 ls []) := by
    intro x1_51 x2_51
    intro n_51
    induction n_51 with
    | zero =>
      intro x3_51 x4_51 σ_51 H locs ls hF hP hD hS hl
      exact absurd hF (by simp [FM_dye_51])
    | succ n_51 ih_51 =>
      intro x3_51 x4_51 σ_51 H locs ls hF hP hD hS hl
      rw [FM_dye_51] at hF
      refine lv_iload hx hb dX10_dye_51 (lv_at hl 4 rfl) ?_
      refine lv_bipush (v := (120 : Int32)) hx hb dX10_dye_53 (by decide) ?_
      refine lv_iload_n hx hb dX10_dye_55 rfl (lv_at hl 1 rfl) ?_
      refine lv_imul hx hb dX10_dye_56 ?_
      refine lv_aload_n hx hb dX10_dye_57 rfl (lv_at hl 0 rfl) ?_
      refine gM hx hb hts hin hown hK hP 2 (.ref (ad 2)) (by decide) mf_13 rfl dX10_dye_58 ?_
      refine lv_iload_n hx hb dX10_dye_61 rfl (lv_at hl 1 rfl) ?_
      obtain ⟨g_62, hF⟩ := ob_gd hF
      refine ldI hx hb hK hP (at_2 _ _ _ _ _) (σ_51.2 2 x1_51.toNatClampNeg) g_62 rfl dX10_dye_62 ?_
      refine lv_iadd hx hb dX10_dye_63 ?_
      refine lv_icmp_ge (tgt := 108) hx hb dX10_dye_64 (by decide) (fun c_64 => ?_) (fun c_64 => ?_)
      · have hF := ob_t c_64 hF
        refine lv_iload_n hx hb dX10_dye_108 rfl (lv_at hl 3 rfl) ?_
        exact rwM hx hb hr hlocks hF hK hP hD hS dX10_dye_109
      · have hF := ob_f c_64 hF
        refine lv_aload_n hx hb dX10_dye_67 rfl (lv_at hl 0 rfl) ?_
        refine gM hx hb hts hin hown hK hP 5 (.ref (ad 5)) (by decide) mf_23 rfl dX10_dye_68 ?_
        refine lv_iload hx hb dX10_dye_71 (lv_at hl 4 rfl) ?_
        obtain ⟨g_73, hF⟩ := ob_gd hF
        refine ldI hx hb hK hP (at_5 _ _ _ _ _) (σ_51.2 5 x4_51.toNatClampNeg) g_73 rfl dX10_dye_73 ?_
        refine lv_bipush (v := (10 : Int32)) hx hb dX10_dye_74 (by decide) ?_
        refine lv_irem hx hb dX10_dye_76 (by decide) ?_
        refine lv_istore (lv' := [(5, .int ((σ_51.2 5 x4_51.toNatClampNeg) - (σ_51.2 5 x4_51.toNatClampNeg) / (10 : Int32) * (10 : Int32))), (0, .ref h), (1, .int x1_51), (2, .int x2_51), (3, .int x3_51), (4, .int x4_51)]) hx hb dX10_dye_77 hl (by decide) rfl (fun ls hl => ?_)
        refine lv_iload hx hb dX10_dye_79 (lv_at hl 0 rfl) ?_
        refine lv_iload_n hx hb dX10_dye_81 rfl (lv_at hl 3 rfl) ?_
        refine lv_icmp_ge (tgt := 102) hx hb dX10_dye_82 (by decide) (fun c_82 => ?_) (fun c_82 => ?_)
        · have hF := ob_t c_82 hF
          refine lv_iinc (v := x4_51 + (1 : Int32)) (lv' := [(4, .int (x4_51 + (1 : Int32))), (5, .int ((σ_51.2 5 x4_51.toNatClampNeg) - (σ_51.2 5 x4_51.toNatClampNeg) / (10 : Int32) * (10 : Int32))), (0, .ref h), (1, .int x1_51), (2, .int x2_51), (3, .int x3_51)]) hx hb dX10_dye_102 hl (k := 5) rfl rfl (by decide) rfl (fun ls hl => ?_)
          refine lv_goto (tgt := 51) hx hb dX10_dye_105 (by decide) ?_
          exact ih_51 x3_51 (x4_51 + (1 : Int32)) σ_51 _ _ _ hF hP hD hS (lv_sub hl [2, 3, 4, 5, 0] rfl)
        · have hF := ob_f c_82 hF
          refine lv_aload_n hx hb dX10_dye_85 rfl (lv_at hl 1 rfl) ?_
          refine gM hx hb hts hin hown hK hP 5 (.ref (ad 5)) (by decide) mf_23 rfl dX10_dye_86 ?_
          refine lv_iload hx hb dX10_dye_89 (lv_at hl 5 rfl) ?_
          refine lv_dup2_11 hx hb dX10_dye_91 rfl rfl ?_
          obtain ⟨g_92, hF⟩ := ob_gd hF
          refine ldI hx hb hK hP (at_5 _ _ _ _ _) (σ_51.2 5 x4_51.toNatClampNeg) g_92 rfl dX10_dye_92 ?_
          refine lv_iload_n hx hb dX10_dye_93 rfl (lv_at hl 3 rfl) ?_
          refine lv_iload hx hb dX10_dye_94 (lv_at hl 0 rfl) ?_
          refine lv_isub hx hb dX10_dye_96 ?_
          refine lv_iadd hx hb dX10_dye_97 ?_
          obtain ⟨g_98, hF⟩ := ob_gd hF
          refine stI hx hb hK hP hD hS (at_5 _ _ _ _ _) (st_5 _ _ _ _ _ _ _) g_98 dX10_dye_98 (fun H locs hP hD hS => ?_)
          refine lv_iinc (v := x3_51 + (1 : Int32)) (lv' := [(3, .int (x3_51 + (1 : Int32))), (5, .int ((σ_51.2 5 x4_51.toNatClampNeg) - (σ_51.2 5 x4_51.toNatClampNeg) / (10 : Int32) * (10 : Int32))), (0, .ref h), (1, .int x1_51), (2, .int x2_51), (4, .int x4_51)]) hx hb dX10_dye_99 hl (k := 4) rfl rfl (by decide) rfl (fun ls hl => ?_)
          refine lv_iinc (v := x4_51 + (1 : Int32)) (lv' := [(4, .int (x4_51 + (1 : Int32))), (3, .int (x3_51 + (1 : Int32))), (5, .int ((σ_51.2 5 x4_51.toNatClampNeg) - (σ_51.2 5 x4_51.toNatClampNeg) / (10 : Int32) * (10 : Int32))), (0, .ref h), (1, .int x1_51), (2, .int x2_51)]) hx hb dX10_dye_102 hl (k := 5) rfl rfl (by decide) rfl (fun ls hl => ?_)
          refine lv_goto (tgt := 51) hx hb dX10_dye_105 (by decide) ?_
          exact ih_51 (x3_51 + (1 : Int32)) (x4_51 + (1 : Int32)) (sa σ_51 5 x4_51 ((σ_51.2 5 x4_51.toNatClampNeg) + (x2_51 - ((σ_51.2 5 x4_51.toNatClampNeg) - (σ_51.2 5 x4_51.toNatClampNeg) / (10 : Int32) * (10 : Int32))))) _ _ _ hF hP hD hS (lv_sub hl [3, 4, 5, 1, 0] rfl)
  have hl := lv_entry ([.ref h, .int p1, .int p2]) (n := 6) (Nat.le_of_ble_eq_true rfl)
  rw [lg_entry_eq]
  generalize (lg_sl ([.ref h, .int p1, .int p2]) ++ List.replicate (6 - (lg_sl ([.ref h, .int p1, .int p2])).length) Slot.unset).toArray = ls at hl ⊢
  have hl : lv_has ls 6 [(0, .ref h), (1, .int p1), (2, .int p2)] := hl
  unfold FM_dye at hF
  refine lv_aload_n hx hb dX10_dye_0 rfl (lv_at hl 0 rfl) ?_
  refine lv_iload_n hx hb dX10_dye_1 rfl (lv_at hl 1 rfl) ?_
  obtain ⟨q_2, e_2, hF⟩ := ob_bd hF
  refine crM (As := [.int p1]) (rest := []) ⟨hx, hb, hml, hown, hts⟩ (cM_isThere l D cI cZ h ad σ p1 _ e_2) (cw_isThere hts ⟨Nat.le_of_ble_eq_true rfl, Nat.le_of_ble_eq_true rfl⟩) hK hP rfl hl.1 rfl (lv_room (Nat.le_of_ble_eq_true rfl)) dX10_dye_2 ?_
  refine lv_if_ne (tgt := 10) hx hb dX10_dye_5 (by decide) (fun c_5 => ?_) (fun c_5 => ?_)
  · have hF := ob_f c_5 hF
    refine lv_iload_n hx hb dX10_dye_10 rfl (lv_at hl 2 rfl) ?_
    refine lv_iconst (v := (0 : Int32)) hx hb dX10_dye_11 (by decide) ?_
    refine lv_bipush (v := (9 : Int32)) hx hb dX10_dye_12 (by decide) ?_
    obtain ⟨q_14, e_14, hF⟩ := ob_bd hF
    refine csM (As := [.int p2, .int (0 : Int32), .int (9 : Int32)]) (rest := []) ⟨hx, hb, hml, hown, hts⟩ (cM_in l p2 (0 : Int32) (9 : Int32) _ e_14) (cw_in hts ⟨Nat.le_of_ble_eq_true rfl, Nat.le_of_ble_eq_true rfl⟩) rfl hl.1 rfl (lv_room (Nat.le_of_ble_eq_true rfl)) dX10_dye_14 ?_
    refine lv_if_ne (tgt := 23) hx hb dX10_dye_17 (by decide) (fun c_17 => ?_) (fun c_17 => ?_)
    · have hF := ob_f c_17 hF
      refine lv_iload_n hx hb dX10_dye_23 rfl (lv_at hl 2 rfl) ?_
      refine lv_aload_n hx hb dX10_dye_24 rfl (lv_at hl 0 rfl) ?_
      refine gM hx hb hts hin hown hK hP 3 (.ref (ad 3)) (by decide) mf_17 rfl dX10_dye_25 ?_
      refine lv_iload_n hx hb dX10_dye_28 rfl (lv_at hl 1 rfl) ?_
      obtain ⟨g_29, hF⟩ := ob_gd hF
      refine ldI hx hb hK hP (at_3 _ _ _ _ _) (σ.2 3 p1.toNatClampNeg) g_29 rfl dX10_dye_29 ?_
      refine lv_icmp_gt (tgt := 36) hx hb dX10_dye_30 (by decide) (fun c_30 => ?_) (fun c_30 => ?_)
      · have hF := ob_t c_30 hF
        refine lv_aload_n hx hb dX10_dye_36 rfl (lv_at hl 0 rfl) ?_
        refine gM hx hb hts hin hown hK hP 3 (.ref (ad 3)) (by decide) mf_17 rfl dX10_dye_37 ?_
        refine lv_iload_n hx hb dX10_dye_40 rfl (lv_at hl 1 rfl) ?_
        refine lv_iload_n hx hb dX10_dye_41 rfl (lv_at hl 2 rfl) ?_
        obtain ⟨g_42, hF⟩ := ob_gd hF
        refine stI hx hb hK hP hD hS (at_3 _ _ _ _ _) (st_3 _ _ _ _ _ _ _) g_42 dX10_dye_42 (fun H locs hP hD hS => ?_)
        refine lv_iconst (v := (0 : Int32)) hx hb dX10_dye_43 (by decide) ?_
        refine lv_istore_n (lv' := [(3, .int (0 : Int32)), (0, .ref h), (1, .int p1), (2, .int p2)]) hx hb dX10_dye_44 rfl hl (by decide) rfl (fun ls hl => ?_)
        refine lv_bipush (v := (120 : Int32)) hx hb dX10_dye_45 (by decide) ?_
        refine lv_iload_n hx hb dX10_dye_47 rfl (lv_at hl 2 rfl) ?_
        refine lv_imul hx hb dX10_dye_48 ?_
        refine lv_istore (lv' := [(4, .int ((120 : Int32) * p1)), (3, .int (0 : Int32)), (0, .ref h), (1, .int p1), (2, .int p2)]) hx hb dX10_dye_49 hl (by decide) rfl (fun ls hl => ?_)
        exact b_51 p1 p2 fu (0 : Int32) ((120 : Int32) * p1) (sa σ 3 p1 p2) _ _ _ hF hP hD hS (lv_sub hl [2, 3, 4, 1, 0] rfl)
      · have hF := ob_f c_30 hF
        refine lv_bipush (v := (-3 : Int32)) hx hb dX10_dye_33 (by decide) ?_
        exact rwM hx hb hr hlocks hF hK hP hD hS dX10_dye_35
    · have hF := ob_t c_17 hF
      refine lv_bipush (v := (-2 : Int32)) hx hb dX10_dye_20 (by decide) ?_
      exact rwM hx hb hr hlocks hF hK hP hD hS dX10_dye_22
  · have hF := ob_t c_5 hF
    refine lv_iconst (v := (-1 : Int32)) hx hb dX10_dye_8 (by decide) ?_
    exact rwM hx hb hr hlocks hF hK hP hD hS dX10_dye_9
def FM_measure (σ : MS) (p1 : Int32) (p2 : Int32) (p3 : Int32) : Option (Int32 × MS) := ((FM_in p1 (1 : Int32) (30 : Int32)).bind fun q_4 => (if q_4 = 0 then (some ((-2 : Int32), σ)) else ((FM_in p2 (1 : Int32) (30 : Int32)).bind fun q_14 => (if q_14 = 0 then (some ((-2 : Int32), σ)) else ((FM_in p3 (1 : Int32) (30 : Int32)).bind fun q_24 => (if q_24 = 0 then (some ((-2 : Int32), σ)) else (some ((0 : Int32), (si (si (si σ 21 p1) 22 p2) 23 p3)))))))))
def wsM_measure : List Cond := Cond.code yX10_measure cX10_measure 4 (some .int) :: wMa
set_option maxHeartbeats 4000000 in
set_option maxRecDepth 100000 in
theorem cM_measure (l : Launch) (D : va_G) (cI cZ : ClassId) (h : Nat) (ad : Nat → Nat) (A : Nat → Prop) (σ : MS) (p1 : Int32) (p2 : Int32) (p3 : Int32) (q : Int32 × MS) (hF : FM_measure σ p1 p2 p3 = some q) : Met l yX10_measure wsM_measure { frames := 1, cells := 0, slots := 0, locals := 22 } (va_Pc [.ref h, .int p1, .int p2, .int p3] (preM D cI cZ h ad A σ)) (va_Qi (fun x u => x = q.1 ∧ u = q.2) (preM D cI cZ h ad A) A) 0 0 A := by
  refine Met.ofW (cc := cX10_measure) (maxL := 4) (ret := (some .int)) (by decide) rfl ?_
  intro p e s m args below meth c s₁ B hml hv
  obtain ⟨rfl, hP, hK, hD⟩ := hv
  have hx := B.exec
  have hb := B.bytes
  have hr := B.returns
  have hts : ∀ w ∈ (Cond.code yX10_measure cX10_measure 4 (some .int) :: wMa), w.before ([.ref h, .int p1, .int p2, .int p3] : List Value).toArray s = true := atoms_spec (ws := wsM_measure) B.pre
  have hin : ∀ w ∈ wMa, w ∈ (Cond.code yX10_measure cX10_measure 4 (some .int) :: wMa) := fun w hw => List.mem_cons_of_mem _ hw
  have hown : s.vm.findClass RX10 = some m.cls := findClass_of_methodNamed B.named
  have hlocks := B.notSynchronized
  have hS : va_S A s.heap s.heap [] := va_S.rf
  have hl := lv_entry ([.ref h, .int p1, .int p2, .int p3]) (n := 4) (Nat.le_of_ble_eq_true rfl)
  rw [lg_entry_eq]
  generalize (lg_sl ([.ref h, .int p1, .int p2, .int p3]) ++ List.replicate (4 - (lg_sl ([.ref h, .int p1, .int p2, .int p3])).length) Slot.unset).toArray = ls at hl ⊢
  have hl : lv_has ls 4 [(0, .ref h), (1, .int p1), (2, .int p2), (3, .int p3)] := hl
  unfold FM_measure at hF
  refine lv_iload_n hx hb dX10_measure_0 rfl (lv_at hl 1 rfl) ?_
  refine lv_iconst (v := (1 : Int32)) hx hb dX10_measure_1 (by decide) ?_
  refine lv_bipush (v := (30 : Int32)) hx hb dX10_measure_2 (by decide) ?_
  obtain ⟨q_4, e_4, hF⟩ := ob_bd hF
  refine csM (As := [.int p1, .int (1 : Int32), .int (30 : Int32)]) (rest := []) ⟨hx, hb, hml, hown, hts⟩ (cM_in l p1 (1 : Int32) (30 : Int32) _ e_4) (cw_in hts ⟨Nat.le_of_ble_eq_true rfl, Nat.le_of_ble_eq_true rfl⟩) rfl hl.1 rfl (lv_room (Nat.le_of_ble_eq_true rfl)) dX10_measure_4 ?_
  refine lv_if_eq (tgt := 30) hx hb dX10_measure_7 (by decide) (fun c_7 => ?_) (fun c_7 => ?_)
  · have hF := ob_t c_7 hF
    refine lv_bipush (v := (-2 : Int32)) hx hb dX10_measure_30 (by decide) ?_
    exact rwM hx hb hr hlocks hF hK hP hD hS dX10_measure_32
  · have hF := ob_f c_7 hF
    refine lv_iload_n hx hb dX10_measure_10 rfl (lv_at hl 2 rfl) ?_
    refine lv_iconst (v := (1 : Int32)) hx hb dX10_measure_11 (by decide) ?_
    refine lv_bipush (v := (30 : Int32)) hx hb dX10_measure_12 (by decide) ?_
    obtain ⟨q_14, e_14, hF⟩ := ob_bd hF
    refine csM (As := [.int p2, .int (1 : Int32), .int (30 : Int32)]) (rest := []) ⟨hx, hb, hml, hown, hts⟩ (cM_in l p2 (1 : Int32) (30 : Int32) _ e_14) (cw_in hts ⟨Nat.le_of_ble_eq_true rfl, Nat.le_of_ble_eq_true rfl⟩) rfl hl.1 rfl (lv_room (Nat.le_of_ble_eq_true rfl)) dX10_measure_14 ?_
    refine lv_if_eq (tgt := 30) hx hb dX10_measure_17 (by decide) (fun c_17 => ?_) (fun c_17 => ?_)
    · have hF := ob_t c_17 hF
      refine lv_bipush (v := (-2 : Int32)) hx hb dX10_measure_30 (by decide) ?_
      exact rwM hx hb hr hlocks hF hK hP hD hS dX10_measure_32
    · have hF := ob_f c_17 hF
      refine lv_iload_n hx hb dX10_measure_20 rfl (lv_at hl 3 rfl) ?_
      refine lv_iconst (v := (1 : Int32)) hx hb dX10_measure_21 (by decide) ?_
      refine lv_bipush (v := (30 : Int32)) hx hb dX10_measure_22 (by decide) ?_
      obtain ⟨q_24, e_24, hF⟩ := ob_bd hF
      refine csM (As := [.int p3, .int (1 : Int32), .int (30 : Int32)]) (rest := []) ⟨hx, hb, hml, hown, hts⟩ (cM_in l p3 (1 : Int32) (30 : Int32) _ e_24) (cw_in hts ⟨Nat.le_of_ble_eq_true rfl, Nat.le_of_ble_eq_true rfl⟩) rfl hl.1 rfl (lv_room (Nat.le_of_ble_eq_true rfl)) dX10_measure_24 ?_
      refine lv_if_ne (tgt := 33) hx hb dX10_measure_27 (by decide) (fun c_27 => ?_) (fun c_27 => ?_)
      · have hF := ob_f c_27 hF
        refine lv_aload_n hx hb dX10_measure_33 rfl (lv_at hl 0 rfl) ?_
        refine lv_iload_n hx hb dX10_measure_34 rfl (lv_at hl 1 rfl) ?_
        refine pM (ty := .int) (v := p1) hx hb hts hin hown hK hP hD hS 21 (by decide) mf_68 rfl (by decide +kernel) rfl rfl (Nat.le_of_ble_eq_true rfl) (pu_21 _ _ _ _ _ _) dX10_measure_35 (fun H locs hP hD hS => ?_)
        refine lv_aload_n hx hb dX10_measure_38 rfl (lv_at hl 0 rfl) ?_
        refine lv_iload_n hx hb dX10_measure_39 rfl (lv_at hl 2 rfl) ?_
        refine pM (ty := .int) (v := p2) hx hb hts hin hown hK hP hD hS 22 (by decide) mf_72 rfl (by decide +kernel) rfl rfl (Nat.le_of_ble_eq_true rfl) (pu_22 _ _ _ _ _ _) dX10_measure_40 (fun H locs hP hD hS => ?_)
        refine lv_aload_n hx hb dX10_measure_43 rfl (lv_at hl 0 rfl) ?_
        refine lv_iload_n hx hb dX10_measure_44 rfl (lv_at hl 3 rfl) ?_
        refine pM (ty := .int) (v := p3) hx hb hts hin hown hK hP hD hS 23 (by decide) mf_75 rfl (by decide +kernel) rfl rfl (Nat.le_of_ble_eq_true rfl) (pu_23 _ _ _ _ _ _) dX10_measure_45 (fun H locs hP hD hS => ?_)
        refine lv_iconst (v := (0 : Int32)) hx hb dX10_measure_48 (by decide) ?_
        exact rwM hx hb hr hlocks hF hK hP hD hS dX10_measure_49
      · have hF := ob_t c_27 hF
        refine lv_bipush (v := (-2 : Int32)) hx hb dX10_measure_30 (by decide) ?_
        exact rwM hx hb hr hlocks hF hK hP hD hS dX10_measure_32
def FM_set_39 (x1_39 : Int32) (x2_39 : Int32) (t0_39 : Int32) (σ_39 : MS) : Option (Int32 × MS) := (if x1_39 = 0 then (some (t0_39, (si σ_39 24 x2_39))) else (some (t0_39, (si σ_39 25 x2_39))))
def FM_set (σ : MS) (p1 : Int32) (p2 : Int32) : Option (Int32 × MS) := ((FM_in p1 (0 : Int32) (1 : Int32)).bind fun q_3 => (if q_3 = 0 then (some ((-1 : Int32), σ)) else ((FM_in p2 (0 : Int32) (9 : Int32)).bind fun q_15 => (if q_15 = 0 then (some ((-2 : Int32), σ)) else (if p1 = 0 then (FM_set_39 p1 p2 (σ.1 24) σ) else (FM_set_39 p1 p2 (σ.1 25) σ))))))
def wsM_set : List Cond := Cond.code yX10_set cX10_set 4 (some .int) :: wMa
set_option maxHeartbeats 4000000 in
set_option maxRecDepth 100000 in
theorem cM_set (l : Launch) (D : va_G) (cI cZ : ClassId) (h : Nat) (ad : Nat → Nat) (A : Nat → Prop) (σ : MS) (p1 : Int32) (p2 : Int32) (q : Int32 × MS) (hF : FM_set σ p1 p2 = some q) : Met l yX10_set wsM_set { frames := 1, cells := 0, slots := 0, locals := 22 } (va_Pc [.ref h, .int p1, .int p2] (preM D cI cZ h ad A σ)) (va_Qi (fun x u => x = q.1 ∧ u = q.2) (preM D cI cZ h ad A) A) 0 0 A := by
  refine Met.ofW (cc := cX10_set) (maxL := 4) (ret := (some .int)) (by decide) rfl ?_
  intro p e s m args below meth c s₁ B hml hv
  obtain ⟨rfl, hP, hK, hD⟩ := hv
  have hx := B.exec
  have hb := B.bytes
  have hr := B.returns
  have hts : ∀ w ∈ (Cond.code yX10_set cX10_set 4 (some .int) :: wMa), w.before ([.ref h, .int p1, .int p2] : List Value).toArray s = true := atoms_spec (ws := wsM_set) B.pre
  have hin : ∀ w ∈ wMa, w ∈ (Cond.code yX10_set cX10_set 4 (some .int) :: wMa) := fun w hw => List.mem_cons_of_mem _ hw
  have hown : s.vm.findClass RX10 = some m.cls := findClass_of_methodNamed B.named
  have hlocks := B.notSynchronized
  have hS : va_S A s.heap s.heap [] := va_S.rf
  have b_39 : ∀ (x1_39 : Int32) (x2_39 : Int32) (t0_39 : Int32) (σ_39 : MS) (H : Heap) (locs : List Loc) (ls : Array Slot), FM_set_39 x1_39 x2_39 t0_39 σ_39 = some q → va_P D vwCl (wM cI cZ h ad σ_39) H → va_D A (wM cI cZ h ad σ_39) → va_S A s.heap H locs → lv_has ls 4 [(0, .ref h), (1, .int x1_39), (2, .int x2_39)] → W p l e (headSpec wsM_set { frames := 1, cells := 0, slots := 0, locals := 22 }).room s m ([.ref h, .int p1, .int p2] : List Value).toArray below meth c H locs 0 0 (MQ below (va_Qi (fun x u => x = q.1 ∧ u = q.2) (preM D cI cZ h ad A) A) ([.ref h, .int p1, .int p2] : List Value).toArray s 0 0 A) (F0 m 39 ls [.int t0_39]) := by
    intro x1_39 x2_39 t0_39 σ_39 H locs ls hF hP hD hS hl
    unfold FM_set_39 at hF
    refine lv_istore_n (lv' := [(3, .int t0_39), (0, .ref h), (1, .int x1_39), (2, .int x2_39)]) hx hb dX10_set_39 rfl hl (by decide) rfl (fun ls hl => ?_)
    refine lv_iload_n hx hb dX10_set_40 rfl (lv_at hl 2 rfl) ?_
    refine lv_if_ne (tgt := 52) hx hb dX10_set_41 (by decide) (fun c_41 => ?_) (fun c_41 => ?_)
    · have hF := ob_f c_41 hF
      refine lv_aload_n hx hb dX10_set_52 rfl (lv_at hl 1 rfl) ?_
      refine lv_iload_n hx hb dX10_set_53 rfl (lv_at hl 3 rfl) ?_
      refine pM (ty := .int) (v := x2_39) hx hb hts hin hown hK hP hD hS 25 (by decide) mf_78 rfl (by decide +kernel) rfl rfl (Nat.le_of_ble_eq_true rfl) (pu_25 _ _ _ _ _ _) dX10_set_54 (fun H locs hP hD hS => ?_)
      refine lv_iload_n hx hb dX10_set_57 rfl (lv_at hl 0 rfl) ?_
      exact rwM hx hb hr hlocks hF hK hP hD hS dX10_set_58
    · have hF := ob_t c_41 hF
      refine lv_aload_n hx hb dX10_set_44 rfl (lv_at hl 1 rfl) ?_
      refine lv_iload_n hx hb dX10_set_45 rfl (lv_at hl 3 rfl) ?_
      refine pM (ty := .int) (v := x2_39) hx hb hts hin hown hK hP hD hS 24 (by decide) mf_165 rfl (by decide +kernel) rfl rfl (Nat.le_of_ble_eq_true rfl) (pu_24 _ _ _ _ _ _) dX10_set_46 (fun H locs hP hD hS => ?_)
      refine lv_goto (tgt := 57) hx hb dX10_set_49 (by decide) ?_
      refine lv_iload_n hx hb dX10_set_57 rfl (lv_at hl 0 rfl) ?_
      exact rwM hx hb hr hlocks hF hK hP hD hS dX10_set_58
  have hl := lv_entry ([.ref h, .int p1, .int p2]) (n := 4) (Nat.le_of_ble_eq_true rfl)
  rw [lg_entry_eq]
  generalize (lg_sl ([.ref h, .int p1, .int p2]) ++ List.replicate (4 - (lg_sl ([.ref h, .int p1, .int p2])).length) Slot.unset).toArray = ls at hl ⊢
  have hl : lv_has ls 4 [(0, .ref h), (1, .int p1), (2, .int p2)] := hl
  unfold FM_set at hF
  refine lv_iload_n hx hb dX10_set_0 rfl (lv_at hl 1 rfl) ?_
  refine lv_iconst (v := (0 : Int32)) hx hb dX10_set_1 (by decide) ?_
  refine lv_iconst (v := (1 : Int32)) hx hb dX10_set_2 (by decide) ?_
  obtain ⟨q_3, e_3, hF⟩ := ob_bd hF
  refine csM (As := [.int p1, .int (0 : Int32), .int (1 : Int32)]) (rest := []) ⟨hx, hb, hml, hown, hts⟩ (cM_in l p1 (0 : Int32) (1 : Int32) _ e_3) (cw_in hts ⟨Nat.le_of_ble_eq_true rfl, Nat.le_of_ble_eq_true rfl⟩) rfl hl.1 rfl (lv_room (Nat.le_of_ble_eq_true rfl)) dX10_set_3 ?_
  refine lv_if_ne (tgt := 11) hx hb dX10_set_6 (by decide) (fun c_6 => ?_) (fun c_6 => ?_)
  · have hF := ob_f c_6 hF
    refine lv_iload_n hx hb dX10_set_11 rfl (lv_at hl 2 rfl) ?_
    refine lv_iconst (v := (0 : Int32)) hx hb dX10_set_12 (by decide) ?_
    refine lv_bipush (v := (9 : Int32)) hx hb dX10_set_13 (by decide) ?_
    obtain ⟨q_15, e_15, hF⟩ := ob_bd hF
    refine csM (As := [.int p2, .int (0 : Int32), .int (9 : Int32)]) (rest := []) ⟨hx, hb, hml, hown, hts⟩ (cM_in l p2 (0 : Int32) (9 : Int32) _ e_15) (cw_in hts ⟨Nat.le_of_ble_eq_true rfl, Nat.le_of_ble_eq_true rfl⟩) rfl hl.1 rfl (lv_room (Nat.le_of_ble_eq_true rfl)) dX10_set_15 ?_
    refine lv_if_ne (tgt := 24) hx hb dX10_set_18 (by decide) (fun c_18 => ?_) (fun c_18 => ?_)
    · have hF := ob_f c_18 hF
      refine lv_iload_n hx hb dX10_set_24 rfl (lv_at hl 1 rfl) ?_
      refine lv_if_ne (tgt := 35) hx hb dX10_set_25 (by decide) (fun c_25 => ?_) (fun c_25 => ?_)
      · have hF := ob_f c_25 hF
        refine lv_aload_n hx hb dX10_set_35 rfl (lv_at hl 0 rfl) ?_
        refine gM hx hb hts hin hown hK hP 25 (.int (σ.1 25)) (by decide) mf_78 rfl dX10_set_36 ?_
        exact b_39 p1 p2 (σ.1 25) σ _ _ _ hF hP hD hS hl
      · have hF := ob_t c_25 hF
        refine lv_aload_n hx hb dX10_set_28 rfl (lv_at hl 0 rfl) ?_
        refine gM hx hb hts hin hown hK hP 24 (.int (σ.1 24)) (by decide) mf_165 rfl dX10_set_29 ?_
        refine lv_goto (tgt := 39) hx hb dX10_set_32 (by decide) ?_
        exact b_39 p1 p2 (σ.1 24) σ _ _ _ hF hP hD hS hl
    · have hF := ob_t c_18 hF
      refine lv_bipush (v := (-2 : Int32)) hx hb dX10_set_21 (by decide) ?_
      exact rwM hx hb hr hlocks hF hK hP hD hS dX10_set_23
  · have hF := ob_t c_6 hF
    refine lv_iconst (v := (-1 : Int32)) hx hb dX10_set_9 (by decide) ?_
    exact rwM hx hb hr hlocks hF hK hP hD hS dX10_set_10
def FM_sleeveOf (σ : MS) (p1 : Int32) : Option Int32 := (gd (inb p1 40) (if ((((σ.2 2 p1.toNatClampNeg) - ((2 : Int32) * (σ.1 21))) - (σ.1 22)) - (σ.1 23)) < (2 : Int32) then (some (-3 : Int32)) else (if (((((σ.2 2 p1.toNatClampNeg) - ((2 : Int32) * (σ.1 21))) - (σ.1 22)) - (σ.1 23)) - ((((σ.2 2 p1.toNatClampNeg) - ((2 : Int32) * (σ.1 21))) - (σ.1 22)) - (σ.1 23)) / (2 : Int32) * (2 : Int32)) = 0 then (some (((((σ.2 2 p1.toNatClampNeg) - ((2 : Int32) * (σ.1 21))) - (σ.1 22)) - (σ.1 23)) / (2 : Int32))) else (some (-3 : Int32)))))
def wsM_sleeveOf : List Cond := Cond.code yX10_sleeveOf cX10_sleeveOf 3 (some .int) :: wMa
theorem cw_sleeveOf {R : Room} {s : State} {args : Array Value} {y : MethodName} {c : ByteArray} {n : Nat} {r : Option FieldType} (hts : ∀ w ∈ (Cond.code y c n r :: wMa), w.before args s = true) (hR : 0 + 1 ≤ R.frames ∧ 8 + (3 + 11) + 0 ≤ R.locals) : CallW R s args RX10 RX10 168 yX10_sleeveOf cX10_sleeveOf 3 (some .int) wsM_sleeveOf { frames := 0, cells := 0, slots := 0, locals := 0 } 0 0 1 := cwV 1 hts (goodMV mm_168 mi_sleeveOf ms_sleeveOf m_ini mc_sleeveOf) rfl rfl rfl (by decide +kernel) hR
set_option maxHeartbeats 4000000 in
set_option maxRecDepth 100000 in
theorem cM_sleeveOf (l : Launch) (D : va_G) (cI cZ : ClassId) (h : Nat) (ad : Nat → Nat) (σ : MS) (p1 : Int32) (q : Int32) (hF : FM_sleeveOf σ p1 = some q) : Met l yX10_sleeveOf wsM_sleeveOf { frames := 0, cells := 0, slots := 0, locals := 0 } (va_Pc [.ref h, .int p1] (preR D cI cZ h ad σ)) (vp_Si (fun x => x = q)) 0 0 (fun _ => False) := by
  refine Met.ofW (cc := cX10_sleeveOf) (maxL := 3) (ret := (some .int)) (by decide) rfl ?_
  intro p e s m args below meth c s₁ B hml hv
  obtain ⟨rfl, hP, hK⟩ := hv
  have hx := B.exec
  have hb := B.bytes
  have hr := B.returns
  have hts : ∀ w ∈ (Cond.code yX10_sleeveOf cX10_sleeveOf 3 (some .int) :: wMa), w.before ([.ref h, .int p1] : List Value).toArray s = true := atoms_spec (ws := wsM_sleeveOf) B.pre
  have hin : ∀ w ∈ wMa, w ∈ (Cond.code yX10_sleeveOf cX10_sleeveOf 3 (some .int) :: wMa) := fun w hw => List.mem_cons_of_mem _ hw
  have hown : s.vm.findClass RX10 = some m.cls := findClass_of_methodNamed B.named
  have hlocks := B.notSynchronized
  have hl := lv_entry ([.ref h, .int p1]) (n := 3) (Nat.le_of_ble_eq_true rfl)
  rw [lg_entry_eq]
  generalize (lg_sl ([.ref h, .int p1]) ++ List.replicate (3 - (lg_sl ([.ref h, .int p1])).length) Slot.unset).toArray = ls at hl ⊢
  have hl : lv_has ls 3 [(0, .ref h), (1, .int p1)] := hl
  unfold FM_sleeveOf at hF
  refine lv_aload_n hx hb dX10_sleeveOf_0 rfl (lv_at hl 0 rfl) ?_
  refine gM hx hb hts hin hown hK hP 2 (.ref (ad 2)) (by decide) mf_13 rfl dX10_sleeveOf_1 ?_
  refine lv_iload_n hx hb dX10_sleeveOf_4 rfl (lv_at hl 1 rfl) ?_
  obtain ⟨g_5, hF⟩ := ob_gd hF
  refine ldI hx hb hK hP (at_2 _ _ _ _ _) (σ.2 2 p1.toNatClampNeg) g_5 rfl dX10_sleeveOf_5 ?_
  refine lv_iconst (v := (2 : Int32)) hx hb dX10_sleeveOf_6 (by decide) ?_
  refine lv_aload_n hx hb dX10_sleeveOf_7 rfl (lv_at hl 0 rfl) ?_
  refine gM hx hb hts hin hown hK hP 21 (.int (σ.1 21)) (by decide) mf_68 rfl dX10_sleeveOf_8 ?_
  refine lv_imul hx hb dX10_sleeveOf_11 ?_
  refine lv_isub hx hb dX10_sleeveOf_12 ?_
  refine lv_aload_n hx hb dX10_sleeveOf_13 rfl (lv_at hl 0 rfl) ?_
  refine gM hx hb hts hin hown hK hP 22 (.int (σ.1 22)) (by decide) mf_72 rfl dX10_sleeveOf_14 ?_
  refine lv_isub hx hb dX10_sleeveOf_17 ?_
  refine lv_aload_n hx hb dX10_sleeveOf_18 rfl (lv_at hl 0 rfl) ?_
  refine gM hx hb hts hin hown hK hP 23 (.int (σ.1 23)) (by decide) mf_75 rfl dX10_sleeveOf_19 ?_
  refine lv_isub hx hb dX10_sleeveOf_22 ?_
  refine lv_istore_n (lv' := [(2, .int ((((σ.2 2 p1.toNatClampNeg) - ((2 : Int32) * (σ.1 21))) - (σ.1 22)) - (σ.1 23))), (0, .ref h), (1, .int p1)]) hx hb dX10_sleeveOf_23 rfl hl (by decide) rfl (fun ls hl => ?_)
  refine lv_iload_n hx hb dX10_sleeveOf_24 rfl (lv_at hl 0 rfl) ?_
  refine lv_iconst (v := (2 : Int32)) hx hb dX10_sleeveOf_25 (by decide) ?_
  refine lv_icmp_lt (tgt := 35) hx hb dX10_sleeveOf_26 (by decide) (fun c_26 => ?_) (fun c_26 => ?_)
  · have hF := ob_t c_26 hF
    refine lv_bipush (v := (-3 : Int32)) hx hb dX10_sleeveOf_35 (by decide) ?_
    refine lv_goto (tgt := 43) hx hb dX10_sleeveOf_37 (by decide) ?_
    exact rrM hx hb hr hlocks hF dX10_sleeveOf_43
  · have hF := ob_f c_26 hF
    refine lv_iload_n hx hb dX10_sleeveOf_29 rfl (lv_at hl 0 rfl) ?_
    refine lv_iconst (v := (2 : Int32)) hx hb dX10_sleeveOf_30 (by decide) ?_
    refine lv_irem hx hb dX10_sleeveOf_31 (by decide) ?_
    refine lv_if_eq (tgt := 40) hx hb dX10_sleeveOf_32 (by decide) (fun c_32 => ?_) (fun c_32 => ?_)
    · have hF := ob_t c_32 hF
      refine lv_iload_n hx hb dX10_sleeveOf_40 rfl (lv_at hl 0 rfl) ?_
      refine lv_iconst (v := (2 : Int32)) hx hb dX10_sleeveOf_41 (by decide) ?_
      refine lv_idiv hx hb dX10_sleeveOf_42 (by decide) ?_
      exact rrM hx hb hr hlocks hF dX10_sleeveOf_43
    · have hF := ob_f c_32 hF
      refine lv_bipush (v := (-3 : Int32)) hx hb dX10_sleeveOf_35 (by decide) ?_
      refine lv_goto (tgt := 43) hx hb dX10_sleeveOf_37 (by decide) ?_
      exact rrM hx hb hr hlocks hF dX10_sleeveOf_43
def FM_sleeves (σ : MS) (p1 : Int32) : Option Int32 := ((FM_isThere σ p1).bind fun q_2 => (if q_2 = 0 then (some (-1 : Int32)) else ((FM_sleeveOf σ p1).bind fun q_10 => (some q_10))))
def wsM_sleeves : List Cond := Cond.code yX10_sleeves cX10_sleeves 2 (some .int) :: wMa
set_option maxHeartbeats 4000000 in
set_option maxRecDepth 100000 in
theorem cM_sleeves (l : Launch) (D : va_G) (cI cZ : ClassId) (h : Nat) (ad : Nat → Nat) (σ : MS) (p1 : Int32) (q : Int32) (hF : FM_sleeves σ p1 = some q) : Met l yX10_sleeves wsM_sleeves { frames := 2, cells := 0, slots := 0, locals := 43 } (va_Pc [.ref h, .int p1] (preR D cI cZ h ad σ)) (vp_Si (fun x => x = q)) 0 0 (fun _ => False) := by
  refine Met.ofW (cc := cX10_sleeves) (maxL := 2) (ret := (some .int)) (by decide) rfl ?_
  intro p e s m args below meth c s₁ B hml hv
  obtain ⟨rfl, hP, hK⟩ := hv
  have hx := B.exec
  have hb := B.bytes
  have hr := B.returns
  have hts : ∀ w ∈ (Cond.code yX10_sleeves cX10_sleeves 2 (some .int) :: wMa), w.before ([.ref h, .int p1] : List Value).toArray s = true := atoms_spec (ws := wsM_sleeves) B.pre
  have hin : ∀ w ∈ wMa, w ∈ (Cond.code yX10_sleeves cX10_sleeves 2 (some .int) :: wMa) := fun w hw => List.mem_cons_of_mem _ hw
  have hown : s.vm.findClass RX10 = some m.cls := findClass_of_methodNamed B.named
  have hlocks := B.notSynchronized
  have hl := lv_entry ([.ref h, .int p1]) (n := 2) (Nat.le_of_ble_eq_true rfl)
  rw [lg_entry_eq]
  generalize (lg_sl ([.ref h, .int p1]) ++ List.replicate (2 - (lg_sl ([.ref h, .int p1])).length) Slot.unset).toArray = ls at hl ⊢
  have hl : lv_has ls 2 [(0, .ref h), (1, .int p1)] := hl
  unfold FM_sleeves at hF
  refine lv_aload_n hx hb dX10_sleeves_0 rfl (lv_at hl 0 rfl) ?_
  refine lv_iload_n hx hb dX10_sleeves_1 rfl (lv_at hl 1 rfl) ?_
  obtain ⟨q_2, e_2, hF⟩ := ob_bd hF
  refine crM (As := [.int p1]) (rest := []) ⟨hx, hb, hml, hown, hts⟩ (cM_isThere l D cI cZ h ad σ p1 _ e_2) (cw_isThere hts ⟨Nat.le_of_ble_eq_true rfl, Nat.le_of_ble_eq_true rfl⟩) hK hP rfl hl.1 rfl (lv_room (Nat.le_of_ble_eq_true rfl)) dX10_sleeves_2 ?_
  refine lv_if_eq (tgt := 16) hx hb dX10_sleeves_5 (by decide) (fun c_5 => ?_) (fun c_5 => ?_)
  · have hF := ob_t c_5 hF
    refine lv_iconst (v := (-1 : Int32)) hx hb dX10_sleeves_16 (by decide) ?_
    exact rrM hx hb hr hlocks hF dX10_sleeves_17
  · have hF := ob_f c_5 hF
    refine lv_aload_n hx hb dX10_sleeves_8 rfl (lv_at hl 0 rfl) ?_
    refine lv_iload_n hx hb dX10_sleeves_9 rfl (lv_at hl 1 rfl) ?_
    obtain ⟨q_10, e_10, hF⟩ := ob_bd hF
    refine crM (As := [.int p1]) (rest := []) ⟨hx, hb, hml, hown, hts⟩ (cM_sleeveOf l D cI cZ h ad σ p1 _ e_10) (cw_sleeveOf hts ⟨Nat.le_of_ble_eq_true rfl, Nat.le_of_ble_eq_true rfl⟩) hK hP rfl hl.1 rfl (lv_room (Nat.le_of_ble_eq_true rfl)) dX10_sleeves_10 ?_
    refine lv_goto (tgt := 17) hx hb dX10_sleeves_13 (by decide) ?_
    exact rrM hx hb hr hlocks hF dX10_sleeves_17
