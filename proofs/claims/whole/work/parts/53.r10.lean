def wsR_X5_wordOf : List Cond := Cond.code yX5_wordOf cX5_wordOf 1 (some (.object "java/lang/String")) :: wRa
def FR_X5_wordOf (σ : RS) (p0 : Int32) : Option Nat := (if p0 = (0 : Int32) then (some 0) else (if p0 = (1 : Int32) then (some 1) else (if p0 = (2 : Int32) then (some 2) else (if p0 = (3 : Int32) then (some 3) else (if p0 = (4 : Int32) then (some 4) else (some 5))))))
set_option maxHeartbeats 4000000 in
set_option maxRecDepth 100000 in
theorem cR_X5_wordOf (l : Launch) (D : va_G) (cs : Nat → ClassId) (ad tb : Nat → Nat) (A : Nat → Prop) (σ : RS) (p0 : Int32) (q : Nat) (hF : FR_X5_wordOf σ p0 = some q) : Met l yX5_wordOf wsR_X5_wordOf { frames := 0, cells := 0, slots := 0, locals := 0 } (va_Pc [.int p0] (preQ D cs ad tb A σ)) (va_Sr (fun x => x = q) (fun k => .ref (kdJ tb k))) 0 0 (fun _ => False) := by
  refine Met.ofW (cc := cX5_wordOf) (maxL := 1) (ret := (some (.object "java/lang/String"))) (by decide) rfl ?_
  intro p e s m args below meth c s₁ B hml hv
  obtain ⟨rfl, hP, hK, hD, hZ⟩ := hv
  have hx := B.exec
  have hb := B.bytes
  have hr := B.returns
  have hts : ∀ w ∈ (Cond.code yX5_wordOf cX5_wordOf 1 (some (.object "java/lang/String")) :: wRa), w.before ([.int p0] : List Value).toArray s = true := atoms_spec (ws := wsR_X5_wordOf) B.pre
  have hin : ∀ w ∈ wRa, w ∈ (Cond.code yX5_wordOf cX5_wordOf 1 (some (.object "java/lang/String")) :: wRa) := fun w hw => List.mem_cons_of_mem _ hw
  have hown : s.vm.findClass RX5 = some m.cls := findClass_of_methodNamed B.named
  have hlocks := B.notSynchronized
  have hS : va_S A s.heap s.heap [] := va_S.rf
  have hl := lv_entry ([.int p0]) (n := 1) (Nat.le_of_ble_eq_true rfl)
  rw [lg_entry_eq]
  generalize (lg_sl ([.int p0]) ++ List.replicate (1 - (lg_sl ([.int p0])).length) Slot.unset).toArray = ls at hl ⊢
  have hl : lv_has ls 1 [(0, .int p0)] := hl
  unfold FR_X5_wordOf at hF
  refine lv_iload_n hx hb dX5_wordOf_0 rfl (lv_at hl 0 rfl) ?_
  by_cases c_1_0 : p0 = (0 : Int32)
  · have hF := ob_t c_1_0 hF
    refine lv_tableIn (off := 35) (tgt := 36) hx hb dX5_wordOf_1 (by rw [c_1_0]; decide) (by rw [c_1_0]; decide) (by rw [c_1_0]; rfl) (by decide) ?_
    refine va_ldcS hx hb hown hZ.2.2.2.2.2.2.2.2.2.2.1 dX5_wordOf_36 ?_
    exact rsR hx hb hr (Or.inl ⟨_, rfl⟩) hlocks hF dX5_wordOf_38
  · have hF := ob_f c_1_0 hF
    by_cases c_1_1 : p0 = (1 : Int32)
    · have hF := ob_t c_1_1 hF
      refine lv_tableIn (off := 38) (tgt := 39) hx hb dX5_wordOf_1 (by rw [c_1_1]; decide) (by rw [c_1_1]; decide) (by rw [c_1_1]; rfl) (by decide) ?_
      refine va_ldcS hx hb hown hZ.2.2.2.2.2.2.2.2.2.2.2.1 dX5_wordOf_39 ?_
      exact rsR hx hb hr (Or.inl ⟨_, rfl⟩) hlocks hF dX5_wordOf_41
    · have hF := ob_f c_1_1 hF
      by_cases c_1_2 : p0 = (2 : Int32)
      · have hF := ob_t c_1_2 hF
        refine lv_tableIn (off := 41) (tgt := 42) hx hb dX5_wordOf_1 (by rw [c_1_2]; decide) (by rw [c_1_2]; decide) (by rw [c_1_2]; rfl) (by decide) ?_
        refine va_ldcS hx hb hown hZ.2.2.2.2.2.2.2.2.2.2.2.2.1 dX5_wordOf_42 ?_
        exact rsR hx hb hr (Or.inl ⟨_, rfl⟩) hlocks hF dX5_wordOf_44
      · have hF := ob_f c_1_2 hF
        by_cases c_1_3 : p0 = (3 : Int32)
        · have hF := ob_t c_1_3 hF
          refine lv_tableIn (off := 44) (tgt := 45) hx hb dX5_wordOf_1 (by rw [c_1_3]; decide) (by rw [c_1_3]; decide) (by rw [c_1_3]; rfl) (by decide) ?_
          refine va_ldcS hx hb hown hZ.2.2.2.2.2.2.2.2.2.2.2.2.2.1 dX5_wordOf_45 ?_
          exact rsR hx hb hr (Or.inl ⟨_, rfl⟩) hlocks hF dX5_wordOf_47
        · have hF := ob_f c_1_3 hF
          by_cases c_1_4 : p0 = (4 : Int32)
          · have hF := ob_t c_1_4 hF
            refine lv_tableIn (off := 47) (tgt := 48) hx hb dX5_wordOf_1 (by rw [c_1_4]; decide) (by rw [c_1_4]; decide) (by rw [c_1_4]; rfl) (by decide) ?_
            refine va_ldcS hx hb hown hZ.2.2.2.2.2.2.2.2.2.2.2.2.2.2.1 dX5_wordOf_48 ?_
            exact rsR hx hb hr (Or.inl ⟨_, rfl⟩) hlocks hF dX5_wordOf_50
          · have hF := ob_f c_1_4 hF
            refine lv_tableOut (tgt := 51) hx hb dX5_wordOf_1 (by have a0 : ¬ p0.toInt = 0 := ob_ti c_1_0; have a1 : ¬ p0.toInt = 1 := ob_ti c_1_1; have a2 : ¬ p0.toInt = 2 := ob_ti c_1_2; have a3 : ¬ p0.toInt = 3 := ob_ti c_1_3; have a4 : ¬ p0.toInt = 4 := ob_ti c_1_4; omega) (by decide) ?_
            refine va_ldcS hx hb hown hZ.2.2.2.2.2.2.2.2.2.2.2.2.2.2.2 dX5_wordOf_51 ?_
            exact rsR hx hb hr (Or.inl ⟨_, rfl⟩) hlocks hF dX5_wordOf_53
def wsR_X5_sameAs : List Cond := Cond.code yX5_sameAs cX5_sameAs 4 (some .int) :: wRa
def FR_X5_sameAs_2 (σ : RS) (x1_2 : Nat) : Nat → Int32 → Option Int32
  | 0, _ => none
  | n_2 + 1, x3_2 => ((FR_len x1_2).bind fun q_4 => (if q_4 ≤ x3_2 then (some x3_2) else ((FR_X8_byteAt σ ((rI σ 501) + x3_2)).bind fun q_17 => ((FR_chr x1_2 x3_2).bind fun q_22 => (if q_17 = q_22 then (FR_X5_sameAs_2 σ  x1_2 n_2 (x3_2 + (1 : Int32))) else (some x3_2))))))
def FR_X5_sameAs (σ : RS) (p1 : Nat) : Option Int32 := (FR_X5_sameAs_2 σ p1 fu (0 : Int32))
set_option maxHeartbeats 4000000 in
set_option maxRecDepth 100000 in
theorem cR_X5_sameAs (l : Launch) (D : va_G) (cs : Nat → ClassId) (ad tb : Nat → Nat) (A : Nat → Prop) (σ : RS) (p1 : Nat) (q : Int32) (hF : FR_X5_sameAs σ p1 = some q) : Met l yX5_sameAs wsR_X5_sameAs { frames := 4, cells := 0, slots := 0, locals := 85 } (va_Pc [.ref (ad 1005), .ref (kdJ tb p1), .ref (ad 1008)] (preQ D cs ad tb A σ)) (vp_Si (fun x => x = q)) 0 0 (fun _ => False) := by
  refine Met.ofW (cc := cX5_sameAs) (maxL := 4) (ret := (some .int)) (by decide) rfl ?_
  intro p e s m args below meth c s₁ B hml hv
  obtain ⟨rfl, hP, hK, hD, hZ⟩ := hv
  have hx := B.exec
  have hb := B.bytes
  have hr := B.returns
  have hts : ∀ w ∈ (Cond.code yX5_sameAs cX5_sameAs 4 (some .int) :: wRa), w.before ([.ref (ad 1005), .ref (kdJ tb p1), .ref (ad 1008)] : List Value).toArray s = true := atoms_spec (ws := wsR_X5_sameAs) B.pre
  have hin : ∀ w ∈ wRa, w ∈ (Cond.code yX5_sameAs cX5_sameAs 4 (some .int) :: wRa) := fun w hw => List.mem_cons_of_mem _ hw
  have hown : s.vm.findClass RX5 = some m.cls := findClass_of_methodNamed B.named
  have hlocks := B.notSynchronized
  have hS : va_S A s.heap s.heap [] := va_S.rf
  have b_2 : ∀ (x1_2 : Nat) (n_2 : Nat) (x3_2 : Int32) (ls : Array Slot), FR_X5_sameAs_2 σ x1_2 n_2 x3_2 = some q → lv_has ls 4 [(0, .ref (ad 1005)), (1, .ref (kdJ tb x1_2)), (2, .ref (ad 1008)), (3, .int x3_2)] → W p l e (headSpec wsR_X5_sameAs { frames := 4, cells := 0, slots := 0, locals := 85 }).room s m ([.ref (ad 1005), .ref (kdJ tb p1), .ref (ad 1008)] : List Value).toArray below meth c s.heap [] 0 0 (MQ below (vp_Si (fun x => x = q)) ([.ref (ad 1005), .ref (kdJ tb p1), .ref (ad 1008)] : List Value).toArray s 0 0 (fun _ => False)) (F0 m 2 ls []) := by
    intro x1_2
    intro n_2
    induction n_2 with
    | zero =>
      intro x3_2 ls hF hl
      exact absurd hF (by simp [FR_X5_sameAs_2])
    | succ n_2 ih_2 =>
      intro x3_2 ls hF hl
      rw [FR_X5_sameAs_2] at hF
      refine lv_iload_n hx hb dX5_sameAs_2 rfl (lv_at hl 3 rfl) ?_
      refine lv_aload_n hx hb dX5_sameAs_3 rfl (lv_at hl 1 rfl) ?_
      obtain ⟨q_4, e_4, hF⟩ := ob_bd hF
      refine crR (As := []) (rest := [.int x3_2]) ⟨hx, hb, hml, hown, hts⟩ (cR_J0_length l D cs ad tb A σ x1_2 _ e_4) (cw_X5_J0_length_61 hts ⟨Nat.le_of_ble_eq_true rfl, Nat.le_of_ble_eq_true rfl⟩) ⟨Nat.zero_le _, Nat.zero_le _⟩ (vk_recv hZ.2.2.2.2.2.2.2.1 (FR_len_lt e_4) hS) hK hP hD hS hZ rfl hl.1 rfl (lv_room (Nat.le_of_ble_eq_true rfl)) dX5_sameAs_4 ?_
      refine lv_icmp_ge (tgt := 34) hx hb dX5_sameAs_7 (by decide) (fun c_7 => ?_) (fun c_7 => ?_)
      · have hF := ob_t c_7 hF
        refine lv_iload_n hx hb dX5_sameAs_34 rfl (lv_at hl 3 rfl) ?_
        exact rrM hx hb hr hlocks hF dX5_sameAs_35
      · have hF := ob_f c_7 hF
        refine lv_aload_n hx hb dX5_sameAs_10 rfl (lv_at hl 2 rfl) ?_
        refine lv_aload_n hx hb dX5_sameAs_11 rfl (lv_at hl 0 rfl) ?_
        refine gF hx hb hts hin wo_5 rfl hown hK hP (ob_5 _ _ _) 1 (.int (rI σ 501)) (by decide) rf_X5_27 rfl dX5_sameAs_12 ?_
        refine lv_iload_n hx hb dX5_sameAs_15 rfl (lv_at hl 3 rfl) ?_
        refine lv_iadd hx hb dX5_sameAs_16 ?_
        obtain ⟨q_17, e_17, hF⟩ := ob_bd hF
        refine crR (As := [.int ((rI σ 501) + x3_2)]) (rest := []) ⟨hx, hb, hml, hown, hts⟩ (cR_X8_byteAt l D cs ad tb A σ ((rI σ 501) + x3_2) _ e_17) (cw_X5_X8_byteAt_40 hts ⟨Nat.le_of_ble_eq_true rfl, Nat.le_of_ble_eq_true rfl⟩) ⟨Nat.zero_le _, Nat.zero_le _⟩ (rcF hK hP (ci := 8) rfl (ob_8 _ _ _)) hK hP hD hS hZ rfl hl.1 rfl (lv_room (Nat.le_of_ble_eq_true rfl)) dX5_sameAs_17 ?_
        refine lv_aload_n hx hb dX5_sameAs_20 rfl (lv_at hl 1 rfl) ?_
        refine lv_iload_n hx hb dX5_sameAs_21 rfl (lv_at hl 3 rfl) ?_
        obtain ⟨q_22, e_22, hF⟩ := ob_bd hF
        refine crR (As := [.int x3_2]) (rest := [.int q_17]) ⟨hx, hb, hml, hown, hts⟩ (cR_J0_charAt l D cs ad tb A σ x1_2 x3_2 _ e_22) (cw_X5_J0_charAt_73 hts ⟨Nat.le_of_ble_eq_true rfl, Nat.le_of_ble_eq_true rfl⟩) ⟨Nat.zero_le _, Nat.zero_le _⟩ (vk_recv hZ.2.2.2.2.2.2.2.1 (FR_chr_lt e_22) hS) hK hP hD hS hZ rfl hl.1 rfl (lv_room (Nat.le_of_ble_eq_true rfl)) dX5_sameAs_22 ?_
        refine lv_icmp_ne (tgt := 34) hx hb dX5_sameAs_25 (by decide) (fun c_25 => ?_) (fun c_25 => ?_)
        · have hF := ob_f c_25 hF
          refine lv_iload_n hx hb dX5_sameAs_34 rfl (lv_at hl 3 rfl) ?_
          exact rrM hx hb hr hlocks hF dX5_sameAs_35
        · have hF := ob_t c_25 hF
          refine lv_iinc (v := x3_2 + (1 : Int32)) (lv' := [(3, .int (x3_2 + (1 : Int32))), (0, .ref (ad 1005)), (1, .ref (kdJ tb x1_2)), (2, .ref (ad 1008))]) hx hb dX5_sameAs_28 hl (k := 3) rfl rfl (by decide) rfl (fun ls hl => ?_)
          refine lv_goto (tgt := 2) hx hb dX5_sameAs_31 (by decide) ?_
          exact ih_2 (x3_2 + (1 : Int32)) _ hF (lv_sub hl [1, 2, 3, 0] rfl)
  have hl := lv_entry ([.ref (ad 1005), .ref (kdJ tb p1), .ref (ad 1008)]) (n := 4) (Nat.le_of_ble_eq_true rfl)
  rw [lg_entry_eq]
  generalize (lg_sl ([.ref (ad 1005), .ref (kdJ tb p1), .ref (ad 1008)]) ++ List.replicate (4 - (lg_sl ([.ref (ad 1005), .ref (kdJ tb p1), .ref (ad 1008)])).length) Slot.unset).toArray = ls at hl ⊢
  have hl : lv_has ls 4 [(0, .ref (ad 1005)), (1, .ref (kdJ tb p1)), (2, .ref (ad 1008))] := hl
  unfold FR_X5_sameAs at hF
  refine lv_iconst (v := (0 : Int32)) hx hb dX5_sameAs_0 (by decide) ?_
  refine lv_istore_n (i := 3) (lv' := [(3, .int (0 : Int32)), (0, .ref (ad 1005)), (1, .ref (kdJ tb p1)), (2, .ref (ad 1008))]) hx hb dX5_sameAs_1 rfl hl (by decide) rfl (fun ls hl => ?_)
  exact b_2 p1 fu (0 : Int32) _ hF (lv_sub hl [1, 2, 3, 0] rfl)
def wsR_X5_readWord : List Cond := Cond.code yX5_readWord cX5_readWord 5 (some .int) :: wRa
theorem cw_X5_X5_wordOf_53 {R : Room} {s : State} {args : Array Value} {y : MethodName} {c : ByteArray} {n : Nat} {r : Option FieldType} (hts : ∀ w ∈ (Cond.code y c n r :: wRa), w.before args s = true) (hR : 0 + 1 ≤ R.frames ∧ 8 + (1 + 11) + 0 ≤ R.locals) : CallB R s args RX5 53 yX5_wordOf cX5_wordOf 1 (some (.object "java/lang/String")) wsR_X5_wordOf { frames := 0, cells := 0, slots := 0, locals := 0 } 0 0 1 ∧ (Cond.static yX5_wordOf).before args s = true := va_cwS 1 hts (goodS wRa_good rm_X5_53 rt_X5_wordOf rn_X5 rc_X5_wordOf) rfl rfl rfl (by decide +kernel) hR
theorem cw_X5_X5_sameAs_57 {R : Room} {s : State} {args : Array Value} {y : MethodName} {c : ByteArray} {n : Nat} {r : Option FieldType} (hts : ∀ w ∈ (Cond.code y c n r :: wRa), w.before args s = true) (hR : 4 + 1 ≤ R.frames ∧ 8 + (4 + 11) + 85 ≤ R.locals) : CallW R s args RX5 RX5 57 yX5_sameAs cX5_sameAs 4 (some .int) wsR_X5_sameAs { frames := 4, cells := 0, slots := 0, locals := 85 } 0 0 2 := cwV 2 hts (goodV wRa_good rm_X5_57 ri_X5_sameAs rs_X5_sameAs rn_X5 rc_X5_sameAs) rfl rfl rfl (by decide +kernel) hR
def FR_X5_readWord_4 (K_59 : Int32 → RS → Option (Int32 × RS)) (K_33 : Int32 → Int32 → RS → Option (Int32 × RS)) : Nat → Int32 → Int32 → RS → Option (Int32 × RS)
  | 0, _, _, _ => none
  | n_4 + 1, x2_4, x3_4, σ_4 => (if (6 : Int32) ≤ x3_4 then (K_59 x2_4 σ_4) else ((FR_X5_wordOf σ_4 x3_4).bind fun q_12 => ((FR_X5_sameAs σ_4 q_12).bind fun q_16 => ((FR_X5_wordOf σ_4 x3_4).bind fun q_24 => ((FR_len q_24).bind fun q_27 => (if q_16 = q_27 then (K_33 x3_4 q_16 σ_4) else (FR_X5_readWord_4 K_59 K_33 n_4 (if x2_4 < q_16 then q_16 else x2_4) (x3_4 + (1 : Int32)) σ_4)))))))
def FR_X5_readWord_59 (x2_59 : Int32) (σ_59 : RS) : Option (Int32 × RS) := (some ((-1 : Int32), (ri σ_59 501 ((rI σ_59 501) + x2_59))))
def FR_X5_readWord_33 (x3_33 : Int32) (x4_33 : Int32) (σ_33 : RS) : Option (Int32 × RS) := (some (x3_33, (ri σ_33 501 ((rI σ_33 501) + x4_33))))
def FR_X5_readWord (σ : RS) : Option (Int32 × RS) := (FR_X5_readWord_4 (fun x2_59 σ_59 => FR_X5_readWord_59 x2_59 σ_59) (fun x3_33 x4_33 σ_33 => FR_X5_readWord_33 x3_33 x4_33 σ_33) fu (0 : Int32) (0 : Int32) σ)
set_option maxHeartbeats 4000000 in
set_option maxRecDepth 100000 in
theorem cR_X5_readWord (l : Launch) (D : va_G) (cs : Nat → ClassId) (ad tb : Nat → Nat) (A : Nat → Prop) (σ : RS) (q : (Int32 × RS)) (hF : FR_X5_readWord σ = some q) : Met l yX5_readWord wsR_X5_readWord { frames := 5, cells := 0, slots := 0, locals := 108 } (va_Pc [.ref (ad 1005), .ref (ad 1008)] (preQ D cs ad tb A σ)) (va_Qi (fun x u => x = q.1 ∧ u = q.2) (posQ D cs ad A) A) 0 0 A := by
  refine Met.ofW (cc := cX5_readWord) (maxL := 5) (ret := (some .int)) (by decide) rfl ?_
  intro p e s m args below meth c s₁ B hml hv
  obtain ⟨rfl, hP, hK, hD, hZ⟩ := hv
  have hx := B.exec
  have hb := B.bytes
  have hr := B.returns
  have hts : ∀ w ∈ (Cond.code yX5_readWord cX5_readWord 5 (some .int) :: wRa), w.before ([.ref (ad 1005), .ref (ad 1008)] : List Value).toArray s = true := atoms_spec (ws := wsR_X5_readWord) B.pre
  have hin : ∀ w ∈ wRa, w ∈ (Cond.code yX5_readWord cX5_readWord 5 (some .int) :: wRa) := fun w hw => List.mem_cons_of_mem _ hw
  have hown : s.vm.findClass RX5 = some m.cls := findClass_of_methodNamed B.named
  have hlocks := B.notSynchronized
  have hS : va_S A s.heap s.heap [] := va_S.rf
  have b_4 : ∀ (K_59 : Int32 → RS → Option (Int32 × RS)) (k_59 : ∀ (x2_59 : Int32) (σ_59 : RS) (H : Heap) (locs : List Loc) (ls : Array Slot), K_59 x2_59 σ_59 = some q → va_P D vwCl (wR cs ad σ_59) H → va_D A (wR cs ad σ_59) → va_S A s.heap H locs → lv_has ls 5 [(0, .ref (ad 1005)), (2, .int x2_59)] → W p l e (headSpec wsR_X5_readWord { frames := 5, cells := 0, slots := 0, locals := 108 }).room s m ([.ref (ad 1005), .ref (ad 1008)] : List Value).toArray below meth c H locs 0 0 (MQ below (va_Qi (fun x u => x = q.1 ∧ u = q.2) (posQ D cs ad A) A) ([.ref (ad 1005), .ref (ad 1008)] : List Value).toArray s 0 0 A) (F0 m 59 ls [])) (K_33 : Int32 → Int32 → RS → Option (Int32 × RS)) (k_33 : ∀ (x3_33 : Int32) (x4_33 : Int32) (σ_33 : RS) (H : Heap) (locs : List Loc) (ls : Array Slot), K_33 x3_33 x4_33 σ_33 = some q → va_P D vwCl (wR cs ad σ_33) H → va_D A (wR cs ad σ_33) → va_S A s.heap H locs → lv_has ls 5 [(0, .ref (ad 1005)), (3, .int x3_33), (4, .int x4_33)] → W p l e (headSpec wsR_X5_readWord { frames := 5, cells := 0, slots := 0, locals := 108 }).room s m ([.ref (ad 1005), .ref (ad 1008)] : List Value).toArray below meth c H locs 0 0 (MQ below (va_Qi (fun x u => x = q.1 ∧ u = q.2) (posQ D cs ad A) A) ([.ref (ad 1005), .ref (ad 1008)] : List Value).toArray s 0 0 A) (F0 m 33 ls [])) (n_4 : Nat) (x2_4 : Int32) (x3_4 : Int32) (σ_4 : RS) (H : Heap) (locs : List Loc) (ls : Array Slot), FR_X5_readWord_4 K_59 K_33 n_4 x2_4 x3_4 σ_4 = some q → va_P D vwCl (wR cs ad σ_4) H → va_D A (wR cs ad σ_4) → va_S A s.heap H locs → lv_has ls 5 [(0, .ref (ad 1005)), (1, .ref (ad 1008)), (2, .int x2_4), (3, .int x3_4)] → W p l e (headSpec wsR_X5_readWord { frames := 5, cells := 0, slots := 0, locals := 108 }).room s m ([.ref (ad 1005), .ref (ad 1008)] : List Value).toArray below meth c H locs 0 0 (MQ below (va_Qi (fun x u => x = q.1 ∧ u = q.2) (posQ D cs ad A) A) ([.ref (ad 1005), .ref (ad 1008)] : List Value).toArray s 0 0 A) (F0 m 4 ls []) := by
    intro K_59 k_59 K_33 k_33
    intro n_4
    induction n_4 with
    | zero =>
      intro x2_4 x3_4 σ_4 H locs ls hF hP hD hS hl
      exact absurd hF (by simp [FR_X5_readWord_4])
    | succ n_4 ih_4 =>
      intro x2_4 x3_4 σ_4 H locs ls hF hP hD hS hl
      rw [FR_X5_readWord_4] at hF
      refine lv_iload_n hx hb dX5_readWord_4 rfl (lv_at hl 3 rfl) ?_
      refine lv_bipush (v := (6 : Int32)) hx hb dX5_readWord_5 (by decide) ?_
      refine lv_icmp_ge (tgt := 59) hx hb dX5_readWord_7 (by decide) (fun c_7 => ?_) (fun c_7 => ?_)
      · have hF := ob_t c_7 hF
        exact k_59 x2_4 σ_4 _ _ _ hF hP hD hS (lv_sub hl [0, 2] rfl)
      · have hF := ob_f c_7 hF
        refine lv_aload_n hx hb dX5_readWord_10 rfl (lv_at hl 0 rfl) ?_
        refine lv_iload_n hx hb dX5_readWord_11 rfl (lv_at hl 3 rfl) ?_
        obtain ⟨q_12, e_12, hF⟩ := ob_bd hF
        refine ctS (As := [.int x3_4]) (rest := [.ref (ad 1005)]) ⟨hx, hb, hml, hown, hts⟩ (cR_X5_wordOf l D cs ad tb A σ_4 x3_4 _ e_12) (cw_X5_X5_wordOf_53 hts ⟨Nat.le_of_ble_eq_true rfl, Nat.le_of_ble_eq_true rfl⟩) ⟨Nat.zero_le _, Nat.zero_le _⟩ hK hP hD hS hZ rfl hl.1 rfl (lv_room (Nat.le_of_ble_eq_true rfl)) dX5_readWord_12 ?_
        refine lv_aload_n hx hb dX5_readWord_15 rfl (lv_at hl 1 rfl) ?_
        obtain ⟨q_16, e_16, hF⟩ := ob_bd hF
        refine crR (As := [.ref (kdJ tb q_12), .ref (ad 1008)]) (rest := []) ⟨hx, hb, hml, hown, hts⟩ (cR_X5_sameAs l D cs ad tb A σ_4 q_12 _ e_16) (cw_X5_X5_sameAs_57 hts ⟨Nat.le_of_ble_eq_true rfl, Nat.le_of_ble_eq_true rfl⟩) ⟨Nat.zero_le _, Nat.zero_le _⟩ (rcF hK hP (ci := 5) rfl (ob_5 _ _ _)) hK hP hD hS hZ rfl hl.1 rfl (lv_room (Nat.le_of_ble_eq_true rfl)) dX5_readWord_16 ?_
        refine lv_istore (i := 4) (lv' := [(4, .int q_16), (0, .ref (ad 1005)), (1, .ref (ad 1008)), (2, .int x2_4), (3, .int x3_4)]) hx hb dX5_readWord_19 hl (by decide) rfl (fun ls hl => ?_)
        refine lv_iload hx hb dX5_readWord_21 (lv_at hl 0 rfl) ?_
        refine lv_iload_n hx hb dX5_readWord_23 rfl (lv_at hl 4 rfl) ?_
        obtain ⟨q_24, e_24, hF⟩ := ob_bd hF
        refine ctS (As := [.int x3_4]) (rest := [.int q_16]) ⟨hx, hb, hml, hown, hts⟩ (cR_X5_wordOf l D cs ad tb A σ_4 x3_4 _ e_24) (cw_X5_X5_wordOf_53 hts ⟨Nat.le_of_ble_eq_true rfl, Nat.le_of_ble_eq_true rfl⟩) ⟨Nat.zero_le _, Nat.zero_le _⟩ hK hP hD hS hZ rfl hl.1 rfl (lv_room (Nat.le_of_ble_eq_true rfl)) dX5_readWord_24 ?_
        obtain ⟨q_27, e_27, hF⟩ := ob_bd hF
        refine crR (As := []) (rest := [.int q_16]) ⟨hx, hb, hml, hown, hts⟩ (cR_J0_length l D cs ad tb A σ_4 q_24 _ e_27) (cw_X5_J0_length_61 hts ⟨Nat.le_of_ble_eq_true rfl, Nat.le_of_ble_eq_true rfl⟩) ⟨Nat.zero_le _, Nat.zero_le _⟩ (vk_recv hZ.2.2.2.2.2.2.2.1 (FR_len_lt e_27) hS) hK hP hD hS hZ rfl hl.1 rfl (lv_room (Nat.le_of_ble_eq_true rfl)) dX5_readWord_27 ?_
        refine lv_icmp_ne (tgt := 46) hx hb dX5_readWord_30 (by decide) (fun c_30 => ?_) (fun c_30 => ?_)
        · have hF := ob_f c_30 hF
          refine lv_iload_n hx hb dX5_readWord_46 rfl (lv_at hl 3 rfl) ?_
          refine lv_iload hx hb dX5_readWord_47 (lv_at hl 0 rfl) ?_
          refine va_mmax hx hb (hml.trans hl.1.symm) hown (hts _ (hin _ rm_X5_67)) (hts _ (hin _ rt_max)) (hts _ (hin _ rn_math)) (hts _ (hin _ rc_max)) (Nat.le_of_ble_eq_true rfl) (Nat.le_of_ble_eq_true rfl) (Nat.le_of_ble_eq_true rfl) (Nat.le_of_ble_eq_true rfl) dX5_readWord_49 ?_
          refine lv_istore_n (i := 2) (lv' := [(2, .int (if x2_4 < q_16 then q_16 else x2_4)), (4, .int q_16), (0, .ref (ad 1005)), (1, .ref (ad 1008)), (3, .int x3_4)]) hx hb dX5_readWord_52 rfl hl (by decide) rfl (fun ls hl => ?_)
          refine lv_iinc (v := x3_4 + (1 : Int32)) (lv' := [(3, .int (x3_4 + (1 : Int32))), (2, .int (if x2_4 < q_16 then q_16 else x2_4)), (4, .int q_16), (0, .ref (ad 1005)), (1, .ref (ad 1008))]) hx hb dX5_readWord_53 hl (k := 4) rfl rfl (by decide) rfl (fun ls hl => ?_)
          refine lv_goto (tgt := 4) hx hb dX5_readWord_56 (by decide) ?_
          exact ih_4 (if x2_4 < q_16 then q_16 else x2_4) (x3_4 + (1 : Int32)) σ_4 _ _ _ hF hP hD hS (lv_sub hl [3, 4, 1, 0] rfl)
        · have hF := ob_t c_30 hF
          exact k_33 x3_4 q_16 σ_4 _ _ _ hF hP hD hS (lv_sub hl [1, 4, 0] rfl)
  have b_59 : ∀ (x2_59 : Int32) (σ_59 : RS) (H : Heap) (locs : List Loc) (ls : Array Slot), FR_X5_readWord_59 x2_59 σ_59 = some q → va_P D vwCl (wR cs ad σ_59) H → va_D A (wR cs ad σ_59) → va_S A s.heap H locs → lv_has ls 5 [(0, .ref (ad 1005)), (2, .int x2_59)] → W p l e (headSpec wsR_X5_readWord { frames := 5, cells := 0, slots := 0, locals := 108 }).room s m ([.ref (ad 1005), .ref (ad 1008)] : List Value).toArray below meth c H locs 0 0 (MQ below (va_Qi (fun x u => x = q.1 ∧ u = q.2) (posQ D cs ad A) A) ([.ref (ad 1005), .ref (ad 1008)] : List Value).toArray s 0 0 A) (F0 m 59 ls []) := by
    intro x2_59 σ_59 H locs ls hF hP hD hS hl
    unfold FR_X5_readWord_59 at hF
    refine lv_aload_n hx hb dX5_readWord_59 rfl (lv_at hl 0 rfl) ?_
    refine lv_dup hx hb dX5_readWord_60 rfl ?_
    refine gF hx hb hts hin wo_5 rfl hown hK hP (ob_5 _ _ _) 1 (.int (rI σ_59 501)) (by decide) rf_X5_27 rfl dX5_readWord_61 ?_
    refine lv_iload_n hx hb dX5_readWord_64 rfl (lv_at hl 1 rfl) ?_
    refine lv_iadd hx hb dX5_readWord_65 ?_
    refine pF (ty := .int) hx hb hts hin wo_5 rfl tyX5 tyX5_ok nmX5 hown hK hP hD hS (ob_5 _ _ _) 1 (by decide) rf_X5_27 rfl (by decide +kernel) rfl rfl (Nat.le_of_ble_eq_true rfl) (rp_501 _ _ _ _) dX5_readWord_66 (fun H locs hP hD hS => ?_)
    refine lv_iconst (v := (-1 : Int32)) hx hb dX5_readWord_69 (by decide) ?_
    exact rwR hx hb hr hlocks hF hK hP hD hS dX5_readWord_70
  have b_33 : ∀ (x3_33 : Int32) (x4_33 : Int32) (σ_33 : RS) (H : Heap) (locs : List Loc) (ls : Array Slot), FR_X5_readWord_33 x3_33 x4_33 σ_33 = some q → va_P D vwCl (wR cs ad σ_33) H → va_D A (wR cs ad σ_33) → va_S A s.heap H locs → lv_has ls 5 [(0, .ref (ad 1005)), (3, .int x3_33), (4, .int x4_33)] → W p l e (headSpec wsR_X5_readWord { frames := 5, cells := 0, slots := 0, locals := 108 }).room s m ([.ref (ad 1005), .ref (ad 1008)] : List Value).toArray below meth c H locs 0 0 (MQ below (va_Qi (fun x u => x = q.1 ∧ u = q.2) (posQ D cs ad A) A) ([.ref (ad 1005), .ref (ad 1008)] : List Value).toArray s 0 0 A) (F0 m 33 ls []) := by
    intro x3_33 x4_33 σ_33 H locs ls hF hP hD hS hl
    unfold FR_X5_readWord_33 at hF
    refine lv_aload_n hx hb dX5_readWord_33 rfl (lv_at hl 0 rfl) ?_
    refine lv_dup hx hb dX5_readWord_34 rfl ?_
    refine gF hx hb hts hin wo_5 rfl hown hK hP (ob_5 _ _ _) 1 (.int (rI σ_33 501)) (by decide) rf_X5_27 rfl dX5_readWord_35 ?_
    refine lv_iload hx hb dX5_readWord_38 (lv_at hl 2 rfl) ?_
    refine lv_iadd hx hb dX5_readWord_40 ?_
    refine pF (ty := .int) hx hb hts hin wo_5 rfl tyX5 tyX5_ok nmX5 hown hK hP hD hS (ob_5 _ _ _) 1 (by decide) rf_X5_27 rfl (by decide +kernel) rfl rfl (Nat.le_of_ble_eq_true rfl) (rp_501 _ _ _ _) dX5_readWord_41 (fun H locs hP hD hS => ?_)
    refine lv_iload_n hx hb dX5_readWord_44 rfl (lv_at hl 1 rfl) ?_
    exact rwR hx hb hr hlocks hF hK hP hD hS dX5_readWord_45
  have hl := lv_entry ([.ref (ad 1005), .ref (ad 1008)]) (n := 5) (Nat.le_of_ble_eq_true rfl)
  rw [lg_entry_eq]
  generalize (lg_sl ([.ref (ad 1005), .ref (ad 1008)]) ++ List.replicate (5 - (lg_sl ([.ref (ad 1005), .ref (ad 1008)])).length) Slot.unset).toArray = ls at hl ⊢
  have hl : lv_has ls 5 [(0, .ref (ad 1005)), (1, .ref (ad 1008))] := hl
  unfold FR_X5_readWord at hF
  refine lv_iconst (v := (0 : Int32)) hx hb dX5_readWord_0 (by decide) ?_
  refine lv_istore_n (i := 2) (lv' := [(2, .int (0 : Int32)), (0, .ref (ad 1005)), (1, .ref (ad 1008))]) hx hb dX5_readWord_1 rfl hl (by decide) rfl (fun ls hl => ?_)
  refine lv_iconst (v := (0 : Int32)) hx hb dX5_readWord_2 (by decide) ?_
  refine lv_istore_n (i := 3) (lv' := [(3, .int (0 : Int32)), (2, .int (0 : Int32)), (0, .ref (ad 1005)), (1, .ref (ad 1008))]) hx hb dX5_readWord_3 rfl hl (by decide) rfl (fun ls hl => ?_)
  exact b_4 (fun x2_59 σ_59 => FR_X5_readWord_59 x2_59 σ_59) (fun x2_59 σ_59 => b_59 x2_59 σ_59) (fun x3_33 x4_33 σ_33 => FR_X5_readWord_33 x3_33 x4_33 σ_33) (fun x3_33 x4_33 σ_33 => b_33 x3_33 x4_33 σ_33) fu (0 : Int32) (0 : Int32) σ _ _ _ hF hP hD hS (lv_sub hl [2, 3, 1, 0] rfl)
def wsR_X5_readClause : List Cond := Cond.code yX5_readClause cX5_readClause 5 (some .int) :: wRa
theorem cw_X5_X5_readWord_44 {R : Room} {s : State} {args : Array Value} {y : MethodName} {c : ByteArray} {n : Nat} {r : Option FieldType} (hts : ∀ w ∈ (Cond.code y c n r :: wRa), w.before args s = true) (hR : 5 + 1 ≤ R.frames ∧ 8 + (5 + 11) + 108 ≤ R.locals) : CallW R s args RX5 RX5 44 yX5_readWord cX5_readWord 5 (some .int) wsR_X5_readWord { frames := 5, cells := 0, slots := 0, locals := 108 } 0 0 1 := cwV 1 hts (goodV wRa_good rm_X5_44 ri_X5_readWord rs_X5_readWord rn_X5 rc_X5_readWord) rfl rfl rfl (by decide +kernel) hR
theorem cw_X5_X5_readSign_47 {R : Room} {s : State} {args : Array Value} {y : MethodName} {c : ByteArray} {n : Nat} {r : Option FieldType} (hts : ∀ w ∈ (Cond.code y c n r :: wRa), w.before args s = true) (hR : 1 + 1 ≤ R.frames ∧ 8 + (3 + 11) + 21 ≤ R.locals) : CallW R s args RX5 RX5 47 yX5_readSign cX5_readSign 3 (some .int) wsR_X5_readSign { frames := 1, cells := 0, slots := 0, locals := 21 } 0 0 1 := cwV 1 hts (goodV wRa_good rm_X5_47 ri_X5_readSign rs_X5_readSign rn_X5 rc_X5_readSign) rfl rfl rfl (by decide +kernel) hR
theorem cw_X5_X5_readNumber_50 {R : Room} {s : State} {args : Array Value} {y : MethodName} {c : ByteArray} {n : Nat} {r : Option FieldType} (hts : ∀ w ∈ (Cond.code y c n r :: wRa), w.before args s = true) (hR : 2 + 1 ≤ R.frames ∧ 8 + (3 + 11) + 43 ≤ R.locals) : CallW R s args RX5 RX5 50 yX5_readNumber cX5_readNumber 3 (some .int) wsR_X5_readNumber { frames := 2, cells := 0, slots := 0, locals := 43 } 0 0 1 := cwV 1 hts (goodV wRa_good rm_X5_50 ri_X5_readNumber rs_X5_readNumber rn_X5 rc_X5_readNumber) rfl rfl rfl (by decide +kernel) hR
def FR_X5_readClause (σ : RS) : Option (Int32 × RS) := ((FR_X5_readWord σ).bind fun q_2 => (if q_2.1 = (-1 : Int32) then (some ((-1 : Int32), q_2.2)) else ((FR_X5_readSign q_2.2).bind fun q_15 => (if q_15.1 = (-1 : Int32) then (some ((-1 : Int32), q_15.2)) else ((FR_X5_readNumber q_15.2).bind fun q_28 => (if q_28.1 = (-1 : Int32) then (some ((-1 : Int32), q_28.2)) else (some (((((q_2.1 * (3 : Int32)) + q_15.1) * (100 : Int32)) + q_28.1), q_28.2))))))))
set_option maxHeartbeats 4000000 in
set_option maxRecDepth 100000 in
theorem cR_X5_readClause (l : Launch) (D : va_G) (cs : Nat → ClassId) (ad tb : Nat → Nat) (A : Nat → Prop) (σ : RS) (q : (Int32 × RS)) (hF : FR_X5_readClause σ = some q) : Met l yX5_readClause wsR_X5_readClause { frames := 6, cells := 0, slots := 0, locals := 132 } (va_Pc [.ref (ad 1005), .ref (ad 1008)] (preQ D cs ad tb A σ)) (va_Qi (fun x u => x = q.1 ∧ u = q.2) (posQ D cs ad A) A) 0 0 A := by
  refine Met.ofW (cc := cX5_readClause) (maxL := 5) (ret := (some .int)) (by decide) rfl ?_
  intro p e s m args below meth c s₁ B hml hv
  obtain ⟨rfl, hP, hK, hD, hZ⟩ := hv
  have hx := B.exec
  have hb := B.bytes
  have hr := B.returns
  have hts : ∀ w ∈ (Cond.code yX5_readClause cX5_readClause 5 (some .int) :: wRa), w.before ([.ref (ad 1005), .ref (ad 1008)] : List Value).toArray s = true := atoms_spec (ws := wsR_X5_readClause) B.pre
  have hin : ∀ w ∈ wRa, w ∈ (Cond.code yX5_readClause cX5_readClause 5 (some .int) :: wRa) := fun w hw => List.mem_cons_of_mem _ hw
  have hown : s.vm.findClass RX5 = some m.cls := findClass_of_methodNamed B.named
  have hlocks := B.notSynchronized
  have hS : va_S A s.heap s.heap [] := va_S.rf
  have hl := lv_entry ([.ref (ad 1005), .ref (ad 1008)]) (n := 5) (Nat.le_of_ble_eq_true rfl)
  rw [lg_entry_eq]
  generalize (lg_sl ([.ref (ad 1005), .ref (ad 1008)]) ++ List.replicate (5 - (lg_sl ([.ref (ad 1005), .ref (ad 1008)])).length) Slot.unset).toArray = ls at hl ⊢
  have hl : lv_has ls 5 [(0, .ref (ad 1005)), (1, .ref (ad 1008))] := hl
  unfold FR_X5_readClause at hF
  refine lv_aload_n hx hb dX5_readClause_0 rfl (lv_at hl 0 rfl) ?_
  refine lv_aload_n hx hb dX5_readClause_1 rfl (lv_at hl 1 rfl) ?_
  obtain ⟨q_2, e_2, hF⟩ := ob_bd hF
  refine cwR (As := [.ref (ad 1008)]) (rest := []) ⟨hx, hb, hml, hown, hts⟩ (cR_X5_readWord l D cs ad tb A σ _ e_2) (cw_X5_X5_readWord_44 hts ⟨Nat.le_of_ble_eq_true rfl, Nat.le_of_ble_eq_true rfl⟩) ⟨Nat.zero_le _, Nat.zero_le _⟩ (rcF hK hP (ci := 5) rfl (ob_5 _ _ _)) hK hP hD hS hZ rfl hl.1 rfl (lv_room (Nat.le_of_ble_eq_true rfl)) dX5_readClause_2 (fun H locs hP hD hS => ?_)
  refine lv_istore_n (i := 2) (lv' := [(2, .int q_2.1), (0, .ref (ad 1005)), (1, .ref (ad 1008))]) hx hb dX5_readClause_5 rfl hl (by decide) rfl (fun ls hl => ?_)
  refine lv_iload_n hx hb dX5_readClause_6 rfl (lv_at hl 0 rfl) ?_
  refine lv_iconst (v := (-1 : Int32)) hx hb dX5_readClause_7 (by decide) ?_
  refine lv_icmp_ne (tgt := 13) hx hb dX5_readClause_8 (by decide) (fun c_8 => ?_) (fun c_8 => ?_)
  · have hF := ob_f c_8 hF
    refine lv_aload_n hx hb dX5_readClause_13 rfl (lv_at hl 1 rfl) ?_
    refine lv_aload_n hx hb dX5_readClause_14 rfl (lv_at hl 2 rfl) ?_
    obtain ⟨q_15, e_15, hF⟩ := ob_bd hF
    refine cwR (As := [.ref (ad 1008)]) (rest := []) ⟨hx, hb, hml, hown, hts⟩ (cR_X5_readSign l D cs ad tb A q_2.2 _ e_15) (cw_X5_X5_readSign_47 hts ⟨Nat.le_of_ble_eq_true rfl, Nat.le_of_ble_eq_true rfl⟩) ⟨Nat.zero_le _, Nat.zero_le _⟩ (rcF hK hP (ci := 5) rfl (ob_5 _ _ _)) hK hP hD hS hZ rfl hl.1 rfl (lv_room (Nat.le_of_ble_eq_true rfl)) dX5_readClause_15 (fun H locs hP hD hS => ?_)
    refine lv_istore_n (i := 3) (lv' := [(3, .int q_15.1), (2, .int q_2.1), (0, .ref (ad 1005)), (1, .ref (ad 1008))]) hx hb dX5_readClause_18 rfl hl (by decide) rfl (fun ls hl => ?_)
    refine lv_iload_n hx hb dX5_readClause_19 rfl (lv_at hl 0 rfl) ?_
    refine lv_iconst (v := (-1 : Int32)) hx hb dX5_readClause_20 (by decide) ?_
    refine lv_icmp_ne (tgt := 26) hx hb dX5_readClause_21 (by decide) (fun c_21 => ?_) (fun c_21 => ?_)
    · have hF := ob_f c_21 hF
      refine lv_aload_n hx hb dX5_readClause_26 rfl (lv_at hl 2 rfl) ?_
      refine lv_aload_n hx hb dX5_readClause_27 rfl (lv_at hl 3 rfl) ?_
      obtain ⟨q_28, e_28, hF⟩ := ob_bd hF
      refine cwR (As := [.ref (ad 1008)]) (rest := []) ⟨hx, hb, hml, hown, hts⟩ (cR_X5_readNumber l D cs ad tb A q_15.2 _ e_28) (cw_X5_X5_readNumber_50 hts ⟨Nat.le_of_ble_eq_true rfl, Nat.le_of_ble_eq_true rfl⟩) ⟨Nat.zero_le _, Nat.zero_le _⟩ (rcF hK hP (ci := 5) rfl (ob_5 _ _ _)) hK hP hD hS hZ rfl hl.1 rfl (lv_room (Nat.le_of_ble_eq_true rfl)) dX5_readClause_28 (fun H locs hP hD hS => ?_)
      refine lv_istore (i := 4) (lv' := [(4, .int q_28.1), (3, .int q_15.1), (2, .int q_2.1), (0, .ref (ad 1005)), (1, .ref (ad 1008))]) hx hb dX5_readClause_31 hl (by decide) rfl (fun ls hl => ?_)
      refine lv_iload hx hb dX5_readClause_33 (lv_at hl 0 rfl) ?_
      refine lv_iconst (v := (-1 : Int32)) hx hb dX5_readClause_35 (by decide) ?_
      refine lv_icmp_ne (tgt := 41) hx hb dX5_readClause_36 (by decide) (fun c_36 => ?_) (fun c_36 => ?_)
      · have hF := ob_f c_36 hF
        refine lv_iload_n hx hb dX5_readClause_41 rfl (lv_at hl 2 rfl) ?_
        refine lv_iconst (v := (3 : Int32)) hx hb dX5_readClause_42 (by decide) ?_
        refine lv_imul hx hb dX5_readClause_43 ?_
        refine lv_iload_n hx hb dX5_readClause_44 rfl (lv_at hl 1 rfl) ?_
        refine lv_iadd hx hb dX5_readClause_45 ?_
        refine lv_bipush (v := (100 : Int32)) hx hb dX5_readClause_46 (by decide) ?_
        refine lv_imul hx hb dX5_readClause_48 ?_
        refine lv_iload hx hb dX5_readClause_49 (lv_at hl 0 rfl) ?_
        refine lv_iadd hx hb dX5_readClause_51 ?_
        exact rwR hx hb hr hlocks hF hK hP hD hS dX5_readClause_52
      · have hF := ob_t c_36 hF
        refine lv_iconst (v := (-1 : Int32)) hx hb dX5_readClause_39 (by decide) ?_
        exact rwR hx hb hr hlocks hF hK hP hD hS dX5_readClause_40
    · have hF := ob_t c_21 hF
      refine lv_iconst (v := (-1 : Int32)) hx hb dX5_readClause_24 (by decide) ?_
      exact rwR hx hb hr hlocks hF hK hP hD hS dX5_readClause_25
  · have hF := ob_t c_8 hF
    refine lv_iconst (v := (-1 : Int32)) hx hb dX5_readClause_11 (by decide) ?_
    exact rwR hx hb hr hlocks hF hK hP hD hS dX5_readClause_12
def wsR_X5_readFrom : List Cond := Cond.code yX5_readFrom cX5_readFrom 3 (some .int) :: wRa
theorem cw_X5_X5_readClause_31 {R : Room} {s : State} {args : Array Value} {y : MethodName} {c : ByteArray} {n : Nat} {r : Option FieldType} (hts : ∀ w ∈ (Cond.code y c n r :: wRa), w.before args s = true) (hR : 6 + 1 ≤ R.frames ∧ 8 + (5 + 11) + 132 ≤ R.locals) : CallW R s args RX5 RX5 31 yX5_readClause cX5_readClause 5 (some .int) wsR_X5_readClause { frames := 6, cells := 0, slots := 0, locals := 132 } 0 0 1 := cwV 1 hts (goodV wRa_good rm_X5_31 ri_X5_readClause rs_X5_readClause rn_X5 rc_X5_readClause) rfl rfl rfl (by decide +kernel) hR
def FR_X5_readFrom_7 : Nat → Int32 → RS → Option (Int32 × RS)
  | 0, _, _ => none
  | n_7 + 1, x2_7, σ_7 => (if (6 : Int32) ≤ x2_7 then (some (((-10 : Int32) - (rI σ_7 501)), σ_7)) else ((FR_X5_readClause σ_7).bind fun q_20 => (gd (inb x2_7 6) (gd (inb x2_7 6) (if (rA (ra q_20.2 500 x2_7 q_20.1) 500 x2_7.toNatClampNeg) = (-1 : Int32) then (some (((-10 : Int32) - (rI (ra q_20.2 500 x2_7 q_20.1) 501)), (ra q_20.2 500 x2_7 q_20.1))) else (if (rI (ra q_20.2 500 x2_7 q_20.1) 501) = (rI (ra q_20.2 500 x2_7 q_20.1) 801) then (some ((x2_7 + (1 : Int32)), (ra q_20.2 500 x2_7 q_20.1))) else ((FR_X8_byteAt (ra q_20.2 500 x2_7 q_20.1) (rI (ra q_20.2 500 x2_7 q_20.1) 501)).bind fun q_62 => (if q_62 = (59 : Int32) then (if x2_7 = (5 : Int32) then (some (((-10 : Int32) - (rI (ra q_20.2 500 x2_7 q_20.1) 501)), (ra q_20.2 500 x2_7 q_20.1))) else (FR_X5_readFrom_7  n_7 (x2_7 + (1 : Int32)) (ri (ra q_20.2 500 x2_7 q_20.1) 501 ((rI (ra q_20.2 500 x2_7 q_20.1) 501) + (1 : Int32))))) else (some (((-10 : Int32) - (rI (ra q_20.2 500 x2_7 q_20.1) 501)), (ra q_20.2 500 x2_7 q_20.1)))))))))))
def FR_X5_readFrom (σ : RS) : Option (Int32 × RS) := (FR_X5_readFrom_7 fu (0 : Int32) (ri σ 501 (0 : Int32)))
set_option maxHeartbeats 4000000 in
set_option maxRecDepth 100000 in
theorem cR_X5_readFrom (l : Launch) (D : va_G) (cs : Nat → ClassId) (ad tb : Nat → Nat) (A : Nat → Prop) (σ : RS) (q : (Int32 × RS)) (hF : FR_X5_readFrom σ = some q) : Met l yX5_readFrom wsR_X5_readFrom { frames := 7, cells := 0, slots := 0, locals := 156 } (va_Pc [.ref (ad 1005), .ref (ad 1008)] (preQ D cs ad tb A σ)) (va_Qi (fun x u => x = q.1 ∧ u = q.2) (posQ D cs ad A) A) 0 0 A := by
  refine Met.ofW (cc := cX5_readFrom) (maxL := 3) (ret := (some .int)) (by decide) rfl ?_
  intro p e s m args below meth c s₁ B hml hv
  obtain ⟨rfl, hP, hK, hD, hZ⟩ := hv
  have hx := B.exec
  have hb := B.bytes
  have hr := B.returns
  have hts : ∀ w ∈ (Cond.code yX5_readFrom cX5_readFrom 3 (some .int) :: wRa), w.before ([.ref (ad 1005), .ref (ad 1008)] : List Value).toArray s = true := atoms_spec (ws := wsR_X5_readFrom) B.pre
  have hin : ∀ w ∈ wRa, w ∈ (Cond.code yX5_readFrom cX5_readFrom 3 (some .int) :: wRa) := fun w hw => List.mem_cons_of_mem _ hw
  have hown : s.vm.findClass RX5 = some m.cls := findClass_of_methodNamed B.named
  have hlocks := B.notSynchronized
  have hS : va_S A s.heap s.heap [] := va_S.rf
  have b_7 : ∀ (n_7 : Nat) (x2_7 : Int32) (σ_7 : RS) (H : Heap) (locs : List Loc) (ls : Array Slot), FR_X5_readFrom_7 n_7 x2_7 σ_7 = some q → va_P D vwCl (wR cs ad σ_7) H → va_D A (wR cs ad σ_7) → va_S A s.heap H locs → lv_has ls 3 [(0, .ref (ad 1005)), (1, .ref (ad 1008)), (2, .int x2_7)] → W p l e (headSpec wsR_X5_readFrom { frames := 7, cells := 0, slots := 0, locals := 156 }).room s m ([.ref (ad 1005), .ref (ad 1008)] : List Value).toArray below meth c H locs 0 0 (MQ below (va_Qi (fun x u => x = q.1 ∧ u = q.2) (posQ D cs ad A) A) ([.ref (ad 1005), .ref (ad 1008)] : List Value).toArray s 0 0 A) (F0 m 7 ls []) := by
    intro n_7
    induction n_7 with
    | zero =>
      intro x2_7 σ_7 H locs ls hF hP hD hS hl
      exact absurd hF (by simp [FR_X5_readFrom_7])
    | succ n_7 ih_7 =>
      intro x2_7 σ_7 H locs ls hF hP hD hS hl
      rw [FR_X5_readFrom_7] at hF
      refine lv_iload_n hx hb dX5_readFrom_7 rfl (lv_at hl 2 rfl) ?_
      refine lv_bipush (v := (6 : Int32)) hx hb dX5_readFrom_8 (by decide) ?_
      refine lv_icmp_ge (tgt := 99) hx hb dX5_readFrom_10 (by decide) (fun c_10 => ?_) (fun c_10 => ?_)
      · have hF := ob_t c_10 hF
        refine lv_bipush (v := (-10 : Int32)) hx hb dX5_readFrom_99 (by decide) ?_
        refine lv_aload_n hx hb dX5_readFrom_101 rfl (lv_at hl 0 rfl) ?_
        refine gF hx hb hts hin wo_5 rfl hown hK hP (ob_5 _ _ _) 1 (.int (rI σ_7 501)) (by decide) rf_X5_27 rfl dX5_readFrom_102 ?_
        refine lv_isub hx hb dX5_readFrom_105 ?_
        exact rwR hx hb hr hlocks hF hK hP hD hS dX5_readFrom_106
      · have hF := ob_f c_10 hF
        refine lv_aload_n hx hb dX5_readFrom_13 rfl (lv_at hl 0 rfl) ?_
        refine gF hx hb hts hin wo_5 rfl hown hK hP (ob_5 _ _ _) 0 (.ref (ad 500)) (by decide) rf_X5_9 rfl dX5_readFrom_14 ?_
        refine lv_iload_n hx hb dX5_readFrom_17 rfl (lv_at hl 2 rfl) ?_
        refine lv_aload_n hx hb dX5_readFrom_18 rfl (lv_at hl 0 rfl) ?_
        refine lv_aload_n hx hb dX5_readFrom_19 rfl (lv_at hl 1 rfl) ?_
        obtain ⟨q_20, e_20, hF⟩ := ob_bd hF
        refine cwR (As := [.ref (ad 1008)]) (rest := [.int x2_7, .ref (ad 500)]) ⟨hx, hb, hml, hown, hts⟩ (cR_X5_readClause l D cs ad tb A σ_7 _ e_20) (cw_X5_X5_readClause_31 hts ⟨Nat.le_of_ble_eq_true rfl, Nat.le_of_ble_eq_true rfl⟩) ⟨Nat.zero_le _, Nat.zero_le _⟩ (rcF hK hP (ci := 5) rfl (ob_5 _ _ _)) hK hP hD hS hZ rfl hl.1 rfl (lv_room (Nat.le_of_ble_eq_true rfl)) dX5_readFrom_20 (fun H locs hP hD hS => ?_)
        obtain ⟨g_23, hF⟩ := ob_gd hF
        refine stF hx hb hK hP hD hS (ra_500 _ _ _) (rs_500 _ _ _ _ _) g_23 dX5_readFrom_23 (fun H locs hP hD hS => ?_)
        refine lv_aload_n hx hb dX5_readFrom_24 rfl (lv_at hl 0 rfl) ?_
        refine gF hx hb hts hin wo_5 rfl hown hK hP (ob_5 _ _ _) 0 (.ref (ad 500)) (by decide) rf_X5_9 rfl dX5_readFrom_25 ?_
        refine lv_iload_n hx hb dX5_readFrom_28 rfl (lv_at hl 2 rfl) ?_
        obtain ⟨g_29, hF⟩ := ob_gd hF
        refine ldF hx hb hK hP (ra_500 _ _ _) (rA (ra q_20.2 500 x2_7 q_20.1) 500 x2_7.toNatClampNeg) g_29 rfl dX5_readFrom_29 ?_
        refine lv_iconst (v := (-1 : Int32)) hx hb dX5_readFrom_30 (by decide) ?_
        refine lv_icmp_ne (tgt := 42) hx hb dX5_readFrom_31 (by decide) (fun c_31 => ?_) (fun c_31 => ?_)
        · have hF := ob_f c_31 hF
          refine lv_aload_n hx hb dX5_readFrom_42 rfl (lv_at hl 0 rfl) ?_
          refine gF hx hb hts hin wo_5 rfl hown hK hP (ob_5 _ _ _) 1 (.int (rI (ra q_20.2 500 x2_7 q_20.1) 501)) (by decide) rf_X5_27 rfl dX5_readFrom_43 ?_
          refine lv_aload_n hx hb dX5_readFrom_46 rfl (lv_at hl 1 rfl) ?_
          refine gF hx hb hts hin wo_8 rfl hown hK hP (ob_8 _ _ _) 1 (.int (rI (ra q_20.2 500 x2_7 q_20.1) 801)) (by decide) rf_X5_35 rfl dX5_readFrom_47 ?_
          refine lv_icmp_ne (tgt := 57) hx hb dX5_readFrom_50 (by decide) (fun c_50 => ?_) (fun c_50 => ?_)
          · have hF := ob_f c_50 hF
            refine lv_aload_n hx hb dX5_readFrom_57 rfl (lv_at hl 1 rfl) ?_
            refine lv_aload_n hx hb dX5_readFrom_58 rfl (lv_at hl 0 rfl) ?_
            refine gF hx hb hts hin wo_5 rfl hown hK hP (ob_5 _ _ _) 1 (.int (rI (ra q_20.2 500 x2_7 q_20.1) 501)) (by decide) rf_X5_27 rfl dX5_readFrom_59 ?_
            obtain ⟨q_62, e_62, hF⟩ := ob_bd hF
            refine crR (As := [.int (rI (ra q_20.2 500 x2_7 q_20.1) 501)]) (rest := []) ⟨hx, hb, hml, hown, hts⟩ (cR_X8_byteAt l D cs ad tb A (ra q_20.2 500 x2_7 q_20.1) (rI (ra q_20.2 500 x2_7 q_20.1) 501) _ e_62) (cw_X5_X8_byteAt_40 hts ⟨Nat.le_of_ble_eq_true rfl, Nat.le_of_ble_eq_true rfl⟩) ⟨Nat.zero_le _, Nat.zero_le _⟩ (rcF hK hP (ci := 8) rfl (ob_8 _ _ _)) hK hP hD hS hZ rfl hl.1 rfl (lv_room (Nat.le_of_ble_eq_true rfl)) dX5_readFrom_62 ?_
            refine lv_bipush (v := (59 : Int32)) hx hb dX5_readFrom_65 (by decide) ?_
            refine lv_icmp_ne (tgt := 75) hx hb dX5_readFrom_67 (by decide) (fun c_67 => ?_) (fun c_67 => ?_)
            · have hF := ob_f c_67 hF
              refine lv_bipush (v := (-10 : Int32)) hx hb dX5_readFrom_75 (by decide) ?_
              refine lv_aload_n hx hb dX5_readFrom_77 rfl (lv_at hl 0 rfl) ?_
              refine gF hx hb hts hin wo_5 rfl hown hK hP (ob_5 _ _ _) 1 (.int (rI (ra q_20.2 500 x2_7 q_20.1) 501)) (by decide) rf_X5_27 rfl dX5_readFrom_78 ?_
              refine lv_isub hx hb dX5_readFrom_81 ?_
              exact rwR hx hb hr hlocks hF hK hP hD hS dX5_readFrom_82
            · have hF := ob_t c_67 hF
              refine lv_iload_n hx hb dX5_readFrom_70 rfl (lv_at hl 2 rfl) ?_
              refine lv_iconst (v := (5 : Int32)) hx hb dX5_readFrom_71 (by decide) ?_
              refine lv_icmp_ne (tgt := 83) hx hb dX5_readFrom_72 (by decide) (fun c_72 => ?_) (fun c_72 => ?_)
              · have hF := ob_f c_72 hF
                refine lv_aload_n hx hb dX5_readFrom_83 rfl (lv_at hl 0 rfl) ?_
                refine lv_dup hx hb dX5_readFrom_84 rfl ?_
                refine gF hx hb hts hin wo_5 rfl hown hK hP (ob_5 _ _ _) 1 (.int (rI (ra q_20.2 500 x2_7 q_20.1) 501)) (by decide) rf_X5_27 rfl dX5_readFrom_85 ?_
                refine lv_iconst (v := (1 : Int32)) hx hb dX5_readFrom_88 (by decide) ?_
                refine lv_iadd hx hb dX5_readFrom_89 ?_
                refine pF (ty := .int) hx hb hts hin wo_5 rfl tyX5 tyX5_ok nmX5 hown hK hP hD hS (ob_5 _ _ _) 1 (by decide) rf_X5_27 rfl (by decide +kernel) rfl rfl (Nat.le_of_ble_eq_true rfl) (rp_501 _ _ _ _) dX5_readFrom_90 (fun H locs hP hD hS => ?_)
                refine lv_iinc (v := x2_7 + (1 : Int32)) (lv' := [(2, .int (x2_7 + (1 : Int32))), (0, .ref (ad 1005)), (1, .ref (ad 1008))]) hx hb dX5_readFrom_93 hl (k := 2) rfl rfl (by decide) rfl (fun ls hl => ?_)
                refine lv_goto (tgt := 7) hx hb dX5_readFrom_96 (by decide) ?_
                exact ih_7 (x2_7 + (1 : Int32)) (ri (ra q_20.2 500 x2_7 q_20.1) 501 ((rI (ra q_20.2 500 x2_7 q_20.1) 501) + (1 : Int32))) _ _ _ hF hP hD hS (lv_sub hl [1, 2, 0] rfl)
              · have hF := ob_t c_72 hF
                refine lv_bipush (v := (-10 : Int32)) hx hb dX5_readFrom_75 (by decide) ?_
                refine lv_aload_n hx hb dX5_readFrom_77 rfl (lv_at hl 0 rfl) ?_
                refine gF hx hb hts hin wo_5 rfl hown hK hP (ob_5 _ _ _) 1 (.int (rI (ra q_20.2 500 x2_7 q_20.1) 501)) (by decide) rf_X5_27 rfl dX5_readFrom_78 ?_
                refine lv_isub hx hb dX5_readFrom_81 ?_
                exact rwR hx hb hr hlocks hF hK hP hD hS dX5_readFrom_82
          · have hF := ob_t c_50 hF
            refine lv_iload_n hx hb dX5_readFrom_53 rfl (lv_at hl 2 rfl) ?_
            refine lv_iconst (v := (1 : Int32)) hx hb dX5_readFrom_54 (by decide) ?_
            refine lv_iadd hx hb dX5_readFrom_55 ?_
            exact rwR hx hb hr hlocks hF hK hP hD hS dX5_readFrom_56
        · have hF := ob_t c_31 hF
          refine lv_bipush (v := (-10 : Int32)) hx hb dX5_readFrom_34 (by decide) ?_
          refine lv_aload_n hx hb dX5_readFrom_36 rfl (lv_at hl 0 rfl) ?_
          refine gF hx hb hts hin wo_5 rfl hown hK hP (ob_5 _ _ _) 1 (.int (rI (ra q_20.2 500 x2_7 q_20.1) 501)) (by decide) rf_X5_27 rfl dX5_readFrom_37 ?_
          refine lv_isub hx hb dX5_readFrom_40 ?_
          exact rwR hx hb hr hlocks hF hK hP hD hS dX5_readFrom_41
  have hl := lv_entry ([.ref (ad 1005), .ref (ad 1008)]) (n := 3) (Nat.le_of_ble_eq_true rfl)
  rw [lg_entry_eq]
  generalize (lg_sl ([.ref (ad 1005), .ref (ad 1008)]) ++ List.replicate (3 - (lg_sl ([.ref (ad 1005), .ref (ad 1008)])).length) Slot.unset).toArray = ls at hl ⊢
  have hl : lv_has ls 3 [(0, .ref (ad 1005)), (1, .ref (ad 1008))] := hl
  unfold FR_X5_readFrom at hF
  refine lv_aload_n hx hb dX5_readFrom_0 rfl (lv_at hl 0 rfl) ?_
  refine lv_iconst (v := (0 : Int32)) hx hb dX5_readFrom_1 (by decide) ?_
  refine pF (ty := .int) hx hb hts hin wo_5 rfl tyX5 tyX5_ok nmX5 hown hK hP hD hS (ob_5 _ _ _) 1 (by decide) rf_X5_27 rfl (by decide +kernel) rfl rfl (Nat.le_of_ble_eq_true rfl) (rp_501 _ _ _ _) dX5_readFrom_2 (fun H locs hP hD hS => ?_)
  refine lv_iconst (v := (0 : Int32)) hx hb dX5_readFrom_5 (by decide) ?_
  refine lv_istore_n (i := 2) (lv' := [(2, .int (0 : Int32)), (0, .ref (ad 1005)), (1, .ref (ad 1008))]) hx hb dX5_readFrom_6 rfl hl (by decide) rfl (fun ls hl => ?_)
  exact b_7 fu (0 : Int32) (ri σ 501 (0 : Int32)) _ _ _ hF hP hD hS (lv_sub hl [1, 2, 0] rfl)
def wsR_X9_rules : List Cond := Cond.code yX9_rules cX9_rules 3 (some .int) :: wRa
theorem cw_X9_X5_readFrom_236 {R : Room} {s : State} {args : Array Value} {y : MethodName} {c : ByteArray} {n : Nat} {r : Option FieldType} (hts : ∀ w ∈ (Cond.code y c n r :: wRa), w.before args s = true) (hR : 7 + 1 ≤ R.frames ∧ 8 + (3 + 11) + 156 ≤ R.locals) : CallW R s args RX9 RX5 236 yX5_readFrom cX5_readFrom 3 (some .int) wsR_X5_readFrom { frames := 7, cells := 0, slots := 0, locals := 156 } 0 0 1 := cwV 1 hts (goodV wRa_good rm_X9_236 ri_X5_readFrom rs_X5_readFrom rn_X5 rc_X5_readFrom) rfl rfl rfl (by decide +kernel) hR
theorem cw_X9_X6_take_243 {R : Room} {s : State} {args : Array Value} {y : MethodName} {c : ByteArray} {n : Nat} {r : Option FieldType} (hts : ∀ w ∈ (Cond.code y c n r :: wRa), w.before args s = true) (hR : 1 + 1 ≤ R.frames ∧ 8 + (3 + 11) + 80 ≤ R.locals) : CallW R s args RX9 RX6 243 yX6_take cX6_take 3 none wsR_X6_take { frames := 1, cells := 0, slots := 0, locals := 80 } 0 0 2 := cwV 2 hts (goodV wRa_good rm_X9_243 ri_X6_take rs_X6_take rn_X6 rc_X6_take) rfl rfl rfl (by decide +kernel) hR
def FR_X9_rules (σ : RS) (p1 : Int32) : Option (Int32 × RS) := ((FR_X9_within p1 (0 : Int32) (3 : Int32)).bind fun q_3 => (if q_3 = 0 then (some ((-1 : Int32), σ)) else ((FR_X5_readFrom σ).bind fun q_19 => (if q_19.1 < 0 then (some (q_19.1, (ri q_19.2 801 (0 : Int32)))) else (gd (inb p1 4) ((rQ (ri q_19.2 801 (0 : Int32)) 913 p1.toNatClampNeg).bind fun r_40 => (gd (isK (ri q_19.2 801 (0 : Int32)) r_40 6) ((FR_X6_take (ri q_19.2 801 (0 : Int32)) r_40 q_19.1).bind fun q_49 => (some (q_19.1, q_49))))))))))
set_option maxHeartbeats 4000000 in
set_option maxRecDepth 100000 in
theorem cR_X9_rules (l : Launch) (D : va_G) (cs : Nat → ClassId) (ad tb : Nat → Nat) (A : Nat → Prop) (σ : RS) (p1 : Int32) (q : (Int32 × RS)) (hF : FR_X9_rules σ p1 = some q) : Met l yX9_rules wsR_X9_rules { frames := 8, cells := 0, slots := 0, locals := 178 } (va_Pc [.ref (ad 1009), .int p1] (preQ D cs ad tb A σ)) (va_Qi (fun x u => x = q.1 ∧ u = q.2) (posQ D cs ad A) A) 0 0 A := by
  refine Met.ofW (cc := cX9_rules) (maxL := 3) (ret := (some .int)) (by decide) rfl ?_
  intro p e s m args below meth c s₁ B hml hv
  obtain ⟨rfl, hP, hK, hD, hZ⟩ := hv
  have hx := B.exec
  have hb := B.bytes
  have hr := B.returns
  have hts : ∀ w ∈ (Cond.code yX9_rules cX9_rules 3 (some .int) :: wRa), w.before ([.ref (ad 1009), .int p1] : List Value).toArray s = true := atoms_spec (ws := wsR_X9_rules) B.pre
  have hin : ∀ w ∈ wRa, w ∈ (Cond.code yX9_rules cX9_rules 3 (some .int) :: wRa) := fun w hw => List.mem_cons_of_mem _ hw
  have hown : s.vm.findClass RX9 = some m.cls := findClass_of_methodNamed B.named
  have hlocks := B.notSynchronized
  have hS : va_S A s.heap s.heap [] := va_S.rf
  have hl := lv_entry ([.ref (ad 1009), .int p1]) (n := 3) (Nat.le_of_ble_eq_true rfl)
  rw [lg_entry_eq]
  generalize (lg_sl ([.ref (ad 1009), .int p1]) ++ List.replicate (3 - (lg_sl ([.ref (ad 1009), .int p1])).length) Slot.unset).toArray = ls at hl ⊢
  have hl : lv_has ls 3 [(0, .ref (ad 1009)), (1, .int p1)] := hl
  unfold FR_X9_rules at hF
  refine lv_iload_n hx hb dX9_rules_0 rfl (lv_at hl 1 rfl) ?_
  refine lv_iconst (v := (0 : Int32)) hx hb dX9_rules_1 (by decide) ?_
  refine lv_iconst (v := (3 : Int32)) hx hb dX9_rules_2 (by decide) ?_
  obtain ⟨q_3, e_3, hF⟩ := ob_bd hF
  refine csR (As := [.int p1, .int (0 : Int32), .int (3 : Int32)]) (rest := []) ⟨hx, hb, hml, hown, hts⟩ (cR_X9_within l p1 (0 : Int32) (3 : Int32) _ e_3) (cw_X9_X9_within_88 hts ⟨Nat.le_of_ble_eq_true rfl, Nat.le_of_ble_eq_true rfl⟩) ⟨Nat.zero_le _, Nat.zero_le _⟩ rfl hl.1 rfl (lv_room (Nat.le_of_ble_eq_true rfl)) dX9_rules_3 ?_
  refine lv_if_ne (tgt := 11) hx hb dX9_rules_6 (by decide) (fun c_6 => ?_) (fun c_6 => ?_)
  · have hF := ob_f c_6 hF
    refine lv_aload_n hx hb dX9_rules_11 rfl (lv_at hl 0 rfl) ?_
    refine gF hx hb hts hin wo_9 rfl hown hK hP (ob_9 _ _ _) 1 (.ref (ad 1005)) (by decide) rf_X9_19 rfl dX9_rules_12 ?_
    refine lv_aload_n hx hb dX9_rules_15 rfl (lv_at hl 0 rfl) ?_
    refine gF hx hb hts hin wo_9 rfl hown hK hP (ob_9 _ _ _) 0 (.ref (ad 1008)) (by decide) rf_X9_12 rfl dX9_rules_16 ?_
    obtain ⟨q_19, e_19, hF⟩ := ob_bd hF
    refine cwR (As := [.ref (ad 1008)]) (rest := []) ⟨hx, hb, hml, hown, hts⟩ (cR_X5_readFrom l D cs ad tb A σ _ e_19) (cw_X9_X5_readFrom_236 hts ⟨Nat.le_of_ble_eq_true rfl, Nat.le_of_ble_eq_true rfl⟩) ⟨Nat.zero_le _, Nat.zero_le _⟩ (rcF hK hP (ci := 5) rfl (ob_5 _ _ _)) hK hP hD hS hZ rfl hl.1 rfl (lv_room (Nat.le_of_ble_eq_true rfl)) dX9_rules_19 (fun H locs hP hD hS => ?_)
    refine lv_istore_n (i := 2) (lv' := [(2, .int q_19.1), (0, .ref (ad 1009)), (1, .int p1)]) hx hb dX9_rules_22 rfl hl (by decide) rfl (fun ls hl => ?_)
    refine lv_aload_n hx hb dX9_rules_23 rfl (lv_at hl 1 rfl) ?_
    refine gF hx hb hts hin wo_9 rfl hown hK hP (ob_9 _ _ _) 0 (.ref (ad 1008)) (by decide) rf_X9_12 rfl dX9_rules_24 ?_
    refine lv_iconst (v := (0 : Int32)) hx hb dX9_rules_27 (by decide) ?_
    refine pF (ty := .int) hx hb hts hin wo_8 rfl tyX8 tyX8_ok nmX8 hown hK hP hD hS (ob_8 _ _ _) 1 (by decide) rf_X9_92 rfl (by decide +kernel) rfl rfl (Nat.le_of_ble_eq_true rfl) (rp_801 _ _ _ _) dX9_rules_28 (fun H locs hP hD hS => ?_)
    refine lv_iload_n hx hb dX9_rules_31 rfl (lv_at hl 0 rfl) ?_
    refine lv_if_lt (tgt := 52) hx hb dX9_rules_32 (by decide) (fun c_32 => ?_) (fun c_32 => ?_)
    · have hF := ob_t c_32 hF
      refine lv_iload_n hx hb dX9_rules_52 rfl (lv_at hl 0 rfl) ?_
      exact rwR hx hb hr hlocks hF hK hP hD hS dX9_rules_53
    · have hF := ob_f c_32 hF
      refine lv_aload_n hx hb dX9_rules_35 rfl (lv_at hl 1 rfl) ?_
      refine gF hx hb hts hin wo_9 rfl hown hK hP (ob_9 _ _ _) 13 (.ref (ad 913)) (by decide) rf_X9_66 rfl dX9_rules_36 ?_
      refine lv_iload_n hx hb dX9_rules_39 rfl (lv_at hl 2 rfl) ?_
      obtain ⟨g_40, hF⟩ := ob_gd hF
      refine ldA (C := "RobeHouse$Rules") hx hb hK hP (ra_913 _ _ _) rfl (rQ (ri q_19.2 801 (0 : Int32)) 913 p1.toNatClampNeg) g_40 rfl dX9_rules_40 ?_
      obtain ⟨r_40, o_40, hF⟩ := ob_bd hF
      refine rfS o_40 ?_
      refine lv_aload_n hx hb dX9_rules_41 rfl (lv_at hl 1 rfl) ?_
      refine gF hx hb hts hin wo_9 rfl hown hK hP (ob_9 _ _ _) 1 (.ref (ad 1005)) (by decide) rf_X9_19 rfl dX9_rules_42 ?_
      refine gF hx hb hts hin wo_5 rfl hown hK hP (ob_5 _ _ _) 0 (.ref (ad 500)) (by decide) rf_X9_240 rfl dX9_rules_45 ?_
      refine lv_iload_n hx hb dX9_rules_48 rfl (lv_at hl 0 rfl) ?_
      obtain ⟨k_49_1, hF⟩ := ob_gd hF
      obtain ⟨q_49, e_49, hF⟩ := ob_bd hF
      refine cvR (As := [.ref (ad 500), .int q_19.1]) (rest := []) ⟨hx, hb, hml, hown, hts⟩ (cR_X6_take l D cs ad tb A (ri q_19.2 801 (0 : Int32)) r_40 q_19.1 _ e_49) (cw_X9_X6_take_243 hts ⟨Nat.le_of_ble_eq_true rfl, Nat.le_of_ble_eq_true rfl⟩) ⟨Nat.zero_le _, Nat.zero_le _⟩ (rcP hK hP (ci := 6) rfl k_49_1 (pf_6 (isK_K k_49_1))) hK hP hD hS hZ rfl hl.1 rfl (lv_room (Nat.le_of_ble_eq_true rfl)) dX9_rules_49 (fun H locs hP hD hS => ?_)
      refine lv_iload_n hx hb dX9_rules_52 rfl (lv_at hl 0 rfl) ?_
      exact rwR hx hb hr hlocks hF hK hP hD hS dX9_rules_53
  · have hF := ob_t c_6 hF
    refine lv_iconst (v := (-1 : Int32)) hx hb dX9_rules_9 (by decide) ?_
    exact rwR hx hb hr hlocks hF hK hP hD hS dX9_rules_10
