def wsR_X1_findRobe : List Cond := Cond.code yX1_findRobe cX1_findRobe 5 (some .boolean) :: wRa
theorem cwd_X1_X1_findRobe_39 (d : Nat) {R : Room} {s : State} {args : Array Value} {y : MethodName} {c : ByteArray} {n : Nat} {r : Option FieldType} (hts : ∀ w ∈ (Cond.code y c n r :: wRa), w.before args s = true) (hR : (0 + d) + 1 ≤ R.frames ∧ 8 + (5 + 11) + (0 + d * 24) ≤ R.locals) : CallW R s args RX1 RX1 39 yX1_findRobe cX1_findRobe 5 (some .boolean) wsR_X1_findRobe { frames := 0 + d, cells := 0, slots := 0, locals := 0 + d * 24 } 0 0 2 := cwV 2 hts (goodV wRa_good rm_X1_39 ri_X1_findRobe rs_X1_findRobe rn_X1 rc_X1_findRobe) rfl rfl rfl (by decide +kernel) hR
def FR_X1_findRobe_20 (rc : RS → Int32 → Int32 → Option (Int32 × RS)) (K_87 : Int32 → RS → Option (Int32 × RS)) (x1_20 : Int32) (x2_20 : Int32) : Nat → Int32 → RS → Option (Int32 × RS)
  | 0, _, _ => none
  | n_20 + 1, x3_20, σ_20 => (if (30 : Int32) ≤ x3_20 then (some ((0 : Int32), σ_20)) else (gd (inb x1_20 10) (if (((rA σ_20 100 x1_20.toNatClampNeg) &&& ((rI σ_20 103) ^^^ (-1 : Int32))) &&& ((1 : Int32) <<< (x3_20 &&& 31))) = 0 then (FR_X1_findRobe_20 rc K_87 x1_20 x2_20 n_20 (x3_20 + (1 : Int32)) σ_20) else (gd (inb x3_20 30) (if (rA (ri σ_20 103 ((rI σ_20 103) ||| ((1 : Int32) <<< (x3_20 &&& 31)))) 102 x3_20.toNatClampNeg) = (-1 : Int32) then (K_87 x3_20 (ri σ_20 103 ((rI σ_20 103) ||| ((1 : Int32) <<< (x3_20 &&& 31))))) else (gd (inb x3_20 30) ((rc (ri σ_20 103 ((rI σ_20 103) ||| ((1 : Int32) <<< (x3_20 &&& 31)))) (rA (ri σ_20 103 ((rI σ_20 103) ||| ((1 : Int32) <<< (x3_20 &&& 31)))) 102 x3_20.toNatClampNeg) (x2_20 + (1 : Int32))).bind fun q_81 => (if q_81.1 = 0 then (FR_X1_findRobe_20 rc K_87 x1_20 x2_20 n_20 (x3_20 + (1 : Int32)) q_81.2) else (K_87 x3_20 q_81.2)))))))))
def FR_X1_findRobe_87 (rc : RS → Int32 → Int32 → Option (Int32 × RS)) (x1_87 : Int32) (x3_87 : Int32) (σ_87 : RS) : Option (Int32 × RS) := (gd (inb x3_87 30) (some ((1 : Int32), (ra σ_87 102 x3_87 x1_87))))
def FR_X1_findRobe : Nat → RS → Int32 → Int32 → Option (Int32 × RS)
  | 0, _, _, _ => none
  | d + 1, σ, p1, p2 => (if (10 : Int32) ≤ p2 then (some ((0 : Int32), σ)) else (if p1 < 0 then (some ((0 : Int32), σ)) else (if p1 < (10 : Int32) then (FR_X1_findRobe_20 (FR_X1_findRobe d) (fun x3_87 σ_87 => FR_X1_findRobe_87 (FR_X1_findRobe d) p1 x3_87 σ_87) p1 p2 fu (0 : Int32) σ) else (some ((0 : Int32), σ)))))
set_option maxHeartbeats 4000000 in
set_option maxRecDepth 100000 in
theorem cR_X1_findRobe (l : Launch) (D : va_G) (cs : Nat → ClassId) (ad tb : Nat → Nat) (A : Nat → Prop) : ∀ (d : Nat) (σ : RS) (p1 : Int32) (p2 : Int32) (q : (Int32 × RS)) (hF : FR_X1_findRobe d σ p1 p2 = some q), Met l yX1_findRobe wsR_X1_findRobe { frames := 0 + d, cells := 0, slots := 0, locals := 0 + d * 24 } (va_Pc [.ref (ad 1001), .int p1, .int p2] (preQ D cs ad tb A σ)) (va_Qi (fun x u => x = q.1 ∧ u = q.2) (posQ D cs ad A) A) 0 0 A := by
  intro d
  induction d with
  | zero =>
    intro σ p1 p2 q hF
    exact absurd hF (by simp [FR_X1_findRobe])
  | succ d ih =>
  intro σ p1 p2 q hF
  refine Met.ofW (cc := cX1_findRobe) (maxL := 5) (ret := (some .boolean)) (by decide) rfl ?_
  intro p e s m args below meth c s₁ B hml hv
  obtain ⟨rfl, hP, hK, hD, hZ⟩ := hv
  have hx := B.exec
  have hb := B.bytes
  have hr := B.returns
  have hts : ∀ w ∈ (Cond.code yX1_findRobe cX1_findRobe 5 (some .boolean) :: wRa), w.before ([.ref (ad 1001), .int p1, .int p2] : List Value).toArray s = true := atoms_spec (ws := wsR_X1_findRobe) B.pre
  have hin : ∀ w ∈ wRa, w ∈ (Cond.code yX1_findRobe cX1_findRobe 5 (some .boolean) :: wRa) := fun w hw => List.mem_cons_of_mem _ hw
  have hown : s.vm.findClass RX1 = some m.cls := findClass_of_methodNamed B.named
  have hlocks := B.notSynchronized
  have hS : va_S A s.heap s.heap [] := va_S.rf
  have b_20 : ∀ (x1_20 : Int32) (x2_20 : Int32) (K_87 : Int32 → RS → Option (Int32 × RS)) (k_87 : ∀ (x3_87 : Int32) (σ_87 : RS) (H : Heap) (locs : List Loc) (ls : Array Slot), K_87 x3_87 σ_87 = some q → va_P D vwCl (wR cs ad σ_87) H → va_D A (wR cs ad σ_87) → va_S A s.heap H locs → lv_has ls 5 [(0, .ref (ad 1001)), (1, .int x1_20), (3, .int x3_87)] → W p l e (headSpec wsR_X1_findRobe { frames := 0 + (d + 1), cells := 0, slots := 0, locals := 0 + (d + 1) * 24 }).room s m ([.ref (ad 1001), .int p1, .int p2] : List Value).toArray below meth c H locs 0 0 (MQ below (va_Qi (fun x u => x = q.1 ∧ u = q.2) (posQ D cs ad A) A) ([.ref (ad 1001), .int p1, .int p2] : List Value).toArray s 0 0 A) (F0 m 87 ls [])) (n_20 : Nat) (x3_20 : Int32) (σ_20 : RS) (H : Heap) (locs : List Loc) (ls : Array Slot), FR_X1_findRobe_20 (FR_X1_findRobe d) K_87 x1_20 x2_20 n_20 x3_20 σ_20 = some q → va_P D vwCl (wR cs ad σ_20) H → va_D A (wR cs ad σ_20) → va_S A s.heap H locs → lv_has ls 5 [(0, .ref (ad 1001)), (1, .int x1_20), (2, .int x2_20), (3, .int x3_20)] → W p l e (headSpec wsR_X1_findRobe { frames := 0 + (d + 1), cells := 0, slots := 0, locals := 0 + (d + 1) * 24 }).room s m ([.ref (ad 1001), .int p1, .int p2] : List Value).toArray below meth c H locs 0 0 (MQ below (va_Qi (fun x u => x = q.1 ∧ u = q.2) (posQ D cs ad A) A) ([.ref (ad 1001), .int p1, .int p2] : List Value).toArray s 0 0 A) (F0 m 20 ls []) := by
    intro x1_20 x2_20 K_87 k_87
    intro n_20
    induction n_20 with
    | zero =>
      intro x3_20 σ_20 H locs ls hF hP hD hS hl
      exact absurd hF (by simp [FR_X1_findRobe_20])
    | succ n_20 ih_20 =>
      intro x3_20 σ_20 H locs ls hF hP hD hS hl
      rw [FR_X1_findRobe_20] at hF
      refine lv_iload_n hx hb dX1_findRobe_20 rfl (lv_at hl 3 rfl) ?_
      refine lv_bipush (v := (30 : Int32)) hx hb dX1_findRobe_21 (by decide) ?_
      refine lv_icmp_ge (tgt := 102) hx hb dX1_findRobe_23 (by decide) (fun c_23 => ?_) (fun c_23 => ?_)
      · have hF := ob_t c_23 hF
        refine lv_iconst (v := (0 : Int32)) hx hb dX1_findRobe_102 (by decide) ?_
        exact rxR hx hb hr hlocks rfl hF hK hP hD hS dX1_findRobe_103
      · have hF := ob_f c_23 hF
        refine lv_iconst (v := (1 : Int32)) hx hb dX1_findRobe_26 (by decide) ?_
        refine lv_iload_n hx hb dX1_findRobe_27 rfl (lv_at hl 3 rfl) ?_
        refine lv_ishl hx hb dX1_findRobe_28 ?_
        refine lv_istore (i := 4) (lv' := [(4, .int ((1 : Int32) <<< (x3_20 &&& 31))), (0, .ref (ad 1001)), (1, .int x1_20), (2, .int x2_20), (3, .int x3_20)]) hx hb dX1_findRobe_29 hl (by decide) rfl (fun ls hl => ?_)
        refine lv_aload_n hx hb dX1_findRobe_31 rfl (lv_at hl 1 rfl) ?_
        refine gF hx hb hts hin wo_1 rfl hown hK hP (ob_1 _ _ _) 0 (.ref (ad 100)) (by decide) rf_X1_9 rfl dX1_findRobe_32 ?_
        refine lv_iload_n hx hb dX1_findRobe_35 rfl (lv_at hl 2 rfl) ?_
        obtain ⟨g_36, hF⟩ := ob_gd hF
        refine ldF hx hb hK hP (ra_100 _ _ _) (rA σ_20 100 x1_20.toNatClampNeg) g_36 rfl dX1_findRobe_36 ?_
        refine lv_aload_n hx hb dX1_findRobe_37 rfl (lv_at hl 1 rfl) ?_
        refine gF hx hb hts hin wo_1 rfl hown hK hP (ob_1 _ _ _) 3 (.int (rI σ_20 103)) (by decide) rf_X1_35 rfl dX1_findRobe_38 ?_
        refine lv_iconst (v := (-1 : Int32)) hx hb dX1_findRobe_41 (by decide) ?_
        refine lv_ixor hx hb dX1_findRobe_42 ?_
        refine lv_iand hx hb dX1_findRobe_43 ?_
        refine lv_iload hx hb dX1_findRobe_44 (lv_at hl 0 rfl) ?_
        refine lv_iand hx hb dX1_findRobe_46 ?_
        refine lv_if_eq (tgt := 96) hx hb dX1_findRobe_47 (by decide) (fun c_47 => ?_) (fun c_47 => ?_)
        · have hF := ob_t c_47 hF
          refine lv_iinc (v := x3_20 + (1 : Int32)) (lv' := [(3, .int (x3_20 + (1 : Int32))), (4, .int ((1 : Int32) <<< (x3_20 &&& 31))), (0, .ref (ad 1001)), (1, .int x1_20), (2, .int x2_20)]) hx hb dX1_findRobe_96 hl (k := 4) rfl rfl (by decide) rfl (fun ls hl => ?_)
          refine lv_goto (tgt := 20) hx hb dX1_findRobe_99 (by decide) ?_
          exact ih_20 (x3_20 + (1 : Int32)) σ_20 _ _ _ hF hP hD hS (lv_sub hl [2, 3, 4, 0] rfl)
        · have hF := ob_f c_47 hF
          refine lv_aload_n hx hb dX1_findRobe_50 rfl (lv_at hl 1 rfl) ?_
          refine lv_dup hx hb dX1_findRobe_51 rfl ?_
          refine gF hx hb hts hin wo_1 rfl hown hK hP (ob_1 _ _ _) 3 (.int (rI σ_20 103)) (by decide) rf_X1_35 rfl dX1_findRobe_52 ?_
          refine lv_iload hx hb dX1_findRobe_55 (lv_at hl 0 rfl) ?_
          refine lv_ior hx hb dX1_findRobe_57 ?_
          refine pF (ty := .int) hx hb hts hin wo_1 rfl tyX1 tyX1_ok nmX1 hown hK hP hD hS (ob_1 _ _ _) 3 (by decide) rf_X1_35 rfl (by decide +kernel) rfl rfl (Nat.le_of_ble_eq_true rfl) (rp_103 _ _ _ _) dX1_findRobe_58 (fun H locs hP hD hS => ?_)
          refine lv_aload_n hx hb dX1_findRobe_61 rfl (lv_at hl 1 rfl) ?_
          refine gF hx hb hts hin wo_1 rfl hown hK hP (ob_1 _ _ _) 2 (.ref (ad 102)) (by decide) rf_X1_18 rfl dX1_findRobe_62 ?_
          refine lv_iload_n hx hb dX1_findRobe_65 rfl (lv_at hl 4 rfl) ?_
          obtain ⟨g_66, hF⟩ := ob_gd hF
          refine ldF hx hb hK hP (ra_102 _ _ _) (rA (ri σ_20 103 ((rI σ_20 103) ||| ((1 : Int32) <<< (x3_20 &&& 31)))) 102 x3_20.toNatClampNeg) g_66 rfl dX1_findRobe_66 ?_
          refine lv_iconst (v := (-1 : Int32)) hx hb dX1_findRobe_67 (by decide) ?_
          refine lv_icmp_eq (tgt := 87) hx hb dX1_findRobe_68 (by decide) (fun c_68 => ?_) (fun c_68 => ?_)
          · have hF := ob_t c_68 hF
            exact k_87 x3_20 (ri σ_20 103 ((rI σ_20 103) ||| ((1 : Int32) <<< (x3_20 &&& 31)))) _ _ _ hF hP hD hS (lv_sub hl [1, 2, 4] rfl)
          · have hF := ob_f c_68 hF
            refine lv_aload_n hx hb dX1_findRobe_71 rfl (lv_at hl 1 rfl) ?_
            refine lv_aload_n hx hb dX1_findRobe_72 rfl (lv_at hl 1 rfl) ?_
            refine gF hx hb hts hin wo_1 rfl hown hK hP (ob_1 _ _ _) 2 (.ref (ad 102)) (by decide) rf_X1_18 rfl dX1_findRobe_73 ?_
            refine lv_iload_n hx hb dX1_findRobe_76 rfl (lv_at hl 4 rfl) ?_
            obtain ⟨g_77, hF⟩ := ob_gd hF
            refine ldF hx hb hK hP (ra_102 _ _ _) (rA (ri σ_20 103 ((rI σ_20 103) ||| ((1 : Int32) <<< (x3_20 &&& 31)))) 102 x3_20.toNatClampNeg) g_77 rfl dX1_findRobe_77 ?_
            refine lv_iload_n hx hb dX1_findRobe_78 rfl (lv_at hl 3 rfl) ?_
            refine lv_iconst (v := (1 : Int32)) hx hb dX1_findRobe_79 (by decide) ?_
            refine lv_iadd hx hb dX1_findRobe_80 ?_
            obtain ⟨q_81, e_81, hF⟩ := ob_bd hF
            refine cwR (As := [.int (rA (ri σ_20 103 ((rI σ_20 103) ||| ((1 : Int32) <<< (x3_20 &&& 31)))) 102 x3_20.toNatClampNeg), .int (x2_20 + (1 : Int32))]) (rest := []) ⟨hx, hb, hml, hown, hts⟩ (ih (ri σ_20 103 ((rI σ_20 103) ||| ((1 : Int32) <<< (x3_20 &&& 31)))) (rA (ri σ_20 103 ((rI σ_20 103) ||| ((1 : Int32) <<< (x3_20 &&& 31)))) 102 x3_20.toNatClampNeg) (x2_20 + (1 : Int32)) _ e_81) (cwd_X1_X1_findRobe_39 (R := (headSpec wsR_X1_findRobe { frames := 0 + (d + 1), cells := 0, slots := 0, locals := 0 + (d + 1) * 24 }).room) d hts ⟨by show _ ≤ _ + (d + 1); omega, by show _ ≤ _ + (d + 1) * _; omega⟩) ⟨Nat.zero_le _, Nat.zero_le _⟩ (rcF hK hP (ci := 1) rfl (ob_1 _ _ _)) hK hP hD hS hZ rfl hl.1 rfl (lv_room (Nat.le_of_ble_eq_true rfl)) dX1_findRobe_81 (fun H locs hP hD hS => ?_)
            refine lv_if_eq (tgt := 96) hx hb dX1_findRobe_84 (by decide) (fun c_84 => ?_) (fun c_84 => ?_)
            · have hF := ob_t c_84 hF
              refine lv_iinc (v := x3_20 + (1 : Int32)) (lv' := [(3, .int (x3_20 + (1 : Int32))), (4, .int ((1 : Int32) <<< (x3_20 &&& 31))), (0, .ref (ad 1001)), (1, .int x1_20), (2, .int x2_20)]) hx hb dX1_findRobe_96 hl (k := 4) rfl rfl (by decide) rfl (fun ls hl => ?_)
              refine lv_goto (tgt := 20) hx hb dX1_findRobe_99 (by decide) ?_
              exact ih_20 (x3_20 + (1 : Int32)) q_81.2 _ _ _ hF hP hD hS (lv_sub hl [2, 3, 4, 0] rfl)
            · have hF := ob_f c_84 hF
              exact k_87 x3_20 q_81.2 _ _ _ hF hP hD hS (lv_sub hl [1, 2, 4] rfl)
  have b_87 : ∀ (x1_87 : Int32) (x3_87 : Int32) (σ_87 : RS) (H : Heap) (locs : List Loc) (ls : Array Slot), FR_X1_findRobe_87 (FR_X1_findRobe d) x1_87 x3_87 σ_87 = some q → va_P D vwCl (wR cs ad σ_87) H → va_D A (wR cs ad σ_87) → va_S A s.heap H locs → lv_has ls 5 [(0, .ref (ad 1001)), (1, .int x1_87), (3, .int x3_87)] → W p l e (headSpec wsR_X1_findRobe { frames := 0 + (d + 1), cells := 0, slots := 0, locals := 0 + (d + 1) * 24 }).room s m ([.ref (ad 1001), .int p1, .int p2] : List Value).toArray below meth c H locs 0 0 (MQ below (va_Qi (fun x u => x = q.1 ∧ u = q.2) (posQ D cs ad A) A) ([.ref (ad 1001), .int p1, .int p2] : List Value).toArray s 0 0 A) (F0 m 87 ls []) := by
    intro x1_87 x3_87 σ_87 H locs ls hF hP hD hS hl
    unfold FR_X1_findRobe_87 at hF
    refine lv_aload_n hx hb dX1_findRobe_87 rfl (lv_at hl 0 rfl) ?_
    refine gF hx hb hts hin wo_1 rfl hown hK hP (ob_1 _ _ _) 2 (.ref (ad 102)) (by decide) rf_X1_18 rfl dX1_findRobe_88 ?_
    refine lv_iload_n hx hb dX1_findRobe_91 rfl (lv_at hl 2 rfl) ?_
    refine lv_iload_n hx hb dX1_findRobe_92 rfl (lv_at hl 1 rfl) ?_
    obtain ⟨g_93, hF⟩ := ob_gd hF
    refine stF hx hb hK hP hD hS (ra_102 _ _ _) (rs_102 _ _ _ _ _) g_93 dX1_findRobe_93 (fun H locs hP hD hS => ?_)
    refine lv_iconst (v := (1 : Int32)) hx hb dX1_findRobe_94 (by decide) ?_
    exact rxR hx hb hr hlocks rfl hF hK hP hD hS dX1_findRobe_95
  have hl := lv_entry ([.ref (ad 1001), .int p1, .int p2]) (n := 5) (Nat.le_of_ble_eq_true rfl)
  rw [lg_entry_eq]
  generalize (lg_sl ([.ref (ad 1001), .int p1, .int p2]) ++ List.replicate (5 - (lg_sl ([.ref (ad 1001), .int p1, .int p2])).length) Slot.unset).toArray = ls at hl ⊢
  have hl : lv_has ls 5 [(0, .ref (ad 1001)), (1, .int p1), (2, .int p2)] := hl
  rw [FR_X1_findRobe] at hF
  refine lv_iload_n hx hb dX1_findRobe_0 rfl (lv_at hl 2 rfl) ?_
  refine lv_bipush (v := (10 : Int32)) hx hb dX1_findRobe_1 (by decide) ?_
  refine lv_icmp_ge (tgt := 16) hx hb dX1_findRobe_3 (by decide) (fun c_3 => ?_) (fun c_3 => ?_)
  · have hF := ob_t c_3 hF
    refine lv_iconst (v := (0 : Int32)) hx hb dX1_findRobe_16 (by decide) ?_
    exact rxR hx hb hr hlocks rfl hF hK hP hD hS dX1_findRobe_17
  · have hF := ob_f c_3 hF
    refine lv_iload_n hx hb dX1_findRobe_6 rfl (lv_at hl 1 rfl) ?_
    refine lv_if_lt (tgt := 16) hx hb dX1_findRobe_7 (by decide) (fun c_7 => ?_) (fun c_7 => ?_)
    · have hF := ob_t c_7 hF
      refine lv_iconst (v := (0 : Int32)) hx hb dX1_findRobe_16 (by decide) ?_
      exact rxR hx hb hr hlocks rfl hF hK hP hD hS dX1_findRobe_17
    · have hF := ob_f c_7 hF
      refine lv_iload_n hx hb dX1_findRobe_10 rfl (lv_at hl 1 rfl) ?_
      refine lv_bipush (v := (10 : Int32)) hx hb dX1_findRobe_11 (by decide) ?_
      refine lv_icmp_lt (tgt := 18) hx hb dX1_findRobe_13 (by decide) (fun c_13 => ?_) (fun c_13 => ?_)
      · have hF := ob_t c_13 hF
        refine lv_iconst (v := (0 : Int32)) hx hb dX1_findRobe_18 (by decide) ?_
        refine lv_istore_n (i := 3) (lv' := [(3, .int (0 : Int32)), (0, .ref (ad 1001)), (1, .int p1), (2, .int p2)]) hx hb dX1_findRobe_19 rfl hl (by decide) rfl (fun ls hl => ?_)
        exact b_20 p1 p2 (fun x3_87 σ_87 => FR_X1_findRobe_87 (FR_X1_findRobe d) p1 x3_87 σ_87) (fun x3_87 σ_87 => b_87 p1 x3_87 σ_87) fu (0 : Int32) σ _ _ _ hF hP hD hS (lv_sub hl [1, 2, 3, 0] rfl)
      · have hF := ob_f c_13 hF
        refine lv_iconst (v := (0 : Int32)) hx hb dX1_findRobe_16 (by decide) ?_
        exact rxR hx hb hr hlocks rfl hF hK hP hD hS dX1_findRobe_17
def wsR_X1_mostFrom : List Cond := Cond.code yX1_mostFrom cX1_mostFrom 5 (some .int) :: wRa
theorem cw_X1_X1_findRobe_39 {R : Room} {s : State} {args : Array Value} {y : MethodName} {c : ByteArray} {n : Nat} {r : Option FieldType} (hts : ∀ w ∈ (Cond.code y c n r :: wRa), w.before args s = true) (hR : 12 + 1 ≤ R.frames ∧ 8 + (5 + 11) + 288 ≤ R.locals) : CallW R s args RX1 RX1 39 yX1_findRobe cX1_findRobe 5 (some .boolean) wsR_X1_findRobe { frames := 12, cells := 0, slots := 0, locals := 288 } 0 0 2 := cwV 2 hts (goodV wRa_good rm_X1_39 ri_X1_findRobe rs_X1_findRobe rn_X1 rc_X1_findRobe) rfl rfl rfl (by decide +kernel) hR
theorem cw_X1_J7_fill_701_29 {R : Room} {s : State} {args : Array Value} {y : MethodName} {c : ByteArray} {n : Nat} {r : Option FieldType} (hts : ∀ w ∈ (Cond.code y c n r :: wRa), w.before args s = true) (hR : 0 + 1 ≤ R.frames ∧ 8 + (4 + 11) + 0 ≤ R.locals) : CallB R s args RX1 29 yJ7_fill_53178 cJ7_fill_53178 4 none wsR_fill { frames := 0, cells := 0, slots := 0, locals := 0 } 0 0 2 ∧ (Cond.static yJ7_fill_53178).before args s = true := va_cwS 2 hts (goodS wRa_good rm_X1_29 rt_J7_fill_53178 rn_J7 rc_J7_fill_53178) rfl rfl rfl (by decide +kernel) hR
theorem cw_X1_J7_fill_101_29 {R : Room} {s : State} {args : Array Value} {y : MethodName} {c : ByteArray} {n : Nat} {r : Option FieldType} (hts : ∀ w ∈ (Cond.code y c n r :: wRa), w.before args s = true) (hR : 0 + 1 ≤ R.frames ∧ 8 + (4 + 11) + 0 ≤ R.locals) : CallB R s args RX1 29 yJ7_fill_53178 cJ7_fill_53178 4 none wsR_fill { frames := 0, cells := 0, slots := 0, locals := 0 } 0 0 2 ∧ (Cond.static yJ7_fill_53178).before args s = true := va_cwS 2 hts (goodS wRa_good rm_X1_29 rt_J7_fill_53178 rn_J7 rc_J7_fill_53178) rfl rfl rfl (by decide +kernel) hR
theorem cw_X1_J7_fill_102_29 {R : Room} {s : State} {args : Array Value} {y : MethodName} {c : ByteArray} {n : Nat} {r : Option FieldType} (hts : ∀ w ∈ (Cond.code y c n r :: wRa), w.before args s = true) (hR : 0 + 1 ≤ R.frames ∧ 8 + (4 + 11) + 0 ≤ R.locals) : CallB R s args RX1 29 yJ7_fill_53178 cJ7_fill_53178 4 none wsR_fill { frames := 0, cells := 0, slots := 0, locals := 0 } 0 0 2 ∧ (Cond.static yJ7_fill_53178).before args s = true := va_cwS 2 hts (goodS wRa_good rm_X1_29 rt_J7_fill_53178 rn_J7 rc_J7_fill_53178) rfl rfl rfl (by decide +kernel) hR
def FR_X1_mostFrom_13 (x2_13 : Int32) : Nat → Int32 → Int32 → RS → Option (Int32 × RS)
  | 0, _, _, _ => none
  | n_13 + 1, x3_13, x4_13, σ_13 => (if (10 : Int32) ≤ x4_13 then (some (x3_13, σ_13)) else ((FR_X1_findRobe 12 (ri σ_13 103 x2_13) x4_13 (0 : Int32)).bind fun q_29 => (if q_29.1 = 0 then (FR_X1_mostFrom_13  x2_13 n_13 x3_13 (x4_13 + (1 : Int32)) q_29.2) else (FR_X1_mostFrom_13  x2_13 n_13 (x3_13 + (1 : Int32)) (x4_13 + (1 : Int32)) q_29.2))))
def FR_X1_mostFrom (σ : RS) (p1 : Int32) (p2 : Int32) : Option (Int32 × RS) := ((FR_fill_102 σ (-1 : Int32)).bind fun q_5 => (FR_X1_mostFrom_13 p2 fu (0 : Int32) p1 q_5))
set_option maxHeartbeats 4000000 in
set_option maxRecDepth 100000 in
theorem cR_X1_mostFrom (l : Launch) (D : va_G) (cs : Nat → ClassId) (ad tb : Nat → Nat) (A : Nat → Prop) (σ : RS) (p1 : Int32) (p2 : Int32) (q : (Int32 × RS)) (hF : FR_X1_mostFrom σ p1 p2 = some q) : Met l yX1_mostFrom wsR_X1_mostFrom { frames := 13, cells := 0, slots := 0, locals := 312 } (va_Pc [.ref (ad 1001), .int p1, .int p2] (preQ D cs ad tb A σ)) (va_Qi (fun x u => x = q.1 ∧ u = q.2) (posQ D cs ad A) A) 0 0 A := by
  refine Met.ofW (cc := cX1_mostFrom) (maxL := 5) (ret := (some .int)) (by decide) rfl ?_
  intro p e s m args below meth c s₁ B hml hv
  obtain ⟨rfl, hP, hK, hD, hZ⟩ := hv
  have hx := B.exec
  have hb := B.bytes
  have hr := B.returns
  have hts : ∀ w ∈ (Cond.code yX1_mostFrom cX1_mostFrom 5 (some .int) :: wRa), w.before ([.ref (ad 1001), .int p1, .int p2] : List Value).toArray s = true := atoms_spec (ws := wsR_X1_mostFrom) B.pre
  have hin : ∀ w ∈ wRa, w ∈ (Cond.code yX1_mostFrom cX1_mostFrom 5 (some .int) :: wRa) := fun w hw => List.mem_cons_of_mem _ hw
  have hown : s.vm.findClass RX1 = some m.cls := findClass_of_methodNamed B.named
  have hlocks := B.notSynchronized
  have hS : va_S A s.heap s.heap [] := va_S.rf
  have b_13 : ∀ (x2_13 : Int32) (n_13 : Nat) (x3_13 : Int32) (x4_13 : Int32) (σ_13 : RS) (H : Heap) (locs : List Loc) (ls : Array Slot), FR_X1_mostFrom_13 x2_13 n_13 x3_13 x4_13 σ_13 = some q → va_P D vwCl (wR cs ad σ_13) H → va_D A (wR cs ad σ_13) → va_S A s.heap H locs → lv_has ls 5 [(0, .ref (ad 1001)), (2, .int x2_13), (3, .int x3_13), (4, .int x4_13)] → W p l e (headSpec wsR_X1_mostFrom { frames := 13, cells := 0, slots := 0, locals := 312 }).room s m ([.ref (ad 1001), .int p1, .int p2] : List Value).toArray below meth c H locs 0 0 (MQ below (va_Qi (fun x u => x = q.1 ∧ u = q.2) (posQ D cs ad A) A) ([.ref (ad 1001), .int p1, .int p2] : List Value).toArray s 0 0 A) (F0 m 13 ls []) := by
    intro x2_13
    intro n_13
    induction n_13 with
    | zero =>
      intro x3_13 x4_13 σ_13 H locs ls hF hP hD hS hl
      exact absurd hF (by simp [FR_X1_mostFrom_13])
    | succ n_13 ih_13 =>
      intro x3_13 x4_13 σ_13 H locs ls hF hP hD hS hl
      rw [FR_X1_mostFrom_13] at hF
      refine lv_iload hx hb dX1_mostFrom_13 (lv_at hl 3 rfl) ?_
      refine lv_bipush (v := (10 : Int32)) hx hb dX1_mostFrom_15 (by decide) ?_
      refine lv_icmp_ge (tgt := 44) hx hb dX1_mostFrom_17 (by decide) (fun c_17 => ?_) (fun c_17 => ?_)
      · have hF := ob_t c_17 hF
        refine lv_iload_n hx hb dX1_mostFrom_44 rfl (lv_at hl 2 rfl) ?_
        exact rwR hx hb hr hlocks hF hK hP hD hS dX1_mostFrom_45
      · have hF := ob_f c_17 hF
        refine lv_aload_n hx hb dX1_mostFrom_20 rfl (lv_at hl 0 rfl) ?_
        refine lv_iload_n hx hb dX1_mostFrom_21 rfl (lv_at hl 1 rfl) ?_
        refine pF (ty := .int) hx hb hts hin wo_1 rfl tyX1 tyX1_ok nmX1 hown hK hP hD hS (ob_1 _ _ _) 3 (by decide) rf_X1_35 rfl (by decide +kernel) rfl rfl (Nat.le_of_ble_eq_true rfl) (rp_103 _ _ _ _) dX1_mostFrom_22 (fun H locs hP hD hS => ?_)
        refine lv_aload_n hx hb dX1_mostFrom_25 rfl (lv_at hl 0 rfl) ?_
        refine lv_iload hx hb dX1_mostFrom_26 (lv_at hl 3 rfl) ?_
        refine lv_iconst (v := (0 : Int32)) hx hb dX1_mostFrom_28 (by decide) ?_
        obtain ⟨q_29, e_29, hF⟩ := ob_bd hF
        refine cwR (As := [.int x4_13, .int (0 : Int32)]) (rest := []) ⟨hx, hb, hml, hown, hts⟩ (cR_X1_findRobe l D cs ad tb A 12 (ri σ_13 103 x2_13) x4_13 (0 : Int32) _ e_29) (cw_X1_X1_findRobe_39 hts ⟨Nat.le_of_ble_eq_true rfl, Nat.le_of_ble_eq_true rfl⟩) ⟨Nat.zero_le _, Nat.zero_le _⟩ (rcF hK hP (ci := 1) rfl (ob_1 _ _ _)) hK hP hD hS hZ rfl hl.1 rfl (lv_room (Nat.le_of_ble_eq_true rfl)) dX1_mostFrom_29 (fun H locs hP hD hS => ?_)
        refine lv_if_eq (tgt := 38) hx hb dX1_mostFrom_32 (by decide) (fun c_32 => ?_) (fun c_32 => ?_)
        · have hF := ob_t c_32 hF
          refine lv_iinc (v := x4_13 + (1 : Int32)) (lv' := [(4, .int (x4_13 + (1 : Int32))), (0, .ref (ad 1001)), (2, .int x2_13), (3, .int x3_13)]) hx hb dX1_mostFrom_38 hl (k := 3) rfl rfl (by decide) rfl (fun ls hl => ?_)
          refine lv_goto (tgt := 13) hx hb dX1_mostFrom_41 (by decide) ?_
          exact ih_13 x3_13 (x4_13 + (1 : Int32)) q_29.2 _ _ _ hF hP hD hS (lv_sub hl [1, 2, 3, 0] rfl)
        · have hF := ob_f c_32 hF
          refine lv_iinc (v := x3_13 + (1 : Int32)) (lv' := [(3, .int (x3_13 + (1 : Int32))), (0, .ref (ad 1001)), (2, .int x2_13), (4, .int x4_13)]) hx hb dX1_mostFrom_35 hl (k := 2) rfl rfl (by decide) rfl (fun ls hl => ?_)
          refine lv_iinc (v := x4_13 + (1 : Int32)) (lv' := [(4, .int (x4_13 + (1 : Int32))), (3, .int (x3_13 + (1 : Int32))), (0, .ref (ad 1001)), (2, .int x2_13)]) hx hb dX1_mostFrom_38 hl (k := 3) rfl rfl (by decide) rfl (fun ls hl => ?_)
          refine lv_goto (tgt := 13) hx hb dX1_mostFrom_41 (by decide) ?_
          exact ih_13 (x3_13 + (1 : Int32)) (x4_13 + (1 : Int32)) q_29.2 _ _ _ hF hP hD hS (lv_sub hl [2, 3, 1, 0] rfl)
  have hl := lv_entry ([.ref (ad 1001), .int p1, .int p2]) (n := 5) (Nat.le_of_ble_eq_true rfl)
  rw [lg_entry_eq]
  generalize (lg_sl ([.ref (ad 1001), .int p1, .int p2]) ++ List.replicate (5 - (lg_sl ([.ref (ad 1001), .int p1, .int p2])).length) Slot.unset).toArray = ls at hl ⊢
  have hl : lv_has ls 5 [(0, .ref (ad 1001)), (1, .int p1), (2, .int p2)] := hl
  unfold FR_X1_mostFrom at hF
  refine lv_aload_n hx hb dX1_mostFrom_0 rfl (lv_at hl 0 rfl) ?_
  refine gF hx hb hts hin wo_1 rfl hown hK hP (ob_1 _ _ _) 2 (.ref (ad 102)) (by decide) rf_X1_18 rfl dX1_mostFrom_1 ?_
  refine lv_iconst (v := (-1 : Int32)) hx hb dX1_mostFrom_4 (by decide) ?_
  obtain ⟨q_5, e_5, hF⟩ := ob_bd hF
  refine cuR (As := [.ref (ad 102), .int (-1 : Int32)]) (rest := []) ⟨hx, hb, hml, hown, hts⟩ (cR_fill_102 l D cs ad tb A σ (-1 : Int32) _ e_5) (cw_X1_J7_fill_102_29 hts ⟨Nat.le_of_ble_eq_true rfl, Nat.le_of_ble_eq_true rfl⟩) ⟨Nat.zero_le _, Nat.zero_le _⟩ hK hP hD hS hZ rfl hl.1 rfl (lv_room (Nat.le_of_ble_eq_true rfl)) dX1_mostFrom_5 (fun H locs hP hD hS => ?_)
  refine lv_iconst (v := (0 : Int32)) hx hb dX1_mostFrom_8 (by decide) ?_
  refine lv_istore_n (i := 3) (lv' := [(3, .int (0 : Int32)), (0, .ref (ad 1001)), (1, .int p1), (2, .int p2)]) hx hb dX1_mostFrom_9 rfl hl (by decide) rfl (fun ls hl => ?_)
  refine lv_iload_n hx hb dX1_mostFrom_10 rfl (lv_at hl 2 rfl) ?_
  refine lv_istore (i := 4) (lv' := [(4, .int p1), (3, .int (0 : Int32)), (0, .ref (ad 1001)), (1, .int p1), (2, .int p2)]) hx hb dX1_mostFrom_11 hl (by decide) rfl (fun ls hl => ?_)
  exact b_13 p2 fu (0 : Int32) p1 q_5 _ _ _ hF hP hD hS (lv_sub hl [2, 4, 1, 0] rfl)
def wsR_X1_leastRobeFor : List Cond := Cond.code yX1_leastRobeFor cX1_leastRobeFor 6 (some .int) :: wRa
theorem cw_X1_X1_mostFrom_21 {R : Room} {s : State} {args : Array Value} {y : MethodName} {c : ByteArray} {n : Nat} {r : Option FieldType} (hts : ∀ w ∈ (Cond.code y c n r :: wRa), w.before args s = true) (hR : 13 + 1 ≤ R.frames ∧ 8 + (5 + 11) + 312 ≤ R.locals) : CallW R s args RX1 RX1 21 yX1_mostFrom cX1_mostFrom 5 (some .int) wsR_X1_mostFrom { frames := 13, cells := 0, slots := 0, locals := 312 } 0 0 2 := cwV 2 hts (goodV wRa_good rm_X1_21 ri_X1_mostFrom rs_X1_mostFrom rn_X1 rc_X1_mostFrom) rfl rfl rfl (by decide +kernel) hR
def FR_X1_leastRobeFor_3 (x1_3 : Int32) (x2_3 : Int32) (x3_3 : Int32) : Nat → Int32 → RS → Option (Int32 × RS)
  | 0, _, _ => none
  | n_3 + 1, x4_3, σ_3 => (if (30 : Int32) ≤ x4_3 then (some ((-1 : Int32), σ_3)) else (if x3_3 ≤ 0 then (some ((-1 : Int32), σ_3)) else (gd (inb x1_3 10) (if (((rA σ_3 100 x1_3.toNatClampNeg) &&& (x2_3 ^^^ (-1 : Int32))) &&& ((1 : Int32) <<< (x4_3 &&& 31))) = 0 then (FR_X1_leastRobeFor_3  x1_3 x2_3 x3_3 n_3 (x4_3 + (1 : Int32)) σ_3) else ((FR_X1_mostFrom σ_3 (x1_3 + (1 : Int32)) (x2_3 ||| ((1 : Int32) <<< (x4_3 &&& 31)))).bind fun q_44 => (if q_44.1 = (x3_3 - (1 : Int32)) then (some (x4_3, q_44.2)) else (FR_X1_leastRobeFor_3  x1_3 x2_3 x3_3 n_3 (x4_3 + (1 : Int32)) q_44.2)))))))
def FR_X1_leastRobeFor (σ : RS) (p1 : Int32) (p2 : Int32) (p3 : Int32) : Option (Int32 × RS) := (FR_X1_leastRobeFor_3 p1 p2 p3 fu (0 : Int32) σ)
set_option maxHeartbeats 4000000 in
set_option maxRecDepth 100000 in
theorem cR_X1_leastRobeFor (l : Launch) (D : va_G) (cs : Nat → ClassId) (ad tb : Nat → Nat) (A : Nat → Prop) (σ : RS) (p1 : Int32) (p2 : Int32) (p3 : Int32) (q : (Int32 × RS)) (hF : FR_X1_leastRobeFor σ p1 p2 p3 = some q) : Met l yX1_leastRobeFor wsR_X1_leastRobeFor { frames := 14, cells := 0, slots := 0, locals := 336 } (va_Pc [.ref (ad 1001), .int p1, .int p2, .int p3] (preQ D cs ad tb A σ)) (va_Qi (fun x u => x = q.1 ∧ u = q.2) (posQ D cs ad A) A) 0 0 A := by
  refine Met.ofW (cc := cX1_leastRobeFor) (maxL := 6) (ret := (some .int)) (by decide) rfl ?_
  intro p e s m args below meth c s₁ B hml hv
  obtain ⟨rfl, hP, hK, hD, hZ⟩ := hv
  have hx := B.exec
  have hb := B.bytes
  have hr := B.returns
  have hts : ∀ w ∈ (Cond.code yX1_leastRobeFor cX1_leastRobeFor 6 (some .int) :: wRa), w.before ([.ref (ad 1001), .int p1, .int p2, .int p3] : List Value).toArray s = true := atoms_spec (ws := wsR_X1_leastRobeFor) B.pre
  have hin : ∀ w ∈ wRa, w ∈ (Cond.code yX1_leastRobeFor cX1_leastRobeFor 6 (some .int) :: wRa) := fun w hw => List.mem_cons_of_mem _ hw
  have hown : s.vm.findClass RX1 = some m.cls := findClass_of_methodNamed B.named
  have hlocks := B.notSynchronized
  have hS : va_S A s.heap s.heap [] := va_S.rf
  have b_3 : ∀ (x1_3 : Int32) (x2_3 : Int32) (x3_3 : Int32) (n_3 : Nat) (x4_3 : Int32) (σ_3 : RS) (H : Heap) (locs : List Loc) (ls : Array Slot), FR_X1_leastRobeFor_3 x1_3 x2_3 x3_3 n_3 x4_3 σ_3 = some q → va_P D vwCl (wR cs ad σ_3) H → va_D A (wR cs ad σ_3) → va_S A s.heap H locs → lv_has ls 6 [(0, .ref (ad 1001)), (1, .int x1_3), (2, .int x2_3), (3, .int x3_3), (4, .int x4_3)] → W p l e (headSpec wsR_X1_leastRobeFor { frames := 14, cells := 0, slots := 0, locals := 336 }).room s m ([.ref (ad 1001), .int p1, .int p2, .int p3] : List Value).toArray below meth c H locs 0 0 (MQ below (va_Qi (fun x u => x = q.1 ∧ u = q.2) (posQ D cs ad A) A) ([.ref (ad 1001), .int p1, .int p2, .int p3] : List Value).toArray s 0 0 A) (F0 m 3 ls []) := by
    intro x1_3 x2_3 x3_3
    intro n_3
    induction n_3 with
    | zero =>
      intro x4_3 σ_3 H locs ls hF hP hD hS hl
      exact absurd hF (by simp [FR_X1_leastRobeFor_3])
    | succ n_3 ih_3 =>
      intro x4_3 σ_3 H locs ls hF hP hD hS hl
      rw [FR_X1_leastRobeFor_3] at hF
      refine lv_iload hx hb dX1_leastRobeFor_3 (lv_at hl 4 rfl) ?_
      refine lv_bipush (v := (30 : Int32)) hx hb dX1_leastRobeFor_5 (by decide) ?_
      refine lv_icmp_ge (tgt := 62) hx hb dX1_leastRobeFor_7 (by decide) (fun c_7 => ?_) (fun c_7 => ?_)
      · have hF := ob_t c_7 hF
        refine lv_iconst (v := (-1 : Int32)) hx hb dX1_leastRobeFor_62 (by decide) ?_
        exact rwR hx hb hr hlocks hF hK hP hD hS dX1_leastRobeFor_63
      · have hF := ob_f c_7 hF
        refine lv_iload_n hx hb dX1_leastRobeFor_10 rfl (lv_at hl 3 rfl) ?_
        refine lv_if_le (tgt := 62) hx hb dX1_leastRobeFor_11 (by decide) (fun c_11 => ?_) (fun c_11 => ?_)
        · have hF := ob_t c_11 hF
          refine lv_iconst (v := (-1 : Int32)) hx hb dX1_leastRobeFor_62 (by decide) ?_
          exact rwR hx hb hr hlocks hF hK hP hD hS dX1_leastRobeFor_63
        · have hF := ob_f c_11 hF
          refine lv_iconst (v := (1 : Int32)) hx hb dX1_leastRobeFor_14 (by decide) ?_
          refine lv_iload hx hb dX1_leastRobeFor_15 (lv_at hl 4 rfl) ?_
          refine lv_ishl hx hb dX1_leastRobeFor_17 ?_
          refine lv_istore (i := 5) (lv' := [(5, .int ((1 : Int32) <<< (x4_3 &&& 31))), (0, .ref (ad 1001)), (1, .int x1_3), (2, .int x2_3), (3, .int x3_3), (4, .int x4_3)]) hx hb dX1_leastRobeFor_18 hl (by decide) rfl (fun ls hl => ?_)
          refine lv_aload_n hx hb dX1_leastRobeFor_20 rfl (lv_at hl 1 rfl) ?_
          refine gF hx hb hts hin wo_1 rfl hown hK hP (ob_1 _ _ _) 0 (.ref (ad 100)) (by decide) rf_X1_9 rfl dX1_leastRobeFor_21 ?_
          refine lv_iload_n hx hb dX1_leastRobeFor_24 rfl (lv_at hl 2 rfl) ?_
          obtain ⟨g_25, hF⟩ := ob_gd hF
          refine ldF hx hb hK hP (ra_100 _ _ _) (rA σ_3 100 x1_3.toNatClampNeg) g_25 rfl dX1_leastRobeFor_25 ?_
          refine lv_iload_n hx hb dX1_leastRobeFor_26 rfl (lv_at hl 3 rfl) ?_
          refine lv_iconst (v := (-1 : Int32)) hx hb dX1_leastRobeFor_27 (by decide) ?_
          refine lv_ixor hx hb dX1_leastRobeFor_28 ?_
          refine lv_iand hx hb dX1_leastRobeFor_29 ?_
          refine lv_iload hx hb dX1_leastRobeFor_30 (lv_at hl 0 rfl) ?_
          refine lv_iand hx hb dX1_leastRobeFor_32 ?_
          refine lv_if_eq (tgt := 56) hx hb dX1_leastRobeFor_33 (by decide) (fun c_33 => ?_) (fun c_33 => ?_)
          · have hF := ob_t c_33 hF
            refine lv_iinc (v := x4_3 + (1 : Int32)) (lv' := [(4, .int (x4_3 + (1 : Int32))), (5, .int ((1 : Int32) <<< (x4_3 &&& 31))), (0, .ref (ad 1001)), (1, .int x1_3), (2, .int x2_3), (3, .int x3_3)]) hx hb dX1_leastRobeFor_56 hl (k := 5) rfl rfl (by decide) rfl (fun ls hl => ?_)
            refine lv_goto (tgt := 3) hx hb dX1_leastRobeFor_59 (by decide) ?_
            exact ih_3 (x4_3 + (1 : Int32)) σ_3 _ _ _ hF hP hD hS (lv_sub hl [2, 3, 4, 5, 0] rfl)
          · have hF := ob_f c_33 hF
            refine lv_aload_n hx hb dX1_leastRobeFor_36 rfl (lv_at hl 1 rfl) ?_
            refine lv_iload_n hx hb dX1_leastRobeFor_37 rfl (lv_at hl 2 rfl) ?_
            refine lv_iconst (v := (1 : Int32)) hx hb dX1_leastRobeFor_38 (by decide) ?_
            refine lv_iadd hx hb dX1_leastRobeFor_39 ?_
            refine lv_iload_n hx hb dX1_leastRobeFor_40 rfl (lv_at hl 3 rfl) ?_
            refine lv_iload hx hb dX1_leastRobeFor_41 (lv_at hl 0 rfl) ?_
            refine lv_ior hx hb dX1_leastRobeFor_43 ?_
            obtain ⟨q_44, e_44, hF⟩ := ob_bd hF
            refine cwR (As := [.int (x1_3 + (1 : Int32)), .int (x2_3 ||| ((1 : Int32) <<< (x4_3 &&& 31)))]) (rest := []) ⟨hx, hb, hml, hown, hts⟩ (cR_X1_mostFrom l D cs ad tb A σ_3 (x1_3 + (1 : Int32)) (x2_3 ||| ((1 : Int32) <<< (x4_3 &&& 31))) _ e_44) (cw_X1_X1_mostFrom_21 hts ⟨Nat.le_of_ble_eq_true rfl, Nat.le_of_ble_eq_true rfl⟩) ⟨Nat.zero_le _, Nat.zero_le _⟩ (rcF hK hP (ci := 1) rfl (ob_1 _ _ _)) hK hP hD hS hZ rfl hl.1 rfl (lv_room (Nat.le_of_ble_eq_true rfl)) dX1_leastRobeFor_44 (fun H locs hP hD hS => ?_)
            refine lv_iload_n hx hb dX1_leastRobeFor_47 rfl (lv_at hl 4 rfl) ?_
            refine lv_iconst (v := (1 : Int32)) hx hb dX1_leastRobeFor_48 (by decide) ?_
            refine lv_isub hx hb dX1_leastRobeFor_49 ?_
            refine lv_icmp_ne (tgt := 56) hx hb dX1_leastRobeFor_50 (by decide) (fun c_50 => ?_) (fun c_50 => ?_)
            · have hF := ob_f c_50 hF
              refine lv_iinc (v := x4_3 + (1 : Int32)) (lv' := [(4, .int (x4_3 + (1 : Int32))), (5, .int ((1 : Int32) <<< (x4_3 &&& 31))), (0, .ref (ad 1001)), (1, .int x1_3), (2, .int x2_3), (3, .int x3_3)]) hx hb dX1_leastRobeFor_56 hl (k := 5) rfl rfl (by decide) rfl (fun ls hl => ?_)
              refine lv_goto (tgt := 3) hx hb dX1_leastRobeFor_59 (by decide) ?_
              exact ih_3 (x4_3 + (1 : Int32)) q_44.2 _ _ _ hF hP hD hS (lv_sub hl [2, 3, 4, 5, 0] rfl)
            · have hF := ob_t c_50 hF
              refine lv_iload hx hb dX1_leastRobeFor_53 (lv_at hl 5 rfl) ?_
              exact rwR hx hb hr hlocks hF hK hP hD hS dX1_leastRobeFor_55
  have hl := lv_entry ([.ref (ad 1001), .int p1, .int p2, .int p3]) (n := 6) (Nat.le_of_ble_eq_true rfl)
  rw [lg_entry_eq]
  generalize (lg_sl ([.ref (ad 1001), .int p1, .int p2, .int p3]) ++ List.replicate (6 - (lg_sl ([.ref (ad 1001), .int p1, .int p2, .int p3])).length) Slot.unset).toArray = ls at hl ⊢
  have hl : lv_has ls 6 [(0, .ref (ad 1001)), (1, .int p1), (2, .int p2), (3, .int p3)] := hl
  unfold FR_X1_leastRobeFor at hF
  refine lv_iconst (v := (0 : Int32)) hx hb dX1_leastRobeFor_0 (by decide) ?_
  refine lv_istore (i := 4) (lv' := [(4, .int (0 : Int32)), (0, .ref (ad 1001)), (1, .int p1), (2, .int p2), (3, .int p3)]) hx hb dX1_leastRobeFor_1 hl (by decide) rfl (fun ls hl => ?_)
  exact b_3 p1 p2 p3 fu (0 : Int32) σ _ _ _ hF hP hD hS (lv_sub hl [1, 2, 3, 4, 0] rfl)
def wsR_X1_share : List Cond := Cond.code yX1_share cX1_share 5 (some .int) :: wRa
theorem cw_X1_X1_leastRobeFor_25 {R : Room} {s : State} {args : Array Value} {y : MethodName} {c : ByteArray} {n : Nat} {r : Option FieldType} (hts : ∀ w ∈ (Cond.code y c n r :: wRa), w.before args s = true) (hR : 14 + 1 ≤ R.frames ∧ 8 + (6 + 11) + 336 ≤ R.locals) : CallW R s args RX1 RX1 25 yX1_leastRobeFor cX1_leastRobeFor 6 (some .int) wsR_X1_leastRobeFor { frames := 14, cells := 0, slots := 0, locals := 336 } 0 0 3 := cwV 3 hts (goodV wRa_good rm_X1_25 ri_X1_leastRobeFor rs_X1_leastRobeFor rn_X1 rc_X1_leastRobeFor) rfl rfl rfl (by decide +kernel) hR
def FR_X1_share_14 (x1_14 : Int32) : Nat → Int32 → Int32 → Int32 → RS → Option (Int32 × RS)
  | 0, _, _, _, _ => none
  | n_14 + 1, x2_14, x3_14, x4_14, σ_14 => (if (10 : Int32) ≤ x4_14 then (some (x1_14, σ_14)) else ((FR_X1_leastRobeFor σ_14 x4_14 x3_14 x2_14).bind fun q_32 => (gd (inb x4_14 10) (gd (inb x4_14 10) (if (rA (ra q_32.2 101 x4_14 q_32.1) 101 x4_14.toNatClampNeg) = (-1 : Int32) then (FR_X1_share_14  x1_14 n_14 x2_14 x3_14 (x4_14 + (1 : Int32)) (ra q_32.2 101 x4_14 q_32.1)) else (gd (inb x4_14 10) (FR_X1_share_14  x1_14 n_14 (x2_14 + (-1 : Int32)) (x3_14 ||| ((1 : Int32) <<< ((rA (ra q_32.2 101 x4_14 q_32.1) 101 x4_14.toNatClampNeg) &&& 31))) (x4_14 + (1 : Int32)) (ra q_32.2 101 x4_14 q_32.1))))))))
def FR_X1_share (σ : RS) : Option (Int32 × RS) := ((FR_X1_mostFrom σ (0 : Int32) (0 : Int32)).bind fun q_3 => (FR_X1_share_14 q_3.1 fu q_3.1 (0 : Int32) (0 : Int32) q_3.2))
set_option maxHeartbeats 4000000 in
set_option maxRecDepth 100000 in
theorem cR_X1_share (l : Launch) (D : va_G) (cs : Nat → ClassId) (ad tb : Nat → Nat) (A : Nat → Prop) (σ : RS) (q : (Int32 × RS)) (hF : FR_X1_share σ = some q) : Met l yX1_share wsR_X1_share { frames := 15, cells := 0, slots := 0, locals := 361 } (va_Pc [.ref (ad 1001)] (preQ D cs ad tb A σ)) (va_Qi (fun x u => x = q.1 ∧ u = q.2) (posQ D cs ad A) A) 0 0 A := by
  refine Met.ofW (cc := cX1_share) (maxL := 5) (ret := (some .int)) (by decide) rfl ?_
  intro p e s m args below meth c s₁ B hml hv
  obtain ⟨rfl, hP, hK, hD, hZ⟩ := hv
  have hx := B.exec
  have hb := B.bytes
  have hr := B.returns
  have hts : ∀ w ∈ (Cond.code yX1_share cX1_share 5 (some .int) :: wRa), w.before ([.ref (ad 1001)] : List Value).toArray s = true := atoms_spec (ws := wsR_X1_share) B.pre
  have hin : ∀ w ∈ wRa, w ∈ (Cond.code yX1_share cX1_share 5 (some .int) :: wRa) := fun w hw => List.mem_cons_of_mem _ hw
  have hown : s.vm.findClass RX1 = some m.cls := findClass_of_methodNamed B.named
  have hlocks := B.notSynchronized
  have hS : va_S A s.heap s.heap [] := va_S.rf
  have b_14 : ∀ (x1_14 : Int32) (n_14 : Nat) (x2_14 : Int32) (x3_14 : Int32) (x4_14 : Int32) (σ_14 : RS) (H : Heap) (locs : List Loc) (ls : Array Slot), FR_X1_share_14 x1_14 n_14 x2_14 x3_14 x4_14 σ_14 = some q → va_P D vwCl (wR cs ad σ_14) H → va_D A (wR cs ad σ_14) → va_S A s.heap H locs → lv_has ls 5 [(0, .ref (ad 1001)), (1, .int x1_14), (2, .int x2_14), (3, .int x3_14), (4, .int x4_14)] → W p l e (headSpec wsR_X1_share { frames := 15, cells := 0, slots := 0, locals := 361 }).room s m ([.ref (ad 1001)] : List Value).toArray below meth c H locs 0 0 (MQ below (va_Qi (fun x u => x = q.1 ∧ u = q.2) (posQ D cs ad A) A) ([.ref (ad 1001)] : List Value).toArray s 0 0 A) (F0 m 14 ls []) := by
    intro x1_14
    intro n_14
    induction n_14 with
    | zero =>
      intro x2_14 x3_14 x4_14 σ_14 H locs ls hF hP hD hS hl
      exact absurd hF (by simp [FR_X1_share_14])
    | succ n_14 ih_14 =>
      intro x2_14 x3_14 x4_14 σ_14 H locs ls hF hP hD hS hl
      rw [FR_X1_share_14] at hF
      refine lv_iload hx hb dX1_share_14 (lv_at hl 4 rfl) ?_
      refine lv_bipush (v := (10 : Int32)) hx hb dX1_share_16 (by decide) ?_
      refine lv_icmp_ge (tgt := 68) hx hb dX1_share_18 (by decide) (fun c_18 => ?_) (fun c_18 => ?_)
      · have hF := ob_t c_18 hF
        refine lv_iload_n hx hb dX1_share_68 rfl (lv_at hl 1 rfl) ?_
        exact rwR hx hb hr hlocks hF hK hP hD hS dX1_share_69
      · have hF := ob_f c_18 hF
        refine lv_aload_n hx hb dX1_share_21 rfl (lv_at hl 0 rfl) ?_
        refine gF hx hb hts hin wo_1 rfl hown hK hP (ob_1 _ _ _) 1 (.ref (ad 101)) (by decide) rf_X1_15 rfl dX1_share_22 ?_
        refine lv_iload hx hb dX1_share_25 (lv_at hl 4 rfl) ?_
        refine lv_aload_n hx hb dX1_share_27 rfl (lv_at hl 0 rfl) ?_
        refine lv_iload hx hb dX1_share_28 (lv_at hl 4 rfl) ?_
        refine lv_iload_n hx hb dX1_share_30 rfl (lv_at hl 3 rfl) ?_
        refine lv_iload_n hx hb dX1_share_31 rfl (lv_at hl 2 rfl) ?_
        obtain ⟨q_32, e_32, hF⟩ := ob_bd hF
        refine cwR (As := [.int x4_14, .int x3_14, .int x2_14]) (rest := [.int x4_14, .ref (ad 101)]) ⟨hx, hb, hml, hown, hts⟩ (cR_X1_leastRobeFor l D cs ad tb A σ_14 x4_14 x3_14 x2_14 _ e_32) (cw_X1_X1_leastRobeFor_25 hts ⟨Nat.le_of_ble_eq_true rfl, Nat.le_of_ble_eq_true rfl⟩) ⟨Nat.zero_le _, Nat.zero_le _⟩ (rcF hK hP (ci := 1) rfl (ob_1 _ _ _)) hK hP hD hS hZ rfl hl.1 rfl (lv_room (Nat.le_of_ble_eq_true rfl)) dX1_share_32 (fun H locs hP hD hS => ?_)
        obtain ⟨g_35, hF⟩ := ob_gd hF
        refine stF hx hb hK hP hD hS (ra_101 _ _ _) (rs_101 _ _ _ _ _) g_35 dX1_share_35 (fun H locs hP hD hS => ?_)
        refine lv_aload_n hx hb dX1_share_36 rfl (lv_at hl 0 rfl) ?_
        refine gF hx hb hts hin wo_1 rfl hown hK hP (ob_1 _ _ _) 1 (.ref (ad 101)) (by decide) rf_X1_15 rfl dX1_share_37 ?_
        refine lv_iload hx hb dX1_share_40 (lv_at hl 4 rfl) ?_
        obtain ⟨g_42, hF⟩ := ob_gd hF
        refine ldF hx hb hK hP (ra_101 _ _ _) (rA (ra q_32.2 101 x4_14 q_32.1) 101 x4_14.toNatClampNeg) g_42 rfl dX1_share_42 ?_
        refine lv_iconst (v := (-1 : Int32)) hx hb dX1_share_43 (by decide) ?_
        refine lv_icmp_eq (tgt := 62) hx hb dX1_share_44 (by decide) (fun c_44 => ?_) (fun c_44 => ?_)
        · have hF := ob_t c_44 hF
          refine lv_iinc (v := x4_14 + (1 : Int32)) (lv' := [(4, .int (x4_14 + (1 : Int32))), (0, .ref (ad 1001)), (1, .int x1_14), (2, .int x2_14), (3, .int x3_14)]) hx hb dX1_share_62 hl (k := 4) rfl rfl (by decide) rfl (fun ls hl => ?_)
          refine lv_goto (tgt := 14) hx hb dX1_share_65 (by decide) ?_
          exact ih_14 x2_14 x3_14 (x4_14 + (1 : Int32)) (ra q_32.2 101 x4_14 q_32.1) _ _ _ hF hP hD hS (lv_sub hl [1, 2, 3, 4, 0] rfl)
        · have hF := ob_f c_44 hF
          refine lv_iload_n hx hb dX1_share_47 rfl (lv_at hl 3 rfl) ?_
          refine lv_iconst (v := (1 : Int32)) hx hb dX1_share_48 (by decide) ?_
          refine lv_aload_n hx hb dX1_share_49 rfl (lv_at hl 0 rfl) ?_
          refine gF hx hb hts hin wo_1 rfl hown hK hP (ob_1 _ _ _) 1 (.ref (ad 101)) (by decide) rf_X1_15 rfl dX1_share_50 ?_
          refine lv_iload hx hb dX1_share_53 (lv_at hl 4 rfl) ?_
          obtain ⟨g_55, hF⟩ := ob_gd hF
          refine ldF hx hb hK hP (ra_101 _ _ _) (rA (ra q_32.2 101 x4_14 q_32.1) 101 x4_14.toNatClampNeg) g_55 rfl dX1_share_55 ?_
          refine lv_ishl hx hb dX1_share_56 ?_
          refine lv_ior hx hb dX1_share_57 ?_
          refine lv_istore_n (i := 3) (lv' := [(3, .int (x3_14 ||| ((1 : Int32) <<< ((rA (ra q_32.2 101 x4_14 q_32.1) 101 x4_14.toNatClampNeg) &&& 31)))), (0, .ref (ad 1001)), (1, .int x1_14), (2, .int x2_14), (4, .int x4_14)]) hx hb dX1_share_58 rfl hl (by decide) rfl (fun ls hl => ?_)
          refine lv_iinc (v := x2_14 + (-1 : Int32)) (lv' := [(2, .int (x2_14 + (-1 : Int32))), (3, .int (x3_14 ||| ((1 : Int32) <<< ((rA (ra q_32.2 101 x4_14 q_32.1) 101 x4_14.toNatClampNeg) &&& 31)))), (0, .ref (ad 1001)), (1, .int x1_14), (4, .int x4_14)]) hx hb dX1_share_59 hl (k := 3) rfl rfl (by decide) rfl (fun ls hl => ?_)
          refine lv_iinc (v := x4_14 + (1 : Int32)) (lv' := [(4, .int (x4_14 + (1 : Int32))), (2, .int (x2_14 + (-1 : Int32))), (3, .int (x3_14 ||| ((1 : Int32) <<< ((rA (ra q_32.2 101 x4_14 q_32.1) 101 x4_14.toNatClampNeg) &&& 31)))), (0, .ref (ad 1001)), (1, .int x1_14)]) hx hb dX1_share_62 hl (k := 4) rfl rfl (by decide) rfl (fun ls hl => ?_)
          refine lv_goto (tgt := 14) hx hb dX1_share_65 (by decide) ?_
          exact ih_14 (x2_14 + (-1 : Int32)) (x3_14 ||| ((1 : Int32) <<< ((rA (ra q_32.2 101 x4_14 q_32.1) 101 x4_14.toNatClampNeg) &&& 31))) (x4_14 + (1 : Int32)) (ra q_32.2 101 x4_14 q_32.1) _ _ _ hF hP hD hS (lv_sub hl [3, 4, 1, 2, 0] rfl)
  have hl := lv_entry ([.ref (ad 1001)]) (n := 5) (Nat.le_of_ble_eq_true rfl)
  rw [lg_entry_eq]
  generalize (lg_sl ([.ref (ad 1001)]) ++ List.replicate (5 - (lg_sl ([.ref (ad 1001)])).length) Slot.unset).toArray = ls at hl ⊢
  have hl : lv_has ls 5 [(0, .ref (ad 1001))] := hl
  unfold FR_X1_share at hF
  refine lv_aload_n hx hb dX1_share_0 rfl (lv_at hl 0 rfl) ?_
  refine lv_iconst (v := (0 : Int32)) hx hb dX1_share_1 (by decide) ?_
  refine lv_iconst (v := (0 : Int32)) hx hb dX1_share_2 (by decide) ?_
  obtain ⟨q_3, e_3, hF⟩ := ob_bd hF
  refine cwR (As := [.int (0 : Int32), .int (0 : Int32)]) (rest := []) ⟨hx, hb, hml, hown, hts⟩ (cR_X1_mostFrom l D cs ad tb A σ (0 : Int32) (0 : Int32) _ e_3) (cw_X1_X1_mostFrom_21 hts ⟨Nat.le_of_ble_eq_true rfl, Nat.le_of_ble_eq_true rfl⟩) ⟨Nat.zero_le _, Nat.zero_le _⟩ (rcF hK hP (ci := 1) rfl (ob_1 _ _ _)) hK hP hD hS hZ rfl hl.1 rfl (lv_room (Nat.le_of_ble_eq_true rfl)) dX1_share_3 (fun H locs hP hD hS => ?_)
  refine lv_istore_n (i := 1) (lv' := [(1, .int q_3.1), (0, .ref (ad 1001))]) hx hb dX1_share_6 rfl hl (by decide) rfl (fun ls hl => ?_)
  refine lv_iload_n hx hb dX1_share_7 rfl (lv_at hl 0 rfl) ?_
  refine lv_istore_n (i := 2) (lv' := [(2, .int q_3.1), (1, .int q_3.1), (0, .ref (ad 1001))]) hx hb dX1_share_8 rfl hl (by decide) rfl (fun ls hl => ?_)
  refine lv_iconst (v := (0 : Int32)) hx hb dX1_share_9 (by decide) ?_
  refine lv_istore_n (i := 3) (lv' := [(3, .int (0 : Int32)), (2, .int q_3.1), (1, .int q_3.1), (0, .ref (ad 1001))]) hx hb dX1_share_10 rfl hl (by decide) rfl (fun ls hl => ?_)
  refine lv_iconst (v := (0 : Int32)) hx hb dX1_share_11 (by decide) ?_
  refine lv_istore (i := 4) (lv' := [(4, .int (0 : Int32)), (3, .int (0 : Int32)), (2, .int q_3.1), (1, .int q_3.1), (0, .ref (ad 1001))]) hx hb dX1_share_12 hl (by decide) rfl (fun ls hl => ?_)
  exact b_14 q_3.1 fu q_3.1 (0 : Int32) (0 : Int32) q_3.2 _ _ _ hF hP hD hS (lv_sub hl [4, 3, 2, 1, 0] rfl)
def wsR_X2_isSpot : List Cond := Cond.code yX2_isSpot cX2_isSpot 1 (some .boolean) :: wRa
def FR_X2_isSpot (p0 : Int32) : Option Int32 := (if (p0 &&& (16 : Int32)) = 0 then (if (p0 >>> ((5 : Int32) &&& 31)) < (3 : Int32) then (some (0 : Int32)) else (some (1 : Int32))) else (some (1 : Int32)))
set_option maxHeartbeats 4000000 in
set_option maxRecDepth 100000 in
theorem cR_X2_isSpot (l : Launch) (p0 : Int32) (q : Int32) (hF : FR_X2_isSpot p0 = some q) : Met l yX2_isSpot wsR_X2_isSpot { frames := 0, cells := 0, slots := 0, locals := 0 } (va_Pc [.int p0] (fun _ => True)) (vp_Si (fun x => x = q)) 0 0 (fun _ => False) := by
  refine Met.ofW (cc := cX2_isSpot) (maxL := 1) (ret := (some .boolean)) (by decide) rfl ?_
  intro p e s m args below meth c s₁ B hml hv
  obtain ⟨rfl, -⟩ := hv
  have hx := B.exec
  have hb := B.bytes
  have hr := B.returns
  have hts : ∀ w ∈ (Cond.code yX2_isSpot cX2_isSpot 1 (some .boolean) :: wRa), w.before ([.int p0] : List Value).toArray s = true := atoms_spec (ws := wsR_X2_isSpot) B.pre
  have hin : ∀ w ∈ wRa, w ∈ (Cond.code yX2_isSpot cX2_isSpot 1 (some .boolean) :: wRa) := fun w hw => List.mem_cons_of_mem _ hw
  have hown : s.vm.findClass RX2 = some m.cls := findClass_of_methodNamed B.named
  have hlocks := B.notSynchronized
  have hl := lv_entry ([.int p0]) (n := 1) (Nat.le_of_ble_eq_true rfl)
  rw [lg_entry_eq]
  generalize (lg_sl ([.int p0]) ++ List.replicate (1 - (lg_sl ([.int p0])).length) Slot.unset).toArray = ls at hl ⊢
  have hl : lv_has ls 1 [(0, .int p0)] := hl
  unfold FR_X2_isSpot at hF
  refine lv_iload_n hx hb dX2_isSpot_0 rfl (lv_at hl 0 rfl) ?_
  refine lv_bipush (v := (16 : Int32)) hx hb dX2_isSpot_1 (by decide) ?_
  refine lv_iand hx hb dX2_isSpot_3 ?_
  refine lv_if_ne (tgt := 14) hx hb dX2_isSpot_4 (by decide) (fun c_4 => ?_) (fun c_4 => ?_)
  · have hF := ob_f c_4 hF
    refine lv_iconst (v := (1 : Int32)) hx hb dX2_isSpot_14 (by decide) ?_
    refine lv_goto (tgt := 19) hx hb dX2_isSpot_15 (by decide) ?_
    exact rzM hx hb hr hlocks rfl hF dX2_isSpot_19
  · have hF := ob_t c_4 hF
    refine lv_iload_n hx hb dX2_isSpot_7 rfl (lv_at hl 0 rfl) ?_
    refine lv_iconst (v := (5 : Int32)) hx hb dX2_isSpot_8 (by decide) ?_
    refine lv_ishr hx hb dX2_isSpot_9 ?_
    refine lv_iconst (v := (3 : Int32)) hx hb dX2_isSpot_10 (by decide) ?_
    refine lv_icmp_lt (tgt := 18) hx hb dX2_isSpot_11 (by decide) (fun c_11 => ?_) (fun c_11 => ?_)
    · have hF := ob_t c_11 hF
      refine lv_iconst (v := (0 : Int32)) hx hb dX2_isSpot_18 (by decide) ?_
      exact rzM hx hb hr hlocks rfl hF dX2_isSpot_19
    · have hF := ob_f c_11 hF
      refine lv_iconst (v := (1 : Int32)) hx hb dX2_isSpot_14 (by decide) ?_
      refine lv_goto (tgt := 19) hx hb dX2_isSpot_15 (by decide) ?_
      exact rzM hx hb hr hlocks rfl hF dX2_isSpot_19
def wsR_X2_meetAtSeams : List Cond := Cond.code yX2_meetAtSeams cX2_meetAtSeams 2 none :: wRa
def FR_X2_meetAtSeams (σ : RS) : Option RS := ((rV σ 201).bind fun r_1 => (gd (isK σ r_1 11) (gd (inb (0 : Int32) (pN σ r_1)) (gd (inb (2 : Int32) (pN σ r_1)) (gd (inb (0 : Int32) (pN σ r_1)) (gd (inb (0 : Int32) 5) (gd (inb (1 : Int32) 5) (gd (inb (2 : Int32) 5) ((rV (ra (ra (ra σ 207 (0 : Int32) (pA σ r_1 (0 : Int32).toNatClampNeg)) 207 (1 : Int32) (if (pA σ r_1 (2 : Int32).toNatClampNeg) < ((pA σ r_1 (0 : Int32).toNatClampNeg) / (2 : Int32)) then (pA σ r_1 (2 : Int32).toNatClampNeg) else ((pA σ r_1 (0 : Int32).toNatClampNeg) / (2 : Int32)))) 207 (2 : Int32) (if (pA σ r_1 (2 : Int32).toNatClampNeg) < ((pA σ r_1 (0 : Int32).toNatClampNeg) / (2 : Int32)) then (pA σ r_1 (2 : Int32).toNatClampNeg) else ((pA σ r_1 (0 : Int32).toNatClampNeg) / (2 : Int32)))) 201).bind fun r_50 => (gd (isK (ra (ra (ra σ 207 (0 : Int32) (pA σ r_1 (0 : Int32).toNatClampNeg)) 207 (1 : Int32) (if (pA σ r_1 (2 : Int32).toNatClampNeg) < ((pA σ r_1 (0 : Int32).toNatClampNeg) / (2 : Int32)) then (pA σ r_1 (2 : Int32).toNatClampNeg) else ((pA σ r_1 (0 : Int32).toNatClampNeg) / (2 : Int32)))) 207 (2 : Int32) (if (pA σ r_1 (2 : Int32).toNatClampNeg) < ((pA σ r_1 (0 : Int32).toNatClampNeg) / (2 : Int32)) then (pA σ r_1 (2 : Int32).toNatClampNeg) else ((pA σ r_1 (0 : Int32).toNatClampNeg) / (2 : Int32)))) r_50 11) (gd (inb (4 : Int32) (pN (ra (ra (ra σ 207 (0 : Int32) (pA σ r_1 (0 : Int32).toNatClampNeg)) 207 (1 : Int32) (if (pA σ r_1 (2 : Int32).toNatClampNeg) < ((pA σ r_1 (0 : Int32).toNatClampNeg) / (2 : Int32)) then (pA σ r_1 (2 : Int32).toNatClampNeg) else ((pA σ r_1 (0 : Int32).toNatClampNeg) / (2 : Int32)))) 207 (2 : Int32) (if (pA σ r_1 (2 : Int32).toNatClampNeg) < ((pA σ r_1 (0 : Int32).toNatClampNeg) / (2 : Int32)) then (pA σ r_1 (2 : Int32).toNatClampNeg) else ((pA σ r_1 (0 : Int32).toNatClampNeg) / (2 : Int32)))) r_50)) (gd (inb (0 : Int32) (pN (ra (ra (ra σ 207 (0 : Int32) (pA σ r_1 (0 : Int32).toNatClampNeg)) 207 (1 : Int32) (if (pA σ r_1 (2 : Int32).toNatClampNeg) < ((pA σ r_1 (0 : Int32).toNatClampNeg) / (2 : Int32)) then (pA σ r_1 (2 : Int32).toNatClampNeg) else ((pA σ r_1 (0 : Int32).toNatClampNeg) / (2 : Int32)))) 207 (2 : Int32) (if (pA σ r_1 (2 : Int32).toNatClampNeg) < ((pA σ r_1 (0 : Int32).toNatClampNeg) / (2 : Int32)) then (pA σ r_1 (2 : Int32).toNatClampNeg) else ((pA σ r_1 (0 : Int32).toNatClampNeg) / (2 : Int32)))) r_50)) (gd (inb (3 : Int32) 5) ((rV (ra (ra (ra (ra σ 207 (0 : Int32) (pA σ r_1 (0 : Int32).toNatClampNeg)) 207 (1 : Int32) (if (pA σ r_1 (2 : Int32).toNatClampNeg) < ((pA σ r_1 (0 : Int32).toNatClampNeg) / (2 : Int32)) then (pA σ r_1 (2 : Int32).toNatClampNeg) else ((pA σ r_1 (0 : Int32).toNatClampNeg) / (2 : Int32)))) 207 (2 : Int32) (if (pA σ r_1 (2 : Int32).toNatClampNeg) < ((pA σ r_1 (0 : Int32).toNatClampNeg) / (2 : Int32)) then (pA σ r_1 (2 : Int32).toNatClampNeg) else ((pA σ r_1 (0 : Int32).toNatClampNeg) / (2 : Int32)))) 207 (3 : Int32) (if (pA (ra (ra (ra σ 207 (0 : Int32) (pA σ r_1 (0 : Int32).toNatClampNeg)) 207 (1 : Int32) (if (pA σ r_1 (2 : Int32).toNatClampNeg) < ((pA σ r_1 (0 : Int32).toNatClampNeg) / (2 : Int32)) then (pA σ r_1 (2 : Int32).toNatClampNeg) else ((pA σ r_1 (0 : Int32).toNatClampNeg) / (2 : Int32)))) 207 (2 : Int32) (if (pA σ r_1 (2 : Int32).toNatClampNeg) < ((pA σ r_1 (0 : Int32).toNatClampNeg) / (2 : Int32)) then (pA σ r_1 (2 : Int32).toNatClampNeg) else ((pA σ r_1 (0 : Int32).toNatClampNeg) / (2 : Int32)))) r_50 (0 : Int32).toNatClampNeg) < (pA (ra (ra (ra σ 207 (0 : Int32) (pA σ r_1 (0 : Int32).toNatClampNeg)) 207 (1 : Int32) (if (pA σ r_1 (2 : Int32).toNatClampNeg) < ((pA σ r_1 (0 : Int32).toNatClampNeg) / (2 : Int32)) then (pA σ r_1 (2 : Int32).toNatClampNeg) else ((pA σ r_1 (0 : Int32).toNatClampNeg) / (2 : Int32)))) 207 (2 : Int32) (if (pA σ r_1 (2 : Int32).toNatClampNeg) < ((pA σ r_1 (0 : Int32).toNatClampNeg) / (2 : Int32)) then (pA σ r_1 (2 : Int32).toNatClampNeg) else ((pA σ r_1 (0 : Int32).toNatClampNeg) / (2 : Int32)))) r_50 (4 : Int32).toNatClampNeg) then (pA (ra (ra (ra σ 207 (0 : Int32) (pA σ r_1 (0 : Int32).toNatClampNeg)) 207 (1 : Int32) (if (pA σ r_1 (2 : Int32).toNatClampNeg) < ((pA σ r_1 (0 : Int32).toNatClampNeg) / (2 : Int32)) then (pA σ r_1 (2 : Int32).toNatClampNeg) else ((pA σ r_1 (0 : Int32).toNatClampNeg) / (2 : Int32)))) 207 (2 : Int32) (if (pA σ r_1 (2 : Int32).toNatClampNeg) < ((pA σ r_1 (0 : Int32).toNatClampNeg) / (2 : Int32)) then (pA σ r_1 (2 : Int32).toNatClampNeg) else ((pA σ r_1 (0 : Int32).toNatClampNeg) / (2 : Int32)))) r_50 (0 : Int32).toNatClampNeg) else (pA (ra (ra (ra σ 207 (0 : Int32) (pA σ r_1 (0 : Int32).toNatClampNeg)) 207 (1 : Int32) (if (pA σ r_1 (2 : Int32).toNatClampNeg) < ((pA σ r_1 (0 : Int32).toNatClampNeg) / (2 : Int32)) then (pA σ r_1 (2 : Int32).toNatClampNeg) else ((pA σ r_1 (0 : Int32).toNatClampNeg) / (2 : Int32)))) 207 (2 : Int32) (if (pA σ r_1 (2 : Int32).toNatClampNeg) < ((pA σ r_1 (0 : Int32).toNatClampNeg) / (2 : Int32)) then (pA σ r_1 (2 : Int32).toNatClampNeg) else ((pA σ r_1 (0 : Int32).toNatClampNeg) / (2 : Int32)))) r_50 (4 : Int32).toNatClampNeg))) 201).bind fun r_71 => (gd (isK (ra (ra (ra (ra σ 207 (0 : Int32) (pA σ r_1 (0 : Int32).toNatClampNeg)) 207 (1 : Int32) (if (pA σ r_1 (2 : Int32).toNatClampNeg) < ((pA σ r_1 (0 : Int32).toNatClampNeg) / (2 : Int32)) then (pA σ r_1 (2 : Int32).toNatClampNeg) else ((pA σ r_1 (0 : Int32).toNatClampNeg) / (2 : Int32)))) 207 (2 : Int32) (if (pA σ r_1 (2 : Int32).toNatClampNeg) < ((pA σ r_1 (0 : Int32).toNatClampNeg) / (2 : Int32)) then (pA σ r_1 (2 : Int32).toNatClampNeg) else ((pA σ r_1 (0 : Int32).toNatClampNeg) / (2 : Int32)))) 207 (3 : Int32) (if (pA (ra (ra (ra σ 207 (0 : Int32) (pA σ r_1 (0 : Int32).toNatClampNeg)) 207 (1 : Int32) (if (pA σ r_1 (2 : Int32).toNatClampNeg) < ((pA σ r_1 (0 : Int32).toNatClampNeg) / (2 : Int32)) then (pA σ r_1 (2 : Int32).toNatClampNeg) else ((pA σ r_1 (0 : Int32).toNatClampNeg) / (2 : Int32)))) 207 (2 : Int32) (if (pA σ r_1 (2 : Int32).toNatClampNeg) < ((pA σ r_1 (0 : Int32).toNatClampNeg) / (2 : Int32)) then (pA σ r_1 (2 : Int32).toNatClampNeg) else ((pA σ r_1 (0 : Int32).toNatClampNeg) / (2 : Int32)))) r_50 (0 : Int32).toNatClampNeg) < (pA (ra (ra (ra σ 207 (0 : Int32) (pA σ r_1 (0 : Int32).toNatClampNeg)) 207 (1 : Int32) (if (pA σ r_1 (2 : Int32).toNatClampNeg) < ((pA σ r_1 (0 : Int32).toNatClampNeg) / (2 : Int32)) then (pA σ r_1 (2 : Int32).toNatClampNeg) else ((pA σ r_1 (0 : Int32).toNatClampNeg) / (2 : Int32)))) 207 (2 : Int32) (if (pA σ r_1 (2 : Int32).toNatClampNeg) < ((pA σ r_1 (0 : Int32).toNatClampNeg) / (2 : Int32)) then (pA σ r_1 (2 : Int32).toNatClampNeg) else ((pA σ r_1 (0 : Int32).toNatClampNeg) / (2 : Int32)))) r_50 (4 : Int32).toNatClampNeg) then (pA (ra (ra (ra σ 207 (0 : Int32) (pA σ r_1 (0 : Int32).toNatClampNeg)) 207 (1 : Int32) (if (pA σ r_1 (2 : Int32).toNatClampNeg) < ((pA σ r_1 (0 : Int32).toNatClampNeg) / (2 : Int32)) then (pA σ r_1 (2 : Int32).toNatClampNeg) else ((pA σ r_1 (0 : Int32).toNatClampNeg) / (2 : Int32)))) 207 (2 : Int32) (if (pA σ r_1 (2 : Int32).toNatClampNeg) < ((pA σ r_1 (0 : Int32).toNatClampNeg) / (2 : Int32)) then (pA σ r_1 (2 : Int32).toNatClampNeg) else ((pA σ r_1 (0 : Int32).toNatClampNeg) / (2 : Int32)))) r_50 (0 : Int32).toNatClampNeg) else (pA (ra (ra (ra σ 207 (0 : Int32) (pA σ r_1 (0 : Int32).toNatClampNeg)) 207 (1 : Int32) (if (pA σ r_1 (2 : Int32).toNatClampNeg) < ((pA σ r_1 (0 : Int32).toNatClampNeg) / (2 : Int32)) then (pA σ r_1 (2 : Int32).toNatClampNeg) else ((pA σ r_1 (0 : Int32).toNatClampNeg) / (2 : Int32)))) 207 (2 : Int32) (if (pA σ r_1 (2 : Int32).toNatClampNeg) < ((pA σ r_1 (0 : Int32).toNatClampNeg) / (2 : Int32)) then (pA σ r_1 (2 : Int32).toNatClampNeg) else ((pA σ r_1 (0 : Int32).toNatClampNeg) / (2 : Int32)))) r_50 (4 : Int32).toNatClampNeg))) r_71 11) (gd (inb (5 : Int32) (pN (ra (ra (ra (ra σ 207 (0 : Int32) (pA σ r_1 (0 : Int32).toNatClampNeg)) 207 (1 : Int32) (if (pA σ r_1 (2 : Int32).toNatClampNeg) < ((pA σ r_1 (0 : Int32).toNatClampNeg) / (2 : Int32)) then (pA σ r_1 (2 : Int32).toNatClampNeg) else ((pA σ r_1 (0 : Int32).toNatClampNeg) / (2 : Int32)))) 207 (2 : Int32) (if (pA σ r_1 (2 : Int32).toNatClampNeg) < ((pA σ r_1 (0 : Int32).toNatClampNeg) / (2 : Int32)) then (pA σ r_1 (2 : Int32).toNatClampNeg) else ((pA σ r_1 (0 : Int32).toNatClampNeg) / (2 : Int32)))) 207 (3 : Int32) (if (pA (ra (ra (ra σ 207 (0 : Int32) (pA σ r_1 (0 : Int32).toNatClampNeg)) 207 (1 : Int32) (if (pA σ r_1 (2 : Int32).toNatClampNeg) < ((pA σ r_1 (0 : Int32).toNatClampNeg) / (2 : Int32)) then (pA σ r_1 (2 : Int32).toNatClampNeg) else ((pA σ r_1 (0 : Int32).toNatClampNeg) / (2 : Int32)))) 207 (2 : Int32) (if (pA σ r_1 (2 : Int32).toNatClampNeg) < ((pA σ r_1 (0 : Int32).toNatClampNeg) / (2 : Int32)) then (pA σ r_1 (2 : Int32).toNatClampNeg) else ((pA σ r_1 (0 : Int32).toNatClampNeg) / (2 : Int32)))) r_50 (0 : Int32).toNatClampNeg) < (pA (ra (ra (ra σ 207 (0 : Int32) (pA σ r_1 (0 : Int32).toNatClampNeg)) 207 (1 : Int32) (if (pA σ r_1 (2 : Int32).toNatClampNeg) < ((pA σ r_1 (0 : Int32).toNatClampNeg) / (2 : Int32)) then (pA σ r_1 (2 : Int32).toNatClampNeg) else ((pA σ r_1 (0 : Int32).toNatClampNeg) / (2 : Int32)))) 207 (2 : Int32) (if (pA σ r_1 (2 : Int32).toNatClampNeg) < ((pA σ r_1 (0 : Int32).toNatClampNeg) / (2 : Int32)) then (pA σ r_1 (2 : Int32).toNatClampNeg) else ((pA σ r_1 (0 : Int32).toNatClampNeg) / (2 : Int32)))) r_50 (4 : Int32).toNatClampNeg) then (pA (ra (ra (ra σ 207 (0 : Int32) (pA σ r_1 (0 : Int32).toNatClampNeg)) 207 (1 : Int32) (if (pA σ r_1 (2 : Int32).toNatClampNeg) < ((pA σ r_1 (0 : Int32).toNatClampNeg) / (2 : Int32)) then (pA σ r_1 (2 : Int32).toNatClampNeg) else ((pA σ r_1 (0 : Int32).toNatClampNeg) / (2 : Int32)))) 207 (2 : Int32) (if (pA σ r_1 (2 : Int32).toNatClampNeg) < ((pA σ r_1 (0 : Int32).toNatClampNeg) / (2 : Int32)) then (pA σ r_1 (2 : Int32).toNatClampNeg) else ((pA σ r_1 (0 : Int32).toNatClampNeg) / (2 : Int32)))) r_50 (0 : Int32).toNatClampNeg) else (pA (ra (ra (ra σ 207 (0 : Int32) (pA σ r_1 (0 : Int32).toNatClampNeg)) 207 (1 : Int32) (if (pA σ r_1 (2 : Int32).toNatClampNeg) < ((pA σ r_1 (0 : Int32).toNatClampNeg) / (2 : Int32)) then (pA σ r_1 (2 : Int32).toNatClampNeg) else ((pA σ r_1 (0 : Int32).toNatClampNeg) / (2 : Int32)))) 207 (2 : Int32) (if (pA σ r_1 (2 : Int32).toNatClampNeg) < ((pA σ r_1 (0 : Int32).toNatClampNeg) / (2 : Int32)) then (pA σ r_1 (2 : Int32).toNatClampNeg) else ((pA σ r_1 (0 : Int32).toNatClampNeg) / (2 : Int32)))) r_50 (4 : Int32).toNatClampNeg))) r_71)) (gd (inb (4 : Int32) (pN (ra (ra (ra (ra σ 207 (0 : Int32) (pA σ r_1 (0 : Int32).toNatClampNeg)) 207 (1 : Int32) (if (pA σ r_1 (2 : Int32).toNatClampNeg) < ((pA σ r_1 (0 : Int32).toNatClampNeg) / (2 : Int32)) then (pA σ r_1 (2 : Int32).toNatClampNeg) else ((pA σ r_1 (0 : Int32).toNatClampNeg) / (2 : Int32)))) 207 (2 : Int32) (if (pA σ r_1 (2 : Int32).toNatClampNeg) < ((pA σ r_1 (0 : Int32).toNatClampNeg) / (2 : Int32)) then (pA σ r_1 (2 : Int32).toNatClampNeg) else ((pA σ r_1 (0 : Int32).toNatClampNeg) / (2 : Int32)))) 207 (3 : Int32) (if (pA (ra (ra (ra σ 207 (0 : Int32) (pA σ r_1 (0 : Int32).toNatClampNeg)) 207 (1 : Int32) (if (pA σ r_1 (2 : Int32).toNatClampNeg) < ((pA σ r_1 (0 : Int32).toNatClampNeg) / (2 : Int32)) then (pA σ r_1 (2 : Int32).toNatClampNeg) else ((pA σ r_1 (0 : Int32).toNatClampNeg) / (2 : Int32)))) 207 (2 : Int32) (if (pA σ r_1 (2 : Int32).toNatClampNeg) < ((pA σ r_1 (0 : Int32).toNatClampNeg) / (2 : Int32)) then (pA σ r_1 (2 : Int32).toNatClampNeg) else ((pA σ r_1 (0 : Int32).toNatClampNeg) / (2 : Int32)))) r_50 (0 : Int32).toNatClampNeg) < (pA (ra (ra (ra σ 207 (0 : Int32) (pA σ r_1 (0 : Int32).toNatClampNeg)) 207 (1 : Int32) (if (pA σ r_1 (2 : Int32).toNatClampNeg) < ((pA σ r_1 (0 : Int32).toNatClampNeg) / (2 : Int32)) then (pA σ r_1 (2 : Int32).toNatClampNeg) else ((pA σ r_1 (0 : Int32).toNatClampNeg) / (2 : Int32)))) 207 (2 : Int32) (if (pA σ r_1 (2 : Int32).toNatClampNeg) < ((pA σ r_1 (0 : Int32).toNatClampNeg) / (2 : Int32)) then (pA σ r_1 (2 : Int32).toNatClampNeg) else ((pA σ r_1 (0 : Int32).toNatClampNeg) / (2 : Int32)))) r_50 (4 : Int32).toNatClampNeg) then (pA (ra (ra (ra σ 207 (0 : Int32) (pA σ r_1 (0 : Int32).toNatClampNeg)) 207 (1 : Int32) (if (pA σ r_1 (2 : Int32).toNatClampNeg) < ((pA σ r_1 (0 : Int32).toNatClampNeg) / (2 : Int32)) then (pA σ r_1 (2 : Int32).toNatClampNeg) else ((pA σ r_1 (0 : Int32).toNatClampNeg) / (2 : Int32)))) 207 (2 : Int32) (if (pA σ r_1 (2 : Int32).toNatClampNeg) < ((pA σ r_1 (0 : Int32).toNatClampNeg) / (2 : Int32)) then (pA σ r_1 (2 : Int32).toNatClampNeg) else ((pA σ r_1 (0 : Int32).toNatClampNeg) / (2 : Int32)))) r_50 (0 : Int32).toNatClampNeg) else (pA (ra (ra (ra σ 207 (0 : Int32) (pA σ r_1 (0 : Int32).toNatClampNeg)) 207 (1 : Int32) (if (pA σ r_1 (2 : Int32).toNatClampNeg) < ((pA σ r_1 (0 : Int32).toNatClampNeg) / (2 : Int32)) then (pA σ r_1 (2 : Int32).toNatClampNeg) else ((pA σ r_1 (0 : Int32).toNatClampNeg) / (2 : Int32)))) 207 (2 : Int32) (if (pA σ r_1 (2 : Int32).toNatClampNeg) < ((pA σ r_1 (0 : Int32).toNatClampNeg) / (2 : Int32)) then (pA σ r_1 (2 : Int32).toNatClampNeg) else ((pA σ r_1 (0 : Int32).toNatClampNeg) / (2 : Int32)))) r_50 (4 : Int32).toNatClampNeg))) r_71)) (gd (inb (4 : Int32) 5) (some (ra (ra (ra (ra (ra σ 207 (0 : Int32) (pA σ r_1 (0 : Int32).toNatClampNeg)) 207 (1 : Int32) (if (pA σ r_1 (2 : Int32).toNatClampNeg) < ((pA σ r_1 (0 : Int32).toNatClampNeg) / (2 : Int32)) then (pA σ r_1 (2 : Int32).toNatClampNeg) else ((pA σ r_1 (0 : Int32).toNatClampNeg) / (2 : Int32)))) 207 (2 : Int32) (if (pA σ r_1 (2 : Int32).toNatClampNeg) < ((pA σ r_1 (0 : Int32).toNatClampNeg) / (2 : Int32)) then (pA σ r_1 (2 : Int32).toNatClampNeg) else ((pA σ r_1 (0 : Int32).toNatClampNeg) / (2 : Int32)))) 207 (3 : Int32) (if (pA (ra (ra (ra σ 207 (0 : Int32) (pA σ r_1 (0 : Int32).toNatClampNeg)) 207 (1 : Int32) (if (pA σ r_1 (2 : Int32).toNatClampNeg) < ((pA σ r_1 (0 : Int32).toNatClampNeg) / (2 : Int32)) then (pA σ r_1 (2 : Int32).toNatClampNeg) else ((pA σ r_1 (0 : Int32).toNatClampNeg) / (2 : Int32)))) 207 (2 : Int32) (if (pA σ r_1 (2 : Int32).toNatClampNeg) < ((pA σ r_1 (0 : Int32).toNatClampNeg) / (2 : Int32)) then (pA σ r_1 (2 : Int32).toNatClampNeg) else ((pA σ r_1 (0 : Int32).toNatClampNeg) / (2 : Int32)))) r_50 (0 : Int32).toNatClampNeg) < (pA (ra (ra (ra σ 207 (0 : Int32) (pA σ r_1 (0 : Int32).toNatClampNeg)) 207 (1 : Int32) (if (pA σ r_1 (2 : Int32).toNatClampNeg) < ((pA σ r_1 (0 : Int32).toNatClampNeg) / (2 : Int32)) then (pA σ r_1 (2 : Int32).toNatClampNeg) else ((pA σ r_1 (0 : Int32).toNatClampNeg) / (2 : Int32)))) 207 (2 : Int32) (if (pA σ r_1 (2 : Int32).toNatClampNeg) < ((pA σ r_1 (0 : Int32).toNatClampNeg) / (2 : Int32)) then (pA σ r_1 (2 : Int32).toNatClampNeg) else ((pA σ r_1 (0 : Int32).toNatClampNeg) / (2 : Int32)))) r_50 (4 : Int32).toNatClampNeg) then (pA (ra (ra (ra σ 207 (0 : Int32) (pA σ r_1 (0 : Int32).toNatClampNeg)) 207 (1 : Int32) (if (pA σ r_1 (2 : Int32).toNatClampNeg) < ((pA σ r_1 (0 : Int32).toNatClampNeg) / (2 : Int32)) then (pA σ r_1 (2 : Int32).toNatClampNeg) else ((pA σ r_1 (0 : Int32).toNatClampNeg) / (2 : Int32)))) 207 (2 : Int32) (if (pA σ r_1 (2 : Int32).toNatClampNeg) < ((pA σ r_1 (0 : Int32).toNatClampNeg) / (2 : Int32)) then (pA σ r_1 (2 : Int32).toNatClampNeg) else ((pA σ r_1 (0 : Int32).toNatClampNeg) / (2 : Int32)))) r_50 (0 : Int32).toNatClampNeg) else (pA (ra (ra (ra σ 207 (0 : Int32) (pA σ r_1 (0 : Int32).toNatClampNeg)) 207 (1 : Int32) (if (pA σ r_1 (2 : Int32).toNatClampNeg) < ((pA σ r_1 (0 : Int32).toNatClampNeg) / (2 : Int32)) then (pA σ r_1 (2 : Int32).toNatClampNeg) else ((pA σ r_1 (0 : Int32).toNatClampNeg) / (2 : Int32)))) 207 (2 : Int32) (if (pA σ r_1 (2 : Int32).toNatClampNeg) < ((pA σ r_1 (0 : Int32).toNatClampNeg) / (2 : Int32)) then (pA σ r_1 (2 : Int32).toNatClampNeg) else ((pA σ r_1 (0 : Int32).toNatClampNeg) / (2 : Int32)))) r_50 (4 : Int32).toNatClampNeg))) 207 (4 : Int32) (if (pA (ra (ra (ra (ra σ 207 (0 : Int32) (pA σ r_1 (0 : Int32).toNatClampNeg)) 207 (1 : Int32) (if (pA σ r_1 (2 : Int32).toNatClampNeg) < ((pA σ r_1 (0 : Int32).toNatClampNeg) / (2 : Int32)) then (pA σ r_1 (2 : Int32).toNatClampNeg) else ((pA σ r_1 (0 : Int32).toNatClampNeg) / (2 : Int32)))) 207 (2 : Int32) (if (pA σ r_1 (2 : Int32).toNatClampNeg) < ((pA σ r_1 (0 : Int32).toNatClampNeg) / (2 : Int32)) then (pA σ r_1 (2 : Int32).toNatClampNeg) else ((pA σ r_1 (0 : Int32).toNatClampNeg) / (2 : Int32)))) 207 (3 : Int32) (if (pA (ra (ra (ra σ 207 (0 : Int32) (pA σ r_1 (0 : Int32).toNatClampNeg)) 207 (1 : Int32) (if (pA σ r_1 (2 : Int32).toNatClampNeg) < ((pA σ r_1 (0 : Int32).toNatClampNeg) / (2 : Int32)) then (pA σ r_1 (2 : Int32).toNatClampNeg) else ((pA σ r_1 (0 : Int32).toNatClampNeg) / (2 : Int32)))) 207 (2 : Int32) (if (pA σ r_1 (2 : Int32).toNatClampNeg) < ((pA σ r_1 (0 : Int32).toNatClampNeg) / (2 : Int32)) then (pA σ r_1 (2 : Int32).toNatClampNeg) else ((pA σ r_1 (0 : Int32).toNatClampNeg) / (2 : Int32)))) r_50 (0 : Int32).toNatClampNeg) < (pA (ra (ra (ra σ 207 (0 : Int32) (pA σ r_1 (0 : Int32).toNatClampNeg)) 207 (1 : Int32) (if (pA σ r_1 (2 : Int32).toNatClampNeg) < ((pA σ r_1 (0 : Int32).toNatClampNeg) / (2 : Int32)) then (pA σ r_1 (2 : Int32).toNatClampNeg) else ((pA σ r_1 (0 : Int32).toNatClampNeg) / (2 : Int32)))) 207 (2 : Int32) (if (pA σ r_1 (2 : Int32).toNatClampNeg) < ((pA σ r_1 (0 : Int32).toNatClampNeg) / (2 : Int32)) then (pA σ r_1 (2 : Int32).toNatClampNeg) else ((pA σ r_1 (0 : Int32).toNatClampNeg) / (2 : Int32)))) r_50 (4 : Int32).toNatClampNeg) then (pA (ra (ra (ra σ 207 (0 : Int32) (pA σ r_1 (0 : Int32).toNatClampNeg)) 207 (1 : Int32) (if (pA σ r_1 (2 : Int32).toNatClampNeg) < ((pA σ r_1 (0 : Int32).toNatClampNeg) / (2 : Int32)) then (pA σ r_1 (2 : Int32).toNatClampNeg) else ((pA σ r_1 (0 : Int32).toNatClampNeg) / (2 : Int32)))) 207 (2 : Int32) (if (pA σ r_1 (2 : Int32).toNatClampNeg) < ((pA σ r_1 (0 : Int32).toNatClampNeg) / (2 : Int32)) then (pA σ r_1 (2 : Int32).toNatClampNeg) else ((pA σ r_1 (0 : Int32).toNatClampNeg) / (2 : Int32)))) r_50 (0 : Int32).toNatClampNeg) else (pA (ra (ra (ra σ 207 (0 : Int32) (pA σ r_1 (0 : Int32).toNatClampNeg)) 207 (1 : Int32) (if (pA σ r_1 (2 : Int32).toNatClampNeg) < ((pA σ r_1 (0 : Int32).toNatClampNeg) / (2 : Int32)) then (pA σ r_1 (2 : Int32).toNatClampNeg) else ((pA σ r_1 (0 : Int32).toNatClampNeg) / (2 : Int32)))) 207 (2 : Int32) (if (pA σ r_1 (2 : Int32).toNatClampNeg) < ((pA σ r_1 (0 : Int32).toNatClampNeg) / (2 : Int32)) then (pA σ r_1 (2 : Int32).toNatClampNeg) else ((pA σ r_1 (0 : Int32).toNatClampNeg) / (2 : Int32)))) r_50 (4 : Int32).toNatClampNeg))) r_71 (4 : Int32).toNatClampNeg) < (pA (ra (ra (ra (ra σ 207 (0 : Int32) (pA σ r_1 (0 : Int32).toNatClampNeg)) 207 (1 : Int32) (if (pA σ r_1 (2 : Int32).toNatClampNeg) < ((pA σ r_1 (0 : Int32).toNatClampNeg) / (2 : Int32)) then (pA σ r_1 (2 : Int32).toNatClampNeg) else ((pA σ r_1 (0 : Int32).toNatClampNeg) / (2 : Int32)))) 207 (2 : Int32) (if (pA σ r_1 (2 : Int32).toNatClampNeg) < ((pA σ r_1 (0 : Int32).toNatClampNeg) / (2 : Int32)) then (pA σ r_1 (2 : Int32).toNatClampNeg) else ((pA σ r_1 (0 : Int32).toNatClampNeg) / (2 : Int32)))) 207 (3 : Int32) (if (pA (ra (ra (ra σ 207 (0 : Int32) (pA σ r_1 (0 : Int32).toNatClampNeg)) 207 (1 : Int32) (if (pA σ r_1 (2 : Int32).toNatClampNeg) < ((pA σ r_1 (0 : Int32).toNatClampNeg) / (2 : Int32)) then (pA σ r_1 (2 : Int32).toNatClampNeg) else ((pA σ r_1 (0 : Int32).toNatClampNeg) / (2 : Int32)))) 207 (2 : Int32) (if (pA σ r_1 (2 : Int32).toNatClampNeg) < ((pA σ r_1 (0 : Int32).toNatClampNeg) / (2 : Int32)) then (pA σ r_1 (2 : Int32).toNatClampNeg) else ((pA σ r_1 (0 : Int32).toNatClampNeg) / (2 : Int32)))) r_50 (0 : Int32).toNatClampNeg) < (pA (ra (ra (ra σ 207 (0 : Int32) (pA σ r_1 (0 : Int32).toNatClampNeg)) 207 (1 : Int32) (if (pA σ r_1 (2 : Int32).toNatClampNeg) < ((pA σ r_1 (0 : Int32).toNatClampNeg) / (2 : Int32)) then (pA σ r_1 (2 : Int32).toNatClampNeg) else ((pA σ r_1 (0 : Int32).toNatClampNeg) / (2 : Int32)))) 207 (2 : Int32) (if (pA σ r_1 (2 : Int32).toNatClampNeg) < ((pA σ r_1 (0 : Int32).toNatClampNeg) / (2 : Int32)) then (pA σ r_1 (2 : Int32).toNatClampNeg) else ((pA σ r_1 (0 : Int32).toNatClampNeg) / (2 : Int32)))) r_50 (4 : Int32).toNatClampNeg) then (pA (ra (ra (ra σ 207 (0 : Int32) (pA σ r_1 (0 : Int32).toNatClampNeg)) 207 (1 : Int32) (if (pA σ r_1 (2 : Int32).toNatClampNeg) < ((pA σ r_1 (0 : Int32).toNatClampNeg) / (2 : Int32)) then (pA σ r_1 (2 : Int32).toNatClampNeg) else ((pA σ r_1 (0 : Int32).toNatClampNeg) / (2 : Int32)))) 207 (2 : Int32) (if (pA σ r_1 (2 : Int32).toNatClampNeg) < ((pA σ r_1 (0 : Int32).toNatClampNeg) / (2 : Int32)) then (pA σ r_1 (2 : Int32).toNatClampNeg) else ((pA σ r_1 (0 : Int32).toNatClampNeg) / (2 : Int32)))) r_50 (0 : Int32).toNatClampNeg) else (pA (ra (ra (ra σ 207 (0 : Int32) (pA σ r_1 (0 : Int32).toNatClampNeg)) 207 (1 : Int32) (if (pA σ r_1 (2 : Int32).toNatClampNeg) < ((pA σ r_1 (0 : Int32).toNatClampNeg) / (2 : Int32)) then (pA σ r_1 (2 : Int32).toNatClampNeg) else ((pA σ r_1 (0 : Int32).toNatClampNeg) / (2 : Int32)))) 207 (2 : Int32) (if (pA σ r_1 (2 : Int32).toNatClampNeg) < ((pA σ r_1 (0 : Int32).toNatClampNeg) / (2 : Int32)) then (pA σ r_1 (2 : Int32).toNatClampNeg) else ((pA σ r_1 (0 : Int32).toNatClampNeg) / (2 : Int32)))) r_50 (4 : Int32).toNatClampNeg))) r_71 (5 : Int32).toNatClampNeg) then (pA (ra (ra (ra (ra σ 207 (0 : Int32) (pA σ r_1 (0 : Int32).toNatClampNeg)) 207 (1 : Int32) (if (pA σ r_1 (2 : Int32).toNatClampNeg) < ((pA σ r_1 (0 : Int32).toNatClampNeg) / (2 : Int32)) then (pA σ r_1 (2 : Int32).toNatClampNeg) else ((pA σ r_1 (0 : Int32).toNatClampNeg) / (2 : Int32)))) 207 (2 : Int32) (if (pA σ r_1 (2 : Int32).toNatClampNeg) < ((pA σ r_1 (0 : Int32).toNatClampNeg) / (2 : Int32)) then (pA σ r_1 (2 : Int32).toNatClampNeg) else ((pA σ r_1 (0 : Int32).toNatClampNeg) / (2 : Int32)))) 207 (3 : Int32) (if (pA (ra (ra (ra σ 207 (0 : Int32) (pA σ r_1 (0 : Int32).toNatClampNeg)) 207 (1 : Int32) (if (pA σ r_1 (2 : Int32).toNatClampNeg) < ((pA σ r_1 (0 : Int32).toNatClampNeg) / (2 : Int32)) then (pA σ r_1 (2 : Int32).toNatClampNeg) else ((pA σ r_1 (0 : Int32).toNatClampNeg) / (2 : Int32)))) 207 (2 : Int32) (if (pA σ r_1 (2 : Int32).toNatClampNeg) < ((pA σ r_1 (0 : Int32).toNatClampNeg) / (2 : Int32)) then (pA σ r_1 (2 : Int32).toNatClampNeg) else ((pA σ r_1 (0 : Int32).toNatClampNeg) / (2 : Int32)))) r_50 (0 : Int32).toNatClampNeg) < (pA (ra (ra (ra σ 207 (0 : Int32) (pA σ r_1 (0 : Int32).toNatClampNeg)) 207 (1 : Int32) (if (pA σ r_1 (2 : Int32).toNatClampNeg) < ((pA σ r_1 (0 : Int32).toNatClampNeg) / (2 : Int32)) then (pA σ r_1 (2 : Int32).toNatClampNeg) else ((pA σ r_1 (0 : Int32).toNatClampNeg) / (2 : Int32)))) 207 (2 : Int32) (if (pA σ r_1 (2 : Int32).toNatClampNeg) < ((pA σ r_1 (0 : Int32).toNatClampNeg) / (2 : Int32)) then (pA σ r_1 (2 : Int32).toNatClampNeg) else ((pA σ r_1 (0 : Int32).toNatClampNeg) / (2 : Int32)))) r_50 (4 : Int32).toNatClampNeg) then (pA (ra (ra (ra σ 207 (0 : Int32) (pA σ r_1 (0 : Int32).toNatClampNeg)) 207 (1 : Int32) (if (pA σ r_1 (2 : Int32).toNatClampNeg) < ((pA σ r_1 (0 : Int32).toNatClampNeg) / (2 : Int32)) then (pA σ r_1 (2 : Int32).toNatClampNeg) else ((pA σ r_1 (0 : Int32).toNatClampNeg) / (2 : Int32)))) 207 (2 : Int32) (if (pA σ r_1 (2 : Int32).toNatClampNeg) < ((pA σ r_1 (0 : Int32).toNatClampNeg) / (2 : Int32)) then (pA σ r_1 (2 : Int32).toNatClampNeg) else ((pA σ r_1 (0 : Int32).toNatClampNeg) / (2 : Int32)))) r_50 (0 : Int32).toNatClampNeg) else (pA (ra (ra (ra σ 207 (0 : Int32) (pA σ r_1 (0 : Int32).toNatClampNeg)) 207 (1 : Int32) (if (pA σ r_1 (2 : Int32).toNatClampNeg) < ((pA σ r_1 (0 : Int32).toNatClampNeg) / (2 : Int32)) then (pA σ r_1 (2 : Int32).toNatClampNeg) else ((pA σ r_1 (0 : Int32).toNatClampNeg) / (2 : Int32)))) 207 (2 : Int32) (if (pA σ r_1 (2 : Int32).toNatClampNeg) < ((pA σ r_1 (0 : Int32).toNatClampNeg) / (2 : Int32)) then (pA σ r_1 (2 : Int32).toNatClampNeg) else ((pA σ r_1 (0 : Int32).toNatClampNeg) / (2 : Int32)))) r_50 (4 : Int32).toNatClampNeg))) r_71 (4 : Int32).toNatClampNeg) else (pA (ra (ra (ra (ra σ 207 (0 : Int32) (pA σ r_1 (0 : Int32).toNatClampNeg)) 207 (1 : Int32) (if (pA σ r_1 (2 : Int32).toNatClampNeg) < ((pA σ r_1 (0 : Int32).toNatClampNeg) / (2 : Int32)) then (pA σ r_1 (2 : Int32).toNatClampNeg) else ((pA σ r_1 (0 : Int32).toNatClampNeg) / (2 : Int32)))) 207 (2 : Int32) (if (pA σ r_1 (2 : Int32).toNatClampNeg) < ((pA σ r_1 (0 : Int32).toNatClampNeg) / (2 : Int32)) then (pA σ r_1 (2 : Int32).toNatClampNeg) else ((pA σ r_1 (0 : Int32).toNatClampNeg) / (2 : Int32)))) 207 (3 : Int32) (if (pA (ra (ra (ra σ 207 (0 : Int32) (pA σ r_1 (0 : Int32).toNatClampNeg)) 207 (1 : Int32) (if (pA σ r_1 (2 : Int32).toNatClampNeg) < ((pA σ r_1 (0 : Int32).toNatClampNeg) / (2 : Int32)) then (pA σ r_1 (2 : Int32).toNatClampNeg) else ((pA σ r_1 (0 : Int32).toNatClampNeg) / (2 : Int32)))) 207 (2 : Int32) (if (pA σ r_1 (2 : Int32).toNatClampNeg) < ((pA σ r_1 (0 : Int32).toNatClampNeg) / (2 : Int32)) then (pA σ r_1 (2 : Int32).toNatClampNeg) else ((pA σ r_1 (0 : Int32).toNatClampNeg) / (2 : Int32)))) r_50 (0 : Int32).toNatClampNeg) < (pA (ra (ra (ra σ 207 (0 : Int32) (pA σ r_1 (0 : Int32).toNatClampNeg)) 207 (1 : Int32) (if (pA σ r_1 (2 : Int32).toNatClampNeg) < ((pA σ r_1 (0 : Int32).toNatClampNeg) / (2 : Int32)) then (pA σ r_1 (2 : Int32).toNatClampNeg) else ((pA σ r_1 (0 : Int32).toNatClampNeg) / (2 : Int32)))) 207 (2 : Int32) (if (pA σ r_1 (2 : Int32).toNatClampNeg) < ((pA σ r_1 (0 : Int32).toNatClampNeg) / (2 : Int32)) then (pA σ r_1 (2 : Int32).toNatClampNeg) else ((pA σ r_1 (0 : Int32).toNatClampNeg) / (2 : Int32)))) r_50 (4 : Int32).toNatClampNeg) then (pA (ra (ra (ra σ 207 (0 : Int32) (pA σ r_1 (0 : Int32).toNatClampNeg)) 207 (1 : Int32) (if (pA σ r_1 (2 : Int32).toNatClampNeg) < ((pA σ r_1 (0 : Int32).toNatClampNeg) / (2 : Int32)) then (pA σ r_1 (2 : Int32).toNatClampNeg) else ((pA σ r_1 (0 : Int32).toNatClampNeg) / (2 : Int32)))) 207 (2 : Int32) (if (pA σ r_1 (2 : Int32).toNatClampNeg) < ((pA σ r_1 (0 : Int32).toNatClampNeg) / (2 : Int32)) then (pA σ r_1 (2 : Int32).toNatClampNeg) else ((pA σ r_1 (0 : Int32).toNatClampNeg) / (2 : Int32)))) r_50 (0 : Int32).toNatClampNeg) else (pA (ra (ra (ra σ 207 (0 : Int32) (pA σ r_1 (0 : Int32).toNatClampNeg)) 207 (1 : Int32) (if (pA σ r_1 (2 : Int32).toNatClampNeg) < ((pA σ r_1 (0 : Int32).toNatClampNeg) / (2 : Int32)) then (pA σ r_1 (2 : Int32).toNatClampNeg) else ((pA σ r_1 (0 : Int32).toNatClampNeg) / (2 : Int32)))) 207 (2 : Int32) (if (pA σ r_1 (2 : Int32).toNatClampNeg) < ((pA σ r_1 (0 : Int32).toNatClampNeg) / (2 : Int32)) then (pA σ r_1 (2 : Int32).toNatClampNeg) else ((pA σ r_1 (0 : Int32).toNatClampNeg) / (2 : Int32)))) r_50 (4 : Int32).toNatClampNeg))) r_71 (5 : Int32).toNatClampNeg))))))))))))))))))))))
set_option maxHeartbeats 4000000 in
set_option maxRecDepth 100000 in
theorem cR_X2_meetAtSeams (l : Launch) (D : va_G) (cs : Nat → ClassId) (ad tb : Nat → Nat) (A : Nat → Prop) (σ : RS) (q : RS) (hF : FR_X2_meetAtSeams σ = some q) : Met l yX2_meetAtSeams wsR_X2_meetAtSeams { frames := 1, cells := 0, slots := 0, locals := 24 } (va_Pc [.ref (ad 1002)] (preQ D cs ad tb A σ)) (va_Qv (fun u => u = q) (posQ D cs ad A) A) 0 0 A := by
  refine Met.ofW (cc := cX2_meetAtSeams) (maxL := 2) (ret := none) (by decide) rfl ?_
  intro p e s m args below meth c s₁ B hml hv
  obtain ⟨rfl, hP, hK, hD, hZ⟩ := hv
  have hx := B.exec
  have hb := B.bytes
  have hr := B.returns
  have hts : ∀ w ∈ (Cond.code yX2_meetAtSeams cX2_meetAtSeams 2 none :: wRa), w.before ([.ref (ad 1002)] : List Value).toArray s = true := atoms_spec (ws := wsR_X2_meetAtSeams) B.pre
  have hin : ∀ w ∈ wRa, w ∈ (Cond.code yX2_meetAtSeams cX2_meetAtSeams 2 none :: wRa) := fun w hw => List.mem_cons_of_mem _ hw
  have hown : s.vm.findClass RX2 = some m.cls := findClass_of_methodNamed B.named
  have hlocks := B.notSynchronized
  have hS : va_S A s.heap s.heap [] := va_S.rf
  have hl := lv_entry ([.ref (ad 1002)]) (n := 2) (Nat.le_of_ble_eq_true rfl)
  rw [lg_entry_eq]
  generalize (lg_sl ([.ref (ad 1002)]) ++ List.replicate (2 - (lg_sl ([.ref (ad 1002)])).length) Slot.unset).toArray = ls at hl ⊢
  have hl : lv_has ls 2 [(0, .ref (ad 1002))] := hl
  unfold FR_X2_meetAtSeams at hF
  refine lv_aload_n hx hb dX2_meetAtSeams_0 rfl (lv_at hl 0 rfl) ?_
  refine gF hx hb hts hin wo_2 rfl hown hK hP (ob_2 _ _ _) 1 (va_rf (rV σ 201)) (by decide) rf_X2_15 rfl dX2_meetAtSeams_1 ?_
  obtain ⟨r_1, o_1, hF⟩ := ob_bd hF
  refine rfS o_1 ?_
  refine lv_iconst (v := (0 : Int32)) hx hb dX2_meetAtSeams_4 (by decide) ?_
  obtain ⟨k_5_1, hF⟩ := ob_gd hF
  obtain ⟨g_5, hF⟩ := ob_gd hF
  refine ldP hx hb hK hP k_5_1 (pA σ r_1 (0 : Int32).toNatClampNeg) g_5 rfl dX2_meetAtSeams_5 ?_
  refine lv_iconst (v := (2 : Int32)) hx hb dX2_meetAtSeams_6 (by decide) ?_
  refine lv_idiv hx hb dX2_meetAtSeams_7 (by decide) ?_
  refine lv_aload_n hx hb dX2_meetAtSeams_8 rfl (lv_at hl 0 rfl) ?_
  refine gF hx hb hts hin wo_2 rfl hown hK hP (ob_2 _ _ _) 1 (va_rf (rV σ 201)) (by decide) rf_X2_15 rfl dX2_meetAtSeams_9 ?_
  refine rfS o_1 ?_
  refine lv_iconst (v := (2 : Int32)) hx hb dX2_meetAtSeams_12 (by decide) ?_
  obtain ⟨g_13, hF⟩ := ob_gd hF
  refine ldP hx hb hK hP k_5_1 (pA σ r_1 (2 : Int32).toNatClampNeg) g_13 rfl dX2_meetAtSeams_13 ?_
  refine va_mmin hx hb (hml.trans hl.1.symm) hown (hts _ (hin _ rm_X2_41)) (hts _ (hin _ rt_min)) (hts _ (hin _ rn_math)) (hts _ (hin _ rc_min)) (Nat.le_of_ble_eq_true rfl) (Nat.le_of_ble_eq_true rfl) (Nat.le_of_ble_eq_true rfl) (Nat.le_of_ble_eq_true rfl) dX2_meetAtSeams_14 ?_
  refine lv_istore_n (i := 1) (lv' := [(1, .int (if (pA σ r_1 (2 : Int32).toNatClampNeg) < ((pA σ r_1 (0 : Int32).toNatClampNeg) / (2 : Int32)) then (pA σ r_1 (2 : Int32).toNatClampNeg) else ((pA σ r_1 (0 : Int32).toNatClampNeg) / (2 : Int32)))), (0, .ref (ad 1002))]) hx hb dX2_meetAtSeams_17 rfl hl (by decide) rfl (fun ls hl => ?_)
  refine lv_aload_n hx hb dX2_meetAtSeams_18 rfl (lv_at hl 1 rfl) ?_
  refine gF hx hb hts hin wo_2 rfl hown hK hP (ob_2 _ _ _) 4 (.ref (ad 207)) (by decide) rf_X2_18 rfl dX2_meetAtSeams_19 ?_
  refine lv_iconst (v := (0 : Int32)) hx hb dX2_meetAtSeams_22 (by decide) ?_
  refine lv_aload_n hx hb dX2_meetAtSeams_23 rfl (lv_at hl 1 rfl) ?_
  refine gF hx hb hts hin wo_2 rfl hown hK hP (ob_2 _ _ _) 1 (va_rf (rV σ 201)) (by decide) rf_X2_15 rfl dX2_meetAtSeams_24 ?_
  refine rfS o_1 ?_
  refine lv_iconst (v := (0 : Int32)) hx hb dX2_meetAtSeams_27 (by decide) ?_
  obtain ⟨g_28, hF⟩ := ob_gd hF
  refine ldP hx hb hK hP k_5_1 (pA σ r_1 (0 : Int32).toNatClampNeg) g_28 rfl dX2_meetAtSeams_28 ?_
  obtain ⟨g_29, hF⟩ := ob_gd hF
  refine stF hx hb hK hP hD hS (ra_207 _ _ _) (rs_207 _ _ _ _ _) g_29 dX2_meetAtSeams_29 (fun H locs hP hD hS => ?_)
  refine lv_aload_n hx hb dX2_meetAtSeams_30 rfl (lv_at hl 1 rfl) ?_
  refine gF hx hb hts hin wo_2 rfl hown hK hP (ob_2 _ _ _) 4 (.ref (ad 207)) (by decide) rf_X2_18 rfl dX2_meetAtSeams_31 ?_
  refine lv_iconst (v := (1 : Int32)) hx hb dX2_meetAtSeams_34 (by decide) ?_
  refine lv_iload_n hx hb dX2_meetAtSeams_35 rfl (lv_at hl 0 rfl) ?_
  obtain ⟨g_36, hF⟩ := ob_gd hF
  refine stF hx hb hK hP hD hS (ra_207 _ _ _) (rs_207 _ _ _ _ _) g_36 dX2_meetAtSeams_36 (fun H locs hP hD hS => ?_)
  refine lv_aload_n hx hb dX2_meetAtSeams_37 rfl (lv_at hl 1 rfl) ?_
  refine gF hx hb hts hin wo_2 rfl hown hK hP (ob_2 _ _ _) 4 (.ref (ad 207)) (by decide) rf_X2_18 rfl dX2_meetAtSeams_38 ?_
  refine lv_iconst (v := (2 : Int32)) hx hb dX2_meetAtSeams_41 (by decide) ?_
  refine lv_iload_n hx hb dX2_meetAtSeams_42 rfl (lv_at hl 0 rfl) ?_
  obtain ⟨g_43, hF⟩ := ob_gd hF
  refine stF hx hb hK hP hD hS (ra_207 _ _ _) (rs_207 _ _ _ _ _) g_43 dX2_meetAtSeams_43 (fun H locs hP hD hS => ?_)
  refine lv_aload_n hx hb dX2_meetAtSeams_44 rfl (lv_at hl 1 rfl) ?_
  refine gF hx hb hts hin wo_2 rfl hown hK hP (ob_2 _ _ _) 4 (.ref (ad 207)) (by decide) rf_X2_18 rfl dX2_meetAtSeams_45 ?_
  refine lv_iconst (v := (3 : Int32)) hx hb dX2_meetAtSeams_48 (by decide) ?_
  refine lv_aload_n hx hb dX2_meetAtSeams_49 rfl (lv_at hl 1 rfl) ?_
  refine gF hx hb hts hin wo_2 rfl hown hK hP (ob_2 _ _ _) 1 (va_rf (rV (ra (ra (ra σ 207 (0 : Int32) (pA σ r_1 (0 : Int32).toNatClampNeg)) 207 (1 : Int32) (if (pA σ r_1 (2 : Int32).toNatClampNeg) < ((pA σ r_1 (0 : Int32).toNatClampNeg) / (2 : Int32)) then (pA σ r_1 (2 : Int32).toNatClampNeg) else ((pA σ r_1 (0 : Int32).toNatClampNeg) / (2 : Int32)))) 207 (2 : Int32) (if (pA σ r_1 (2 : Int32).toNatClampNeg) < ((pA σ r_1 (0 : Int32).toNatClampNeg) / (2 : Int32)) then (pA σ r_1 (2 : Int32).toNatClampNeg) else ((pA σ r_1 (0 : Int32).toNatClampNeg) / (2 : Int32)))) 201)) (by decide) rf_X2_15 rfl dX2_meetAtSeams_50 ?_
  obtain ⟨r_50, o_50, hF⟩ := ob_bd hF
  refine rfS o_50 ?_
  refine lv_iconst (v := (4 : Int32)) hx hb dX2_meetAtSeams_53 (by decide) ?_
  obtain ⟨k_54_2, hF⟩ := ob_gd hF
  obtain ⟨g_54, hF⟩ := ob_gd hF
  refine ldP hx hb hK hP k_54_2 (pA (ra (ra (ra σ 207 (0 : Int32) (pA σ r_1 (0 : Int32).toNatClampNeg)) 207 (1 : Int32) (if (pA σ r_1 (2 : Int32).toNatClampNeg) < ((pA σ r_1 (0 : Int32).toNatClampNeg) / (2 : Int32)) then (pA σ r_1 (2 : Int32).toNatClampNeg) else ((pA σ r_1 (0 : Int32).toNatClampNeg) / (2 : Int32)))) 207 (2 : Int32) (if (pA σ r_1 (2 : Int32).toNatClampNeg) < ((pA σ r_1 (0 : Int32).toNatClampNeg) / (2 : Int32)) then (pA σ r_1 (2 : Int32).toNatClampNeg) else ((pA σ r_1 (0 : Int32).toNatClampNeg) / (2 : Int32)))) r_50 (4 : Int32).toNatClampNeg) g_54 rfl dX2_meetAtSeams_54 ?_
  refine lv_aload_n hx hb dX2_meetAtSeams_55 rfl (lv_at hl 1 rfl) ?_
  refine gF hx hb hts hin wo_2 rfl hown hK hP (ob_2 _ _ _) 1 (va_rf (rV (ra (ra (ra σ 207 (0 : Int32) (pA σ r_1 (0 : Int32).toNatClampNeg)) 207 (1 : Int32) (if (pA σ r_1 (2 : Int32).toNatClampNeg) < ((pA σ r_1 (0 : Int32).toNatClampNeg) / (2 : Int32)) then (pA σ r_1 (2 : Int32).toNatClampNeg) else ((pA σ r_1 (0 : Int32).toNatClampNeg) / (2 : Int32)))) 207 (2 : Int32) (if (pA σ r_1 (2 : Int32).toNatClampNeg) < ((pA σ r_1 (0 : Int32).toNatClampNeg) / (2 : Int32)) then (pA σ r_1 (2 : Int32).toNatClampNeg) else ((pA σ r_1 (0 : Int32).toNatClampNeg) / (2 : Int32)))) 201)) (by decide) rf_X2_15 rfl dX2_meetAtSeams_56 ?_
  refine rfS o_50 ?_
  refine lv_iconst (v := (0 : Int32)) hx hb dX2_meetAtSeams_59 (by decide) ?_
  obtain ⟨g_60, hF⟩ := ob_gd hF
  refine ldP hx hb hK hP k_54_2 (pA (ra (ra (ra σ 207 (0 : Int32) (pA σ r_1 (0 : Int32).toNatClampNeg)) 207 (1 : Int32) (if (pA σ r_1 (2 : Int32).toNatClampNeg) < ((pA σ r_1 (0 : Int32).toNatClampNeg) / (2 : Int32)) then (pA σ r_1 (2 : Int32).toNatClampNeg) else ((pA σ r_1 (0 : Int32).toNatClampNeg) / (2 : Int32)))) 207 (2 : Int32) (if (pA σ r_1 (2 : Int32).toNatClampNeg) < ((pA σ r_1 (0 : Int32).toNatClampNeg) / (2 : Int32)) then (pA σ r_1 (2 : Int32).toNatClampNeg) else ((pA σ r_1 (0 : Int32).toNatClampNeg) / (2 : Int32)))) r_50 (0 : Int32).toNatClampNeg) g_60 rfl dX2_meetAtSeams_60 ?_
  refine va_mmin hx hb (hml.trans hl.1.symm) hown (hts _ (hin _ rm_X2_41)) (hts _ (hin _ rt_min)) (hts _ (hin _ rn_math)) (hts _ (hin _ rc_min)) (Nat.le_of_ble_eq_true rfl) (Nat.le_of_ble_eq_true rfl) (Nat.le_of_ble_eq_true rfl) (Nat.le_of_ble_eq_true rfl) dX2_meetAtSeams_61 ?_
  obtain ⟨g_64, hF⟩ := ob_gd hF
  refine stF hx hb hK hP hD hS (ra_207 _ _ _) (rs_207 _ _ _ _ _) g_64 dX2_meetAtSeams_64 (fun H locs hP hD hS => ?_)
  refine lv_aload_n hx hb dX2_meetAtSeams_65 rfl (lv_at hl 1 rfl) ?_
  refine gF hx hb hts hin wo_2 rfl hown hK hP (ob_2 _ _ _) 4 (.ref (ad 207)) (by decide) rf_X2_18 rfl dX2_meetAtSeams_66 ?_
  refine lv_iconst (v := (4 : Int32)) hx hb dX2_meetAtSeams_69 (by decide) ?_
  refine lv_aload_n hx hb dX2_meetAtSeams_70 rfl (lv_at hl 1 rfl) ?_
  refine gF hx hb hts hin wo_2 rfl hown hK hP (ob_2 _ _ _) 1 (va_rf (rV (ra (ra (ra (ra σ 207 (0 : Int32) (pA σ r_1 (0 : Int32).toNatClampNeg)) 207 (1 : Int32) (if (pA σ r_1 (2 : Int32).toNatClampNeg) < ((pA σ r_1 (0 : Int32).toNatClampNeg) / (2 : Int32)) then (pA σ r_1 (2 : Int32).toNatClampNeg) else ((pA σ r_1 (0 : Int32).toNatClampNeg) / (2 : Int32)))) 207 (2 : Int32) (if (pA σ r_1 (2 : Int32).toNatClampNeg) < ((pA σ r_1 (0 : Int32).toNatClampNeg) / (2 : Int32)) then (pA σ r_1 (2 : Int32).toNatClampNeg) else ((pA σ r_1 (0 : Int32).toNatClampNeg) / (2 : Int32)))) 207 (3 : Int32) (if (pA (ra (ra (ra σ 207 (0 : Int32) (pA σ r_1 (0 : Int32).toNatClampNeg)) 207 (1 : Int32) (if (pA σ r_1 (2 : Int32).toNatClampNeg) < ((pA σ r_1 (0 : Int32).toNatClampNeg) / (2 : Int32)) then (pA σ r_1 (2 : Int32).toNatClampNeg) else ((pA σ r_1 (0 : Int32).toNatClampNeg) / (2 : Int32)))) 207 (2 : Int32) (if (pA σ r_1 (2 : Int32).toNatClampNeg) < ((pA σ r_1 (0 : Int32).toNatClampNeg) / (2 : Int32)) then (pA σ r_1 (2 : Int32).toNatClampNeg) else ((pA σ r_1 (0 : Int32).toNatClampNeg) / (2 : Int32)))) r_50 (0 : Int32).toNatClampNeg) < (pA (ra (ra (ra σ 207 (0 : Int32) (pA σ r_1 (0 : Int32).toNatClampNeg)) 207 (1 : Int32) (if (pA σ r_1 (2 : Int32).toNatClampNeg) < ((pA σ r_1 (0 : Int32).toNatClampNeg) / (2 : Int32)) then (pA σ r_1 (2 : Int32).toNatClampNeg) else ((pA σ r_1 (0 : Int32).toNatClampNeg) / (2 : Int32)))) 207 (2 : Int32) (if (pA σ r_1 (2 : Int32).toNatClampNeg) < ((pA σ r_1 (0 : Int32).toNatClampNeg) / (2 : Int32)) then (pA σ r_1 (2 : Int32).toNatClampNeg) else ((pA σ r_1 (0 : Int32).toNatClampNeg) / (2 : Int32)))) r_50 (4 : Int32).toNatClampNeg) then (pA (ra (ra (ra σ 207 (0 : Int32) (pA σ r_1 (0 : Int32).toNatClampNeg)) 207 (1 : Int32) (if (pA σ r_1 (2 : Int32).toNatClampNeg) < ((pA σ r_1 (0 : Int32).toNatClampNeg) / (2 : Int32)) then (pA σ r_1 (2 : Int32).toNatClampNeg) else ((pA σ r_1 (0 : Int32).toNatClampNeg) / (2 : Int32)))) 207 (2 : Int32) (if (pA σ r_1 (2 : Int32).toNatClampNeg) < ((pA σ r_1 (0 : Int32).toNatClampNeg) / (2 : Int32)) then (pA σ r_1 (2 : Int32).toNatClampNeg) else ((pA σ r_1 (0 : Int32).toNatClampNeg) / (2 : Int32)))) r_50 (0 : Int32).toNatClampNeg) else (pA (ra (ra (ra σ 207 (0 : Int32) (pA σ r_1 (0 : Int32).toNatClampNeg)) 207 (1 : Int32) (if (pA σ r_1 (2 : Int32).toNatClampNeg) < ((pA σ r_1 (0 : Int32).toNatClampNeg) / (2 : Int32)) then (pA σ r_1 (2 : Int32).toNatClampNeg) else ((pA σ r_1 (0 : Int32).toNatClampNeg) / (2 : Int32)))) 207 (2 : Int32) (if (pA σ r_1 (2 : Int32).toNatClampNeg) < ((pA σ r_1 (0 : Int32).toNatClampNeg) / (2 : Int32)) then (pA σ r_1 (2 : Int32).toNatClampNeg) else ((pA σ r_1 (0 : Int32).toNatClampNeg) / (2 : Int32)))) r_50 (4 : Int32).toNatClampNeg))) 201)) (by decide) rf_X2_15 rfl dX2_meetAtSeams_71 ?_
  obtain ⟨r_71, o_71, hF⟩ := ob_bd hF
  refine rfS o_71 ?_
  refine lv_iconst (v := (5 : Int32)) hx hb dX2_meetAtSeams_74 (by decide) ?_
  obtain ⟨k_75_3, hF⟩ := ob_gd hF
  obtain ⟨g_75, hF⟩ := ob_gd hF
  refine ldP hx hb hK hP k_75_3 (pA (ra (ra (ra (ra σ 207 (0 : Int32) (pA σ r_1 (0 : Int32).toNatClampNeg)) 207 (1 : Int32) (if (pA σ r_1 (2 : Int32).toNatClampNeg) < ((pA σ r_1 (0 : Int32).toNatClampNeg) / (2 : Int32)) then (pA σ r_1 (2 : Int32).toNatClampNeg) else ((pA σ r_1 (0 : Int32).toNatClampNeg) / (2 : Int32)))) 207 (2 : Int32) (if (pA σ r_1 (2 : Int32).toNatClampNeg) < ((pA σ r_1 (0 : Int32).toNatClampNeg) / (2 : Int32)) then (pA σ r_1 (2 : Int32).toNatClampNeg) else ((pA σ r_1 (0 : Int32).toNatClampNeg) / (2 : Int32)))) 207 (3 : Int32) (if (pA (ra (ra (ra σ 207 (0 : Int32) (pA σ r_1 (0 : Int32).toNatClampNeg)) 207 (1 : Int32) (if (pA σ r_1 (2 : Int32).toNatClampNeg) < ((pA σ r_1 (0 : Int32).toNatClampNeg) / (2 : Int32)) then (pA σ r_1 (2 : Int32).toNatClampNeg) else ((pA σ r_1 (0 : Int32).toNatClampNeg) / (2 : Int32)))) 207 (2 : Int32) (if (pA σ r_1 (2 : Int32).toNatClampNeg) < ((pA σ r_1 (0 : Int32).toNatClampNeg) / (2 : Int32)) then (pA σ r_1 (2 : Int32).toNatClampNeg) else ((pA σ r_1 (0 : Int32).toNatClampNeg) / (2 : Int32)))) r_50 (0 : Int32).toNatClampNeg) < (pA (ra (ra (ra σ 207 (0 : Int32) (pA σ r_1 (0 : Int32).toNatClampNeg)) 207 (1 : Int32) (if (pA σ r_1 (2 : Int32).toNatClampNeg) < ((pA σ r_1 (0 : Int32).toNatClampNeg) / (2 : Int32)) then (pA σ r_1 (2 : Int32).toNatClampNeg) else ((pA σ r_1 (0 : Int32).toNatClampNeg) / (2 : Int32)))) 207 (2 : Int32) (if (pA σ r_1 (2 : Int32).toNatClampNeg) < ((pA σ r_1 (0 : Int32).toNatClampNeg) / (2 : Int32)) then (pA σ r_1 (2 : Int32).toNatClampNeg) else ((pA σ r_1 (0 : Int32).toNatClampNeg) / (2 : Int32)))) r_50 (4 : Int32).toNatClampNeg) then (pA (ra (ra (ra σ 207 (0 : Int32) (pA σ r_1 (0 : Int32).toNatClampNeg)) 207 (1 : Int32) (if (pA σ r_1 (2 : Int32).toNatClampNeg) < ((pA σ r_1 (0 : Int32).toNatClampNeg) / (2 : Int32)) then (pA σ r_1 (2 : Int32).toNatClampNeg) else ((pA σ r_1 (0 : Int32).toNatClampNeg) / (2 : Int32)))) 207 (2 : Int32) (if (pA σ r_1 (2 : Int32).toNatClampNeg) < ((pA σ r_1 (0 : Int32).toNatClampNeg) / (2 : Int32)) then (pA σ r_1 (2 : Int32).toNatClampNeg) else ((pA σ r_1 (0 : Int32).toNatClampNeg) / (2 : Int32)))) r_50 (0 : Int32).toNatClampNeg) else (pA (ra (ra (ra σ 207 (0 : Int32) (pA σ r_1 (0 : Int32).toNatClampNeg)) 207 (1 : Int32) (if (pA σ r_1 (2 : Int32).toNatClampNeg) < ((pA σ r_1 (0 : Int32).toNatClampNeg) / (2 : Int32)) then (pA σ r_1 (2 : Int32).toNatClampNeg) else ((pA σ r_1 (0 : Int32).toNatClampNeg) / (2 : Int32)))) 207 (2 : Int32) (if (pA σ r_1 (2 : Int32).toNatClampNeg) < ((pA σ r_1 (0 : Int32).toNatClampNeg) / (2 : Int32)) then (pA σ r_1 (2 : Int32).toNatClampNeg) else ((pA σ r_1 (0 : Int32).toNatClampNeg) / (2 : Int32)))) r_50 (4 : Int32).toNatClampNeg))) r_71 (5 : Int32).toNatClampNeg) g_75 rfl dX2_meetAtSeams_75 ?_
  refine lv_aload_n hx hb dX2_meetAtSeams_76 rfl (lv_at hl 1 rfl) ?_
  refine gF hx hb hts hin wo_2 rfl hown hK hP (ob_2 _ _ _) 1 (va_rf (rV (ra (ra (ra (ra σ 207 (0 : Int32) (pA σ r_1 (0 : Int32).toNatClampNeg)) 207 (1 : Int32) (if (pA σ r_1 (2 : Int32).toNatClampNeg) < ((pA σ r_1 (0 : Int32).toNatClampNeg) / (2 : Int32)) then (pA σ r_1 (2 : Int32).toNatClampNeg) else ((pA σ r_1 (0 : Int32).toNatClampNeg) / (2 : Int32)))) 207 (2 : Int32) (if (pA σ r_1 (2 : Int32).toNatClampNeg) < ((pA σ r_1 (0 : Int32).toNatClampNeg) / (2 : Int32)) then (pA σ r_1 (2 : Int32).toNatClampNeg) else ((pA σ r_1 (0 : Int32).toNatClampNeg) / (2 : Int32)))) 207 (3 : Int32) (if (pA (ra (ra (ra σ 207 (0 : Int32) (pA σ r_1 (0 : Int32).toNatClampNeg)) 207 (1 : Int32) (if (pA σ r_1 (2 : Int32).toNatClampNeg) < ((pA σ r_1 (0 : Int32).toNatClampNeg) / (2 : Int32)) then (pA σ r_1 (2 : Int32).toNatClampNeg) else ((pA σ r_1 (0 : Int32).toNatClampNeg) / (2 : Int32)))) 207 (2 : Int32) (if (pA σ r_1 (2 : Int32).toNatClampNeg) < ((pA σ r_1 (0 : Int32).toNatClampNeg) / (2 : Int32)) then (pA σ r_1 (2 : Int32).toNatClampNeg) else ((pA σ r_1 (0 : Int32).toNatClampNeg) / (2 : Int32)))) r_50 (0 : Int32).toNatClampNeg) < (pA (ra (ra (ra σ 207 (0 : Int32) (pA σ r_1 (0 : Int32).toNatClampNeg)) 207 (1 : Int32) (if (pA σ r_1 (2 : Int32).toNatClampNeg) < ((pA σ r_1 (0 : Int32).toNatClampNeg) / (2 : Int32)) then (pA σ r_1 (2 : Int32).toNatClampNeg) else ((pA σ r_1 (0 : Int32).toNatClampNeg) / (2 : Int32)))) 207 (2 : Int32) (if (pA σ r_1 (2 : Int32).toNatClampNeg) < ((pA σ r_1 (0 : Int32).toNatClampNeg) / (2 : Int32)) then (pA σ r_1 (2 : Int32).toNatClampNeg) else ((pA σ r_1 (0 : Int32).toNatClampNeg) / (2 : Int32)))) r_50 (4 : Int32).toNatClampNeg) then (pA (ra (ra (ra σ 207 (0 : Int32) (pA σ r_1 (0 : Int32).toNatClampNeg)) 207 (1 : Int32) (if (pA σ r_1 (2 : Int32).toNatClampNeg) < ((pA σ r_1 (0 : Int32).toNatClampNeg) / (2 : Int32)) then (pA σ r_1 (2 : Int32).toNatClampNeg) else ((pA σ r_1 (0 : Int32).toNatClampNeg) / (2 : Int32)))) 207 (2 : Int32) (if (pA σ r_1 (2 : Int32).toNatClampNeg) < ((pA σ r_1 (0 : Int32).toNatClampNeg) / (2 : Int32)) then (pA σ r_1 (2 : Int32).toNatClampNeg) else ((pA σ r_1 (0 : Int32).toNatClampNeg) / (2 : Int32)))) r_50 (0 : Int32).toNatClampNeg) else (pA (ra (ra (ra σ 207 (0 : Int32) (pA σ r_1 (0 : Int32).toNatClampNeg)) 207 (1 : Int32) (if (pA σ r_1 (2 : Int32).toNatClampNeg) < ((pA σ r_1 (0 : Int32).toNatClampNeg) / (2 : Int32)) then (pA σ r_1 (2 : Int32).toNatClampNeg) else ((pA σ r_1 (0 : Int32).toNatClampNeg) / (2 : Int32)))) 207 (2 : Int32) (if (pA σ r_1 (2 : Int32).toNatClampNeg) < ((pA σ r_1 (0 : Int32).toNatClampNeg) / (2 : Int32)) then (pA σ r_1 (2 : Int32).toNatClampNeg) else ((pA σ r_1 (0 : Int32).toNatClampNeg) / (2 : Int32)))) r_50 (4 : Int32).toNatClampNeg))) 201)) (by decide) rf_X2_15 rfl dX2_meetAtSeams_77 ?_
  refine rfS o_71 ?_
  refine lv_iconst (v := (4 : Int32)) hx hb dX2_meetAtSeams_80 (by decide) ?_
  obtain ⟨g_81, hF⟩ := ob_gd hF
  refine ldP hx hb hK hP k_75_3 (pA (ra (ra (ra (ra σ 207 (0 : Int32) (pA σ r_1 (0 : Int32).toNatClampNeg)) 207 (1 : Int32) (if (pA σ r_1 (2 : Int32).toNatClampNeg) < ((pA σ r_1 (0 : Int32).toNatClampNeg) / (2 : Int32)) then (pA σ r_1 (2 : Int32).toNatClampNeg) else ((pA σ r_1 (0 : Int32).toNatClampNeg) / (2 : Int32)))) 207 (2 : Int32) (if (pA σ r_1 (2 : Int32).toNatClampNeg) < ((pA σ r_1 (0 : Int32).toNatClampNeg) / (2 : Int32)) then (pA σ r_1 (2 : Int32).toNatClampNeg) else ((pA σ r_1 (0 : Int32).toNatClampNeg) / (2 : Int32)))) 207 (3 : Int32) (if (pA (ra (ra (ra σ 207 (0 : Int32) (pA σ r_1 (0 : Int32).toNatClampNeg)) 207 (1 : Int32) (if (pA σ r_1 (2 : Int32).toNatClampNeg) < ((pA σ r_1 (0 : Int32).toNatClampNeg) / (2 : Int32)) then (pA σ r_1 (2 : Int32).toNatClampNeg) else ((pA σ r_1 (0 : Int32).toNatClampNeg) / (2 : Int32)))) 207 (2 : Int32) (if (pA σ r_1 (2 : Int32).toNatClampNeg) < ((pA σ r_1 (0 : Int32).toNatClampNeg) / (2 : Int32)) then (pA σ r_1 (2 : Int32).toNatClampNeg) else ((pA σ r_1 (0 : Int32).toNatClampNeg) / (2 : Int32)))) r_50 (0 : Int32).toNatClampNeg) < (pA (ra (ra (ra σ 207 (0 : Int32) (pA σ r_1 (0 : Int32).toNatClampNeg)) 207 (1 : Int32) (if (pA σ r_1 (2 : Int32).toNatClampNeg) < ((pA σ r_1 (0 : Int32).toNatClampNeg) / (2 : Int32)) then (pA σ r_1 (2 : Int32).toNatClampNeg) else ((pA σ r_1 (0 : Int32).toNatClampNeg) / (2 : Int32)))) 207 (2 : Int32) (if (pA σ r_1 (2 : Int32).toNatClampNeg) < ((pA σ r_1 (0 : Int32).toNatClampNeg) / (2 : Int32)) then (pA σ r_1 (2 : Int32).toNatClampNeg) else ((pA σ r_1 (0 : Int32).toNatClampNeg) / (2 : Int32)))) r_50 (4 : Int32).toNatClampNeg) then (pA (ra (ra (ra σ 207 (0 : Int32) (pA σ r_1 (0 : Int32).toNatClampNeg)) 207 (1 : Int32) (if (pA σ r_1 (2 : Int32).toNatClampNeg) < ((pA σ r_1 (0 : Int32).toNatClampNeg) / (2 : Int32)) then (pA σ r_1 (2 : Int32).toNatClampNeg) else ((pA σ r_1 (0 : Int32).toNatClampNeg) / (2 : Int32)))) 207 (2 : Int32) (if (pA σ r_1 (2 : Int32).toNatClampNeg) < ((pA σ r_1 (0 : Int32).toNatClampNeg) / (2 : Int32)) then (pA σ r_1 (2 : Int32).toNatClampNeg) else ((pA σ r_1 (0 : Int32).toNatClampNeg) / (2 : Int32)))) r_50 (0 : Int32).toNatClampNeg) else (pA (ra (ra (ra σ 207 (0 : Int32) (pA σ r_1 (0 : Int32).toNatClampNeg)) 207 (1 : Int32) (if (pA σ r_1 (2 : Int32).toNatClampNeg) < ((pA σ r_1 (0 : Int32).toNatClampNeg) / (2 : Int32)) then (pA σ r_1 (2 : Int32).toNatClampNeg) else ((pA σ r_1 (0 : Int32).toNatClampNeg) / (2 : Int32)))) 207 (2 : Int32) (if (pA σ r_1 (2 : Int32).toNatClampNeg) < ((pA σ r_1 (0 : Int32).toNatClampNeg) / (2 : Int32)) then (pA σ r_1 (2 : Int32).toNatClampNeg) else ((pA σ r_1 (0 : Int32).toNatClampNeg) / (2 : Int32)))) r_50 (4 : Int32).toNatClampNeg))) r_71 (4 : Int32).toNatClampNeg) g_81 rfl dX2_meetAtSeams_81 ?_
  refine va_mmin hx hb (hml.trans hl.1.symm) hown (hts _ (hin _ rm_X2_41)) (hts _ (hin _ rt_min)) (hts _ (hin _ rn_math)) (hts _ (hin _ rc_min)) (Nat.le_of_ble_eq_true rfl) (Nat.le_of_ble_eq_true rfl) (Nat.le_of_ble_eq_true rfl) (Nat.le_of_ble_eq_true rfl) dX2_meetAtSeams_82 ?_
  obtain ⟨g_85, hF⟩ := ob_gd hF
  refine stF hx hb hK hP hD hS (ra_207 _ _ _) (rs_207 _ _ _ _ _) g_85 dX2_meetAtSeams_85 (fun H locs hP hD hS => ?_)
  exact rvR hx hb hr hlocks hF hK hP hD hS dX2_meetAtSeams_86
def wsR_X2_spread : List Cond := Cond.code yX2_spread cX2_spread 6 none :: wRa
theorem cw_X2_X2_isSpot_34 {R : Room} {s : State} {args : Array Value} {y : MethodName} {c : ByteArray} {n : Nat} {r : Option FieldType} (hts : ∀ w ∈ (Cond.code y c n r :: wRa), w.before args s = true) (hR : 0 + 1 ≤ R.frames ∧ 8 + (1 + 11) + 0 ≤ R.locals) : CallB R s args RX2 34 yX2_isSpot cX2_isSpot 1 (some .boolean) wsR_X2_isSpot { frames := 0, cells := 0, slots := 0, locals := 0 } 0 0 1 ∧ (Cond.static yX2_isSpot).before args s = true := va_cwS 1 hts (goodS wRa_good rm_X2_34 rt_X2_isSpot rn_X2 rc_X2_isSpot) rfl rfl rfl (by decide +kernel) hR
theorem cw_X2_X2_meetAtSeams_38 {R : Room} {s : State} {args : Array Value} {y : MethodName} {c : ByteArray} {n : Nat} {r : Option FieldType} (hts : ∀ w ∈ (Cond.code y c n r :: wRa), w.before args s = true) (hR : 1 + 1 ≤ R.frames ∧ 8 + (2 + 11) + 24 ≤ R.locals) : CallW R s args RX2 RX2 38 yX2_meetAtSeams cX2_meetAtSeams 2 none wsR_X2_meetAtSeams { frames := 1, cells := 0, slots := 0, locals := 24 } 0 0 0 := cwV 0 hts (goodV wRa_good rm_X2_38 ri_X2_meetAtSeams rs_X2_meetAtSeams rn_X2 rc_X2_meetAtSeams) rfl rfl rfl (by decide +kernel) hR
def FR_X2_spread_74 (K_24 : Int32 → RS → Option RS) (x5_74 : Int32) (t1_74 : Int32) (t2_74 : Int32) (t3_74 : Int32) (σ_74 : RS) : Option RS := (gd (inb t1_74 121) (K_24 (x5_74 + (1 : Int32)) (ra σ_74 204 t1_74 (t2_74 + t3_74))))
def FR_X2_spread_24 (K_82 : RS → Option RS) : Nat → Int32 → RS → Option RS
  | 0, _, _ => none
  | n_24 + 1, x5_24, σ_24 => ((rV σ_24 200).bind fun r_27 => (gd (isK σ_24 r_27 11) (if (Int32.ofNat (pN σ_24 r_27)) ≤ x5_24 then (K_82 σ_24) else (if (120 : Int32) ≤ x5_24 then (K_82 σ_24) else (gd (inb x5_24 121) (gd (inb x5_24 (pN σ_24 r_27)) ((FR_X2_isSpot (pA σ_24 r_27 x5_24.toNatClampNeg)).bind fun q_63 => (if q_63 = 0 then (FR_X2_spread_74 (fun x5_24 σ_24 => FR_X2_spread_24 K_82 n_24 x5_24 σ_24) x5_24 (x5_24 + (1 : Int32)) (rA σ_24 204 x5_24.toNatClampNeg) (0 : Int32) σ_24) else (FR_X2_spread_74 (fun x5_24 σ_24 => FR_X2_spread_24 K_82 n_24 x5_24 σ_24) x5_24 (x5_24 + (1 : Int32)) (rA σ_24 204 x5_24.toNatClampNeg) (1 : Int32) σ_24)))))))))
def FR_X2_spread_82 (σ_82 : RS) : Option RS := ((FR_X2_meetAtSeams σ_82).bind fun q_83 => (some q_83))
def FR_X2_spread (σ : RS) (p1 : Nat) (p2 : Nat) (p3 : Int32) (p4 : Int32) : Option RS := (FR_X2_spread_24 (fun σ_82 => FR_X2_spread_82 σ_82) fu (0 : Int32) (ri (ri (rv (rv σ 200 (some p1)) 201 (some p2)) 202 p3) 203 p4))
set_option maxHeartbeats 4000000 in
set_option maxRecDepth 100000 in
theorem cR_X2_spread (l : Launch) (D : va_G) (cs : Nat → ClassId) (ad tb : Nat → Nat) (A : Nat → Prop) (σ : RS) (p1 : Nat) (p2 : Nat) (p3 : Int32) (p4 : Int32) (q : RS) (hF : FR_X2_spread σ p1 p2 p3 p4 = some q) : Met l yX2_spread wsR_X2_spread { frames := 2, cells := 0, slots := 0, locals := 45 } (va_Pc [.ref (ad 1002), .ref p1, .ref p2, .int p3, .int p4] (preQ D cs ad tb A σ)) (va_Qv (fun u => u = q) (posQ D cs ad A) A) 0 0 A := by
  refine Met.ofW (cc := cX2_spread) (maxL := 6) (ret := none) (by decide) rfl ?_
  intro p e s m args below meth c s₁ B hml hv
  obtain ⟨rfl, hP, hK, hD, hZ⟩ := hv
  have hx := B.exec
  have hb := B.bytes
  have hr := B.returns
  have hts : ∀ w ∈ (Cond.code yX2_spread cX2_spread 6 none :: wRa), w.before ([.ref (ad 1002), .ref p1, .ref p2, .int p3, .int p4] : List Value).toArray s = true := atoms_spec (ws := wsR_X2_spread) B.pre
  have hin : ∀ w ∈ wRa, w ∈ (Cond.code yX2_spread cX2_spread 6 none :: wRa) := fun w hw => List.mem_cons_of_mem _ hw
  have hown : s.vm.findClass RX2 = some m.cls := findClass_of_methodNamed B.named
  have hlocks := B.notSynchronized
  have hS : va_S A s.heap s.heap [] := va_S.rf
  have b_74 : ∀ (x5_74 : Int32) (K_24 : Int32 → RS → Option RS) (k_24 : ∀ (x5_24 : Int32) (σ_24 : RS) (H : Heap) (locs : List Loc) (ls : Array Slot), K_24 x5_24 σ_24 = some q → va_P D vwCl (wR cs ad σ_24) H → va_D A (wR cs ad σ_24) → va_S A s.heap H locs → lv_has ls 6 [(0, .ref (ad 1002)), (5, .int x5_24)] → W p l e (headSpec wsR_X2_spread { frames := 2, cells := 0, slots := 0, locals := 45 }).room s m ([.ref (ad 1002), .ref p1, .ref p2, .int p3, .int p4] : List Value).toArray below meth c H locs 0 0 (MQ below (va_Qv (fun u => u = q) (posQ D cs ad A) A) ([.ref (ad 1002), .ref p1, .ref p2, .int p3, .int p4] : List Value).toArray s 0 0 A) (F0 m 24 ls [])) (t1_74 : Int32) (t2_74 : Int32) (t3_74 : Int32) (σ_74 : RS) (H : Heap) (locs : List Loc) (ls : Array Slot), FR_X2_spread_74 K_24 x5_74 t1_74 t2_74 t3_74 σ_74 = some q → va_P D vwCl (wR cs ad σ_74) H → va_D A (wR cs ad σ_74) → va_S A s.heap H locs → lv_has ls 6 [(0, .ref (ad 1002)), (5, .int x5_74)] → W p l e (headSpec wsR_X2_spread { frames := 2, cells := 0, slots := 0, locals := 45 }).room s m ([.ref (ad 1002), .ref p1, .ref p2, .int p3, .int p4] : List Value).toArray below meth c H locs 0 0 (MQ below (va_Qv (fun u => u = q) (posQ D cs ad A) A) ([.ref (ad 1002), .ref p1, .ref p2, .int p3, .int p4] : List Value).toArray s 0 0 A) (F0 m 74 ls [.int t3_74, .int t2_74, .int t1_74, .ref (ad 204)]) := by
    intro x5_74 K_24 k_24 t1_74 t2_74 t3_74 σ_74 H locs ls hF hP hD hS hl
    unfold FR_X2_spread_74 at hF
    refine lv_iadd hx hb dX2_spread_74 ?_
    obtain ⟨g_75, hF⟩ := ob_gd hF
    refine stF hx hb hK hP hD hS (ra_204 _ _ _) (rs_204 _ _ _ _ _) g_75 dX2_spread_75 (fun H locs hP hD hS => ?_)
    refine lv_iinc (v := x5_74 + (1 : Int32)) (lv' := [(5, .int (x5_74 + (1 : Int32))), (0, .ref (ad 1002))]) hx hb dX2_spread_76 hl (k := 1) rfl rfl (by decide) rfl (fun ls hl => ?_)
    refine lv_goto (tgt := 24) hx hb dX2_spread_79 (by decide) ?_
    exact k_24 (x5_74 + (1 : Int32)) (ra σ_74 204 t1_74 (t2_74 + t3_74)) _ _ _ hF hP hD hS (lv_sub hl [1, 0] rfl)
  have b_24 : ∀ (K_82 : RS → Option RS) (k_82 : ∀ (σ_82 : RS) (H : Heap) (locs : List Loc) (ls : Array Slot), K_82 σ_82 = some q → va_P D vwCl (wR cs ad σ_82) H → va_D A (wR cs ad σ_82) → va_S A s.heap H locs → lv_has ls 6 [(0, .ref (ad 1002))] → W p l e (headSpec wsR_X2_spread { frames := 2, cells := 0, slots := 0, locals := 45 }).room s m ([.ref (ad 1002), .ref p1, .ref p2, .int p3, .int p4] : List Value).toArray below meth c H locs 0 0 (MQ below (va_Qv (fun u => u = q) (posQ D cs ad A) A) ([.ref (ad 1002), .ref p1, .ref p2, .int p3, .int p4] : List Value).toArray s 0 0 A) (F0 m 82 ls [])) (n_24 : Nat) (x5_24 : Int32) (σ_24 : RS) (H : Heap) (locs : List Loc) (ls : Array Slot), FR_X2_spread_24 K_82 n_24 x5_24 σ_24 = some q → va_P D vwCl (wR cs ad σ_24) H → va_D A (wR cs ad σ_24) → va_S A s.heap H locs → lv_has ls 6 [(0, .ref (ad 1002)), (5, .int x5_24)] → W p l e (headSpec wsR_X2_spread { frames := 2, cells := 0, slots := 0, locals := 45 }).room s m ([.ref (ad 1002), .ref p1, .ref p2, .int p3, .int p4] : List Value).toArray below meth c H locs 0 0 (MQ below (va_Qv (fun u => u = q) (posQ D cs ad A) A) ([.ref (ad 1002), .ref p1, .ref p2, .int p3, .int p4] : List Value).toArray s 0 0 A) (F0 m 24 ls []) := by
    intro K_82 k_82
    intro n_24
    induction n_24 with
    | zero =>
      intro x5_24 σ_24 H locs ls hF hP hD hS hl
      exact absurd hF (by simp [FR_X2_spread_24])
    | succ n_24 ih_24 =>
      intro x5_24 σ_24 H locs ls hF hP hD hS hl
      rw [FR_X2_spread_24] at hF
      refine lv_iload hx hb dX2_spread_24 (lv_at hl 1 rfl) ?_
      refine lv_aload_n hx hb dX2_spread_26 rfl (lv_at hl 0 rfl) ?_
      refine gF hx hb hts hin wo_2 rfl hown hK hP (ob_2 _ _ _) 0 (va_rf (rV σ_24 200)) (by decide) rf_X2_9 rfl dX2_spread_27 ?_
      obtain ⟨r_27, o_27, hF⟩ := ob_bd hF
      refine rfS o_27 ?_
      obtain ⟨k_30_1, hF⟩ := ob_gd hF
      refine lnP (v := (Int32.ofNat (pN σ_24 r_27))) hx hb hK hP k_30_1 rfl dX2_spread_30 ?_
      refine lv_icmp_ge (tgt := 82) hx hb dX2_spread_31 (by decide) (fun c_31 => ?_) (fun c_31 => ?_)
      · have hF := ob_t c_31 hF
        exact k_82 σ_24 _ _ _ hF hP hD hS (lv_sub hl [0] rfl)
      · have hF := ob_f c_31 hF
        refine lv_iload hx hb dX2_spread_34 (lv_at hl 1 rfl) ?_
        refine lv_bipush (v := (120 : Int32)) hx hb dX2_spread_36 (by decide) ?_
        refine lv_icmp_ge (tgt := 82) hx hb dX2_spread_38 (by decide) (fun c_38 => ?_) (fun c_38 => ?_)
        · have hF := ob_t c_38 hF
          exact k_82 σ_24 _ _ _ hF hP hD hS (lv_sub hl [0] rfl)
        · have hF := ob_f c_38 hF
          refine lv_aload_n hx hb dX2_spread_41 rfl (lv_at hl 0 rfl) ?_
          refine gF hx hb hts hin wo_2 rfl hown hK hP (ob_2 _ _ _) 5 (.ref (ad 204)) (by decide) rf_X2_21 rfl dX2_spread_42 ?_
          refine lv_iload hx hb dX2_spread_45 (lv_at hl 1 rfl) ?_
          refine lv_iconst (v := (1 : Int32)) hx hb dX2_spread_47 (by decide) ?_
          refine lv_iadd hx hb dX2_spread_48 ?_
          refine lv_aload_n hx hb dX2_spread_49 rfl (lv_at hl 0 rfl) ?_
          refine gF hx hb hts hin wo_2 rfl hown hK hP (ob_2 _ _ _) 5 (.ref (ad 204)) (by decide) rf_X2_21 rfl dX2_spread_50 ?_
          refine lv_iload hx hb dX2_spread_53 (lv_at hl 1 rfl) ?_
          obtain ⟨g_55, hF⟩ := ob_gd hF
          refine ldF hx hb hK hP (ra_204 _ _ _) (rA σ_24 204 x5_24.toNatClampNeg) g_55 rfl dX2_spread_55 ?_
          refine lv_aload_n hx hb dX2_spread_56 rfl (lv_at hl 0 rfl) ?_
          refine gF hx hb hts hin wo_2 rfl hown hK hP (ob_2 _ _ _) 0 (va_rf (rV σ_24 200)) (by decide) rf_X2_9 rfl dX2_spread_57 ?_
          refine rfS o_27 ?_
          refine lv_iload hx hb dX2_spread_60 (lv_at hl 1 rfl) ?_
          obtain ⟨g_62, hF⟩ := ob_gd hF
          refine ldP hx hb hK hP k_30_1 (pA σ_24 r_27 x5_24.toNatClampNeg) g_62 rfl dX2_spread_62 ?_
          obtain ⟨q_63, e_63, hF⟩ := ob_bd hF
          refine csR (As := [.int (pA σ_24 r_27 x5_24.toNatClampNeg)]) (rest := [.int (rA σ_24 204 x5_24.toNatClampNeg), .int (x5_24 + (1 : Int32)), .ref (ad 204)]) ⟨hx, hb, hml, hown, hts⟩ (cR_X2_isSpot l (pA σ_24 r_27 x5_24.toNatClampNeg) _ e_63) (cw_X2_X2_isSpot_34 hts ⟨Nat.le_of_ble_eq_true rfl, Nat.le_of_ble_eq_true rfl⟩) ⟨Nat.zero_le _, Nat.zero_le _⟩ rfl hl.1 rfl (lv_room (Nat.le_of_ble_eq_true rfl)) dX2_spread_63 ?_
          refine lv_if_eq (tgt := 73) hx hb dX2_spread_66 (by decide) (fun c_66 => ?_) (fun c_66 => ?_)
          · have hF := ob_t c_66 hF
            refine lv_iconst (v := (0 : Int32)) hx hb dX2_spread_73 (by decide) ?_
            exact b_74 x5_24 (fun x5_24 σ_24 => FR_X2_spread_24 K_82 n_24 x5_24 σ_24) ih_24 (x5_24 + (1 : Int32)) (rA σ_24 204 x5_24.toNatClampNeg) (0 : Int32) σ_24 _ _ _ hF hP hD hS hl
          · have hF := ob_f c_66 hF
            refine lv_iconst (v := (1 : Int32)) hx hb dX2_spread_69 (by decide) ?_
            refine lv_goto (tgt := 74) hx hb dX2_spread_70 (by decide) ?_
            exact b_74 x5_24 (fun x5_24 σ_24 => FR_X2_spread_24 K_82 n_24 x5_24 σ_24) ih_24 (x5_24 + (1 : Int32)) (rA σ_24 204 x5_24.toNatClampNeg) (1 : Int32) σ_24 _ _ _ hF hP hD hS hl
  have b_82 : ∀ (σ_82 : RS) (H : Heap) (locs : List Loc) (ls : Array Slot), FR_X2_spread_82 σ_82 = some q → va_P D vwCl (wR cs ad σ_82) H → va_D A (wR cs ad σ_82) → va_S A s.heap H locs → lv_has ls 6 [(0, .ref (ad 1002))] → W p l e (headSpec wsR_X2_spread { frames := 2, cells := 0, slots := 0, locals := 45 }).room s m ([.ref (ad 1002), .ref p1, .ref p2, .int p3, .int p4] : List Value).toArray below meth c H locs 0 0 (MQ below (va_Qv (fun u => u = q) (posQ D cs ad A) A) ([.ref (ad 1002), .ref p1, .ref p2, .int p3, .int p4] : List Value).toArray s 0 0 A) (F0 m 82 ls []) := by
    intro σ_82 H locs ls hF hP hD hS hl
    unfold FR_X2_spread_82 at hF
    refine lv_aload_n hx hb dX2_spread_82 rfl (lv_at hl 0 rfl) ?_
    obtain ⟨q_83, e_83, hF⟩ := ob_bd hF
    refine cvR (As := []) (rest := []) ⟨hx, hb, hml, hown, hts⟩ (cR_X2_meetAtSeams l D cs ad tb A σ_82 _ e_83) (cw_X2_X2_meetAtSeams_38 hts ⟨Nat.le_of_ble_eq_true rfl, Nat.le_of_ble_eq_true rfl⟩) ⟨Nat.zero_le _, Nat.zero_le _⟩ (rcF hK hP (ci := 2) rfl (ob_2 _ _ _)) hK hP hD hS hZ rfl hl.1 rfl (lv_room (Nat.le_of_ble_eq_true rfl)) dX2_spread_83 (fun H locs hP hD hS => ?_)
    exact rvR hx hb hr hlocks hF hK hP hD hS dX2_spread_86
  have hl := lv_entry ([.ref (ad 1002), .ref p1, .ref p2, .int p3, .int p4]) (n := 6) (Nat.le_of_ble_eq_true rfl)
  rw [lg_entry_eq]
  generalize (lg_sl ([.ref (ad 1002), .ref p1, .ref p2, .int p3, .int p4]) ++ List.replicate (6 - (lg_sl ([.ref (ad 1002), .ref p1, .ref p2, .int p3, .int p4])).length) Slot.unset).toArray = ls at hl ⊢
  have hl : lv_has ls 6 [(0, .ref (ad 1002)), (1, .ref p1), (2, .ref p2), (3, .int p3), (4, .int p4)] := hl
  unfold FR_X2_spread at hF
  refine lv_aload_n hx hb dX2_spread_0 rfl (lv_at hl 0 rfl) ?_
  refine lv_aload_n hx hb dX2_spread_1 rfl (lv_at hl 1 rfl) ?_
  refine pF (ty := .array .int) hx hb hts hin wo_2 rfl tyX2 tyX2_ok nmX2 hown hK hP hD hS (ob_2 _ _ _) 0 (by decide) rf_X2_9 rfl (by decide +kernel) rfl rfl (Nat.le_of_ble_eq_true rfl) (rp_200 _ _ _ (some p1)) dX2_spread_2 (fun H locs hP hD hS => ?_)
  refine lv_aload_n hx hb dX2_spread_5 rfl (lv_at hl 0 rfl) ?_
  refine lv_aload_n hx hb dX2_spread_6 rfl (lv_at hl 2 rfl) ?_
  refine pF (ty := .array .int) hx hb hts hin wo_2 rfl tyX2 tyX2_ok nmX2 hown hK hP hD hS (ob_2 _ _ _) 1 (by decide) rf_X2_15 rfl (by decide +kernel) rfl rfl (Nat.le_of_ble_eq_true rfl) (rp_201 _ _ _ (some p2)) dX2_spread_7 (fun H locs hP hD hS => ?_)
  refine lv_aload_n hx hb dX2_spread_10 rfl (lv_at hl 0 rfl) ?_
  refine lv_iload_n hx hb dX2_spread_11 rfl (lv_at hl 3 rfl) ?_
  refine pF (ty := .int) hx hb hts hin wo_2 rfl tyX2 tyX2_ok nmX2 hown hK hP hD hS (ob_2 _ _ _) 2 (by decide) rf_X2_27 rfl (by decide +kernel) rfl rfl (Nat.le_of_ble_eq_true rfl) (rp_202 _ _ _ _) dX2_spread_12 (fun H locs hP hD hS => ?_)
  refine lv_aload_n hx hb dX2_spread_15 rfl (lv_at hl 0 rfl) ?_
  refine lv_iload hx hb dX2_spread_16 (lv_at hl 4 rfl) ?_
  refine pF (ty := .int) hx hb hts hin wo_2 rfl tyX2 tyX2_ok nmX2 hown hK hP hD hS (ob_2 _ _ _) 3 (by decide) rf_X2_31 rfl (by decide +kernel) rfl rfl (Nat.le_of_ble_eq_true rfl) (rp_203 _ _ _ _) dX2_spread_18 (fun H locs hP hD hS => ?_)
  refine lv_iconst (v := (0 : Int32)) hx hb dX2_spread_21 (by decide) ?_
  refine lv_istore (i := 5) (lv' := [(5, .int (0 : Int32)), (0, .ref (ad 1002)), (1, .ref p1), (2, .ref p2), (3, .int p3), (4, .int p4)]) hx hb dX2_spread_22 hl (by decide) rfl (fun ls hl => ?_)
  exact b_24 (fun σ_82 => FR_X2_spread_82 σ_82) (fun σ_82 => b_82 σ_82) fu (0 : Int32) (ri (ri (rv (rv σ 200 (some p1)) 201 (some p2)) 202 p3) 203 p4) _ _ _ hF hP hD hS (lv_sub hl [1, 0] rfl)
def wsR_X2_lay : List Cond := Cond.code yX2_lay cX2_lay 6 none :: wRa
def FR_X2_lay_10 (x1_10 : Int32) : Nat → Int32 → Int32 → RS → Option RS
  | 0, _, _, _ => none
  | n_10 + 1, x3_10, x4_10, σ_10 => (if (6 : Int32) ≤ x4_10 then (some σ_10) else ((FR_X9_pieceAt σ_10 x1_10 x4_10).bind fun q_20 => (gd (inb q_20 6) ((rV (ra σ_10 205 q_20 x3_10) 201).bind fun r_35 => (gd (isK (ra σ_10 205 q_20 x3_10) r_35 11) (gd (inb q_20 (pN (ra σ_10 205 q_20 x3_10) r_35)) (FR_X2_lay_10  x1_10 n_10 (x3_10 + (pA (ra σ_10 205 q_20 x3_10) r_35 q_20.toNatClampNeg)) (x4_10 + (1 : Int32)) (ra σ_10 205 q_20 x3_10))))))))
def FR_X2_lay (σ : RS) (p1 : Int32) (p2 : Int32) : Option RS := (FR_X2_lay_10 p1 fu (0 : Int32) (0 : Int32) (ri σ 206 p2))
set_option maxHeartbeats 4000000 in
set_option maxRecDepth 100000 in
theorem cR_X2_lay (l : Launch) (D : va_G) (cs : Nat → ClassId) (ad tb : Nat → Nat) (A : Nat → Prop) (σ : RS) (p1 : Int32) (p2 : Int32) (q : RS) (hF : FR_X2_lay σ p1 p2 = some q) : Met l yX2_lay wsR_X2_lay { frames := 2, cells := 0, slots := 0, locals := 47 } (va_Pc [.ref (ad 1002), .int p1, .int p2] (preQ D cs ad tb A σ)) (va_Qv (fun u => u = q) (posQ D cs ad A) A) 0 0 A := by
  refine Met.ofW (cc := cX2_lay) (maxL := 6) (ret := none) (by decide) rfl ?_
  intro p e s m args below meth c s₁ B hml hv
  obtain ⟨rfl, hP, hK, hD, hZ⟩ := hv
  have hx := B.exec
  have hb := B.bytes
  have hr := B.returns
  have hts : ∀ w ∈ (Cond.code yX2_lay cX2_lay 6 none :: wRa), w.before ([.ref (ad 1002), .int p1, .int p2] : List Value).toArray s = true := atoms_spec (ws := wsR_X2_lay) B.pre
  have hin : ∀ w ∈ wRa, w ∈ (Cond.code yX2_lay cX2_lay 6 none :: wRa) := fun w hw => List.mem_cons_of_mem _ hw
  have hown : s.vm.findClass RX2 = some m.cls := findClass_of_methodNamed B.named
  have hlocks := B.notSynchronized
  have hS : va_S A s.heap s.heap [] := va_S.rf
  have b_10 : ∀ (x1_10 : Int32) (n_10 : Nat) (x3_10 : Int32) (x4_10 : Int32) (σ_10 : RS) (H : Heap) (locs : List Loc) (ls : Array Slot), FR_X2_lay_10 x1_10 n_10 x3_10 x4_10 σ_10 = some q → va_P D vwCl (wR cs ad σ_10) H → va_D A (wR cs ad σ_10) → va_S A s.heap H locs → lv_has ls 6 [(0, .ref (ad 1002)), (1, .int x1_10), (3, .int x3_10), (4, .int x4_10)] → W p l e (headSpec wsR_X2_lay { frames := 2, cells := 0, slots := 0, locals := 47 }).room s m ([.ref (ad 1002), .int p1, .int p2] : List Value).toArray below meth c H locs 0 0 (MQ below (va_Qv (fun u => u = q) (posQ D cs ad A) A) ([.ref (ad 1002), .int p1, .int p2] : List Value).toArray s 0 0 A) (F0 m 10 ls []) := by
    intro x1_10
    intro n_10
    induction n_10 with
    | zero =>
      intro x3_10 x4_10 σ_10 H locs ls hF hP hD hS hl
      exact absurd hF (by simp [FR_X2_lay_10])
    | succ n_10 ih_10 =>
      intro x3_10 x4_10 σ_10 H locs ls hF hP hD hS hl
      rw [FR_X2_lay_10] at hF
      refine lv_iload hx hb dX2_lay_10 (lv_at hl 3 rfl) ?_
      refine lv_bipush (v := (6 : Int32)) hx hb dX2_lay_12 (by decide) ?_
      refine lv_icmp_ge (tgt := 49) hx hb dX2_lay_14 (by decide) (fun c_14 => ?_) (fun c_14 => ?_)
      · have hF := ob_t c_14 hF
        exact rvR hx hb hr hlocks hF hK hP hD hS dX2_lay_49
      · have hF := ob_f c_14 hF
        refine lv_iload_n hx hb dX2_lay_17 rfl (lv_at hl 1 rfl) ?_
        refine lv_iload hx hb dX2_lay_18 (lv_at hl 3 rfl) ?_
        obtain ⟨q_20, e_20, hF⟩ := ob_bd hF
        refine cnR (As := [.int x1_10, .int x4_10]) (rest := []) ⟨hx, hb, hml, hown, hts⟩ (cR_X9_pieceAt l D cs ad tb A σ_10 x1_10 x4_10 _ e_20) ⟨va_cnB 2 hts (goodC wRa_good rc_X9_pieceAt) rfl rfl rfl hZ.2.2.2.2.2.2.1.2.1 (hts _ (hin _ rn_X9)) (by decide +kernel) ⟨Nat.le_of_ble_eq_true rfl, Nat.le_of_ble_eq_true rfl⟩, hts _ (hin _ rt_X9_pieceAt), trivial⟩ ⟨Nat.zero_le _, Nat.zero_le _⟩ hK hP hD hS hZ rfl hl.1 rfl (lv_room (Nat.le_of_ble_eq_true rfl)) dX2_lay_20 ?_
        refine lv_istore (i := 5) (lv' := [(5, .int q_20), (0, .ref (ad 1002)), (1, .int x1_10), (3, .int x3_10), (4, .int x4_10)]) hx hb dX2_lay_23 hl (by decide) rfl (fun ls hl => ?_)
        refine lv_aload_n hx hb dX2_lay_25 rfl (lv_at hl 1 rfl) ?_
        refine gF hx hb hts hin wo_2 rfl hown hK hP (ob_2 _ _ _) 6 (.ref (ad 205)) (by decide) rf_X2_24 rfl dX2_lay_26 ?_
        refine lv_iload hx hb dX2_lay_29 (lv_at hl 0 rfl) ?_
        refine lv_iload_n hx hb dX2_lay_31 rfl (lv_at hl 3 rfl) ?_
        obtain ⟨g_32, hF⟩ := ob_gd hF
        refine stF hx hb hK hP hD hS (ra_205 _ _ _) (rs_205 _ _ _ _ _) g_32 dX2_lay_32 (fun H locs hP hD hS => ?_)
        refine lv_iload_n hx hb dX2_lay_33 rfl (lv_at hl 3 rfl) ?_
        refine lv_aload_n hx hb dX2_lay_34 rfl (lv_at hl 1 rfl) ?_
        refine gF hx hb hts hin wo_2 rfl hown hK hP (ob_2 _ _ _) 1 (va_rf (rV (ra σ_10 205 q_20 x3_10) 201)) (by decide) rf_X2_15 rfl dX2_lay_35 ?_
        obtain ⟨r_35, o_35, hF⟩ := ob_bd hF
        refine rfS o_35 ?_
        refine lv_iload hx hb dX2_lay_38 (lv_at hl 0 rfl) ?_
        obtain ⟨k_40_1, hF⟩ := ob_gd hF
        obtain ⟨g_40, hF⟩ := ob_gd hF
        refine ldP hx hb hK hP k_40_1 (pA (ra σ_10 205 q_20 x3_10) r_35 q_20.toNatClampNeg) g_40 rfl dX2_lay_40 ?_
        refine lv_iadd hx hb dX2_lay_41 ?_
        refine lv_istore_n (i := 3) (lv' := [(3, .int (x3_10 + (pA (ra σ_10 205 q_20 x3_10) r_35 q_20.toNatClampNeg))), (5, .int q_20), (0, .ref (ad 1002)), (1, .int x1_10), (4, .int x4_10)]) hx hb dX2_lay_42 rfl hl (by decide) rfl (fun ls hl => ?_)
        refine lv_iinc (v := x4_10 + (1 : Int32)) (lv' := [(4, .int (x4_10 + (1 : Int32))), (3, .int (x3_10 + (pA (ra σ_10 205 q_20 x3_10) r_35 q_20.toNatClampNeg))), (5, .int q_20), (0, .ref (ad 1002)), (1, .int x1_10)]) hx hb dX2_lay_43 hl (k := 4) rfl rfl (by decide) rfl (fun ls hl => ?_)
        refine lv_goto (tgt := 10) hx hb dX2_lay_46 (by decide) ?_
        exact ih_10 (x3_10 + (pA (ra σ_10 205 q_20 x3_10) r_35 q_20.toNatClampNeg)) (x4_10 + (1 : Int32)) (ra σ_10 205 q_20 x3_10) _ _ _ hF hP hD hS (lv_sub hl [3, 4, 1, 0] rfl)
  have hl := lv_entry ([.ref (ad 1002), .int p1, .int p2]) (n := 6) (Nat.le_of_ble_eq_true rfl)
  rw [lg_entry_eq]
  generalize (lg_sl ([.ref (ad 1002), .int p1, .int p2]) ++ List.replicate (6 - (lg_sl ([.ref (ad 1002), .int p1, .int p2])).length) Slot.unset).toArray = ls at hl ⊢
  have hl : lv_has ls 6 [(0, .ref (ad 1002)), (1, .int p1), (2, .int p2)] := hl
  unfold FR_X2_lay at hF
  refine lv_aload_n hx hb dX2_lay_0 rfl (lv_at hl 0 rfl) ?_
  refine lv_iload_n hx hb dX2_lay_1 rfl (lv_at hl 2 rfl) ?_
  refine pF (ty := .int) hx hb hts hin wo_2 rfl tyX2 tyX2_ok nmX2 hown hK hP hD hS (ob_2 _ _ _) 7 (by decide) rf_X2_47 rfl (by decide +kernel) rfl rfl (Nat.le_of_ble_eq_true rfl) (rp_206 _ _ _ _) dX2_lay_2 (fun H locs hP hD hS => ?_)
  refine lv_iconst (v := (0 : Int32)) hx hb dX2_lay_5 (by decide) ?_
  refine lv_istore_n (i := 3) (lv' := [(3, .int (0 : Int32)), (0, .ref (ad 1002)), (1, .int p1), (2, .int p2)]) hx hb dX2_lay_6 rfl hl (by decide) rfl (fun ls hl => ?_)
  refine lv_iconst (v := (0 : Int32)) hx hb dX2_lay_7 (by decide) ?_
  refine lv_istore (i := 4) (lv' := [(4, .int (0 : Int32)), (3, .int (0 : Int32)), (0, .ref (ad 1002)), (1, .int p1), (2, .int p2)]) hx hb dX2_lay_8 hl (by decide) rfl (fun ls hl => ?_)
  exact b_10 p1 fu (0 : Int32) (0 : Int32) (ri σ 206 p2) _ _ _ hF hP hD hS (lv_sub hl [2, 3, 1, 0] rfl)
def wsR_X2_turnOf : List Cond := Cond.code yX2_turnOf cX2_turnOf 2 (some .int) :: wRa
def FR_X2_turnOf (σ : RS) (p1 : Int32) : Option Int32 := (some (((rI σ 206) >>> (p1 &&& 31)) &&& (1 : Int32)))
set_option maxHeartbeats 4000000 in
set_option maxRecDepth 100000 in
theorem cR_X2_turnOf (l : Launch) (D : va_G) (cs : Nat → ClassId) (ad tb : Nat → Nat) (A : Nat → Prop) (σ : RS) (p1 : Int32) (q : Int32) (hF : FR_X2_turnOf σ p1 = some q) : Met l yX2_turnOf wsR_X2_turnOf { frames := 0, cells := 0, slots := 0, locals := 0 } (va_Pc [.ref (ad 1002), .int p1] (preQ D cs ad tb A σ)) (vp_Si (fun x => x = q)) 0 0 (fun _ => False) := by
  refine Met.ofW (cc := cX2_turnOf) (maxL := 2) (ret := (some .int)) (by decide) rfl ?_
  intro p e s m args below meth c s₁ B hml hv
  obtain ⟨rfl, hP, hK, hD, hZ⟩ := hv
  have hx := B.exec
  have hb := B.bytes
  have hr := B.returns
  have hts : ∀ w ∈ (Cond.code yX2_turnOf cX2_turnOf 2 (some .int) :: wRa), w.before ([.ref (ad 1002), .int p1] : List Value).toArray s = true := atoms_spec (ws := wsR_X2_turnOf) B.pre
  have hin : ∀ w ∈ wRa, w ∈ (Cond.code yX2_turnOf cX2_turnOf 2 (some .int) :: wRa) := fun w hw => List.mem_cons_of_mem _ hw
  have hown : s.vm.findClass RX2 = some m.cls := findClass_of_methodNamed B.named
  have hlocks := B.notSynchronized
  have hS : va_S A s.heap s.heap [] := va_S.rf
  have hl := lv_entry ([.ref (ad 1002), .int p1]) (n := 2) (Nat.le_of_ble_eq_true rfl)
  rw [lg_entry_eq]
  generalize (lg_sl ([.ref (ad 1002), .int p1]) ++ List.replicate (2 - (lg_sl ([.ref (ad 1002), .int p1])).length) Slot.unset).toArray = ls at hl ⊢
  have hl : lv_has ls 2 [(0, .ref (ad 1002)), (1, .int p1)] := hl
  unfold FR_X2_turnOf at hF
  refine lv_aload_n hx hb dX2_turnOf_0 rfl (lv_at hl 0 rfl) ?_
  refine gF hx hb hts hin wo_2 rfl hown hK hP (ob_2 _ _ _) 7 (.int (rI σ 206)) (by decide) rf_X2_47 rfl dX2_turnOf_1 ?_
  refine lv_iload_n hx hb dX2_turnOf_4 rfl (lv_at hl 1 rfl) ?_
  refine lv_ishr hx hb dX2_turnOf_5 ?_
  refine lv_iconst (v := (1 : Int32)) hx hb dX2_turnOf_6 (by decide) ?_
  refine lv_iand hx hb dX2_turnOf_7 ?_
  exact rrM hx hb hr hlocks hF dX2_turnOf_8
def wsR_X2_placeOf : List Cond := Cond.code yX2_placeOf cX2_placeOf 3 (some .int) :: wRa
theorem cw_X2_X2_turnOf_53 {R : Room} {s : State} {args : Array Value} {y : MethodName} {c : ByteArray} {n : Nat} {r : Option FieldType} (hts : ∀ w ∈ (Cond.code y c n r :: wRa), w.before args s = true) (hR : 0 + 1 ≤ R.frames ∧ 8 + (2 + 11) + 0 ≤ R.locals) : CallW R s args RX2 RX2 53 yX2_turnOf cX2_turnOf 2 (some .int) wsR_X2_turnOf { frames := 0, cells := 0, slots := 0, locals := 0 } 0 0 1 := cwV 1 hts (goodV wRa_good rm_X2_53 ri_X2_turnOf rs_X2_turnOf rn_X2 rc_X2_turnOf) rfl rfl rfl (by decide +kernel) hR
def FR_X2_placeOf (σ : RS) (p1 : Int32) (p2 : Int32) : Option Int32 := (gd (inb p1 6) ((FR_X2_turnOf σ p1).bind fun q_8 => (if q_8 = 0 then (some ((rA σ 205 p1.toNatClampNeg) + p2)) else ((rV σ 201).bind fun r_19 => (gd (isK σ r_19 11) (gd (inb p1 (pN σ r_19)) (some ((rA σ 205 p1.toNatClampNeg) + (((pA σ r_19 p1.toNatClampNeg) - (1 : Int32)) - p2)))))))))
set_option maxHeartbeats 4000000 in
set_option maxRecDepth 100000 in
theorem cR_X2_placeOf (l : Launch) (D : va_G) (cs : Nat → ClassId) (ad tb : Nat → Nat) (A : Nat → Prop) (σ : RS) (p1 : Int32) (p2 : Int32) (q : Int32) (hF : FR_X2_placeOf σ p1 p2 = some q) : Met l yX2_placeOf wsR_X2_placeOf { frames := 1, cells := 0, slots := 0, locals := 21 } (va_Pc [.ref (ad 1002), .int p1, .int p2] (preQ D cs ad tb A σ)) (vp_Si (fun x => x = q)) 0 0 (fun _ => False) := by
  refine Met.ofW (cc := cX2_placeOf) (maxL := 3) (ret := (some .int)) (by decide) rfl ?_
  intro p e s m args below meth c s₁ B hml hv
  obtain ⟨rfl, hP, hK, hD, hZ⟩ := hv
  have hx := B.exec
  have hb := B.bytes
  have hr := B.returns
  have hts : ∀ w ∈ (Cond.code yX2_placeOf cX2_placeOf 3 (some .int) :: wRa), w.before ([.ref (ad 1002), .int p1, .int p2] : List Value).toArray s = true := atoms_spec (ws := wsR_X2_placeOf) B.pre
  have hin : ∀ w ∈ wRa, w ∈ (Cond.code yX2_placeOf cX2_placeOf 3 (some .int) :: wRa) := fun w hw => List.mem_cons_of_mem _ hw
  have hown : s.vm.findClass RX2 = some m.cls := findClass_of_methodNamed B.named
  have hlocks := B.notSynchronized
  have hS : va_S A s.heap s.heap [] := va_S.rf
  have hl := lv_entry ([.ref (ad 1002), .int p1, .int p2]) (n := 3) (Nat.le_of_ble_eq_true rfl)
  rw [lg_entry_eq]
  generalize (lg_sl ([.ref (ad 1002), .int p1, .int p2]) ++ List.replicate (3 - (lg_sl ([.ref (ad 1002), .int p1, .int p2])).length) Slot.unset).toArray = ls at hl ⊢
  have hl : lv_has ls 3 [(0, .ref (ad 1002)), (1, .int p1), (2, .int p2)] := hl
  unfold FR_X2_placeOf at hF
  refine lv_aload_n hx hb dX2_placeOf_0 rfl (lv_at hl 0 rfl) ?_
  refine gF hx hb hts hin wo_2 rfl hown hK hP (ob_2 _ _ _) 6 (.ref (ad 205)) (by decide) rf_X2_24 rfl dX2_placeOf_1 ?_
  refine lv_iload_n hx hb dX2_placeOf_4 rfl (lv_at hl 1 rfl) ?_
  obtain ⟨g_5, hF⟩ := ob_gd hF
  refine ldF hx hb hK hP (ra_205 _ _ _) (rA σ 205 p1.toNatClampNeg) g_5 rfl dX2_placeOf_5 ?_
  refine lv_aload_n hx hb dX2_placeOf_6 rfl (lv_at hl 0 rfl) ?_
  refine lv_iload_n hx hb dX2_placeOf_7 rfl (lv_at hl 1 rfl) ?_
  obtain ⟨q_8, e_8, hF⟩ := ob_bd hF
  refine crR (As := [.int p1]) (rest := [.int (rA σ 205 p1.toNatClampNeg)]) ⟨hx, hb, hml, hown, hts⟩ (cR_X2_turnOf l D cs ad tb A σ p1 _ e_8) (cw_X2_X2_turnOf_53 hts ⟨Nat.le_of_ble_eq_true rfl, Nat.le_of_ble_eq_true rfl⟩) ⟨Nat.zero_le _, Nat.zero_le _⟩ (rcF hK hP (ci := 2) rfl (ob_2 _ _ _)) hK hP hD hS hZ rfl hl.1 rfl (lv_room (Nat.le_of_ble_eq_true rfl)) dX2_placeOf_8 ?_
  refine lv_if_ne (tgt := 18) hx hb dX2_placeOf_11 (by decide) (fun c_11 => ?_) (fun c_11 => ?_)
  · have hF := ob_f c_11 hF
    refine lv_aload_n hx hb dX2_placeOf_18 rfl (lv_at hl 0 rfl) ?_
    refine gF hx hb hts hin wo_2 rfl hown hK hP (ob_2 _ _ _) 1 (va_rf (rV σ 201)) (by decide) rf_X2_15 rfl dX2_placeOf_19 ?_
    obtain ⟨r_19, o_19, hF⟩ := ob_bd hF
    refine rfS o_19 ?_
    refine lv_iload_n hx hb dX2_placeOf_22 rfl (lv_at hl 1 rfl) ?_
    obtain ⟨k_23_1, hF⟩ := ob_gd hF
    obtain ⟨g_23, hF⟩ := ob_gd hF
    refine ldP hx hb hK hP k_23_1 (pA σ r_19 p1.toNatClampNeg) g_23 rfl dX2_placeOf_23 ?_
    refine lv_iconst (v := (1 : Int32)) hx hb dX2_placeOf_24 (by decide) ?_
    refine lv_isub hx hb dX2_placeOf_25 ?_
    refine lv_iload_n hx hb dX2_placeOf_26 rfl (lv_at hl 2 rfl) ?_
    refine lv_isub hx hb dX2_placeOf_27 ?_
    refine lv_iadd hx hb dX2_placeOf_28 ?_
    exact rrM hx hb hr hlocks hF dX2_placeOf_29
  · have hF := ob_t c_11 hF
    refine lv_iload_n hx hb dX2_placeOf_14 rfl (lv_at hl 2 rfl) ?_
    refine lv_goto (tgt := 28) hx hb dX2_placeOf_15 (by decide) ?_
    refine lv_iadd hx hb dX2_placeOf_28 ?_
    exact rrM hx hb hr hlocks hF dX2_placeOf_29
def wsR_X2_isOnCloth : List Cond := Cond.code yX2_isOnCloth cX2_isOnCloth 2 (some .boolean) :: wRa
def FR_X2_isOnCloth (σ : RS) (p1 : Int32) : Option Int32 := (if p1 < 0 then (some (0 : Int32)) else ((rV σ 200).bind fun r_6 => (gd (isK σ r_6 11) (if (Int32.ofNat (pN σ r_6)) ≤ p1 then (some (0 : Int32)) else (some (1 : Int32))))))
set_option maxHeartbeats 4000000 in
set_option maxRecDepth 100000 in
theorem cR_X2_isOnCloth (l : Launch) (D : va_G) (cs : Nat → ClassId) (ad tb : Nat → Nat) (A : Nat → Prop) (σ : RS) (p1 : Int32) (q : Int32) (hF : FR_X2_isOnCloth σ p1 = some q) : Met l yX2_isOnCloth wsR_X2_isOnCloth { frames := 0, cells := 0, slots := 0, locals := 0 } (va_Pc [.ref (ad 1002), .int p1] (preQ D cs ad tb A σ)) (vp_Si (fun x => x = q)) 0 0 (fun _ => False) := by
  refine Met.ofW (cc := cX2_isOnCloth) (maxL := 2) (ret := (some .boolean)) (by decide) rfl ?_
  intro p e s m args below meth c s₁ B hml hv
  obtain ⟨rfl, hP, hK, hD, hZ⟩ := hv
  have hx := B.exec
  have hb := B.bytes
  have hr := B.returns
  have hts : ∀ w ∈ (Cond.code yX2_isOnCloth cX2_isOnCloth 2 (some .boolean) :: wRa), w.before ([.ref (ad 1002), .int p1] : List Value).toArray s = true := atoms_spec (ws := wsR_X2_isOnCloth) B.pre
  have hin : ∀ w ∈ wRa, w ∈ (Cond.code yX2_isOnCloth cX2_isOnCloth 2 (some .boolean) :: wRa) := fun w hw => List.mem_cons_of_mem _ hw
  have hown : s.vm.findClass RX2 = some m.cls := findClass_of_methodNamed B.named
  have hlocks := B.notSynchronized
  have hS : va_S A s.heap s.heap [] := va_S.rf
  have hl := lv_entry ([.ref (ad 1002), .int p1]) (n := 2) (Nat.le_of_ble_eq_true rfl)
  rw [lg_entry_eq]
  generalize (lg_sl ([.ref (ad 1002), .int p1]) ++ List.replicate (2 - (lg_sl ([.ref (ad 1002), .int p1])).length) Slot.unset).toArray = ls at hl ⊢
  have hl : lv_has ls 2 [(0, .ref (ad 1002)), (1, .int p1)] := hl
  unfold FR_X2_isOnCloth at hF
  refine lv_iload_n hx hb dX2_isOnCloth_0 rfl (lv_at hl 1 rfl) ?_
  refine lv_if_lt (tgt := 17) hx hb dX2_isOnCloth_1 (by decide) (fun c_1 => ?_) (fun c_1 => ?_)
  · have hF := ob_t c_1 hF
    refine lv_iconst (v := (0 : Int32)) hx hb dX2_isOnCloth_17 (by decide) ?_
    exact rzM hx hb hr hlocks rfl hF dX2_isOnCloth_18
  · have hF := ob_f c_1 hF
    refine lv_iload_n hx hb dX2_isOnCloth_4 rfl (lv_at hl 1 rfl) ?_
    refine lv_aload_n hx hb dX2_isOnCloth_5 rfl (lv_at hl 0 rfl) ?_
    refine gF hx hb hts hin wo_2 rfl hown hK hP (ob_2 _ _ _) 0 (va_rf (rV σ 200)) (by decide) rf_X2_9 rfl dX2_isOnCloth_6 ?_
    obtain ⟨r_6, o_6, hF⟩ := ob_bd hF
    refine rfS o_6 ?_
    obtain ⟨k_9_1, hF⟩ := ob_gd hF
    refine lnP (v := (Int32.ofNat (pN σ r_6))) hx hb hK hP k_9_1 rfl dX2_isOnCloth_9 ?_
    refine lv_icmp_ge (tgt := 17) hx hb dX2_isOnCloth_10 (by decide) (fun c_10 => ?_) (fun c_10 => ?_)
    · have hF := ob_t c_10 hF
      refine lv_iconst (v := (0 : Int32)) hx hb dX2_isOnCloth_17 (by decide) ?_
      exact rzM hx hb hr hlocks rfl hF dX2_isOnCloth_18
    · have hF := ob_f c_10 hF
      refine lv_iconst (v := (1 : Int32)) hx hb dX2_isOnCloth_13 (by decide) ?_
      refine lv_goto (tgt := 18) hx hb dX2_isOnCloth_14 (by decide) ?_
      exact rzM hx hb hr hlocks rfl hF dX2_isOnCloth_18
def wsR_X2_patternAt : List Cond := Cond.code yX2_patternAt cX2_patternAt 2 (some .int) :: wRa
def FR_X2_patternAt (σ : RS) (p1 : Int32) : Option Int32 := (if p1 < 0 then (some (0 : Int32)) else ((rV σ 200).bind fun r_6 => (gd (isK σ r_6 11) (if (Int32.ofNat (pN σ r_6)) ≤ p1 then (some (0 : Int32)) else (gd (inb p1 (pN σ r_6)) (some ((pA σ r_6 p1.toNatClampNeg) &&& (15 : Int32))))))))
set_option maxHeartbeats 4000000 in
set_option maxRecDepth 100000 in
theorem cR_X2_patternAt (l : Launch) (D : va_G) (cs : Nat → ClassId) (ad tb : Nat → Nat) (A : Nat → Prop) (σ : RS) (p1 : Int32) (q : Int32) (hF : FR_X2_patternAt σ p1 = some q) : Met l yX2_patternAt wsR_X2_patternAt { frames := 0, cells := 0, slots := 0, locals := 0 } (va_Pc [.ref (ad 1002), .int p1] (preQ D cs ad tb A σ)) (vp_Si (fun x => x = q)) 0 0 (fun _ => False) := by
  refine Met.ofW (cc := cX2_patternAt) (maxL := 2) (ret := (some .int)) (by decide) rfl ?_
  intro p e s m args below meth c s₁ B hml hv
  obtain ⟨rfl, hP, hK, hD, hZ⟩ := hv
  have hx := B.exec
  have hb := B.bytes
  have hr := B.returns
  have hts : ∀ w ∈ (Cond.code yX2_patternAt cX2_patternAt 2 (some .int) :: wRa), w.before ([.ref (ad 1002), .int p1] : List Value).toArray s = true := atoms_spec (ws := wsR_X2_patternAt) B.pre
  have hin : ∀ w ∈ wRa, w ∈ (Cond.code yX2_patternAt cX2_patternAt 2 (some .int) :: wRa) := fun w hw => List.mem_cons_of_mem _ hw
  have hown : s.vm.findClass RX2 = some m.cls := findClass_of_methodNamed B.named
  have hlocks := B.notSynchronized
  have hS : va_S A s.heap s.heap [] := va_S.rf
  have hl := lv_entry ([.ref (ad 1002), .int p1]) (n := 2) (Nat.le_of_ble_eq_true rfl)
  rw [lg_entry_eq]
  generalize (lg_sl ([.ref (ad 1002), .int p1]) ++ List.replicate (2 - (lg_sl ([.ref (ad 1002), .int p1])).length) Slot.unset).toArray = ls at hl ⊢
  have hl : lv_has ls 2 [(0, .ref (ad 1002)), (1, .int p1)] := hl
  unfold FR_X2_patternAt at hF
  refine lv_iload_n hx hb dX2_patternAt_0 rfl (lv_at hl 1 rfl) ?_
  refine lv_if_lt (tgt := 25) hx hb dX2_patternAt_1 (by decide) (fun c_1 => ?_) (fun c_1 => ?_)
  · have hF := ob_t c_1 hF
    refine lv_iconst (v := (0 : Int32)) hx hb dX2_patternAt_25 (by decide) ?_
    exact rrM hx hb hr hlocks hF dX2_patternAt_26
  · have hF := ob_f c_1 hF
    refine lv_iload_n hx hb dX2_patternAt_4 rfl (lv_at hl 1 rfl) ?_
    refine lv_aload_n hx hb dX2_patternAt_5 rfl (lv_at hl 0 rfl) ?_
    refine gF hx hb hts hin wo_2 rfl hown hK hP (ob_2 _ _ _) 0 (va_rf (rV σ 200)) (by decide) rf_X2_9 rfl dX2_patternAt_6 ?_
    obtain ⟨r_6, o_6, hF⟩ := ob_bd hF
    refine rfS o_6 ?_
    obtain ⟨k_9_1, hF⟩ := ob_gd hF
    refine lnP (v := (Int32.ofNat (pN σ r_6))) hx hb hK hP k_9_1 rfl dX2_patternAt_9 ?_
    refine lv_icmp_ge (tgt := 25) hx hb dX2_patternAt_10 (by decide) (fun c_10 => ?_) (fun c_10 => ?_)
    · have hF := ob_t c_10 hF
      refine lv_iconst (v := (0 : Int32)) hx hb dX2_patternAt_25 (by decide) ?_
      exact rrM hx hb hr hlocks hF dX2_patternAt_26
    · have hF := ob_f c_10 hF
      refine lv_aload_n hx hb dX2_patternAt_13 rfl (lv_at hl 0 rfl) ?_
      refine gF hx hb hts hin wo_2 rfl hown hK hP (ob_2 _ _ _) 0 (va_rf (rV σ 200)) (by decide) rf_X2_9 rfl dX2_patternAt_14 ?_
      refine rfS o_6 ?_
      refine lv_iload_n hx hb dX2_patternAt_17 rfl (lv_at hl 1 rfl) ?_
      obtain ⟨g_18, hF⟩ := ob_gd hF
      refine ldP hx hb hK hP k_9_1 (pA σ r_6 p1.toNatClampNeg) g_18 rfl dX2_patternAt_18 ?_
      refine lv_bipush (v := (15 : Int32)) hx hb dX2_patternAt_19 (by decide) ?_
      refine lv_iand hx hb dX2_patternAt_21 ?_
      refine lv_goto (tgt := 26) hx hb dX2_patternAt_22 (by decide) ?_
      exact rrM hx hb hr hlocks hF dX2_patternAt_26
def wsR_X2_shownOf : List Cond := Cond.code yX2_shownOf cX2_shownOf 4 (some .int) :: wRa
def FR_X2_shownOf (σ : RS) (p1 : Int32) : Option Int32 := (gd (inb p1 6) (gd (inb p1 6) ((rV σ 201).bind fun r_19 => (gd (isK σ r_19 11) (gd (inb p1 (pN σ r_19)) (if ((rA σ 205 p1.toNatClampNeg) + (rI σ 203)) < 0 then (some (0 : Int32)) else (if (((rA σ 205 p1.toNatClampNeg) + (pA σ r_19 p1.toNatClampNeg)) - (rI σ 203)) ≤ ((rA σ 205 p1.toNatClampNeg) + (rI σ 203)) then (some (0 : Int32)) else (if (120 : Int32) < (((rA σ 205 p1.toNatClampNeg) + (pA σ r_19 p1.toNatClampNeg)) - (rI σ 203)) then (some (0 : Int32)) else (gd (inb (((rA σ 205 p1.toNatClampNeg) + (pA σ r_19 p1.toNatClampNeg)) - (rI σ 203)) 121) (gd (inb ((rA σ 205 p1.toNatClampNeg) + (rI σ 203)) 121) (some ((rA σ 204 (((rA σ 205 p1.toNatClampNeg) + (pA σ r_19 p1.toNatClampNeg)) - (rI σ 203)).toNatClampNeg) - (rA σ 204 ((rA σ 205 p1.toNatClampNeg) + (rI σ 203)).toNatClampNeg)))))))))))))
set_option maxHeartbeats 4000000 in
set_option maxRecDepth 100000 in
theorem cR_X2_shownOf (l : Launch) (D : va_G) (cs : Nat → ClassId) (ad tb : Nat → Nat) (A : Nat → Prop) (σ : RS) (p1 : Int32) (q : Int32) (hF : FR_X2_shownOf σ p1 = some q) : Met l yX2_shownOf wsR_X2_shownOf { frames := 0, cells := 0, slots := 0, locals := 0 } (va_Pc [.ref (ad 1002), .int p1] (preQ D cs ad tb A σ)) (vp_Si (fun x => x = q)) 0 0 (fun _ => False) := by
  refine Met.ofW (cc := cX2_shownOf) (maxL := 4) (ret := (some .int)) (by decide) rfl ?_
  intro p e s m args below meth c s₁ B hml hv
  obtain ⟨rfl, hP, hK, hD, hZ⟩ := hv
  have hx := B.exec
  have hb := B.bytes
  have hr := B.returns
  have hts : ∀ w ∈ (Cond.code yX2_shownOf cX2_shownOf 4 (some .int) :: wRa), w.before ([.ref (ad 1002), .int p1] : List Value).toArray s = true := atoms_spec (ws := wsR_X2_shownOf) B.pre
  have hin : ∀ w ∈ wRa, w ∈ (Cond.code yX2_shownOf cX2_shownOf 4 (some .int) :: wRa) := fun w hw => List.mem_cons_of_mem _ hw
  have hown : s.vm.findClass RX2 = some m.cls := findClass_of_methodNamed B.named
  have hlocks := B.notSynchronized
  have hS : va_S A s.heap s.heap [] := va_S.rf
  have hl := lv_entry ([.ref (ad 1002), .int p1]) (n := 4) (Nat.le_of_ble_eq_true rfl)
  rw [lg_entry_eq]
  generalize (lg_sl ([.ref (ad 1002), .int p1]) ++ List.replicate (4 - (lg_sl ([.ref (ad 1002), .int p1])).length) Slot.unset).toArray = ls at hl ⊢
  have hl : lv_has ls 4 [(0, .ref (ad 1002)), (1, .int p1)] := hl
  unfold FR_X2_shownOf at hF
  refine lv_aload_n hx hb dX2_shownOf_0 rfl (lv_at hl 0 rfl) ?_
  refine gF hx hb hts hin wo_2 rfl hown hK hP (ob_2 _ _ _) 6 (.ref (ad 205)) (by decide) rf_X2_24 rfl dX2_shownOf_1 ?_
  refine lv_iload_n hx hb dX2_shownOf_4 rfl (lv_at hl 1 rfl) ?_
  obtain ⟨g_5, hF⟩ := ob_gd hF
  refine ldF hx hb hK hP (ra_205 _ _ _) (rA σ 205 p1.toNatClampNeg) g_5 rfl dX2_shownOf_5 ?_
  refine lv_aload_n hx hb dX2_shownOf_6 rfl (lv_at hl 0 rfl) ?_
  refine gF hx hb hts hin wo_2 rfl hown hK hP (ob_2 _ _ _) 3 (.int (rI σ 203)) (by decide) rf_X2_31 rfl dX2_shownOf_7 ?_
  refine lv_iadd hx hb dX2_shownOf_10 ?_
  refine lv_istore_n (i := 2) (lv' := [(2, .int ((rA σ 205 p1.toNatClampNeg) + (rI σ 203))), (0, .ref (ad 1002)), (1, .int p1)]) hx hb dX2_shownOf_11 rfl hl (by decide) rfl (fun ls hl => ?_)
  refine lv_aload_n hx hb dX2_shownOf_12 rfl (lv_at hl 1 rfl) ?_
  refine gF hx hb hts hin wo_2 rfl hown hK hP (ob_2 _ _ _) 6 (.ref (ad 205)) (by decide) rf_X2_24 rfl dX2_shownOf_13 ?_
  refine lv_iload_n hx hb dX2_shownOf_16 rfl (lv_at hl 2 rfl) ?_
  obtain ⟨g_17, hF⟩ := ob_gd hF
  refine ldF hx hb hK hP (ra_205 _ _ _) (rA σ 205 p1.toNatClampNeg) g_17 rfl dX2_shownOf_17 ?_
  refine lv_aload_n hx hb dX2_shownOf_18 rfl (lv_at hl 1 rfl) ?_
  refine gF hx hb hts hin wo_2 rfl hown hK hP (ob_2 _ _ _) 1 (va_rf (rV σ 201)) (by decide) rf_X2_15 rfl dX2_shownOf_19 ?_
  obtain ⟨r_19, o_19, hF⟩ := ob_bd hF
  refine rfS o_19 ?_
  refine lv_iload_n hx hb dX2_shownOf_22 rfl (lv_at hl 2 rfl) ?_
  obtain ⟨k_23_1, hF⟩ := ob_gd hF
  obtain ⟨g_23, hF⟩ := ob_gd hF
  refine ldP hx hb hK hP k_23_1 (pA σ r_19 p1.toNatClampNeg) g_23 rfl dX2_shownOf_23 ?_
  refine lv_iadd hx hb dX2_shownOf_24 ?_
  refine lv_aload_n hx hb dX2_shownOf_25 rfl (lv_at hl 1 rfl) ?_
  refine gF hx hb hts hin wo_2 rfl hown hK hP (ob_2 _ _ _) 3 (.int (rI σ 203)) (by decide) rf_X2_31 rfl dX2_shownOf_26 ?_
  refine lv_isub hx hb dX2_shownOf_29 ?_
  refine lv_istore_n (i := 3) (lv' := [(3, .int (((rA σ 205 p1.toNatClampNeg) + (pA σ r_19 p1.toNatClampNeg)) - (rI σ 203))), (2, .int ((rA σ 205 p1.toNatClampNeg) + (rI σ 203))), (0, .ref (ad 1002)), (1, .int p1)]) hx hb dX2_shownOf_30 rfl hl (by decide) rfl (fun ls hl => ?_)
  refine lv_iload_n hx hb dX2_shownOf_31 rfl (lv_at hl 1 rfl) ?_
  refine lv_if_lt (tgt := 62) hx hb dX2_shownOf_32 (by decide) (fun c_32 => ?_) (fun c_32 => ?_)
  · have hF := ob_t c_32 hF
    refine lv_iconst (v := (0 : Int32)) hx hb dX2_shownOf_62 (by decide) ?_
    exact rrM hx hb hr hlocks hF dX2_shownOf_63
  · have hF := ob_f c_32 hF
    refine lv_iload_n hx hb dX2_shownOf_35 rfl (lv_at hl 1 rfl) ?_
    refine lv_iload_n hx hb dX2_shownOf_36 rfl (lv_at hl 0 rfl) ?_
    refine lv_icmp_ge (tgt := 62) hx hb dX2_shownOf_37 (by decide) (fun c_37 => ?_) (fun c_37 => ?_)
    · have hF := ob_t c_37 hF
      refine lv_iconst (v := (0 : Int32)) hx hb dX2_shownOf_62 (by decide) ?_
      exact rrM hx hb hr hlocks hF dX2_shownOf_63
    · have hF := ob_f c_37 hF
      refine lv_iload_n hx hb dX2_shownOf_40 rfl (lv_at hl 0 rfl) ?_
      refine lv_bipush (v := (120 : Int32)) hx hb dX2_shownOf_41 (by decide) ?_
      refine lv_icmp_gt (tgt := 62) hx hb dX2_shownOf_43 (by decide) (fun c_43 => ?_) (fun c_43 => ?_)
      · have hF := ob_t c_43 hF
        refine lv_iconst (v := (0 : Int32)) hx hb dX2_shownOf_62 (by decide) ?_
        exact rrM hx hb hr hlocks hF dX2_shownOf_63
      · have hF := ob_f c_43 hF
        refine lv_aload_n hx hb dX2_shownOf_46 rfl (lv_at hl 2 rfl) ?_
        refine gF hx hb hts hin wo_2 rfl hown hK hP (ob_2 _ _ _) 5 (.ref (ad 204)) (by decide) rf_X2_21 rfl dX2_shownOf_47 ?_
        refine lv_iload_n hx hb dX2_shownOf_50 rfl (lv_at hl 0 rfl) ?_
        obtain ⟨g_51, hF⟩ := ob_gd hF
        refine ldF hx hb hK hP (ra_204 _ _ _) (rA σ 204 (((rA σ 205 p1.toNatClampNeg) + (pA σ r_19 p1.toNatClampNeg)) - (rI σ 203)).toNatClampNeg) g_51 rfl dX2_shownOf_51 ?_
        refine lv_aload_n hx hb dX2_shownOf_52 rfl (lv_at hl 2 rfl) ?_
        refine gF hx hb hts hin wo_2 rfl hown hK hP (ob_2 _ _ _) 5 (.ref (ad 204)) (by decide) rf_X2_21 rfl dX2_shownOf_53 ?_
        refine lv_iload_n hx hb dX2_shownOf_56 rfl (lv_at hl 1 rfl) ?_
        obtain ⟨g_57, hF⟩ := ob_gd hF
        refine ldF hx hb hK hP (ra_204 _ _ _) (rA σ 204 ((rA σ 205 p1.toNatClampNeg) + (rI σ 203)).toNatClampNeg) g_57 rfl dX2_shownOf_57 ?_
        refine lv_isub hx hb dX2_shownOf_58 ?_
        refine lv_goto (tgt := 63) hx hb dX2_shownOf_59 (by decide) ?_
        exact rrM hx hb hr hlocks hF dX2_shownOf_63
def wsR_X2_shownSum : List Cond := Cond.code yX2_shownSum cX2_shownSum 3 (some .int) :: wRa
theorem cw_X2_X2_shownOf_70 {R : Room} {s : State} {args : Array Value} {y : MethodName} {c : ByteArray} {n : Nat} {r : Option FieldType} (hts : ∀ w ∈ (Cond.code y c n r :: wRa), w.before args s = true) (hR : 0 + 1 ≤ R.frames ∧ 8 + (4 + 11) + 0 ≤ R.locals) : CallW R s args RX2 RX2 70 yX2_shownOf cX2_shownOf 4 (some .int) wsR_X2_shownOf { frames := 0, cells := 0, slots := 0, locals := 0 } 0 0 1 := cwV 1 hts (goodV wRa_good rm_X2_70 ri_X2_shownOf rs_X2_shownOf rn_X2 rc_X2_shownOf) rfl rfl rfl (by decide +kernel) hR
def FR_X2_shownSum_4 (σ : RS) : Nat → Int32 → Int32 → Option Int32
  | 0, _, _ => none
  | n_4 + 1, x1_4, x2_4 => (if (6 : Int32) ≤ x2_4 then (some x1_4) else ((FR_X2_shownOf σ x2_4).bind fun q_13 => (FR_X2_shownSum_4 σ  n_4 (x1_4 + q_13) (x2_4 + (1 : Int32)))))
def FR_X2_shownSum (σ : RS) : Option Int32 := (FR_X2_shownSum_4 σ fu (0 : Int32) (0 : Int32))
set_option maxHeartbeats 4000000 in
set_option maxRecDepth 100000 in
theorem cR_X2_shownSum (l : Launch) (D : va_G) (cs : Nat → ClassId) (ad tb : Nat → Nat) (A : Nat → Prop) (σ : RS) (q : Int32) (hF : FR_X2_shownSum σ = some q) : Met l yX2_shownSum wsR_X2_shownSum { frames := 1, cells := 0, slots := 0, locals := 23 } (va_Pc [.ref (ad 1002)] (preQ D cs ad tb A σ)) (vp_Si (fun x => x = q)) 0 0 (fun _ => False) := by
  refine Met.ofW (cc := cX2_shownSum) (maxL := 3) (ret := (some .int)) (by decide) rfl ?_
  intro p e s m args below meth c s₁ B hml hv
  obtain ⟨rfl, hP, hK, hD, hZ⟩ := hv
  have hx := B.exec
  have hb := B.bytes
  have hr := B.returns
  have hts : ∀ w ∈ (Cond.code yX2_shownSum cX2_shownSum 3 (some .int) :: wRa), w.before ([.ref (ad 1002)] : List Value).toArray s = true := atoms_spec (ws := wsR_X2_shownSum) B.pre
  have hin : ∀ w ∈ wRa, w ∈ (Cond.code yX2_shownSum cX2_shownSum 3 (some .int) :: wRa) := fun w hw => List.mem_cons_of_mem _ hw
  have hown : s.vm.findClass RX2 = some m.cls := findClass_of_methodNamed B.named
  have hlocks := B.notSynchronized
  have hS : va_S A s.heap s.heap [] := va_S.rf
  have b_4 : ∀ (n_4 : Nat) (x1_4 : Int32) (x2_4 : Int32) (ls : Array Slot), FR_X2_shownSum_4 σ n_4 x1_4 x2_4 = some q → lv_has ls 3 [(0, .ref (ad 1002)), (1, .int x1_4), (2, .int x2_4)] → W p l e (headSpec wsR_X2_shownSum { frames := 1, cells := 0, slots := 0, locals := 23 }).room s m ([.ref (ad 1002)] : List Value).toArray below meth c s.heap [] 0 0 (MQ below (vp_Si (fun x => x = q)) ([.ref (ad 1002)] : List Value).toArray s 0 0 (fun _ => False)) (F0 m 4 ls []) := by
    intro n_4
    induction n_4 with
    | zero =>
      intro x1_4 x2_4 ls hF hl
      exact absurd hF (by simp [FR_X2_shownSum_4])
    | succ n_4 ih_4 =>
      intro x1_4 x2_4 ls hF hl
      rw [FR_X2_shownSum_4] at hF
      refine lv_iload_n hx hb dX2_shownSum_4 rfl (lv_at hl 2 rfl) ?_
      refine lv_bipush (v := (6 : Int32)) hx hb dX2_shownSum_5 (by decide) ?_
      refine lv_icmp_ge (tgt := 24) hx hb dX2_shownSum_7 (by decide) (fun c_7 => ?_) (fun c_7 => ?_)
      · have hF := ob_t c_7 hF
        refine lv_iload_n hx hb dX2_shownSum_24 rfl (lv_at hl 1 rfl) ?_
        exact rrM hx hb hr hlocks hF dX2_shownSum_25
      · have hF := ob_f c_7 hF
        refine lv_iload_n hx hb dX2_shownSum_10 rfl (lv_at hl 1 rfl) ?_
        refine lv_aload_n hx hb dX2_shownSum_11 rfl (lv_at hl 0 rfl) ?_
        refine lv_iload_n hx hb dX2_shownSum_12 rfl (lv_at hl 2 rfl) ?_
        obtain ⟨q_13, e_13, hF⟩ := ob_bd hF
        refine crR (As := [.int x2_4]) (rest := [.int x1_4]) ⟨hx, hb, hml, hown, hts⟩ (cR_X2_shownOf l D cs ad tb A σ x2_4 _ e_13) (cw_X2_X2_shownOf_70 hts ⟨Nat.le_of_ble_eq_true rfl, Nat.le_of_ble_eq_true rfl⟩) ⟨Nat.zero_le _, Nat.zero_le _⟩ (rcF hK hP (ci := 2) rfl (ob_2 _ _ _)) hK hP hD hS hZ rfl hl.1 rfl (lv_room (Nat.le_of_ble_eq_true rfl)) dX2_shownSum_13 ?_
        refine lv_iadd hx hb dX2_shownSum_16 ?_
        refine lv_istore_n (i := 1) (lv' := [(1, .int (x1_4 + q_13)), (0, .ref (ad 1002)), (2, .int x2_4)]) hx hb dX2_shownSum_17 rfl hl (by decide) rfl (fun ls hl => ?_)
        refine lv_iinc (v := x2_4 + (1 : Int32)) (lv' := [(2, .int (x2_4 + (1 : Int32))), (1, .int (x1_4 + q_13)), (0, .ref (ad 1002))]) hx hb dX2_shownSum_18 hl (k := 2) rfl rfl (by decide) rfl (fun ls hl => ?_)
        refine lv_goto (tgt := 4) hx hb dX2_shownSum_21 (by decide) ?_
        exact ih_4 (x1_4 + q_13) (x2_4 + (1 : Int32)) _ hF (lv_sub hl [2, 1, 0] rfl)
  have hl := lv_entry ([.ref (ad 1002)]) (n := 3) (Nat.le_of_ble_eq_true rfl)
  rw [lg_entry_eq]
  generalize (lg_sl ([.ref (ad 1002)]) ++ List.replicate (3 - (lg_sl ([.ref (ad 1002)])).length) Slot.unset).toArray = ls at hl ⊢
  have hl : lv_has ls 3 [(0, .ref (ad 1002))] := hl
  unfold FR_X2_shownSum at hF
  refine lv_iconst (v := (0 : Int32)) hx hb dX2_shownSum_0 (by decide) ?_
  refine lv_istore_n (i := 1) (lv' := [(1, .int (0 : Int32)), (0, .ref (ad 1002))]) hx hb dX2_shownSum_1 rfl hl (by decide) rfl (fun ls hl => ?_)
  refine lv_iconst (v := (0 : Int32)) hx hb dX2_shownSum_2 (by decide) ?_
  refine lv_istore_n (i := 2) (lv' := [(2, .int (0 : Int32)), (1, .int (0 : Int32)), (0, .ref (ad 1002))]) hx hb dX2_shownSum_3 rfl hl (by decide) rfl (fun ls hl => ?_)
  exact b_4 fu (0 : Int32) (0 : Int32) _ hF (lv_sub hl [2, 1, 0] rfl)
def wsR_X2_missTurned : List Cond := Cond.code yX2_missTurned cX2_missTurned 15 (some .int) :: wRa
theorem cw_X2_X2_patternAt_80 {R : Room} {s : State} {args : Array Value} {y : MethodName} {c : ByteArray} {n : Nat} {r : Option FieldType} (hts : ∀ w ∈ (Cond.code y c n r :: wRa), w.before args s = true) (hR : 0 + 1 ≤ R.frames ∧ 8 + (2 + 11) + 0 ≤ R.locals) : CallW R s args RX2 RX2 80 yX2_patternAt cX2_patternAt 2 (some .int) wsR_X2_patternAt { frames := 0, cells := 0, slots := 0, locals := 0 } 0 0 1 := cwV 1 hts (goodV wRa_good rm_X2_80 ri_X2_patternAt rs_X2_patternAt rn_X2 rc_X2_patternAt) rfl rfl rfl (by decide +kernel) hR
def FR_X2_missTurned_192 (σ : RS) (K_145 : Int32 → Int32 → Int32 → Int32 → Option Int32) (x8_192 : Int32) (x9_192 : Int32) (x10_192 : Int32) (x11_192 : Int32) (x12_192 : Int32) (x13_192 : Int32) : Option Int32 := (K_145 (x8_192 + x10_192) (x9_192 + x11_192) x12_192 (x13_192 + (-1 : Int32)))
def FR_X2_missTurned_145 (σ : RS) (x10_145 : Int32) (x11_145 : Int32) : Nat → Int32 → Int32 → Int32 → Int32 → Option Int32
  | 0, _, _, _, _ => none
  | n_145 + 1, x8_145, x9_145, x12_145, x13_145 => (if x13_145 ≤ 0 then (some x12_145) else ((FR_X2_patternAt σ x8_145).bind fun q_153 => ((FR_X2_patternAt σ x9_145).bind fun q_159 => (if (if 0 ≤ (q_153 - q_159) then (q_153 - q_159) else 0 - (q_153 - q_159)) ≤ (rI σ 202) then (FR_X2_missTurned_192 σ (fun x8_145 x9_145 x12_145 x13_145 => FR_X2_missTurned_145 σ  x10_145 x11_145 n_145 x8_145 x9_145 x12_145 x13_145) x8_145 x9_145 x10_145 x11_145 x12_145 x13_145) else (if ((10 : Int32) - (if 0 ≤ (q_153 - q_159) then (q_153 - q_159) else 0 - (q_153 - q_159))) ≤ (rI σ 202) then (FR_X2_missTurned_192 σ (fun x8_145 x9_145 x12_145 x13_145 => FR_X2_missTurned_145 σ  x10_145 x11_145 n_145 x8_145 x9_145 x12_145 x13_145) x8_145 x9_145 x10_145 x11_145 x12_145 x13_145) else (FR_X2_missTurned_192 σ (fun x8_145 x9_145 x12_145 x13_145 => FR_X2_missTurned_145 σ  x10_145 x11_145 n_145 x8_145 x9_145 x12_145 x13_145) x8_145 x9_145 x10_145 x11_145 (x12_145 + (1 : Int32)) x13_145))))))
def FR_X2_missTurned_132 (σ : RS) (x1_132 : Int32) (x8_132 : Int32) (x9_132 : Int32) (x10_132 : Int32) (t0_132 : Int32) : Option Int32 := (gd (inb x1_132 5) (FR_X2_missTurned_145 σ x10_132 t0_132 fu x8_132 x9_132 (0 : Int32) (rA σ 207 x1_132.toNatClampNeg)))
def FR_X2_missTurned_120 (σ : RS) (x1_120 : Int32) (x7_120 : Int32) (x8_120 : Int32) (x9_120 : Int32) (t0_120 : Int32) : Option Int32 := (if x7_120 = 0 then (FR_X2_missTurned_132 σ x1_120 x8_120 x9_120 t0_120 (1 : Int32)) else (FR_X2_missTurned_132 σ x1_120 x8_120 x9_120 t0_120 (-1 : Int32)))
def FR_X2_missTurned_107 (σ : RS) (x1_107 : Int32) (x6_107 : Int32) (x7_107 : Int32) (x8_107 : Int32) (t0_107 : Int32) (t1_107 : Int32) : Option Int32 := (if x6_107 = 0 then (FR_X2_missTurned_120 σ x1_107 x7_107 x8_107 (t0_107 + t1_107) (1 : Int32)) else (FR_X2_missTurned_120 σ x1_107 x7_107 x8_107 (t0_107 + t1_107) (-1 : Int32)))
def FR_X2_missTurned_79 (σ : RS) (x1_79 : Int32) (x5_79 : Int32) (x6_79 : Int32) (x7_79 : Int32) (t0_79 : Int32) (t1_79 : Int32) : Option Int32 := (gd (inb x5_79 6) (if x7_79 = 0 then (FR_X2_missTurned_107 σ x1_79 x6_79 x7_79 (t0_79 + t1_79) (rA σ 205 x5_79.toNatClampNeg) (0 : Int32)) else ((rV σ 201).bind fun r_95 => (gd (isK σ r_95 11) (gd (inb x5_79 (pN σ r_95)) (FR_X2_missTurned_107 σ x1_79 x6_79 x7_79 (t0_79 + t1_79) (rA σ 205 x5_79.toNatClampNeg) ((pA σ r_95 x5_79.toNatClampNeg) - (1 : Int32))))))))
def FR_X2_missTurned_52 (σ : RS) (x1_52 : Int32) (x4_52 : Int32) (x5_52 : Int32) (x6_52 : Int32) (t0_52 : Int32) : Option Int32 := (gd (inb x4_52 6) (if x6_52 = 0 then (FR_X2_missTurned_79 σ x1_52 x5_52 x6_52 t0_52 (rA σ 205 x4_52.toNatClampNeg) (0 : Int32)) else ((rV σ 201).bind fun r_67 => (gd (isK σ r_67 11) (gd (inb x4_52 (pN σ r_67)) (FR_X2_missTurned_79 σ x1_52 x5_52 x6_52 t0_52 (rA σ 205 x4_52.toNatClampNeg) ((pA σ r_67 x4_52.toNatClampNeg) - (1 : Int32))))))))
def FR_X2_missTurned_44 (σ : RS) (x1_44 : Int32) (x4_44 : Int32) (x5_44 : Int32) (x6_44 : Int32) (t0_44 : Int32) (t1_44 : Int32) : Option Int32 := (if t0_44 = t1_44 then (FR_X2_missTurned_52 σ x1_44 x4_44 x5_44 x6_44 (0 : Int32)) else (FR_X2_missTurned_52 σ x1_44 x4_44 x5_44 x6_44 (1 : Int32)))
def FR_X2_missTurned_34 (σ : RS) (x1_34 : Int32) (x4_34 : Int32) (x5_34 : Int32) (x6_34 : Int32) (t0_34 : Int32) : Option Int32 := (if x1_34 = (3 : Int32) then (FR_X2_missTurned_44 σ x1_34 x4_34 x5_34 x6_34 t0_34 (1 : Int32)) else (FR_X2_missTurned_44 σ x1_34 x4_34 x5_34 x6_34 t0_34 (0 : Int32)))
def FR_X2_missTurned_22 (σ : RS) (x1_22 : Int32) (x3_22 : Int32) (x4_22 : Int32) (x5_22 : Int32) (t0_22 : Int32) : Option Int32 := (if x3_22 = (1 : Int32) then (FR_X2_missTurned_34 σ x1_22 x4_22 x5_22 t0_22 (1 : Int32)) else (FR_X2_missTurned_34 σ x1_22 x4_22 x5_22 t0_22 (0 : Int32)))
def FR_X2_missTurned (σ : RS) (p1 : Int32) (p2 : Int32) (p3 : Int32) : Option Int32 := (gd (inb p1 5) (if p2 = (1 : Int32) then (FR_X2_missTurned_22 σ p1 p3 (p1 + (1 : Int32)) (tbW p1.toNatClampNeg) (1 : Int32)) else (FR_X2_missTurned_22 σ p1 p3 (p1 + (1 : Int32)) (tbW p1.toNatClampNeg) (0 : Int32))))
set_option maxHeartbeats 4000000 in
set_option maxRecDepth 100000 in
theorem cR_X2_missTurned (l : Launch) (D : va_G) (cs : Nat → ClassId) (ad tb : Nat → Nat) (A : Nat → Prop) (σ : RS) (p1 : Int32) (p2 : Int32) (p3 : Int32) (q : Int32) (hF : FR_X2_missTurned σ p1 p2 p3 = some q) : Met l yX2_missTurned wsR_X2_missTurned { frames := 1, cells := 0, slots := 0, locals := 24 } (va_Pc [.ref (ad 1002), .int p1, .int p2, .int p3] (preQ D cs ad tb A σ)) (vp_Si (fun x => x = q)) 0 0 (fun _ => False) := by
  refine Met.ofW (cc := cX2_missTurned) (maxL := 15) (ret := (some .int)) (by decide) rfl ?_
  intro p e s m args below meth c s₁ B hml hv
  obtain ⟨rfl, hP, hK, hD, hZ⟩ := hv
  have hx := B.exec
  have hb := B.bytes
  have hr := B.returns
  have hts : ∀ w ∈ (Cond.code yX2_missTurned cX2_missTurned 15 (some .int) :: wRa), w.before ([.ref (ad 1002), .int p1, .int p2, .int p3] : List Value).toArray s = true := atoms_spec (ws := wsR_X2_missTurned) B.pre
  have hin : ∀ w ∈ wRa, w ∈ (Cond.code yX2_missTurned cX2_missTurned 15 (some .int) :: wRa) := fun w hw => List.mem_cons_of_mem _ hw
  have hown : s.vm.findClass RX2 = some m.cls := findClass_of_methodNamed B.named
  have hlocks := B.notSynchronized
  have hS : va_S A s.heap s.heap [] := va_S.rf
  have b_192 : ∀ (x8_192 : Int32) (x9_192 : Int32) (x10_192 : Int32) (x11_192 : Int32) (x12_192 : Int32) (x13_192 : Int32) (K_145 : Int32 → Int32 → Int32 → Int32 → Option Int32) (k_145 : ∀ (x8_145 : Int32) (x9_145 : Int32) (x12_145 : Int32) (x13_145 : Int32) (ls : Array Slot), K_145 x8_145 x9_145 x12_145 x13_145 = some q → lv_has ls 15 [(0, .ref (ad 1002)), (8, .int x8_145), (9, .int x9_145), (10, .int x10_192), (11, .int x11_192), (12, .int x12_145), (13, .int x13_145)] → W p l e (headSpec wsR_X2_missTurned { frames := 1, cells := 0, slots := 0, locals := 24 }).room s m ([.ref (ad 1002), .int p1, .int p2, .int p3] : List Value).toArray below meth c s.heap [] 0 0 (MQ below (vp_Si (fun x => x = q)) ([.ref (ad 1002), .int p1, .int p2, .int p3] : List Value).toArray s 0 0 (fun _ => False)) (F0 m 145 ls [])) (ls : Array Slot), FR_X2_missTurned_192 σ K_145 x8_192 x9_192 x10_192 x11_192 x12_192 x13_192 = some q → lv_has ls 15 [(0, .ref (ad 1002)), (8, .int x8_192), (9, .int x9_192), (10, .int x10_192), (11, .int x11_192), (12, .int x12_192), (13, .int x13_192)] → W p l e (headSpec wsR_X2_missTurned { frames := 1, cells := 0, slots := 0, locals := 24 }).room s m ([.ref (ad 1002), .int p1, .int p2, .int p3] : List Value).toArray below meth c s.heap [] 0 0 (MQ below (vp_Si (fun x => x = q)) ([.ref (ad 1002), .int p1, .int p2, .int p3] : List Value).toArray s 0 0 (fun _ => False)) (F0 m 192 ls []) := by
    intro x8_192 x9_192 x10_192 x11_192 x12_192 x13_192 K_145 k_145 ls hF hl
    unfold FR_X2_missTurned_192 at hF
    refine lv_iload hx hb dX2_missTurned_192 (lv_at hl 1 rfl) ?_
    refine lv_iload hx hb dX2_missTurned_194 (lv_at hl 3 rfl) ?_
    refine lv_iadd hx hb dX2_missTurned_196 ?_
    refine lv_istore (i := 8) (lv' := [(8, .int (x8_192 + x10_192)), (0, .ref (ad 1002)), (9, .int x9_192), (10, .int x10_192), (11, .int x11_192), (12, .int x12_192), (13, .int x13_192)]) hx hb dX2_missTurned_197 hl (by decide) rfl (fun ls hl => ?_)
    refine lv_iload hx hb dX2_missTurned_199 (lv_at hl 2 rfl) ?_
    refine lv_iload hx hb dX2_missTurned_201 (lv_at hl 4 rfl) ?_
    refine lv_iadd hx hb dX2_missTurned_203 ?_
    refine lv_istore (i := 9) (lv' := [(9, .int (x9_192 + x11_192)), (8, .int (x8_192 + x10_192)), (0, .ref (ad 1002)), (10, .int x10_192), (11, .int x11_192), (12, .int x12_192), (13, .int x13_192)]) hx hb dX2_missTurned_204 hl (by decide) rfl (fun ls hl => ?_)
    refine lv_iinc (v := x13_192 + (-1 : Int32)) (lv' := [(13, .int (x13_192 + (-1 : Int32))), (9, .int (x9_192 + x11_192)), (8, .int (x8_192 + x10_192)), (0, .ref (ad 1002)), (10, .int x10_192), (11, .int x11_192), (12, .int x12_192)]) hx hb dX2_missTurned_206 hl (k := 6) rfl rfl (by decide) rfl (fun ls hl => ?_)
    refine lv_goto (tgt := 145) hx hb dX2_missTurned_209 (by decide) ?_
    exact k_145 (x8_192 + x10_192) (x9_192 + x11_192) x12_192 (x13_192 + (-1 : Int32)) _ hF (lv_sub hl [3, 2, 1, 4, 5, 6, 0] rfl)
  have b_145 : ∀ (x10_145 : Int32) (x11_145 : Int32) (n_145 : Nat) (x8_145 : Int32) (x9_145 : Int32) (x12_145 : Int32) (x13_145 : Int32) (ls : Array Slot), FR_X2_missTurned_145 σ x10_145 x11_145 n_145 x8_145 x9_145 x12_145 x13_145 = some q → lv_has ls 15 [(0, .ref (ad 1002)), (8, .int x8_145), (9, .int x9_145), (10, .int x10_145), (11, .int x11_145), (12, .int x12_145), (13, .int x13_145)] → W p l e (headSpec wsR_X2_missTurned { frames := 1, cells := 0, slots := 0, locals := 24 }).room s m ([.ref (ad 1002), .int p1, .int p2, .int p3] : List Value).toArray below meth c s.heap [] 0 0 (MQ below (vp_Si (fun x => x = q)) ([.ref (ad 1002), .int p1, .int p2, .int p3] : List Value).toArray s 0 0 (fun _ => False)) (F0 m 145 ls []) := by
    intro x10_145 x11_145
    intro n_145
    induction n_145 with
    | zero =>
      intro x8_145 x9_145 x12_145 x13_145 ls hF hl
      exact absurd hF (by simp [FR_X2_missTurned_145])
    | succ n_145 ih_145 =>
      intro x8_145 x9_145 x12_145 x13_145 ls hF hl
      rw [FR_X2_missTurned_145] at hF
      refine lv_iload hx hb dX2_missTurned_145 (lv_at hl 6 rfl) ?_
      refine lv_if_le (tgt := 212) hx hb dX2_missTurned_147 (by decide) (fun c_147 => ?_) (fun c_147 => ?_)
      · have hF := ob_t c_147 hF
        refine lv_iload hx hb dX2_missTurned_212 (lv_at hl 5 rfl) ?_
        exact rrM hx hb hr hlocks hF dX2_missTurned_214
      · have hF := ob_f c_147 hF
        refine lv_aload_n hx hb dX2_missTurned_150 rfl (lv_at hl 0 rfl) ?_
        refine lv_iload hx hb dX2_missTurned_151 (lv_at hl 1 rfl) ?_
        obtain ⟨q_153, e_153, hF⟩ := ob_bd hF
        refine crR (As := [.int x8_145]) (rest := []) ⟨hx, hb, hml, hown, hts⟩ (cR_X2_patternAt l D cs ad tb A σ x8_145 _ e_153) (cw_X2_X2_patternAt_80 hts ⟨Nat.le_of_ble_eq_true rfl, Nat.le_of_ble_eq_true rfl⟩) ⟨Nat.zero_le _, Nat.zero_le _⟩ (rcF hK hP (ci := 2) rfl (ob_2 _ _ _)) hK hP hD hS hZ rfl hl.1 rfl (lv_room (Nat.le_of_ble_eq_true rfl)) dX2_missTurned_153 ?_
        refine lv_aload_n hx hb dX2_missTurned_156 rfl (lv_at hl 0 rfl) ?_
        refine lv_iload hx hb dX2_missTurned_157 (lv_at hl 2 rfl) ?_
        obtain ⟨q_159, e_159, hF⟩ := ob_bd hF
        refine crR (As := [.int x9_145]) (rest := [.int q_153]) ⟨hx, hb, hml, hown, hts⟩ (cR_X2_patternAt l D cs ad tb A σ x9_145 _ e_159) (cw_X2_X2_patternAt_80 hts ⟨Nat.le_of_ble_eq_true rfl, Nat.le_of_ble_eq_true rfl⟩) ⟨Nat.zero_le _, Nat.zero_le _⟩ (rcF hK hP (ci := 2) rfl (ob_2 _ _ _)) hK hP hD hS hZ rfl hl.1 rfl (lv_room (Nat.le_of_ble_eq_true rfl)) dX2_missTurned_159 ?_
        refine lv_isub hx hb dX2_missTurned_162 ?_
        refine va_mabs hx hb (hml.trans hl.1.symm) hown (hts _ (hin _ rm_X2_83)) (hts _ (hin _ rt_abs)) (hts _ (hin _ rn_math)) (hts _ (hin _ rc_abs)) (Nat.le_of_ble_eq_true rfl) (Nat.le_of_ble_eq_true rfl) (Nat.le_of_ble_eq_true rfl) (Nat.le_of_ble_eq_true rfl) dX2_missTurned_163 ?_
        refine lv_istore (i := 14) (lv' := [(14, .int (if 0 ≤ (q_153 - q_159) then (q_153 - q_159) else 0 - (q_153 - q_159))), (0, .ref (ad 1002)), (8, .int x8_145), (9, .int x9_145), (10, .int x10_145), (11, .int x11_145), (12, .int x12_145), (13, .int x13_145)]) hx hb dX2_missTurned_166 hl (by decide) rfl (fun ls hl => ?_)
        refine lv_iload hx hb dX2_missTurned_168 (lv_at hl 0 rfl) ?_
        refine lv_aload_n hx hb dX2_missTurned_170 rfl (lv_at hl 1 rfl) ?_
        refine gF hx hb hts hin wo_2 rfl hown hK hP (ob_2 _ _ _) 2 (.int (rI σ 202)) (by decide) rf_X2_27 rfl dX2_missTurned_171 ?_
        refine lv_icmp_le (tgt := 192) hx hb dX2_missTurned_174 (by decide) (fun c_174 => ?_) (fun c_174 => ?_)
        · have hF := ob_t c_174 hF
          exact b_192 x8_145 x9_145 x10_145 x11_145 x12_145 x13_145 (fun x8_145 x9_145 x12_145 x13_145 => FR_X2_missTurned_145 σ  x10_145 x11_145 n_145 x8_145 x9_145 x12_145 x13_145) ih_145 _ hF (lv_sub hl [1, 2, 3, 4, 5, 6, 7] rfl)
        · have hF := ob_f c_174 hF
          refine lv_bipush (v := (10 : Int32)) hx hb dX2_missTurned_177 (by decide) ?_
          refine lv_iload hx hb dX2_missTurned_179 (lv_at hl 0 rfl) ?_
          refine lv_isub hx hb dX2_missTurned_181 ?_
          refine lv_aload_n hx hb dX2_missTurned_182 rfl (lv_at hl 1 rfl) ?_
          refine gF hx hb hts hin wo_2 rfl hown hK hP (ob_2 _ _ _) 2 (.int (rI σ 202)) (by decide) rf_X2_27 rfl dX2_missTurned_183 ?_
          refine lv_icmp_le (tgt := 192) hx hb dX2_missTurned_186 (by decide) (fun c_186 => ?_) (fun c_186 => ?_)
          · have hF := ob_t c_186 hF
            exact b_192 x8_145 x9_145 x10_145 x11_145 x12_145 x13_145 (fun x8_145 x9_145 x12_145 x13_145 => FR_X2_missTurned_145 σ  x10_145 x11_145 n_145 x8_145 x9_145 x12_145 x13_145) ih_145 _ hF (lv_sub hl [1, 2, 3, 4, 5, 6, 7] rfl)
          · have hF := ob_f c_186 hF
            refine lv_iinc (v := x12_145 + (1 : Int32)) (lv' := [(12, .int (x12_145 + (1 : Int32))), (14, .int (if 0 ≤ (q_153 - q_159) then (q_153 - q_159) else 0 - (q_153 - q_159))), (0, .ref (ad 1002)), (8, .int x8_145), (9, .int x9_145), (10, .int x10_145), (11, .int x11_145), (13, .int x13_145)]) hx hb dX2_missTurned_189 hl (k := 6) rfl rfl (by decide) rfl (fun ls hl => ?_)
            exact b_192 x8_145 x9_145 x10_145 x11_145 (x12_145 + (1 : Int32)) x13_145 (fun x8_145 x9_145 x12_145 x13_145 => FR_X2_missTurned_145 σ  x10_145 x11_145 n_145 x8_145 x9_145 x12_145 x13_145) ih_145 _ hF (lv_sub hl [2, 3, 4, 5, 6, 0, 7] rfl)
  have b_132 : ∀ (x1_132 : Int32) (x8_132 : Int32) (x9_132 : Int32) (x10_132 : Int32) (t0_132 : Int32) (ls : Array Slot), FR_X2_missTurned_132 σ x1_132 x8_132 x9_132 x10_132 t0_132 = some q → lv_has ls 15 [(0, .ref (ad 1002)), (1, .int x1_132), (8, .int x8_132), (9, .int x9_132), (10, .int x10_132)] → W p l e (headSpec wsR_X2_missTurned { frames := 1, cells := 0, slots := 0, locals := 24 }).room s m ([.ref (ad 1002), .int p1, .int p2, .int p3] : List Value).toArray below meth c s.heap [] 0 0 (MQ below (vp_Si (fun x => x = q)) ([.ref (ad 1002), .int p1, .int p2, .int p3] : List Value).toArray s 0 0 (fun _ => False)) (F0 m 132 ls [.int t0_132]) := by
    intro x1_132 x8_132 x9_132 x10_132 t0_132 ls hF hl
    unfold FR_X2_missTurned_132 at hF
    refine lv_istore (i := 11) (lv' := [(11, .int t0_132), (0, .ref (ad 1002)), (1, .int x1_132), (8, .int x8_132), (9, .int x9_132), (10, .int x10_132)]) hx hb dX2_missTurned_132 hl (by decide) rfl (fun ls hl => ?_)
    refine lv_iconst (v := (0 : Int32)) hx hb dX2_missTurned_134 (by decide) ?_
    refine lv_istore (i := 12) (lv' := [(12, .int (0 : Int32)), (11, .int t0_132), (0, .ref (ad 1002)), (1, .int x1_132), (8, .int x8_132), (9, .int x9_132), (10, .int x10_132)]) hx hb dX2_missTurned_135 hl (by decide) rfl (fun ls hl => ?_)
    refine lv_aload_n hx hb dX2_missTurned_137 rfl (lv_at hl 2 rfl) ?_
    refine gF hx hb hts hin wo_2 rfl hown hK hP (ob_2 _ _ _) 4 (.ref (ad 207)) (by decide) rf_X2_18 rfl dX2_missTurned_138 ?_
    refine lv_iload_n hx hb dX2_missTurned_141 rfl (lv_at hl 3 rfl) ?_
    obtain ⟨g_142, hF⟩ := ob_gd hF
    refine ldF hx hb hK hP (ra_207 _ _ _) (rA σ 207 x1_132.toNatClampNeg) g_142 rfl dX2_missTurned_142 ?_
    refine lv_istore (i := 13) (lv' := [(13, .int (rA σ 207 x1_132.toNatClampNeg)), (12, .int (0 : Int32)), (11, .int t0_132), (0, .ref (ad 1002)), (1, .int x1_132), (8, .int x8_132), (9, .int x9_132), (10, .int x10_132)]) hx hb dX2_missTurned_143 hl (by decide) rfl (fun ls hl => ?_)
    exact b_145 x10_132 t0_132 fu x8_132 x9_132 (0 : Int32) (rA σ 207 x1_132.toNatClampNeg) _ hF (lv_sub hl [3, 5, 6, 7, 2, 1, 0] rfl)
  have b_120 : ∀ (x1_120 : Int32) (x7_120 : Int32) (x8_120 : Int32) (x9_120 : Int32) (t0_120 : Int32) (ls : Array Slot), FR_X2_missTurned_120 σ x1_120 x7_120 x8_120 x9_120 t0_120 = some q → lv_has ls 15 [(0, .ref (ad 1002)), (1, .int x1_120), (7, .int x7_120), (8, .int x8_120), (9, .int x9_120)] → W p l e (headSpec wsR_X2_missTurned { frames := 1, cells := 0, slots := 0, locals := 24 }).room s m ([.ref (ad 1002), .int p1, .int p2, .int p3] : List Value).toArray below meth c s.heap [] 0 0 (MQ below (vp_Si (fun x => x = q)) ([.ref (ad 1002), .int p1, .int p2, .int p3] : List Value).toArray s 0 0 (fun _ => False)) (F0 m 120 ls [.int t0_120]) := by
    intro x1_120 x7_120 x8_120 x9_120 t0_120 ls hF hl
    unfold FR_X2_missTurned_120 at hF
    refine lv_istore (i := 10) (lv' := [(10, .int t0_120), (0, .ref (ad 1002)), (1, .int x1_120), (7, .int x7_120), (8, .int x8_120), (9, .int x9_120)]) hx hb dX2_missTurned_120 hl (by decide) rfl (fun ls hl => ?_)
    refine lv_iload hx hb dX2_missTurned_122 (lv_at hl 3 rfl) ?_
    refine lv_if_eq (tgt := 131) hx hb dX2_missTurned_124 (by decide) (fun c_124 => ?_) (fun c_124 => ?_)
    · have hF := ob_t c_124 hF
      refine lv_iconst (v := (1 : Int32)) hx hb dX2_missTurned_131 (by decide) ?_
      exact b_132 x1_120 x8_120 x9_120 t0_120 (1 : Int32) _ hF (lv_sub hl [1, 2, 4, 5, 0] rfl)
    · have hF := ob_f c_124 hF
      refine lv_iconst (v := (-1 : Int32)) hx hb dX2_missTurned_127 (by decide) ?_
      refine lv_goto (tgt := 132) hx hb dX2_missTurned_128 (by decide) ?_
      exact b_132 x1_120 x8_120 x9_120 t0_120 (-1 : Int32) _ hF (lv_sub hl [1, 2, 4, 5, 0] rfl)
  have b_107 : ∀ (x1_107 : Int32) (x6_107 : Int32) (x7_107 : Int32) (x8_107 : Int32) (t0_107 : Int32) (t1_107 : Int32) (ls : Array Slot), FR_X2_missTurned_107 σ x1_107 x6_107 x7_107 x8_107 t0_107 t1_107 = some q → lv_has ls 15 [(0, .ref (ad 1002)), (1, .int x1_107), (6, .int x6_107), (7, .int x7_107), (8, .int x8_107)] → W p l e (headSpec wsR_X2_missTurned { frames := 1, cells := 0, slots := 0, locals := 24 }).room s m ([.ref (ad 1002), .int p1, .int p2, .int p3] : List Value).toArray below meth c s.heap [] 0 0 (MQ below (vp_Si (fun x => x = q)) ([.ref (ad 1002), .int p1, .int p2, .int p3] : List Value).toArray s 0 0 (fun _ => False)) (F0 m 107 ls [.int t1_107, .int t0_107]) := by
    intro x1_107 x6_107 x7_107 x8_107 t0_107 t1_107 ls hF hl
    unfold FR_X2_missTurned_107 at hF
    refine lv_iadd hx hb dX2_missTurned_107 ?_
    refine lv_istore (i := 9) (lv' := [(9, .int (t0_107 + t1_107)), (0, .ref (ad 1002)), (1, .int x1_107), (6, .int x6_107), (7, .int x7_107), (8, .int x8_107)]) hx hb dX2_missTurned_108 hl (by decide) rfl (fun ls hl => ?_)
    refine lv_iload hx hb dX2_missTurned_110 (lv_at hl 3 rfl) ?_
    refine lv_if_eq (tgt := 119) hx hb dX2_missTurned_112 (by decide) (fun c_112 => ?_) (fun c_112 => ?_)
    · have hF := ob_t c_112 hF
      refine lv_iconst (v := (1 : Int32)) hx hb dX2_missTurned_119 (by decide) ?_
      exact b_120 x1_107 x7_107 x8_107 (t0_107 + t1_107) (1 : Int32) _ hF (lv_sub hl [1, 2, 4, 5, 0] rfl)
    · have hF := ob_f c_112 hF
      refine lv_iconst (v := (-1 : Int32)) hx hb dX2_missTurned_115 (by decide) ?_
      refine lv_goto (tgt := 120) hx hb dX2_missTurned_116 (by decide) ?_
      exact b_120 x1_107 x7_107 x8_107 (t0_107 + t1_107) (-1 : Int32) _ hF (lv_sub hl [1, 2, 4, 5, 0] rfl)
  have b_79 : ∀ (x1_79 : Int32) (x5_79 : Int32) (x6_79 : Int32) (x7_79 : Int32) (t0_79 : Int32) (t1_79 : Int32) (ls : Array Slot), FR_X2_missTurned_79 σ x1_79 x5_79 x6_79 x7_79 t0_79 t1_79 = some q → lv_has ls 15 [(0, .ref (ad 1002)), (1, .int x1_79), (5, .int x5_79), (6, .int x6_79), (7, .int x7_79)] → W p l e (headSpec wsR_X2_missTurned { frames := 1, cells := 0, slots := 0, locals := 24 }).room s m ([.ref (ad 1002), .int p1, .int p2, .int p3] : List Value).toArray below meth c s.heap [] 0 0 (MQ below (vp_Si (fun x => x = q)) ([.ref (ad 1002), .int p1, .int p2, .int p3] : List Value).toArray s 0 0 (fun _ => False)) (F0 m 79 ls [.int t1_79, .int t0_79]) := by
    intro x1_79 x5_79 x6_79 x7_79 t0_79 t1_79 ls hF hl
    unfold FR_X2_missTurned_79 at hF
    refine lv_iadd hx hb dX2_missTurned_79 ?_
    refine lv_istore (i := 8) (lv' := [(8, .int (t0_79 + t1_79)), (0, .ref (ad 1002)), (1, .int x1_79), (5, .int x5_79), (6, .int x6_79), (7, .int x7_79)]) hx hb dX2_missTurned_80 hl (by decide) rfl (fun ls hl => ?_)
    refine lv_aload_n hx hb dX2_missTurned_82 rfl (lv_at hl 1 rfl) ?_
    refine gF hx hb hts hin wo_2 rfl hown hK hP (ob_2 _ _ _) 6 (.ref (ad 205)) (by decide) rf_X2_24 rfl dX2_missTurned_83 ?_
    refine lv_iload hx hb dX2_missTurned_86 (lv_at hl 3 rfl) ?_
    obtain ⟨g_88, hF⟩ := ob_gd hF
    refine ldF hx hb hK hP (ra_205 _ _ _) (rA σ 205 x5_79.toNatClampNeg) g_88 rfl dX2_missTurned_88 ?_
    refine lv_iload hx hb dX2_missTurned_89 (lv_at hl 5 rfl) ?_
    refine lv_if_eq (tgt := 106) hx hb dX2_missTurned_91 (by decide) (fun c_91 => ?_) (fun c_91 => ?_)
    · have hF := ob_t c_91 hF
      refine lv_iconst (v := (0 : Int32)) hx hb dX2_missTurned_106 (by decide) ?_
      exact b_107 x1_79 x6_79 x7_79 (t0_79 + t1_79) (rA σ 205 x5_79.toNatClampNeg) (0 : Int32) _ hF (lv_sub hl [1, 2, 4, 5, 0] rfl)
    · have hF := ob_f c_91 hF
      refine lv_aload_n hx hb dX2_missTurned_94 rfl (lv_at hl 1 rfl) ?_
      refine gF hx hb hts hin wo_2 rfl hown hK hP (ob_2 _ _ _) 1 (va_rf (rV σ 201)) (by decide) rf_X2_15 rfl dX2_missTurned_95 ?_
      obtain ⟨r_95, o_95, hF⟩ := ob_bd hF
      refine rfS o_95 ?_
      refine lv_iload hx hb dX2_missTurned_98 (lv_at hl 3 rfl) ?_
      obtain ⟨k_100_1, hF⟩ := ob_gd hF
      obtain ⟨g_100, hF⟩ := ob_gd hF
      refine ldP hx hb hK hP k_100_1 (pA σ r_95 x5_79.toNatClampNeg) g_100 rfl dX2_missTurned_100 ?_
      refine lv_iconst (v := (1 : Int32)) hx hb dX2_missTurned_101 (by decide) ?_
      refine lv_isub hx hb dX2_missTurned_102 ?_
      refine lv_goto (tgt := 107) hx hb dX2_missTurned_103 (by decide) ?_
      exact b_107 x1_79 x6_79 x7_79 (t0_79 + t1_79) (rA σ 205 x5_79.toNatClampNeg) ((pA σ r_95 x5_79.toNatClampNeg) - (1 : Int32)) _ hF (lv_sub hl [1, 2, 4, 5, 0] rfl)
  have b_52 : ∀ (x1_52 : Int32) (x4_52 : Int32) (x5_52 : Int32) (x6_52 : Int32) (t0_52 : Int32) (ls : Array Slot), FR_X2_missTurned_52 σ x1_52 x4_52 x5_52 x6_52 t0_52 = some q → lv_has ls 15 [(0, .ref (ad 1002)), (1, .int x1_52), (4, .int x4_52), (5, .int x5_52), (6, .int x6_52)] → W p l e (headSpec wsR_X2_missTurned { frames := 1, cells := 0, slots := 0, locals := 24 }).room s m ([.ref (ad 1002), .int p1, .int p2, .int p3] : List Value).toArray below meth c s.heap [] 0 0 (MQ below (vp_Si (fun x => x = q)) ([.ref (ad 1002), .int p1, .int p2, .int p3] : List Value).toArray s 0 0 (fun _ => False)) (F0 m 52 ls [.int t0_52]) := by
    intro x1_52 x4_52 x5_52 x6_52 t0_52 ls hF hl
    unfold FR_X2_missTurned_52 at hF
    refine lv_istore (i := 7) (lv' := [(7, .int t0_52), (0, .ref (ad 1002)), (1, .int x1_52), (4, .int x4_52), (5, .int x5_52), (6, .int x6_52)]) hx hb dX2_missTurned_52 hl (by decide) rfl (fun ls hl => ?_)
    refine lv_aload_n hx hb dX2_missTurned_54 rfl (lv_at hl 1 rfl) ?_
    refine gF hx hb hts hin wo_2 rfl hown hK hP (ob_2 _ _ _) 6 (.ref (ad 205)) (by decide) rf_X2_24 rfl dX2_missTurned_55 ?_
    refine lv_iload hx hb dX2_missTurned_58 (lv_at hl 3 rfl) ?_
    obtain ⟨g_60, hF⟩ := ob_gd hF
    refine ldF hx hb hK hP (ra_205 _ _ _) (rA σ 205 x4_52.toNatClampNeg) g_60 rfl dX2_missTurned_60 ?_
    refine lv_iload hx hb dX2_missTurned_61 (lv_at hl 5 rfl) ?_
    refine lv_if_eq (tgt := 78) hx hb dX2_missTurned_63 (by decide) (fun c_63 => ?_) (fun c_63 => ?_)
    · have hF := ob_t c_63 hF
      refine lv_iconst (v := (0 : Int32)) hx hb dX2_missTurned_78 (by decide) ?_
      exact b_79 x1_52 x5_52 x6_52 t0_52 (rA σ 205 x4_52.toNatClampNeg) (0 : Int32) _ hF (lv_sub hl [1, 2, 4, 5, 0] rfl)
    · have hF := ob_f c_63 hF
      refine lv_aload_n hx hb dX2_missTurned_66 rfl (lv_at hl 1 rfl) ?_
      refine gF hx hb hts hin wo_2 rfl hown hK hP (ob_2 _ _ _) 1 (va_rf (rV σ 201)) (by decide) rf_X2_15 rfl dX2_missTurned_67 ?_
      obtain ⟨r_67, o_67, hF⟩ := ob_bd hF
      refine rfS o_67 ?_
      refine lv_iload hx hb dX2_missTurned_70 (lv_at hl 3 rfl) ?_
      obtain ⟨k_72_2, hF⟩ := ob_gd hF
      obtain ⟨g_72, hF⟩ := ob_gd hF
      refine ldP hx hb hK hP k_72_2 (pA σ r_67 x4_52.toNatClampNeg) g_72 rfl dX2_missTurned_72 ?_
      refine lv_iconst (v := (1 : Int32)) hx hb dX2_missTurned_73 (by decide) ?_
      refine lv_isub hx hb dX2_missTurned_74 ?_
      refine lv_goto (tgt := 79) hx hb dX2_missTurned_75 (by decide) ?_
      exact b_79 x1_52 x5_52 x6_52 t0_52 (rA σ 205 x4_52.toNatClampNeg) ((pA σ r_67 x4_52.toNatClampNeg) - (1 : Int32)) _ hF (lv_sub hl [1, 2, 4, 5, 0] rfl)
  have b_44 : ∀ (x1_44 : Int32) (x4_44 : Int32) (x5_44 : Int32) (x6_44 : Int32) (t0_44 : Int32) (t1_44 : Int32) (ls : Array Slot), FR_X2_missTurned_44 σ x1_44 x4_44 x5_44 x6_44 t0_44 t1_44 = some q → lv_has ls 15 [(0, .ref (ad 1002)), (1, .int x1_44), (4, .int x4_44), (5, .int x5_44), (6, .int x6_44)] → W p l e (headSpec wsR_X2_missTurned { frames := 1, cells := 0, slots := 0, locals := 24 }).room s m ([.ref (ad 1002), .int p1, .int p2, .int p3] : List Value).toArray below meth c s.heap [] 0 0 (MQ below (vp_Si (fun x => x = q)) ([.ref (ad 1002), .int p1, .int p2, .int p3] : List Value).toArray s 0 0 (fun _ => False)) (F0 m 44 ls [.int t1_44, .int t0_44]) := by
    intro x1_44 x4_44 x5_44 x6_44 t0_44 t1_44 ls hF hl
    unfold FR_X2_missTurned_44 at hF
    refine lv_icmp_eq (tgt := 51) hx hb dX2_missTurned_44 (by decide) (fun c_44 => ?_) (fun c_44 => ?_)
    · have hF := ob_t c_44 hF
      refine lv_iconst (v := (0 : Int32)) hx hb dX2_missTurned_51 (by decide) ?_
      exact b_52 x1_44 x4_44 x5_44 x6_44 (0 : Int32) _ hF hl
    · have hF := ob_f c_44 hF
      refine lv_iconst (v := (1 : Int32)) hx hb dX2_missTurned_47 (by decide) ?_
      refine lv_goto (tgt := 52) hx hb dX2_missTurned_48 (by decide) ?_
      exact b_52 x1_44 x4_44 x5_44 x6_44 (1 : Int32) _ hF hl
  have b_34 : ∀ (x1_34 : Int32) (x4_34 : Int32) (x5_34 : Int32) (x6_34 : Int32) (t0_34 : Int32) (ls : Array Slot), FR_X2_missTurned_34 σ x1_34 x4_34 x5_34 x6_34 t0_34 = some q → lv_has ls 15 [(0, .ref (ad 1002)), (1, .int x1_34), (4, .int x4_34), (5, .int x5_34), (6, .int x6_34)] → W p l e (headSpec wsR_X2_missTurned { frames := 1, cells := 0, slots := 0, locals := 24 }).room s m ([.ref (ad 1002), .int p1, .int p2, .int p3] : List Value).toArray below meth c s.heap [] 0 0 (MQ below (vp_Si (fun x => x = q)) ([.ref (ad 1002), .int p1, .int p2, .int p3] : List Value).toArray s 0 0 (fun _ => False)) (F0 m 34 ls [.int t0_34]) := by
    intro x1_34 x4_34 x5_34 x6_34 t0_34 ls hF hl
    unfold FR_X2_missTurned_34 at hF
    refine lv_iload_n hx hb dX2_missTurned_34 rfl (lv_at hl 1 rfl) ?_
    refine lv_iconst (v := (3 : Int32)) hx hb dX2_missTurned_35 (by decide) ?_
    refine lv_icmp_ne (tgt := 43) hx hb dX2_missTurned_36 (by decide) (fun c_36 => ?_) (fun c_36 => ?_)
    · have hF := ob_f c_36 hF
      refine lv_iconst (v := (0 : Int32)) hx hb dX2_missTurned_43 (by decide) ?_
      exact b_44 x1_34 x4_34 x5_34 x6_34 t0_34 (0 : Int32) _ hF hl
    · have hF := ob_t c_36 hF
      refine lv_iconst (v := (1 : Int32)) hx hb dX2_missTurned_39 (by decide) ?_
      refine lv_goto (tgt := 44) hx hb dX2_missTurned_40 (by decide) ?_
      exact b_44 x1_34 x4_34 x5_34 x6_34 t0_34 (1 : Int32) _ hF hl
  have b_22 : ∀ (x1_22 : Int32) (x3_22 : Int32) (x4_22 : Int32) (x5_22 : Int32) (t0_22 : Int32) (ls : Array Slot), FR_X2_missTurned_22 σ x1_22 x3_22 x4_22 x5_22 t0_22 = some q → lv_has ls 15 [(0, .ref (ad 1002)), (1, .int x1_22), (3, .int x3_22), (4, .int x4_22), (5, .int x5_22)] → W p l e (headSpec wsR_X2_missTurned { frames := 1, cells := 0, slots := 0, locals := 24 }).room s m ([.ref (ad 1002), .int p1, .int p2, .int p3] : List Value).toArray below meth c s.heap [] 0 0 (MQ below (vp_Si (fun x => x = q)) ([.ref (ad 1002), .int p1, .int p2, .int p3] : List Value).toArray s 0 0 (fun _ => False)) (F0 m 22 ls [.int t0_22]) := by
    intro x1_22 x3_22 x4_22 x5_22 t0_22 ls hF hl
    unfold FR_X2_missTurned_22 at hF
    refine lv_istore (i := 6) (lv' := [(6, .int t0_22), (0, .ref (ad 1002)), (1, .int x1_22), (3, .int x3_22), (4, .int x4_22), (5, .int x5_22)]) hx hb dX2_missTurned_22 hl (by decide) rfl (fun ls hl => ?_)
    refine lv_iload_n hx hb dX2_missTurned_24 rfl (lv_at hl 3 rfl) ?_
    refine lv_iconst (v := (1 : Int32)) hx hb dX2_missTurned_25 (by decide) ?_
    refine lv_icmp_ne (tgt := 33) hx hb dX2_missTurned_26 (by decide) (fun c_26 => ?_) (fun c_26 => ?_)
    · have hF := ob_f c_26 hF
      refine lv_iconst (v := (0 : Int32)) hx hb dX2_missTurned_33 (by decide) ?_
      exact b_34 x1_22 x4_22 x5_22 t0_22 (0 : Int32) _ hF (lv_sub hl [1, 2, 4, 5, 0] rfl)
    · have hF := ob_t c_26 hF
      refine lv_iconst (v := (1 : Int32)) hx hb dX2_missTurned_29 (by decide) ?_
      refine lv_goto (tgt := 34) hx hb dX2_missTurned_30 (by decide) ?_
      exact b_34 x1_22 x4_22 x5_22 t0_22 (1 : Int32) _ hF (lv_sub hl [1, 2, 4, 5, 0] rfl)
  have hl := lv_entry ([.ref (ad 1002), .int p1, .int p2, .int p3]) (n := 15) (Nat.le_of_ble_eq_true rfl)
  rw [lg_entry_eq]
  generalize (lg_sl ([.ref (ad 1002), .int p1, .int p2, .int p3]) ++ List.replicate (15 - (lg_sl ([.ref (ad 1002), .int p1, .int p2, .int p3])).length) Slot.unset).toArray = ls at hl ⊢
  have hl : lv_has ls 15 [(0, .ref (ad 1002)), (1, .int p1), (2, .int p2), (3, .int p3)] := hl
  unfold FR_X2_missTurned at hF
  refine lv_iload_n hx hb dX2_missTurned_0 rfl (lv_at hl 1 rfl) ?_
  refine lv_iconst (v := (1 : Int32)) hx hb dX2_missTurned_1 (by decide) ?_
  refine lv_iadd hx hb dX2_missTurned_2 ?_
  refine lv_istore (i := 4) (lv' := [(4, .int (p1 + (1 : Int32))), (0, .ref (ad 1002)), (1, .int p1), (2, .int p2), (3, .int p3)]) hx hb dX2_missTurned_3 hl (by decide) rfl (fun ls hl => ?_)
  refine va_getsN hx hb hZ.2.2.1 hS hown (va_Nw.use rfl hZ.2.2.2.2.2.2.1.2.2.1) (fun _ h9 => h9) dX2_missTurned_5 ?_
  refine lv_iload_n hx hb dX2_missTurned_8 rfl (lv_at hl 2 rfl) ?_
  obtain ⟨g_9, hF⟩ := ob_gd hF
  refine va_ti (v := .int (tbW p1.toNatClampNeg)) hx hb hZ.2.2.2.1 hS (inb_in g_9) rfl dX2_missTurned_9 ?_
  refine lv_istore (i := 5) (lv' := [(5, .int (tbW p1.toNatClampNeg)), (4, .int (p1 + (1 : Int32))), (0, .ref (ad 1002)), (1, .int p1), (2, .int p2), (3, .int p3)]) hx hb dX2_missTurned_10 hl (by decide) rfl (fun ls hl => ?_)
  refine lv_iload_n hx hb dX2_missTurned_12 rfl (lv_at hl 4 rfl) ?_
  refine lv_iconst (v := (1 : Int32)) hx hb dX2_missTurned_13 (by decide) ?_
  refine lv_icmp_ne (tgt := 21) hx hb dX2_missTurned_14 (by decide) (fun c_14 => ?_) (fun c_14 => ?_)
  · have hF := ob_f c_14 hF
    refine lv_iconst (v := (0 : Int32)) hx hb dX2_missTurned_21 (by decide) ?_
    exact b_22 p1 p3 (p1 + (1 : Int32)) (tbW p1.toNatClampNeg) (0 : Int32) _ hF (lv_sub hl [2, 3, 5, 1, 0] rfl)
  · have hF := ob_t c_14 hF
    refine lv_iconst (v := (1 : Int32)) hx hb dX2_missTurned_17 (by decide) ?_
    refine lv_goto (tgt := 22) hx hb dX2_missTurned_18 (by decide) ?_
    exact b_22 p1 p3 (p1 + (1 : Int32)) (tbW p1.toNatClampNeg) (1 : Int32) _ hF (lv_sub hl [2, 3, 5, 1, 0] rfl)
def wsR_X2_missOf : List Cond := Cond.code yX2_missOf cX2_missOf 2 (some .int) :: wRa
theorem cw_X2_X2_missTurned_76 {R : Room} {s : State} {args : Array Value} {y : MethodName} {c : ByteArray} {n : Nat} {r : Option FieldType} (hts : ∀ w ∈ (Cond.code y c n r :: wRa), w.before args s = true) (hR : 1 + 1 ≤ R.frames ∧ 8 + (15 + 11) + 24 ≤ R.locals) : CallW R s args RX2 RX2 76 yX2_missTurned cX2_missTurned 15 (some .int) wsR_X2_missTurned { frames := 1, cells := 0, slots := 0, locals := 24 } 0 0 3 := cwV 3 hts (goodV wRa_good rm_X2_76 ri_X2_missTurned rs_X2_missTurned rn_X2 rc_X2_missTurned) rfl rfl rfl (by decide +kernel) hR
def FR_X2_missOf (σ : RS) (p1 : Int32) : Option Int32 := ((FR_X2_turnOf σ (p1 + (1 : Int32))).bind fun q_6 => (gd (inb p1 5) ((FR_X2_turnOf σ (tbW p1.toNatClampNeg)).bind fun q_15 => ((FR_X2_missTurned σ p1 q_6 q_15).bind fun q_18 => (some q_18)))))
set_option maxHeartbeats 4000000 in
set_option maxRecDepth 100000 in
theorem cR_X2_missOf (l : Launch) (D : va_G) (cs : Nat → ClassId) (ad tb : Nat → Nat) (A : Nat → Prop) (σ : RS) (p1 : Int32) (q : Int32) (hF : FR_X2_missOf σ p1 = some q) : Met l yX2_missOf wsR_X2_missOf { frames := 2, cells := 0, slots := 0, locals := 58 } (va_Pc [.ref (ad 1002), .int p1] (preQ D cs ad tb A σ)) (vp_Si (fun x => x = q)) 0 0 (fun _ => False) := by
  refine Met.ofW (cc := cX2_missOf) (maxL := 2) (ret := (some .int)) (by decide) rfl ?_
  intro p e s m args below meth c s₁ B hml hv
  obtain ⟨rfl, hP, hK, hD, hZ⟩ := hv
  have hx := B.exec
  have hb := B.bytes
  have hr := B.returns
  have hts : ∀ w ∈ (Cond.code yX2_missOf cX2_missOf 2 (some .int) :: wRa), w.before ([.ref (ad 1002), .int p1] : List Value).toArray s = true := atoms_spec (ws := wsR_X2_missOf) B.pre
  have hin : ∀ w ∈ wRa, w ∈ (Cond.code yX2_missOf cX2_missOf 2 (some .int) :: wRa) := fun w hw => List.mem_cons_of_mem _ hw
  have hown : s.vm.findClass RX2 = some m.cls := findClass_of_methodNamed B.named
  have hlocks := B.notSynchronized
  have hS : va_S A s.heap s.heap [] := va_S.rf
  have hl := lv_entry ([.ref (ad 1002), .int p1]) (n := 2) (Nat.le_of_ble_eq_true rfl)
  rw [lg_entry_eq]
  generalize (lg_sl ([.ref (ad 1002), .int p1]) ++ List.replicate (2 - (lg_sl ([.ref (ad 1002), .int p1])).length) Slot.unset).toArray = ls at hl ⊢
  have hl : lv_has ls 2 [(0, .ref (ad 1002)), (1, .int p1)] := hl
  unfold FR_X2_missOf at hF
  refine lv_aload_n hx hb dX2_missOf_0 rfl (lv_at hl 0 rfl) ?_
  refine lv_iload_n hx hb dX2_missOf_1 rfl (lv_at hl 1 rfl) ?_
  refine lv_aload_n hx hb dX2_missOf_2 rfl (lv_at hl 0 rfl) ?_
  refine lv_iload_n hx hb dX2_missOf_3 rfl (lv_at hl 1 rfl) ?_
  refine lv_iconst (v := (1 : Int32)) hx hb dX2_missOf_4 (by decide) ?_
  refine lv_iadd hx hb dX2_missOf_5 ?_
  obtain ⟨q_6, e_6, hF⟩ := ob_bd hF
  refine crR (As := [.int (p1 + (1 : Int32))]) (rest := [.int p1, .ref (ad 1002)]) ⟨hx, hb, hml, hown, hts⟩ (cR_X2_turnOf l D cs ad tb A σ (p1 + (1 : Int32)) _ e_6) (cw_X2_X2_turnOf_53 hts ⟨Nat.le_of_ble_eq_true rfl, Nat.le_of_ble_eq_true rfl⟩) ⟨Nat.zero_le _, Nat.zero_le _⟩ (rcF hK hP (ci := 2) rfl (ob_2 _ _ _)) hK hP hD hS hZ rfl hl.1 rfl (lv_room (Nat.le_of_ble_eq_true rfl)) dX2_missOf_6 ?_
  refine lv_aload_n hx hb dX2_missOf_9 rfl (lv_at hl 0 rfl) ?_
  refine va_getsN hx hb hZ.2.2.1 hS hown (va_Nw.use rfl hZ.2.2.2.2.2.2.1.2.2.1) (fun _ h9 => h9) dX2_missOf_10 ?_
  refine lv_iload_n hx hb dX2_missOf_13 rfl (lv_at hl 1 rfl) ?_
  obtain ⟨g_14, hF⟩ := ob_gd hF
  refine va_ti (v := .int (tbW p1.toNatClampNeg)) hx hb hZ.2.2.2.1 hS (inb_in g_14) rfl dX2_missOf_14 ?_
  obtain ⟨q_15, e_15, hF⟩ := ob_bd hF
  refine crR (As := [.int (tbW p1.toNatClampNeg)]) (rest := [.int q_6, .int p1, .ref (ad 1002)]) ⟨hx, hb, hml, hown, hts⟩ (cR_X2_turnOf l D cs ad tb A σ (tbW p1.toNatClampNeg) _ e_15) (cw_X2_X2_turnOf_53 hts ⟨Nat.le_of_ble_eq_true rfl, Nat.le_of_ble_eq_true rfl⟩) ⟨Nat.zero_le _, Nat.zero_le _⟩ (rcF hK hP (ci := 2) rfl (ob_2 _ _ _)) hK hP hD hS hZ rfl hl.1 rfl (lv_room (Nat.le_of_ble_eq_true rfl)) dX2_missOf_15 ?_
  obtain ⟨q_18, e_18, hF⟩ := ob_bd hF
  refine crR (As := [.int p1, .int q_6, .int q_15]) (rest := []) ⟨hx, hb, hml, hown, hts⟩ (cR_X2_missTurned l D cs ad tb A σ p1 q_6 q_15 _ e_18) (cw_X2_X2_missTurned_76 hts ⟨Nat.le_of_ble_eq_true rfl, Nat.le_of_ble_eq_true rfl⟩) ⟨Nat.zero_le _, Nat.zero_le _⟩ (rcF hK hP (ci := 2) rfl (ob_2 _ _ _)) hK hP hD hS hZ rfl hl.1 rfl (lv_room (Nat.le_of_ble_eq_true rfl)) dX2_missOf_18 ?_
  exact rrM hx hb hr hlocks hF dX2_missOf_21
def wsR_X2_uglySum : List Cond := Cond.code yX2_uglySum cX2_uglySum 3 (some .int) :: wRa
theorem cw_X2_X2_shownSum_63 {R : Room} {s : State} {args : Array Value} {y : MethodName} {c : ByteArray} {n : Nat} {r : Option FieldType} (hts : ∀ w ∈ (Cond.code y c n r :: wRa), w.before args s = true) (hR : 1 + 1 ≤ R.frames ∧ 8 + (3 + 11) + 23 ≤ R.locals) : CallW R s args RX2 RX2 63 yX2_shownSum cX2_shownSum 3 (some .int) wsR_X2_shownSum { frames := 1, cells := 0, slots := 0, locals := 23 } 0 0 0 := cwV 0 hts (goodV wRa_good rm_X2_63 ri_X2_shownSum rs_X2_shownSum rn_X2 rc_X2_shownSum) rfl rfl rfl (by decide +kernel) hR
theorem cw_X2_X2_missOf_67 {R : Room} {s : State} {args : Array Value} {y : MethodName} {c : ByteArray} {n : Nat} {r : Option FieldType} (hts : ∀ w ∈ (Cond.code y c n r :: wRa), w.before args s = true) (hR : 2 + 1 ≤ R.frames ∧ 8 + (2 + 11) + 58 ≤ R.locals) : CallW R s args RX2 RX2 67 yX2_missOf cX2_missOf 2 (some .int) wsR_X2_missOf { frames := 2, cells := 0, slots := 0, locals := 58 } 0 0 1 := cwV 1 hts (goodV wRa_good rm_X2_67 ri_X2_missOf rs_X2_missOf rn_X2 rc_X2_missOf) rfl rfl rfl (by decide +kernel) hR
def FR_X2_uglySum_9 (σ : RS) : Nat → Int32 → Int32 → Option Int32
  | 0, _, _ => none
  | n_9 + 1, x1_9, x2_9 => (if (5 : Int32) ≤ x2_9 then (some x1_9) else ((FR_X2_missOf σ x2_9).bind fun q_17 => (FR_X2_uglySum_9 σ  n_9 (x1_9 + q_17) (x2_9 + (1 : Int32)))))
def FR_X2_uglySum (σ : RS) : Option Int32 := ((FR_X2_shownSum σ).bind fun q_2 => (FR_X2_uglySum_9 σ fu ((5 : Int32) * q_2) (0 : Int32)))
set_option maxHeartbeats 4000000 in
set_option maxRecDepth 100000 in
theorem cR_X2_uglySum (l : Launch) (D : va_G) (cs : Nat → ClassId) (ad tb : Nat → Nat) (A : Nat → Prop) (σ : RS) (q : Int32) (hF : FR_X2_uglySum σ = some q) : Met l yX2_uglySum wsR_X2_uglySum { frames := 3, cells := 0, slots := 0, locals := 79 } (va_Pc [.ref (ad 1002)] (preQ D cs ad tb A σ)) (vp_Si (fun x => x = q)) 0 0 (fun _ => False) := by
  refine Met.ofW (cc := cX2_uglySum) (maxL := 3) (ret := (some .int)) (by decide) rfl ?_
  intro p e s m args below meth c s₁ B hml hv
  obtain ⟨rfl, hP, hK, hD, hZ⟩ := hv
  have hx := B.exec
  have hb := B.bytes
  have hr := B.returns
  have hts : ∀ w ∈ (Cond.code yX2_uglySum cX2_uglySum 3 (some .int) :: wRa), w.before ([.ref (ad 1002)] : List Value).toArray s = true := atoms_spec (ws := wsR_X2_uglySum) B.pre
  have hin : ∀ w ∈ wRa, w ∈ (Cond.code yX2_uglySum cX2_uglySum 3 (some .int) :: wRa) := fun w hw => List.mem_cons_of_mem _ hw
  have hown : s.vm.findClass RX2 = some m.cls := findClass_of_methodNamed B.named
  have hlocks := B.notSynchronized
  have hS : va_S A s.heap s.heap [] := va_S.rf
  have b_9 : ∀ (n_9 : Nat) (x1_9 : Int32) (x2_9 : Int32) (ls : Array Slot), FR_X2_uglySum_9 σ n_9 x1_9 x2_9 = some q → lv_has ls 3 [(0, .ref (ad 1002)), (1, .int x1_9), (2, .int x2_9)] → W p l e (headSpec wsR_X2_uglySum { frames := 3, cells := 0, slots := 0, locals := 79 }).room s m ([.ref (ad 1002)] : List Value).toArray below meth c s.heap [] 0 0 (MQ below (vp_Si (fun x => x = q)) ([.ref (ad 1002)] : List Value).toArray s 0 0 (fun _ => False)) (F0 m 9 ls []) := by
    intro n_9
    induction n_9 with
    | zero =>
      intro x1_9 x2_9 ls hF hl
      exact absurd hF (by simp [FR_X2_uglySum_9])
    | succ n_9 ih_9 =>
      intro x1_9 x2_9 ls hF hl
      rw [FR_X2_uglySum_9] at hF
      refine lv_iload_n hx hb dX2_uglySum_9 rfl (lv_at hl 2 rfl) ?_
      refine lv_iconst (v := (5 : Int32)) hx hb dX2_uglySum_10 (by decide) ?_
      refine lv_icmp_ge (tgt := 28) hx hb dX2_uglySum_11 (by decide) (fun c_11 => ?_) (fun c_11 => ?_)
      · have hF := ob_t c_11 hF
        refine lv_iload_n hx hb dX2_uglySum_28 rfl (lv_at hl 1 rfl) ?_
        exact rrM hx hb hr hlocks hF dX2_uglySum_29
      · have hF := ob_f c_11 hF
        refine lv_iload_n hx hb dX2_uglySum_14 rfl (lv_at hl 1 rfl) ?_
        refine lv_aload_n hx hb dX2_uglySum_15 rfl (lv_at hl 0 rfl) ?_
        refine lv_iload_n hx hb dX2_uglySum_16 rfl (lv_at hl 2 rfl) ?_
        obtain ⟨q_17, e_17, hF⟩ := ob_bd hF
        refine crR (As := [.int x2_9]) (rest := [.int x1_9]) ⟨hx, hb, hml, hown, hts⟩ (cR_X2_missOf l D cs ad tb A σ x2_9 _ e_17) (cw_X2_X2_missOf_67 hts ⟨Nat.le_of_ble_eq_true rfl, Nat.le_of_ble_eq_true rfl⟩) ⟨Nat.zero_le _, Nat.zero_le _⟩ (rcF hK hP (ci := 2) rfl (ob_2 _ _ _)) hK hP hD hS hZ rfl hl.1 rfl (lv_room (Nat.le_of_ble_eq_true rfl)) dX2_uglySum_17 ?_
        refine lv_iadd hx hb dX2_uglySum_20 ?_
        refine lv_istore_n (i := 1) (lv' := [(1, .int (x1_9 + q_17)), (0, .ref (ad 1002)), (2, .int x2_9)]) hx hb dX2_uglySum_21 rfl hl (by decide) rfl (fun ls hl => ?_)
        refine lv_iinc (v := x2_9 + (1 : Int32)) (lv' := [(2, .int (x2_9 + (1 : Int32))), (1, .int (x1_9 + q_17)), (0, .ref (ad 1002))]) hx hb dX2_uglySum_22 hl (k := 2) rfl rfl (by decide) rfl (fun ls hl => ?_)
        refine lv_goto (tgt := 9) hx hb dX2_uglySum_25 (by decide) ?_
        exact ih_9 (x1_9 + q_17) (x2_9 + (1 : Int32)) _ hF (lv_sub hl [2, 1, 0] rfl)
  have hl := lv_entry ([.ref (ad 1002)]) (n := 3) (Nat.le_of_ble_eq_true rfl)
  rw [lg_entry_eq]
  generalize (lg_sl ([.ref (ad 1002)]) ++ List.replicate (3 - (lg_sl ([.ref (ad 1002)])).length) Slot.unset).toArray = ls at hl ⊢
  have hl : lv_has ls 3 [(0, .ref (ad 1002))] := hl
  unfold FR_X2_uglySum at hF
  refine lv_iconst (v := (5 : Int32)) hx hb dX2_uglySum_0 (by decide) ?_
  refine lv_aload_n hx hb dX2_uglySum_1 rfl (lv_at hl 0 rfl) ?_
  obtain ⟨q_2, e_2, hF⟩ := ob_bd hF
  refine crR (As := []) (rest := [.int (5 : Int32)]) ⟨hx, hb, hml, hown, hts⟩ (cR_X2_shownSum l D cs ad tb A σ _ e_2) (cw_X2_X2_shownSum_63 hts ⟨Nat.le_of_ble_eq_true rfl, Nat.le_of_ble_eq_true rfl⟩) ⟨Nat.zero_le _, Nat.zero_le _⟩ (rcF hK hP (ci := 2) rfl (ob_2 _ _ _)) hK hP hD hS hZ rfl hl.1 rfl (lv_room (Nat.le_of_ble_eq_true rfl)) dX2_uglySum_2 ?_
  refine lv_imul hx hb dX2_uglySum_5 ?_
  refine lv_istore_n (i := 1) (lv' := [(1, .int ((5 : Int32) * q_2)), (0, .ref (ad 1002))]) hx hb dX2_uglySum_6 rfl hl (by decide) rfl (fun ls hl => ?_)
  refine lv_iconst (v := (0 : Int32)) hx hb dX2_uglySum_7 (by decide) ?_
  refine lv_istore_n (i := 2) (lv' := [(2, .int (0 : Int32)), (1, .int ((5 : Int32) * q_2)), (0, .ref (ad 1002))]) hx hb dX2_uglySum_8 rfl hl (by decide) rfl (fun ls hl => ?_)
  exact b_9 fu ((5 : Int32) * q_2) (0 : Int32) _ hF (lv_sub hl [2, 1, 0] rfl)
