def FM_lengths_49 : Nat → Int32 → Int32 → MS → Option MS
  | 0, _, _, _ => none
  | n_49 + 1, x5_49, x6_49, σ_49 => (if (6 : Int32) ≤ x6_49 then (some σ_49) else (gd (inb x6_49 6) (gd (inb x6_49 6) (FM_lengths_49  n_49 (x5_49 + (σ_49.2 32 x6_49.toNatClampNeg)) (x6_49 + (1 : Int32)) (sa σ_49 33 x6_49 x5_49)))))
def FM_lengths (σ : MS) (p1 : Int32) (p2 : Int32) (p3 : Int32) (p4 : Int32) : Option MS := (gd (inb (0 : Int32) 6) (gd (inb (1 : Int32) 6) (gd (inb (2 : Int32) 6) (gd (inb (3 : Int32) 6) (gd (inb (4 : Int32) 6) (gd (inb (5 : Int32) 6) (FM_lengths_49 fu (0 : Int32) (0 : Int32) (sa (sa (sa (sa (sa (sa σ 32 (0 : Int32) p1) 32 (1 : Int32) p1) 32 (2 : Int32) p2) 32 (3 : Int32) p2) 32 (4 : Int32) p3) 32 (5 : Int32) p4))))))))
def wsM_lengths : List Cond := Cond.code yX10_lengths cX10_lengths 7 none :: wMa
theorem cw_lengths {R : Room} {s : State} {args : Array Value} {y : MethodName} {c : ByteArray} {n : Nat} {r : Option FieldType} (hts : ∀ w ∈ (Cond.code y c n r :: wMa), w.before args s = true) (hR : 0 + 1 ≤ R.frames ∧ 8 + (7 + 11) + 0 ≤ R.locals) : CallW R s args RX10 RX10 186 yX10_lengths cX10_lengths 7 none wsM_lengths { frames := 0, cells := 0, slots := 0, locals := 0 } 0 0 4 := cwV 4 hts (goodMV mm_186 mi_lengths ms_lengths m_ini mc_lengths) rfl rfl rfl (by decide +kernel) hR
set_option maxHeartbeats 4000000 in
set_option maxRecDepth 100000 in
theorem cM_lengths (l : Launch) (D : va_G) (cI cZ : ClassId) (h : Nat) (ad : Nat → Nat) (A : Nat → Prop) (σ : MS) (p1 : Int32) (p2 : Int32) (p3 : Int32) (p4 : Int32) (q : MS) (hF : FM_lengths σ p1 p2 p3 p4 = some q) : Met l yX10_lengths wsM_lengths { frames := 0, cells := 0, slots := 0, locals := 0 } (va_Pc [.ref h, .int p1, .int p2, .int p3, .int p4] (preM D cI cZ h ad A σ)) (va_Qv (fun u => u = q) (preM D cI cZ h ad A) A) 0 0 A := by
  refine Met.ofW (cc := cX10_lengths) (maxL := 7) (ret := none) (by decide) rfl ?_
  intro p e s m args below meth c s₁ B hml hv
  obtain ⟨rfl, hP, hK, hD⟩ := hv
  have hx := B.exec
  have hb := B.bytes
  have hr := B.returns
  have hts : ∀ w ∈ (Cond.code yX10_lengths cX10_lengths 7 none :: wMa), w.before ([.ref h, .int p1, .int p2, .int p3, .int p4] : List Value).toArray s = true := atoms_spec (ws := wsM_lengths) B.pre
  have hin : ∀ w ∈ wMa, w ∈ (Cond.code yX10_lengths cX10_lengths 7 none :: wMa) := fun w hw => List.mem_cons_of_mem _ hw
  have hown : s.vm.findClass RX10 = some m.cls := findClass_of_methodNamed B.named
  have hlocks := B.notSynchronized
  have hS : va_S A s.heap s.heap [] := va_S.rf
  have b_49 : ∀ (n_49 : Nat) (x5_49 : Int32) (x6_49 : Int32) (σ_49 : MS) (H : Heap) (locs : List Loc) (ls : Array Slot), FM_lengths_49 n_49 x5_49 x6_49 σ_49 = some q → va_P D vwCl (wM cI cZ h ad σ_49) H → va_D A (wM cI cZ h ad σ_49) → va_S A s.heap H locs → lv_has ls 7 [(0, .ref h), (5, .int x5_49), (6, .int x6_49)] → W p l e (headSpec wsM_lengths { frames := 0, cells := 0, slots := 0, locals := 0 }).room s m ([.ref h, .int p1, .int p2, .int p3, .int p4] : List Value).toArray below meth c H locs 0 0 (MQ below (va_Qv (fun u => u = q) (preM D cI cZ h ad A) A) ([.ref h, .int p1, .int p2, .int p3, .int p4] : List Value).toArray s 0 0 A) (F0 m 49 ls []) := by
    intro n_49
    induction n_49 with
    | zero =>
      intro x5_49 x6_49 σ_49 H locs ls hF hP hD hS hl
      exact absurd hF (by simp [FM_lengths_49])
    | succ n_49 ih_49 =>
      intro x5_49 x6_49 σ_49 H locs ls hF hP hD hS hl
      rw [FM_lengths_49] at hF
      refine lv_iload hx hb dX10_lengths_49 (lv_at hl 2 rfl) ?_
      refine lv_bipush (v := (6 : Int32)) hx hb dX10_lengths_51 (by decide) ?_
      refine lv_icmp_ge (tgt := 83) hx hb dX10_lengths_53 (by decide) (fun c_53 => ?_) (fun c_53 => ?_)
      · have hF := ob_t c_53 hF
        exact rvM hx hb hr hlocks hF hK hP hD hS dX10_lengths_83
      · have hF := ob_f c_53 hF
        refine lv_aload_n hx hb dX10_lengths_56 rfl (lv_at hl 0 rfl) ?_
        refine gM hx hb hts hin hown hK hP 33 (.ref (ad 33)) (by decide) mf_99 rfl dX10_lengths_57 ?_
        refine lv_iload hx hb dX10_lengths_60 (lv_at hl 2 rfl) ?_
        refine lv_iload hx hb dX10_lengths_62 (lv_at hl 1 rfl) ?_
        obtain ⟨g_64, hF⟩ := ob_gd hF
        refine stI hx hb hK hP hD hS (at_33 _ _ _ _ _) (st_33 _ _ _ _ _ _ _) g_64 dX10_lengths_64 (fun H locs hP hD hS => ?_)
        refine lv_iload hx hb dX10_lengths_65 (lv_at hl 1 rfl) ?_
        refine lv_aload_n hx hb dX10_lengths_67 rfl (lv_at hl 0 rfl) ?_
        refine gM hx hb hts hin hown hK hP 32 (.ref (ad 32)) (by decide) mf_96 rfl dX10_lengths_68 ?_
        refine lv_iload hx hb dX10_lengths_71 (lv_at hl 2 rfl) ?_
        obtain ⟨g_73, hF⟩ := ob_gd hF
        refine ldI hx hb hK hP (at_32 _ _ _ _ _) (σ_49.2 32 x6_49.toNatClampNeg) g_73 rfl dX10_lengths_73 ?_
        refine lv_iadd hx hb dX10_lengths_74 ?_
        refine lv_istore (lv' := [(5, .int (x5_49 + (σ_49.2 32 x6_49.toNatClampNeg))), (0, .ref h), (6, .int x6_49)]) hx hb dX10_lengths_75 hl (by decide) rfl (fun ls hl => ?_)
        refine lv_iinc (v := x6_49 + (1 : Int32)) (lv' := [(6, .int (x6_49 + (1 : Int32))), (5, .int (x5_49 + (σ_49.2 32 x6_49.toNatClampNeg))), (0, .ref h)]) hx hb dX10_lengths_77 hl (k := 2) rfl rfl (by decide) rfl (fun ls hl => ?_)
        refine lv_goto (tgt := 49) hx hb dX10_lengths_80 (by decide) ?_
        exact ih_49 (x5_49 + (σ_49.2 32 x6_49.toNatClampNeg)) (x6_49 + (1 : Int32)) (sa σ_49 33 x6_49 x5_49) _ _ _ hF hP hD hS (lv_sub hl [2, 1, 0] rfl)
  have hl := lv_entry ([.ref h, .int p1, .int p2, .int p3, .int p4]) (n := 7) (Nat.le_of_ble_eq_true rfl)
  rw [lg_entry_eq]
  generalize (lg_sl ([.ref h, .int p1, .int p2, .int p3, .int p4]) ++ List.replicate (7 - (lg_sl ([.ref h, .int p1, .int p2, .int p3, .int p4])).length) Slot.unset).toArray = ls at hl ⊢
  have hl : lv_has ls 7 [(0, .ref h), (1, .int p1), (2, .int p2), (3, .int p3), (4, .int p4)] := hl
  unfold FM_lengths at hF
  refine lv_aload_n hx hb dX10_lengths_0 rfl (lv_at hl 0 rfl) ?_
  refine gM hx hb hts hin hown hK hP 32 (.ref (ad 32)) (by decide) mf_96 rfl dX10_lengths_1 ?_
  refine lv_iconst (v := (0 : Int32)) hx hb dX10_lengths_4 (by decide) ?_
  refine lv_iload_n hx hb dX10_lengths_5 rfl (lv_at hl 1 rfl) ?_
  obtain ⟨g_6, hF⟩ := ob_gd hF
  refine stI hx hb hK hP hD hS (at_32 _ _ _ _ _) (st_32 _ _ _ _ _ _ _) g_6 dX10_lengths_6 (fun H locs hP hD hS => ?_)
  refine lv_aload_n hx hb dX10_lengths_7 rfl (lv_at hl 0 rfl) ?_
  refine gM hx hb hts hin hown hK hP 32 (.ref (ad 32)) (by decide) mf_96 rfl dX10_lengths_8 ?_
  refine lv_iconst (v := (1 : Int32)) hx hb dX10_lengths_11 (by decide) ?_
  refine lv_iload_n hx hb dX10_lengths_12 rfl (lv_at hl 1 rfl) ?_
  obtain ⟨g_13, hF⟩ := ob_gd hF
  refine stI hx hb hK hP hD hS (at_32 _ _ _ _ _) (st_32 _ _ _ _ _ _ _) g_13 dX10_lengths_13 (fun H locs hP hD hS => ?_)
  refine lv_aload_n hx hb dX10_lengths_14 rfl (lv_at hl 0 rfl) ?_
  refine gM hx hb hts hin hown hK hP 32 (.ref (ad 32)) (by decide) mf_96 rfl dX10_lengths_15 ?_
  refine lv_iconst (v := (2 : Int32)) hx hb dX10_lengths_18 (by decide) ?_
  refine lv_iload_n hx hb dX10_lengths_19 rfl (lv_at hl 2 rfl) ?_
  obtain ⟨g_20, hF⟩ := ob_gd hF
  refine stI hx hb hK hP hD hS (at_32 _ _ _ _ _) (st_32 _ _ _ _ _ _ _) g_20 dX10_lengths_20 (fun H locs hP hD hS => ?_)
  refine lv_aload_n hx hb dX10_lengths_21 rfl (lv_at hl 0 rfl) ?_
  refine gM hx hb hts hin hown hK hP 32 (.ref (ad 32)) (by decide) mf_96 rfl dX10_lengths_22 ?_
  refine lv_iconst (v := (3 : Int32)) hx hb dX10_lengths_25 (by decide) ?_
  refine lv_iload_n hx hb dX10_lengths_26 rfl (lv_at hl 2 rfl) ?_
  obtain ⟨g_27, hF⟩ := ob_gd hF
  refine stI hx hb hK hP hD hS (at_32 _ _ _ _ _) (st_32 _ _ _ _ _ _ _) g_27 dX10_lengths_27 (fun H locs hP hD hS => ?_)
  refine lv_aload_n hx hb dX10_lengths_28 rfl (lv_at hl 0 rfl) ?_
  refine gM hx hb hts hin hown hK hP 32 (.ref (ad 32)) (by decide) mf_96 rfl dX10_lengths_29 ?_
  refine lv_iconst (v := (4 : Int32)) hx hb dX10_lengths_32 (by decide) ?_
  refine lv_iload_n hx hb dX10_lengths_33 rfl (lv_at hl 3 rfl) ?_
  obtain ⟨g_34, hF⟩ := ob_gd hF
  refine stI hx hb hK hP hD hS (at_32 _ _ _ _ _) (st_32 _ _ _ _ _ _ _) g_34 dX10_lengths_34 (fun H locs hP hD hS => ?_)
  refine lv_aload_n hx hb dX10_lengths_35 rfl (lv_at hl 0 rfl) ?_
  refine gM hx hb hts hin hown hK hP 32 (.ref (ad 32)) (by decide) mf_96 rfl dX10_lengths_36 ?_
  refine lv_iconst (v := (5 : Int32)) hx hb dX10_lengths_39 (by decide) ?_
  refine lv_iload hx hb dX10_lengths_40 (lv_at hl 4 rfl) ?_
  obtain ⟨g_42, hF⟩ := ob_gd hF
  refine stI hx hb hK hP hD hS (at_32 _ _ _ _ _) (st_32 _ _ _ _ _ _ _) g_42 dX10_lengths_42 (fun H locs hP hD hS => ?_)
  refine lv_iconst (v := (0 : Int32)) hx hb dX10_lengths_43 (by decide) ?_
  refine lv_istore (lv' := [(5, .int (0 : Int32)), (0, .ref h), (1, .int p1), (2, .int p2), (3, .int p3), (4, .int p4)]) hx hb dX10_lengths_44 hl (by decide) rfl (fun ls hl => ?_)
  refine lv_iconst (v := (0 : Int32)) hx hb dX10_lengths_46 (by decide) ?_
  refine lv_istore (lv' := [(6, .int (0 : Int32)), (5, .int (0 : Int32)), (0, .ref h), (1, .int p1), (2, .int p2), (3, .int p3), (4, .int p4)]) hx hb dX10_lengths_47 hl (by decide) rfl (fun ls hl => ?_)
  exact b_49 fu (0 : Int32) (0 : Int32) (sa (sa (sa (sa (sa (sa σ 32 (0 : Int32) p1) 32 (1 : Int32) p1) 32 (2 : Int32) p2) 32 (3 : Int32) p2) 32 (4 : Int32) p3) 32 (5 : Int32) p4) _ _ _ hF hP hD hS (lv_sub hl [2, 1, 0] rfl)
def FM_missOf_67 (σ : MS) (t0_67 : Int32) : Option Int32 := (if t0_67 ≤ (σ.1 24) then (some (0 : Int32)) else (some (1 : Int32)))
def FM_missOf_49 (σ : MS) (t0_49 : Int32) : Option Int32 := (if t0_49 ≤ (5 : Int32) then (FM_missOf_67 σ t0_49) else (FM_missOf_67 σ ((10 : Int32) - t0_49)))
def FM_missOf (σ : MS) (p1 : Int32) (p2 : Int32) (p3 : Int32) (p4 : Int32) : Option Int32 := (gd (inb p1 6) (gd (inb ((σ.2 33 p1.toNatClampNeg) + p2) 120) (gd (inb p3 6) (gd (inb ((σ.2 33 p3.toNatClampNeg) + p4) 120) (if 0 ≤ (((σ.2 34 ((σ.2 33 p1.toNatClampNeg) + p2).toNatClampNeg) - (σ.2 34 ((σ.2 33 p1.toNatClampNeg) + p2).toNatClampNeg) / (10 : Int32) * (10 : Int32)) - ((σ.2 34 ((σ.2 33 p3.toNatClampNeg) + p4).toNatClampNeg) - (σ.2 34 ((σ.2 33 p3.toNatClampNeg) + p4).toNatClampNeg) / (10 : Int32) * (10 : Int32))) then (FM_missOf_49 σ (((σ.2 34 ((σ.2 33 p1.toNatClampNeg) + p2).toNatClampNeg) - (σ.2 34 ((σ.2 33 p1.toNatClampNeg) + p2).toNatClampNeg) / (10 : Int32) * (10 : Int32)) - ((σ.2 34 ((σ.2 33 p3.toNatClampNeg) + p4).toNatClampNeg) - (σ.2 34 ((σ.2 33 p3.toNatClampNeg) + p4).toNatClampNeg) / (10 : Int32) * (10 : Int32)))) else (FM_missOf_49 σ (-(((σ.2 34 ((σ.2 33 p1.toNatClampNeg) + p2).toNatClampNeg) - (σ.2 34 ((σ.2 33 p1.toNatClampNeg) + p2).toNatClampNeg) / (10 : Int32) * (10 : Int32)) - ((σ.2 34 ((σ.2 33 p3.toNatClampNeg) + p4).toNatClampNeg) - (σ.2 34 ((σ.2 33 p3.toNatClampNeg) + p4).toNatClampNeg) / (10 : Int32) * (10 : Int32))))))))))
def wsM_missOf : List Cond := Cond.code yX10_missOf cX10_missOf 6 (some .int) :: wMa
theorem cw_missOf {R : Room} {s : State} {args : Array Value} {y : MethodName} {c : ByteArray} {n : Nat} {r : Option FieldType} (hts : ∀ w ∈ (Cond.code y c n r :: wMa), w.before args s = true) (hR : 0 + 1 ≤ R.frames ∧ 8 + (6 + 11) + 0 ≤ R.locals) : CallW R s args RX10 RX10 172 yX10_missOf cX10_missOf 6 (some .int) wsM_missOf { frames := 0, cells := 0, slots := 0, locals := 0 } 0 0 4 := cwV 4 hts (goodMV mm_172 mi_missOf ms_missOf m_ini mc_missOf) rfl rfl rfl (by decide +kernel) hR
set_option maxHeartbeats 4000000 in
set_option maxRecDepth 100000 in
theorem cM_missOf (l : Launch) (D : va_G) (cI cZ : ClassId) (h : Nat) (ad : Nat → Nat) (σ : MS) (p1 : Int32) (p2 : Int32) (p3 : Int32) (p4 : Int32) (q : Int32) (hF : FM_missOf σ p1 p2 p3 p4 = some q) : Met l yX10_missOf wsM_missOf { frames := 0, cells := 0, slots := 0, locals := 0 } (va_Pc [.ref h, .int p1, .int p2, .int p3, .int p4] (preR D cI cZ h ad σ)) (vp_Si (fun x => x = q)) 0 0 (fun _ => False) := by
  refine Met.ofW (cc := cX10_missOf) (maxL := 6) (ret := (some .int)) (by decide) rfl ?_
  intro p e s m args below meth c s₁ B hml hv
  obtain ⟨rfl, hP, hK⟩ := hv
  have hx := B.exec
  have hb := B.bytes
  have hr := B.returns
  have hts : ∀ w ∈ (Cond.code yX10_missOf cX10_missOf 6 (some .int) :: wMa), w.before ([.ref h, .int p1, .int p2, .int p3, .int p4] : List Value).toArray s = true := atoms_spec (ws := wsM_missOf) B.pre
  have hin : ∀ w ∈ wMa, w ∈ (Cond.code yX10_missOf cX10_missOf 6 (some .int) :: wMa) := fun w hw => List.mem_cons_of_mem _ hw
  have hown : s.vm.findClass RX10 = some m.cls := findClass_of_methodNamed B.named
  have hlocks := B.notSynchronized
  have b_67 : ∀ (t0_67 : Int32) (ls : Array Slot), FM_missOf_67 σ t0_67 = some q → lv_has ls 6 [(0, .ref h)] → W p l e (headSpec wsM_missOf { frames := 0, cells := 0, slots := 0, locals := 0 }).room s m ([.ref h, .int p1, .int p2, .int p3, .int p4] : List Value).toArray below meth c s.heap [] 0 0 (MQ below (vp_Si (fun x => x = q)) ([.ref h, .int p1, .int p2, .int p3, .int p4] : List Value).toArray s 0 0 (fun _ => False)) (F0 m 67 ls [.int t0_67]) := by
    intro t0_67 ls hF hl
    unfold FM_missOf_67 at hF
    refine lv_aload_n hx hb dX10_missOf_67 rfl (lv_at hl 0 rfl) ?_
    refine gM hx hb hts hin hown hK hP 24 (.int (σ.1 24)) (by decide) mf_165 rfl dX10_missOf_68 ?_
    refine lv_icmp_le (tgt := 78) hx hb dX10_missOf_71 (by decide) (fun c_71 => ?_) (fun c_71 => ?_)
    · have hF := ob_t c_71 hF
      refine lv_iconst (v := (0 : Int32)) hx hb dX10_missOf_78 (by decide) ?_
      exact rrM hx hb hr hlocks hF dX10_missOf_79
    · have hF := ob_f c_71 hF
      refine lv_iconst (v := (1 : Int32)) hx hb dX10_missOf_74 (by decide) ?_
      refine lv_goto (tgt := 79) hx hb dX10_missOf_75 (by decide) ?_
      exact rrM hx hb hr hlocks hF dX10_missOf_79
  have b_49 : ∀ (t0_49 : Int32) (ls : Array Slot), FM_missOf_49 σ t0_49 = some q → lv_has ls 6 [(0, .ref h)] → W p l e (headSpec wsM_missOf { frames := 0, cells := 0, slots := 0, locals := 0 }).room s m ([.ref h, .int p1, .int p2, .int p3, .int p4] : List Value).toArray below meth c s.heap [] 0 0 (MQ below (vp_Si (fun x => x = q)) ([.ref h, .int p1, .int p2, .int p3, .int p4] : List Value).toArray s 0 0 (fun _ => False)) (F0 m 49 ls [.int t0_49]) := by
    intro t0_49 ls hF hl
    unfold FM_missOf_49 at hF
    refine lv_istore (lv' := [(5, .int t0_49), (0, .ref h)]) hx hb dX10_missOf_49 hl (by decide) rfl (fun ls hl => ?_)
    refine lv_iload hx hb dX10_missOf_51 (lv_at hl 0 rfl) ?_
    refine lv_iconst (v := (5 : Int32)) hx hb dX10_missOf_53 (by decide) ?_
    refine lv_icmp_le (tgt := 65) hx hb dX10_missOf_54 (by decide) (fun c_54 => ?_) (fun c_54 => ?_)
    · have hF := ob_t c_54 hF
      refine lv_iload hx hb dX10_missOf_65 (lv_at hl 0 rfl) ?_
      exact b_67 t0_49 _ hF (lv_sub hl [1] rfl)
    · have hF := ob_f c_54 hF
      refine lv_bipush (v := (10 : Int32)) hx hb dX10_missOf_57 (by decide) ?_
      refine lv_iload hx hb dX10_missOf_59 (lv_at hl 0 rfl) ?_
      refine lv_isub hx hb dX10_missOf_61 ?_
      refine lv_goto (tgt := 67) hx hb dX10_missOf_62 (by decide) ?_
      exact b_67 ((10 : Int32) - t0_49) _ hF (lv_sub hl [1] rfl)
  have hl := lv_entry ([.ref h, .int p1, .int p2, .int p3, .int p4]) (n := 6) (Nat.le_of_ble_eq_true rfl)
  rw [lg_entry_eq]
  generalize (lg_sl ([.ref h, .int p1, .int p2, .int p3, .int p4]) ++ List.replicate (6 - (lg_sl ([.ref h, .int p1, .int p2, .int p3, .int p4])).length) Slot.unset).toArray = ls at hl ⊢
  have hl : lv_has ls 6 [(0, .ref h), (1, .int p1), (2, .int p2), (3, .int p3), (4, .int p4)] := hl
  unfold FM_missOf at hF
  refine lv_aload_n hx hb dX10_missOf_0 rfl (lv_at hl 0 rfl) ?_
  refine gM hx hb hts hin hown hK hP 34 (.ref (ad 34)) (by decide) mf_102 rfl dX10_missOf_1 ?_
  refine lv_aload_n hx hb dX10_missOf_4 rfl (lv_at hl 0 rfl) ?_
  refine gM hx hb hts hin hown hK hP 33 (.ref (ad 33)) (by decide) mf_99 rfl dX10_missOf_5 ?_
  refine lv_iload_n hx hb dX10_missOf_8 rfl (lv_at hl 1 rfl) ?_
  obtain ⟨g_9, hF⟩ := ob_gd hF
  refine ldI hx hb hK hP (at_33 _ _ _ _ _) (σ.2 33 p1.toNatClampNeg) g_9 rfl dX10_missOf_9 ?_
  refine lv_iload_n hx hb dX10_missOf_10 rfl (lv_at hl 2 rfl) ?_
  refine lv_iadd hx hb dX10_missOf_11 ?_
  obtain ⟨g_12, hF⟩ := ob_gd hF
  refine ldI hx hb hK hP (at_34 _ _ _ _ _) (σ.2 34 ((σ.2 33 p1.toNatClampNeg) + p2).toNatClampNeg) g_12 rfl dX10_missOf_12 ?_
  refine lv_bipush (v := (10 : Int32)) hx hb dX10_missOf_13 (by decide) ?_
  refine lv_irem hx hb dX10_missOf_15 (by decide) ?_
  refine lv_aload_n hx hb dX10_missOf_16 rfl (lv_at hl 0 rfl) ?_
  refine gM hx hb hts hin hown hK hP 34 (.ref (ad 34)) (by decide) mf_102 rfl dX10_missOf_17 ?_
  refine lv_aload_n hx hb dX10_missOf_20 rfl (lv_at hl 0 rfl) ?_
  refine gM hx hb hts hin hown hK hP 33 (.ref (ad 33)) (by decide) mf_99 rfl dX10_missOf_21 ?_
  refine lv_iload_n hx hb dX10_missOf_24 rfl (lv_at hl 3 rfl) ?_
  obtain ⟨g_25, hF⟩ := ob_gd hF
  refine ldI hx hb hK hP (at_33 _ _ _ _ _) (σ.2 33 p3.toNatClampNeg) g_25 rfl dX10_missOf_25 ?_
  refine lv_iload hx hb dX10_missOf_26 (lv_at hl 4 rfl) ?_
  refine lv_iadd hx hb dX10_missOf_28 ?_
  obtain ⟨g_29, hF⟩ := ob_gd hF
  refine ldI hx hb hK hP (at_34 _ _ _ _ _) (σ.2 34 ((σ.2 33 p3.toNatClampNeg) + p4).toNatClampNeg) g_29 rfl dX10_missOf_29 ?_
  refine lv_bipush (v := (10 : Int32)) hx hb dX10_missOf_30 (by decide) ?_
  refine lv_irem hx hb dX10_missOf_32 (by decide) ?_
  refine lv_isub hx hb dX10_missOf_33 ?_
  refine lv_istore (lv' := [(5, .int (((σ.2 34 ((σ.2 33 p1.toNatClampNeg) + p2).toNatClampNeg) - (σ.2 34 ((σ.2 33 p1.toNatClampNeg) + p2).toNatClampNeg) / (10 : Int32) * (10 : Int32)) - ((σ.2 34 ((σ.2 33 p3.toNatClampNeg) + p4).toNatClampNeg) - (σ.2 34 ((σ.2 33 p3.toNatClampNeg) + p4).toNatClampNeg) / (10 : Int32) * (10 : Int32)))), (0, .ref h), (1, .int p1), (2, .int p2), (3, .int p3), (4, .int p4)]) hx hb dX10_missOf_34 hl (by decide) rfl (fun ls hl => ?_)
  refine lv_iload hx hb dX10_missOf_36 (lv_at hl 0 rfl) ?_
  refine lv_if_ge (tgt := 47) hx hb dX10_missOf_38 (by decide) (fun c_38 => ?_) (fun c_38 => ?_)
  · have hF := ob_t c_38 hF
    refine lv_iload hx hb dX10_missOf_47 (lv_at hl 0 rfl) ?_
    exact b_49 (((σ.2 34 ((σ.2 33 p1.toNatClampNeg) + p2).toNatClampNeg) - (σ.2 34 ((σ.2 33 p1.toNatClampNeg) + p2).toNatClampNeg) / (10 : Int32) * (10 : Int32)) - ((σ.2 34 ((σ.2 33 p3.toNatClampNeg) + p4).toNatClampNeg) - (σ.2 34 ((σ.2 33 p3.toNatClampNeg) + p4).toNatClampNeg) / (10 : Int32) * (10 : Int32))) _ hF (lv_sub hl [1] rfl)
  · have hF := ob_f c_38 hF
    refine lv_iload hx hb dX10_missOf_41 (lv_at hl 0 rfl) ?_
    refine lv_ineg hx hb dX10_missOf_43 ?_
    refine lv_goto (tgt := 49) hx hb dX10_missOf_44 (by decide) ?_
    exact b_49 (-(((σ.2 34 ((σ.2 33 p1.toNatClampNeg) + p2).toNatClampNeg) - (σ.2 34 ((σ.2 33 p1.toNatClampNeg) + p2).toNatClampNeg) / (10 : Int32) * (10 : Int32)) - ((σ.2 34 ((σ.2 33 p3.toNatClampNeg) + p4).toNatClampNeg) - (σ.2 34 ((σ.2 33 p3.toNatClampNeg) + p4).toNatClampNeg) / (10 : Int32) * (10 : Int32)))) _ hF (lv_sub hl [1] rfl)
def FM_seam_34 (σ : MS) : Nat → Int32 → Int32 → Option Int32
  | 0, _, _ => none
  | n_34 + 1, x2_34, x3_34 => (gd (inb (0 : Int32) 6) (if (σ.2 32 (0 : Int32).toNatClampNeg) ≤ x3_34 then (some x2_34) else ((FM_missOf σ (0 : Int32) x3_34 (1 : Int32) x3_34).bind fun q_50 => (FM_seam_34 σ  n_34 (x2_34 + q_50) (x3_34 + (1 : Int32))))))
def FM_seam_65 (σ : MS) (x1_65 : Int32) : Nat → Int32 → Int32 → Option Int32
  | 0, _, _ => none
  | n_65 + 1, x2_65, x3_65 => (gd (inb (0 : Int32) 6) (if ((σ.2 32 (0 : Int32).toNatClampNeg) / (2 : Int32)) ≤ x3_65 then (some x2_65) else (gd (inb (2 : Int32) 6) (if (σ.2 32 (2 : Int32).toNatClampNeg) ≤ x3_65 then (some x2_65) else ((FM_missOf σ (x1_65 + (1 : Int32)) x3_65 (x1_65 - (1 : Int32)) x3_65).bind fun q_97 => (FM_seam_65 σ  x1_65 n_65 (x2_65 + q_97) (x3_65 + (1 : Int32))))))))
def FM_seam_112 (σ : MS) : Nat → Int32 → Int32 → Option Int32
  | 0, _, _ => none
  | n_112 + 1, x2_112, x3_112 => (gd (inb (4 : Int32) 6) (if (σ.2 32 (4 : Int32).toNatClampNeg) ≤ x3_112 then (some x2_112) else (gd (inb (0 : Int32) 6) (if (σ.2 32 (0 : Int32).toNatClampNeg) ≤ x3_112 then (some x2_112) else (gd (inb (0 : Int32) 6) ((FM_missOf σ (4 : Int32) x3_112 (0 : Int32) (((σ.2 32 (0 : Int32).toNatClampNeg) - (1 : Int32)) - x3_112)).bind fun q_147 => (FM_seam_112 σ  n_112 (x2_112 + q_147) (x3_112 + (1 : Int32)))))))))
def FM_seam_162 (σ : MS) : Nat → Int32 → Int32 → Option Int32
  | 0, _, _ => none
  | n_162 + 1, x2_162, x3_162 => (gd (inb (5 : Int32) 6) (if (σ.2 32 (5 : Int32).toNatClampNeg) ≤ x3_162 then (some x2_162) else (gd (inb (4 : Int32) 6) (if (σ.2 32 (4 : Int32).toNatClampNeg) ≤ x3_162 then (some x2_162) else ((FM_missOf σ (5 : Int32) x3_162 (4 : Int32) x3_162).bind fun q_188 => (FM_seam_162 σ  n_162 (x2_162 + q_188) (x3_162 + (1 : Int32))))))))
def FM_seam (σ : MS) (p1 : Int32) : Option Int32 := (if p1 = (0 : Int32) then (FM_seam_34 σ fu (0 : Int32) (0 : Int32)) else (if p1 = (1 : Int32) then (FM_seam_65 σ p1 fu (0 : Int32) (0 : Int32)) else (if p1 = (2 : Int32) then (FM_seam_65 σ p1 fu (0 : Int32) (0 : Int32)) else (if p1 = (3 : Int32) then (FM_seam_112 σ fu (0 : Int32) (0 : Int32)) else (FM_seam_162 σ fu (0 : Int32) (0 : Int32))))))
def wsM_seam : List Cond := Cond.code yX10_seam cX10_seam 4 (some .int) :: wMa
theorem cw_seam {R : Room} {s : State} {args : Array Value} {y : MethodName} {c : ByteArray} {n : Nat} {r : Option FieldType} (hts : ∀ w ∈ (Cond.code y c n r :: wMa), w.before args s = true) (hR : 1 + 1 ≤ R.frames ∧ 8 + (4 + 11) + 25 ≤ R.locals) : CallW R s args RX10 RX10 180 yX10_seam cX10_seam 4 (some .int) wsM_seam { frames := 1, cells := 0, slots := 0, locals := 25 } 0 0 1 := cwV 1 hts (goodMV mm_180 mi_seam ms_seam m_ini mc_seam) rfl rfl rfl (by decide +kernel) hR
set_option maxHeartbeats 4000000 in
set_option maxRecDepth 100000 in
theorem cM_seam (l : Launch) (D : va_G) (cI cZ : ClassId) (h : Nat) (ad : Nat → Nat) (σ : MS) (p1 : Int32) (q : Int32) (hF : FM_seam σ p1 = some q) : Met l yX10_seam wsM_seam { frames := 1, cells := 0, slots := 0, locals := 25 } (va_Pc [.ref h, .int p1] (preR D cI cZ h ad σ)) (vp_Si (fun x => x = q)) 0 0 (fun _ => False) := by
  refine Met.ofW (cc := cX10_seam) (maxL := 4) (ret := (some .int)) (by decide) rfl ?_
  intro p e s m args below meth c s₁ B hml hv
  obtain ⟨rfl, hP, hK⟩ := hv
  have hx := B.exec
  have hb := B.bytes
  have hr := B.returns
  have hts : ∀ w ∈ (Cond.code yX10_seam cX10_seam 4 (some .int) :: wMa), w.before ([.ref h, .int p1] : List Value).toArray s = true := atoms_spec (ws := wsM_seam) B.pre
  have hin : ∀ w ∈ wMa, w ∈ (Cond.code yX10_seam cX10_seam 4 (some .int) :: wMa) := fun w hw => List.mem_cons_of_mem _ hw
  have hown : s.vm.findClass RX10 = some m.cls := findClass_of_methodNamed B.named
  have hlocks := B.notSynchronized
  have b_34 : ∀ (n_34 : Nat) (x2_34 : Int32) (x3_34 : Int32) (ls : Array Slot), FM_seam_34 σ n_34 x2_34 x3_34 = some q → lv_has ls 4 [(0, .ref h), (2, .int x2_34), (3, .int x3_34)] → W p l e (headSpec wsM_seam { frames := 1, cells := 0, slots := 0, locals := 25 }).room s m ([.ref h, .int p1] : List Value).toArray below meth c s.heap [] 0 0 (MQ below (vp_Si (fun x => x = q)) ([.ref h, .int p1] : List Value).toArray s 0 0 (fun _ => False)) (F0 m 34 ls []) := by
    intro n_34
    induction n_34 with
    | zero =>
      intro x2_34 x3_34 ls hF hl
      exact absurd hF (by simp [FM_seam_34])
    | succ n_34 ih_34 =>
      intro x2_34 x3_34 ls hF hl
      rw [FM_seam_34] at hF
      refine lv_iload_n hx hb dX10_seam_34 rfl (lv_at hl 2 rfl) ?_
      refine lv_aload_n hx hb dX10_seam_35 rfl (lv_at hl 0 rfl) ?_
      refine gM hx hb hts hin hown hK hP 32 (.ref (ad 32)) (by decide) mf_96 rfl dX10_seam_36 ?_
      refine lv_iconst (v := (0 : Int32)) hx hb dX10_seam_39 (by decide) ?_
      obtain ⟨g_40, hF⟩ := ob_gd hF
      refine ldI hx hb hK hP (at_32 _ _ _ _ _) (σ.2 32 (0 : Int32).toNatClampNeg) g_40 rfl dX10_seam_40 ?_
      refine lv_icmp_ge (tgt := 61) hx hb dX10_seam_41 (by decide) (fun c_41 => ?_) (fun c_41 => ?_)
      · have hF := ob_t c_41 hF
        refine lv_iload_n hx hb dX10_seam_61 rfl (lv_at hl 1 rfl) ?_
        exact rrM hx hb hr hlocks hF dX10_seam_62
      · have hF := ob_f c_41 hF
        refine lv_iload_n hx hb dX10_seam_44 rfl (lv_at hl 1 rfl) ?_
        refine lv_aload_n hx hb dX10_seam_45 rfl (lv_at hl 0 rfl) ?_
        refine lv_iconst (v := (0 : Int32)) hx hb dX10_seam_46 (by decide) ?_
        refine lv_iload_n hx hb dX10_seam_47 rfl (lv_at hl 2 rfl) ?_
        refine lv_iconst (v := (1 : Int32)) hx hb dX10_seam_48 (by decide) ?_
        refine lv_iload_n hx hb dX10_seam_49 rfl (lv_at hl 2 rfl) ?_
        obtain ⟨q_50, e_50, hF⟩ := ob_bd hF
        refine crM (As := [.int (0 : Int32), .int x3_34, .int (1 : Int32), .int x3_34]) (rest := [.int x2_34]) ⟨hx, hb, hml, hown, hts⟩ (cM_missOf l D cI cZ h ad σ (0 : Int32) x3_34 (1 : Int32) x3_34 _ e_50) (cw_missOf hts ⟨Nat.le_of_ble_eq_true rfl, Nat.le_of_ble_eq_true rfl⟩) hK hP rfl hl.1 rfl (lv_room (Nat.le_of_ble_eq_true rfl)) dX10_seam_50 ?_
        refine lv_iadd hx hb dX10_seam_53 ?_
        refine lv_istore_n (lv' := [(2, .int (x2_34 + q_50)), (0, .ref h), (3, .int x3_34)]) hx hb dX10_seam_54 rfl hl (by decide) rfl (fun ls hl => ?_)
        refine lv_iinc (v := x3_34 + (1 : Int32)) (lv' := [(3, .int (x3_34 + (1 : Int32))), (2, .int (x2_34 + q_50)), (0, .ref h)]) hx hb dX10_seam_55 hl (k := 2) rfl rfl (by decide) rfl (fun ls hl => ?_)
        refine lv_goto (tgt := 34) hx hb dX10_seam_58 (by decide) ?_
        exact ih_34 (x2_34 + q_50) (x3_34 + (1 : Int32)) _ hF (lv_sub hl [2, 1, 0] rfl)
  have b_65 : ∀ (x1_65 : Int32) (n_65 : Nat) (x2_65 : Int32) (x3_65 : Int32) (ls : Array Slot), FM_seam_65 σ x1_65 n_65 x2_65 x3_65 = some q → lv_has ls 4 [(0, .ref h), (1, .int x1_65), (2, .int x2_65), (3, .int x3_65)] → W p l e (headSpec wsM_seam { frames := 1, cells := 0, slots := 0, locals := 25 }).room s m ([.ref h, .int p1] : List Value).toArray below meth c s.heap [] 0 0 (MQ below (vp_Si (fun x => x = q)) ([.ref h, .int p1] : List Value).toArray s 0 0 (fun _ => False)) (F0 m 65 ls []) := by
    intro x1_65
    intro n_65
    induction n_65 with
    | zero =>
      intro x2_65 x3_65 ls hF hl
      exact absurd hF (by simp [FM_seam_65])
    | succ n_65 ih_65 =>
      intro x2_65 x3_65 ls hF hl
      rw [FM_seam_65] at hF
      refine lv_iload_n hx hb dX10_seam_65 rfl (lv_at hl 3 rfl) ?_
      refine lv_aload_n hx hb dX10_seam_66 rfl (lv_at hl 0 rfl) ?_
      refine gM hx hb hts hin hown hK hP 32 (.ref (ad 32)) (by decide) mf_96 rfl dX10_seam_67 ?_
      refine lv_iconst (v := (0 : Int32)) hx hb dX10_seam_70 (by decide) ?_
      obtain ⟨g_71, hF⟩ := ob_gd hF
      refine ldI hx hb hK hP (at_32 _ _ _ _ _) (σ.2 32 (0 : Int32).toNatClampNeg) g_71 rfl dX10_seam_71 ?_
      refine lv_iconst (v := (2 : Int32)) hx hb dX10_seam_72 (by decide) ?_
      refine lv_idiv hx hb dX10_seam_73 (by decide) ?_
      refine lv_icmp_ge (tgt := 108) hx hb dX10_seam_74 (by decide) (fun c_74 => ?_) (fun c_74 => ?_)
      · have hF := ob_t c_74 hF
        refine lv_iload_n hx hb dX10_seam_108 rfl (lv_at hl 2 rfl) ?_
        exact rrM hx hb hr hlocks hF dX10_seam_109
      · have hF := ob_f c_74 hF
        refine lv_iload_n hx hb dX10_seam_77 rfl (lv_at hl 3 rfl) ?_
        refine lv_aload_n hx hb dX10_seam_78 rfl (lv_at hl 0 rfl) ?_
        refine gM hx hb hts hin hown hK hP 32 (.ref (ad 32)) (by decide) mf_96 rfl dX10_seam_79 ?_
        refine lv_iconst (v := (2 : Int32)) hx hb dX10_seam_82 (by decide) ?_
        obtain ⟨g_83, hF⟩ := ob_gd hF
        refine ldI hx hb hK hP (at_32 _ _ _ _ _) (σ.2 32 (2 : Int32).toNatClampNeg) g_83 rfl dX10_seam_83 ?_
        refine lv_icmp_ge (tgt := 108) hx hb dX10_seam_84 (by decide) (fun c_84 => ?_) (fun c_84 => ?_)
        · have hF := ob_t c_84 hF
          refine lv_iload_n hx hb dX10_seam_108 rfl (lv_at hl 2 rfl) ?_
          exact rrM hx hb hr hlocks hF dX10_seam_109
        · have hF := ob_f c_84 hF
          refine lv_iload_n hx hb dX10_seam_87 rfl (lv_at hl 2 rfl) ?_
          refine lv_aload_n hx hb dX10_seam_88 rfl (lv_at hl 0 rfl) ?_
          refine lv_iload_n hx hb dX10_seam_89 rfl (lv_at hl 1 rfl) ?_
          refine lv_iconst (v := (1 : Int32)) hx hb dX10_seam_90 (by decide) ?_
          refine lv_iadd hx hb dX10_seam_91 ?_
          refine lv_iload_n hx hb dX10_seam_92 rfl (lv_at hl 3 rfl) ?_
          refine lv_iload_n hx hb dX10_seam_93 rfl (lv_at hl 1 rfl) ?_
          refine lv_iconst (v := (1 : Int32)) hx hb dX10_seam_94 (by decide) ?_
          refine lv_isub hx hb dX10_seam_95 ?_
          refine lv_iload_n hx hb dX10_seam_96 rfl (lv_at hl 3 rfl) ?_
          obtain ⟨q_97, e_97, hF⟩ := ob_bd hF
          refine crM (As := [.int (x1_65 + (1 : Int32)), .int x3_65, .int (x1_65 - (1 : Int32)), .int x3_65]) (rest := [.int x2_65]) ⟨hx, hb, hml, hown, hts⟩ (cM_missOf l D cI cZ h ad σ (x1_65 + (1 : Int32)) x3_65 (x1_65 - (1 : Int32)) x3_65 _ e_97) (cw_missOf hts ⟨Nat.le_of_ble_eq_true rfl, Nat.le_of_ble_eq_true rfl⟩) hK hP rfl hl.1 rfl (lv_room (Nat.le_of_ble_eq_true rfl)) dX10_seam_97 ?_
          refine lv_iadd hx hb dX10_seam_100 ?_
          refine lv_istore_n (lv' := [(2, .int (x2_65 + q_97)), (0, .ref h), (1, .int x1_65), (3, .int x3_65)]) hx hb dX10_seam_101 rfl hl (by decide) rfl (fun ls hl => ?_)
          refine lv_iinc (v := x3_65 + (1 : Int32)) (lv' := [(3, .int (x3_65 + (1 : Int32))), (2, .int (x2_65 + q_97)), (0, .ref h), (1, .int x1_65)]) hx hb dX10_seam_102 hl (k := 3) rfl rfl (by decide) rfl (fun ls hl => ?_)
          refine lv_goto (tgt := 65) hx hb dX10_seam_105 (by decide) ?_
          exact ih_65 (x2_65 + q_97) (x3_65 + (1 : Int32)) _ hF (lv_sub hl [2, 3, 1, 0] rfl)
  have b_112 : ∀ (n_112 : Nat) (x2_112 : Int32) (x3_112 : Int32) (ls : Array Slot), FM_seam_112 σ n_112 x2_112 x3_112 = some q → lv_has ls 4 [(0, .ref h), (2, .int x2_112), (3, .int x3_112)] → W p l e (headSpec wsM_seam { frames := 1, cells := 0, slots := 0, locals := 25 }).room s m ([.ref h, .int p1] : List Value).toArray below meth c s.heap [] 0 0 (MQ below (vp_Si (fun x => x = q)) ([.ref h, .int p1] : List Value).toArray s 0 0 (fun _ => False)) (F0 m 112 ls []) := by
    intro n_112
    induction n_112 with
    | zero =>
      intro x2_112 x3_112 ls hF hl
      exact absurd hF (by simp [FM_seam_112])
    | succ n_112 ih_112 =>
      intro x2_112 x3_112 ls hF hl
      rw [FM_seam_112] at hF
      refine lv_iload_n hx hb dX10_seam_112 rfl (lv_at hl 2 rfl) ?_
      refine lv_aload_n hx hb dX10_seam_113 rfl (lv_at hl 0 rfl) ?_
      refine gM hx hb hts hin hown hK hP 32 (.ref (ad 32)) (by decide) mf_96 rfl dX10_seam_114 ?_
      refine lv_iconst (v := (4 : Int32)) hx hb dX10_seam_117 (by decide) ?_
      obtain ⟨g_118, hF⟩ := ob_gd hF
      refine ldI hx hb hK hP (at_32 _ _ _ _ _) (σ.2 32 (4 : Int32).toNatClampNeg) g_118 rfl dX10_seam_118 ?_
      refine lv_icmp_ge (tgt := 158) hx hb dX10_seam_119 (by decide) (fun c_119 => ?_) (fun c_119 => ?_)
      · have hF := ob_t c_119 hF
        refine lv_iload_n hx hb dX10_seam_158 rfl (lv_at hl 1 rfl) ?_
        exact rrM hx hb hr hlocks hF dX10_seam_159
      · have hF := ob_f c_119 hF
        refine lv_iload_n hx hb dX10_seam_122 rfl (lv_at hl 2 rfl) ?_
        refine lv_aload_n hx hb dX10_seam_123 rfl (lv_at hl 0 rfl) ?_
        refine gM hx hb hts hin hown hK hP 32 (.ref (ad 32)) (by decide) mf_96 rfl dX10_seam_124 ?_
        refine lv_iconst (v := (0 : Int32)) hx hb dX10_seam_127 (by decide) ?_
        obtain ⟨g_128, hF⟩ := ob_gd hF
        refine ldI hx hb hK hP (at_32 _ _ _ _ _) (σ.2 32 (0 : Int32).toNatClampNeg) g_128 rfl dX10_seam_128 ?_
        refine lv_icmp_ge (tgt := 158) hx hb dX10_seam_129 (by decide) (fun c_129 => ?_) (fun c_129 => ?_)
        · have hF := ob_t c_129 hF
          refine lv_iload_n hx hb dX10_seam_158 rfl (lv_at hl 1 rfl) ?_
          exact rrM hx hb hr hlocks hF dX10_seam_159
        · have hF := ob_f c_129 hF
          refine lv_iload_n hx hb dX10_seam_132 rfl (lv_at hl 1 rfl) ?_
          refine lv_aload_n hx hb dX10_seam_133 rfl (lv_at hl 0 rfl) ?_
          refine lv_iconst (v := (4 : Int32)) hx hb dX10_seam_134 (by decide) ?_
          refine lv_iload_n hx hb dX10_seam_135 rfl (lv_at hl 2 rfl) ?_
          refine lv_iconst (v := (0 : Int32)) hx hb dX10_seam_136 (by decide) ?_
          refine lv_aload_n hx hb dX10_seam_137 rfl (lv_at hl 0 rfl) ?_
          refine gM hx hb hts hin hown hK hP 32 (.ref (ad 32)) (by decide) mf_96 rfl dX10_seam_138 ?_
          refine lv_iconst (v := (0 : Int32)) hx hb dX10_seam_141 (by decide) ?_
          obtain ⟨g_142, hF⟩ := ob_gd hF
          refine ldI hx hb hK hP (at_32 _ _ _ _ _) (σ.2 32 (0 : Int32).toNatClampNeg) g_142 rfl dX10_seam_142 ?_
          refine lv_iconst (v := (1 : Int32)) hx hb dX10_seam_143 (by decide) ?_
          refine lv_isub hx hb dX10_seam_144 ?_
          refine lv_iload_n hx hb dX10_seam_145 rfl (lv_at hl 2 rfl) ?_
          refine lv_isub hx hb dX10_seam_146 ?_
          obtain ⟨q_147, e_147, hF⟩ := ob_bd hF
          refine crM (As := [.int (4 : Int32), .int x3_112, .int (0 : Int32), .int (((σ.2 32 (0 : Int32).toNatClampNeg) - (1 : Int32)) - x3_112)]) (rest := [.int x2_112]) ⟨hx, hb, hml, hown, hts⟩ (cM_missOf l D cI cZ h ad σ (4 : Int32) x3_112 (0 : Int32) (((σ.2 32 (0 : Int32).toNatClampNeg) - (1 : Int32)) - x3_112) _ e_147) (cw_missOf hts ⟨Nat.le_of_ble_eq_true rfl, Nat.le_of_ble_eq_true rfl⟩) hK hP rfl hl.1 rfl (lv_room (Nat.le_of_ble_eq_true rfl)) dX10_seam_147 ?_
          refine lv_iadd hx hb dX10_seam_150 ?_
          refine lv_istore_n (lv' := [(2, .int (x2_112 + q_147)), (0, .ref h), (3, .int x3_112)]) hx hb dX10_seam_151 rfl hl (by decide) rfl (fun ls hl => ?_)
          refine lv_iinc (v := x3_112 + (1 : Int32)) (lv' := [(3, .int (x3_112 + (1 : Int32))), (2, .int (x2_112 + q_147)), (0, .ref h)]) hx hb dX10_seam_152 hl (k := 2) rfl rfl (by decide) rfl (fun ls hl => ?_)
          refine lv_goto (tgt := 112) hx hb dX10_seam_155 (by decide) ?_
          exact ih_112 (x2_112 + q_147) (x3_112 + (1 : Int32)) _ hF (lv_sub hl [2, 1, 0] rfl)
  have b_162 : ∀ (n_162 : Nat) (x2_162 : Int32) (x3_162 : Int32) (ls : Array Slot), FM_seam_162 σ n_162 x2_162 x3_162 = some q → lv_has ls 4 [(0, .ref h), (2, .int x2_162), (3, .int x3_162)] → W p l e (headSpec wsM_seam { frames := 1, cells := 0, slots := 0, locals := 25 }).room s m ([.ref h, .int p1] : List Value).toArray below meth c s.heap [] 0 0 (MQ below (vp_Si (fun x => x = q)) ([.ref h, .int p1] : List Value).toArray s 0 0 (fun _ => False)) (F0 m 162 ls []) := by
    intro n_162
    induction n_162 with
    | zero =>
      intro x2_162 x3_162 ls hF hl
      exact absurd hF (by simp [FM_seam_162])
    | succ n_162 ih_162 =>
      intro x2_162 x3_162 ls hF hl
      rw [FM_seam_162] at hF
      refine lv_iload_n hx hb dX10_seam_162 rfl (lv_at hl 2 rfl) ?_
      refine lv_aload_n hx hb dX10_seam_163 rfl (lv_at hl 0 rfl) ?_
      refine gM hx hb hts hin hown hK hP 32 (.ref (ad 32)) (by decide) mf_96 rfl dX10_seam_164 ?_
      refine lv_iconst (v := (5 : Int32)) hx hb dX10_seam_167 (by decide) ?_
      obtain ⟨g_168, hF⟩ := ob_gd hF
      refine ldI hx hb hK hP (at_32 _ _ _ _ _) (σ.2 32 (5 : Int32).toNatClampNeg) g_168 rfl dX10_seam_168 ?_
      refine lv_icmp_ge (tgt := 199) hx hb dX10_seam_169 (by decide) (fun c_169 => ?_) (fun c_169 => ?_)
      · have hF := ob_t c_169 hF
        refine lv_iload_n hx hb dX10_seam_199 rfl (lv_at hl 1 rfl) ?_
        exact rrM hx hb hr hlocks hF dX10_seam_200
      · have hF := ob_f c_169 hF
        refine lv_iload_n hx hb dX10_seam_172 rfl (lv_at hl 2 rfl) ?_
        refine lv_aload_n hx hb dX10_seam_173 rfl (lv_at hl 0 rfl) ?_
        refine gM hx hb hts hin hown hK hP 32 (.ref (ad 32)) (by decide) mf_96 rfl dX10_seam_174 ?_
        refine lv_iconst (v := (4 : Int32)) hx hb dX10_seam_177 (by decide) ?_
        obtain ⟨g_178, hF⟩ := ob_gd hF
        refine ldI hx hb hK hP (at_32 _ _ _ _ _) (σ.2 32 (4 : Int32).toNatClampNeg) g_178 rfl dX10_seam_178 ?_
        refine lv_icmp_ge (tgt := 199) hx hb dX10_seam_179 (by decide) (fun c_179 => ?_) (fun c_179 => ?_)
        · have hF := ob_t c_179 hF
          refine lv_iload_n hx hb dX10_seam_199 rfl (lv_at hl 1 rfl) ?_
          exact rrM hx hb hr hlocks hF dX10_seam_200
        · have hF := ob_f c_179 hF
          refine lv_iload_n hx hb dX10_seam_182 rfl (lv_at hl 1 rfl) ?_
          refine lv_aload_n hx hb dX10_seam_183 rfl (lv_at hl 0 rfl) ?_
          refine lv_iconst (v := (5 : Int32)) hx hb dX10_seam_184 (by decide) ?_
          refine lv_iload_n hx hb dX10_seam_185 rfl (lv_at hl 2 rfl) ?_
          refine lv_iconst (v := (4 : Int32)) hx hb dX10_seam_186 (by decide) ?_
          refine lv_iload_n hx hb dX10_seam_187 rfl (lv_at hl 2 rfl) ?_
          obtain ⟨q_188, e_188, hF⟩ := ob_bd hF
          refine crM (As := [.int (5 : Int32), .int x3_162, .int (4 : Int32), .int x3_162]) (rest := [.int x2_162]) ⟨hx, hb, hml, hown, hts⟩ (cM_missOf l D cI cZ h ad σ (5 : Int32) x3_162 (4 : Int32) x3_162 _ e_188) (cw_missOf hts ⟨Nat.le_of_ble_eq_true rfl, Nat.le_of_ble_eq_true rfl⟩) hK hP rfl hl.1 rfl (lv_room (Nat.le_of_ble_eq_true rfl)) dX10_seam_188 ?_
          refine lv_iadd hx hb dX10_seam_191 ?_
          refine lv_istore_n (lv' := [(2, .int (x2_162 + q_188)), (0, .ref h), (3, .int x3_162)]) hx hb dX10_seam_192 rfl hl (by decide) rfl (fun ls hl => ?_)
          refine lv_iinc (v := x3_162 + (1 : Int32)) (lv' := [(3, .int (x3_162 + (1 : Int32))), (2, .int (x2_162 + q_188)), (0, .ref h)]) hx hb dX10_seam_193 hl (k := 2) rfl rfl (by decide) rfl (fun ls hl => ?_)
          refine lv_goto (tgt := 162) hx hb dX10_seam_196 (by decide) ?_
          exact ih_162 (x2_162 + q_188) (x3_162 + (1 : Int32)) _ hF (lv_sub hl [2, 1, 0] rfl)
  have hl := lv_entry ([.ref h, .int p1]) (n := 4) (Nat.le_of_ble_eq_true rfl)
  rw [lg_entry_eq]
  generalize (lg_sl ([.ref h, .int p1]) ++ List.replicate (4 - (lg_sl ([.ref h, .int p1])).length) Slot.unset).toArray = ls at hl ⊢
  have hl : lv_has ls 4 [(0, .ref h), (1, .int p1)] := hl
  unfold FM_seam at hF
  refine lv_iconst (v := (0 : Int32)) hx hb dX10_seam_0 (by decide) ?_
  refine lv_istore_n (lv' := [(2, .int (0 : Int32)), (0, .ref h), (1, .int p1)]) hx hb dX10_seam_1 rfl hl (by decide) rfl (fun ls hl => ?_)
  refine lv_iload_n hx hb dX10_seam_2 rfl (lv_at hl 2 rfl) ?_
  by_cases c_3_0 : p1 = (0 : Int32)
  · have hF := ob_t c_3_0 hF
    refine lv_tableIn (off := 29) (tgt := 32) hx hb dX10_seam_3 (by rw [c_3_0]; decide) (by rw [c_3_0]; decide) (by rw [c_3_0]; rfl) (by decide) ?_
    refine lv_iconst (v := (0 : Int32)) hx hb dX10_seam_32 (by decide) ?_
    refine lv_istore_n (lv' := [(3, .int (0 : Int32)), (2, .int (0 : Int32)), (0, .ref h), (1, .int p1)]) hx hb dX10_seam_33 rfl hl (by decide) rfl (fun ls hl => ?_)
    exact b_34 fu (0 : Int32) (0 : Int32) _ hF (lv_sub hl [2, 1, 0] rfl)
  · have hF := ob_f c_3_0 hF
    by_cases c_3_1 : p1 = (1 : Int32)
    · have hF := ob_t c_3_1 hF
      refine lv_tableIn (off := 60) (tgt := 63) hx hb dX10_seam_3 (by rw [c_3_1]; decide) (by rw [c_3_1]; decide) (by rw [c_3_1]; rfl) (by decide) ?_
      refine lv_iconst (v := (0 : Int32)) hx hb dX10_seam_63 (by decide) ?_
      refine lv_istore_n (lv' := [(3, .int (0 : Int32)), (2, .int (0 : Int32)), (0, .ref h), (1, .int p1)]) hx hb dX10_seam_64 rfl hl (by decide) rfl (fun ls hl => ?_)
      exact b_65 p1 fu (0 : Int32) (0 : Int32) _ hF (lv_sub hl [2, 3, 1, 0] rfl)
    · have hF := ob_f c_3_1 hF
      by_cases c_3_2 : p1 = (2 : Int32)
      · have hF := ob_t c_3_2 hF
        refine lv_tableIn (off := 60) (tgt := 63) hx hb dX10_seam_3 (by rw [c_3_2]; decide) (by rw [c_3_2]; decide) (by rw [c_3_2]; rfl) (by decide) ?_
        refine lv_iconst (v := (0 : Int32)) hx hb dX10_seam_63 (by decide) ?_
        refine lv_istore_n (lv' := [(3, .int (0 : Int32)), (2, .int (0 : Int32)), (0, .ref h), (1, .int p1)]) hx hb dX10_seam_64 rfl hl (by decide) rfl (fun ls hl => ?_)
        exact b_65 p1 fu (0 : Int32) (0 : Int32) _ hF (lv_sub hl [2, 3, 1, 0] rfl)
      · have hF := ob_f c_3_2 hF
        by_cases c_3_3 : p1 = (3 : Int32)
        · have hF := ob_t c_3_3 hF
          refine lv_tableIn (off := 107) (tgt := 110) hx hb dX10_seam_3 (by rw [c_3_3]; decide) (by rw [c_3_3]; decide) (by rw [c_3_3]; rfl) (by decide) ?_
          refine lv_iconst (v := (0 : Int32)) hx hb dX10_seam_110 (by decide) ?_
          refine lv_istore_n (lv' := [(3, .int (0 : Int32)), (2, .int (0 : Int32)), (0, .ref h), (1, .int p1)]) hx hb dX10_seam_111 rfl hl (by decide) rfl (fun ls hl => ?_)
          exact b_112 fu (0 : Int32) (0 : Int32) _ hF (lv_sub hl [2, 1, 0] rfl)
        · have hF := ob_f c_3_3 hF
          refine lv_tableOut (tgt := 160) hx hb dX10_seam_3 (by have a0 : ¬ p1.toInt = 0 := ob_ti c_3_0; have a1 : ¬ p1.toInt = 1 := ob_ti c_3_1; have a2 : ¬ p1.toInt = 2 := ob_ti c_3_2; have a3 : ¬ p1.toInt = 3 := ob_ti c_3_3; omega) (by decide) ?_
          refine lv_iconst (v := (0 : Int32)) hx hb dX10_seam_160 (by decide) ?_
          refine lv_istore_n (lv' := [(3, .int (0 : Int32)), (2, .int (0 : Int32)), (0, .ref h), (1, .int p1)]) hx hb dX10_seam_161 rfl hl (by decide) rfl (fun ls hl => ?_)
          exact b_162 fu (0 : Int32) (0 : Int32) _ hF (lv_sub hl [2, 1, 0] rfl)
def FM_shown_72 (σ : MS) (K_15 : Int32 → Int32 → Option Int32) (x2_72 : Int32) (x3_72 : Int32) (t0_72 : Int32) (t1_72 : Int32) : Option Int32 := (K_15 (t0_72 + t1_72) (x3_72 + (1 : Int32)))
def FM_shown_15 (σ : MS) (K_80 : Int32 → Option Int32) (x2_15 : Int32) : Nat → Int32 → Int32 → Option Int32
  | 0, _, _ => none
  | n_15 + 1, x1_15, x3_15 => (gd (inb x2_15 6) (if ((σ.2 32 x2_15.toNatClampNeg) - (σ.1 25)) ≤ x3_15 then (K_80 x1_15) else (gd (inb x2_15 6) (gd (inb ((σ.2 33 x2_15.toNatClampNeg) + x3_15) 120) (if (((σ.2 34 ((σ.2 33 x2_15.toNatClampNeg) + x3_15).toNatClampNeg) / (10 : Int32)) - ((σ.2 34 ((σ.2 33 x2_15.toNatClampNeg) + x3_15).toNatClampNeg) / (10 : Int32)) / (10 : Int32) * (10 : Int32)) = (1 : Int32) then (FM_shown_72 σ (fun x1_15 x3_15 => FM_shown_15 σ K_80 x2_15 n_15 x1_15 x3_15) x2_15 x3_15 x1_15 (1 : Int32)) else (if ((σ.2 34 ((σ.2 33 x2_15.toNatClampNeg) + x3_15).toNatClampNeg) / (100 : Int32)) < (3 : Int32) then (FM_shown_72 σ (fun x1_15 x3_15 => FM_shown_15 σ K_80 x2_15 n_15 x1_15 x3_15) x2_15 x3_15 x1_15 (0 : Int32)) else (FM_shown_72 σ (fun x1_15 x3_15 => FM_shown_15 σ K_80 x2_15 n_15 x1_15 x3_15) x2_15 x3_15 x1_15 (1 : Int32))))))))
def FM_shown_80 (σ : MS) (K_4 : Int32 → Int32 → Option Int32) (x1_80 : Int32) (x2_80 : Int32) : Option Int32 := (K_4 x1_80 (x2_80 + (1 : Int32)))
def FM_shown_4 (σ : MS) : Nat → Int32 → Int32 → Option Int32
  | 0, _, _ => none
  | n_4 + 1, x1_4, x2_4 => (if (6 : Int32) ≤ x2_4 then (some x1_4) else (FM_shown_15 σ (fun x1_80 => FM_shown_80 σ (fun x1_4 x2_4 => FM_shown_4 σ  n_4 x1_4 x2_4) x1_80 x2_4) x2_4 fu x1_4 (σ.1 25)))
def FM_shown (σ : MS) : Option Int32 := (FM_shown_4 σ fu (0 : Int32) (0 : Int32))
def wsM_shown : List Cond := Cond.code yX10_shown cX10_shown 5 (some .int) :: wMa
theorem cw_shown {R : Room} {s : State} {args : Array Value} {y : MethodName} {c : ByteArray} {n : Nat} {r : Option FieldType} (hts : ∀ w ∈ (Cond.code y c n r :: wMa), w.before args s = true) (hR : 0 + 1 ≤ R.frames ∧ 8 + (5 + 11) + 0 ≤ R.locals) : CallW R s args RX10 RX10 176 yX10_shown cX10_shown 5 (some .int) wsM_shown { frames := 0, cells := 0, slots := 0, locals := 0 } 0 0 0 := cwV 0 hts (goodMV mm_176 mi_shown ms_shown m_ini mc_shown) rfl rfl rfl (by decide +kernel) hR
set_option maxHeartbeats 4000000 in
set_option maxRecDepth 100000 in
theorem cM_shown (l : Launch) (D : va_G) (cI cZ : ClassId) (h : Nat) (ad : Nat → Nat) (σ : MS) (q : Int32) (hF : FM_shown σ = some q) : Met l yX10_shown wsM_shown { frames := 0, cells := 0, slots := 0, locals := 0 } (va_Pc [.ref h] (preR D cI cZ h ad σ)) (vp_Si (fun x => x = q)) 0 0 (fun _ => False) := by
  refine Met.ofW (cc := cX10_shown) (maxL := 5) (ret := (some .int)) (by decide) rfl ?_
  intro p e s m args below meth c s₁ B hml hv
  obtain ⟨rfl, hP, hK⟩ := hv
  have hx := B.exec
  have hb := B.bytes
  have hr := B.returns
  have hts : ∀ w ∈ (Cond.code yX10_shown cX10_shown 5 (some .int) :: wMa), w.before ([.ref h] : List Value).toArray s = true := atoms_spec (ws := wsM_shown) B.pre
  have hin : ∀ w ∈ wMa, w ∈ (Cond.code yX10_shown cX10_shown 5 (some .int) :: wMa) := fun w hw => List.mem_cons_of_mem _ hw
  have hown : s.vm.findClass RX10 = some m.cls := findClass_of_methodNamed B.named
  have hlocks := B.notSynchronized
  have b_72 : ∀ (x2_72 : Int32) (x3_72 : Int32) (K_15 : Int32 → Int32 → Option Int32) (k_15 : ∀ (x1_15 : Int32) (x3_15 : Int32) (ls : Array Slot), K_15 x1_15 x3_15 = some q → lv_has ls 5 [(0, .ref h), (1, .int x1_15), (2, .int x2_72), (3, .int x3_15)] → W p l e (headSpec wsM_shown { frames := 0, cells := 0, slots := 0, locals := 0 }).room s m ([.ref h] : List Value).toArray below meth c s.heap [] 0 0 (MQ below (vp_Si (fun x => x = q)) ([.ref h] : List Value).toArray s 0 0 (fun _ => False)) (F0 m 15 ls [])) (t0_72 : Int32) (t1_72 : Int32) (ls : Array Slot), FM_shown_72 σ K_15 x2_72 x3_72 t0_72 t1_72 = some q → lv_has ls 5 [(0, .ref h), (2, .int x2_72), (3, .int x3_72)] → W p l e (headSpec wsM_shown { frames := 0, cells := 0, slots := 0, locals := 0 }).room s m ([.ref h] : List Value).toArray below meth c s.heap [] 0 0 (MQ below (vp_Si (fun x => x = q)) ([.ref h] : List Value).toArray s 0 0 (fun _ => False)) (F0 m 72 ls [.int t1_72, .int t0_72]) := by
    intro x2_72 x3_72 K_15 k_15 t0_72 t1_72 ls hF hl
    unfold FM_shown_72 at hF
    refine lv_iadd hx hb dX10_shown_72 ?_
    refine lv_istore_n (lv' := [(1, .int (t0_72 + t1_72)), (0, .ref h), (2, .int x2_72), (3, .int x3_72)]) hx hb dX10_shown_73 rfl hl (by decide) rfl (fun ls hl => ?_)
    refine lv_iinc (v := x3_72 + (1 : Int32)) (lv' := [(3, .int (x3_72 + (1 : Int32))), (1, .int (t0_72 + t1_72)), (0, .ref h), (2, .int x2_72)]) hx hb dX10_shown_74 hl (k := 3) rfl rfl (by decide) rfl (fun ls hl => ?_)
    refine lv_goto (tgt := 15) hx hb dX10_shown_77 (by decide) ?_
    exact k_15 (t0_72 + t1_72) (x3_72 + (1 : Int32)) _ hF (lv_sub hl [2, 1, 3, 0] rfl)
  have b_15 : ∀ (x2_15 : Int32) (K_80 : Int32 → Option Int32) (k_80 : ∀ (x1_80 : Int32) (ls : Array Slot), K_80 x1_80 = some q → lv_has ls 5 [(0, .ref h), (1, .int x1_80), (2, .int x2_15)] → W p l e (headSpec wsM_shown { frames := 0, cells := 0, slots := 0, locals := 0 }).room s m ([.ref h] : List Value).toArray below meth c s.heap [] 0 0 (MQ below (vp_Si (fun x => x = q)) ([.ref h] : List Value).toArray s 0 0 (fun _ => False)) (F0 m 80 ls [])) (n_15 : Nat) (x1_15 : Int32) (x3_15 : Int32) (ls : Array Slot), FM_shown_15 σ K_80 x2_15 n_15 x1_15 x3_15 = some q → lv_has ls 5 [(0, .ref h), (1, .int x1_15), (2, .int x2_15), (3, .int x3_15)] → W p l e (headSpec wsM_shown { frames := 0, cells := 0, slots := 0, locals := 0 }).room s m ([.ref h] : List Value).toArray below meth c s.heap [] 0 0 (MQ below (vp_Si (fun x => x = q)) ([.ref h] : List Value).toArray s 0 0 (fun _ => False)) (F0 m 15 ls []) := by
    intro x2_15 K_80 k_80
    intro n_15
    induction n_15 with
    | zero =>
      intro x1_15 x3_15 ls hF hl
      exact absurd hF (by simp [FM_shown_15])
    | succ n_15 ih_15 =>
      intro x1_15 x3_15 ls hF hl
      rw [FM_shown_15] at hF
      refine lv_iload_n hx hb dX10_shown_15 rfl (lv_at hl 3 rfl) ?_
      refine lv_aload_n hx hb dX10_shown_16 rfl (lv_at hl 0 rfl) ?_
      refine gM hx hb hts hin hown hK hP 32 (.ref (ad 32)) (by decide) mf_96 rfl dX10_shown_17 ?_
      refine lv_iload_n hx hb dX10_shown_20 rfl (lv_at hl 2 rfl) ?_
      obtain ⟨g_21, hF⟩ := ob_gd hF
      refine ldI hx hb hK hP (at_32 _ _ _ _ _) (σ.2 32 x2_15.toNatClampNeg) g_21 rfl dX10_shown_21 ?_
      refine lv_aload_n hx hb dX10_shown_22 rfl (lv_at hl 0 rfl) ?_
      refine gM hx hb hts hin hown hK hP 25 (.int (σ.1 25)) (by decide) mf_78 rfl dX10_shown_23 ?_
      refine lv_isub hx hb dX10_shown_26 ?_
      refine lv_icmp_ge (tgt := 80) hx hb dX10_shown_27 (by decide) (fun c_27 => ?_) (fun c_27 => ?_)
      · have hF := ob_t c_27 hF
        exact k_80 x1_15 _ hF (lv_sub hl [0, 1, 2] rfl)
      · have hF := ob_f c_27 hF
        refine lv_aload_n hx hb dX10_shown_30 rfl (lv_at hl 0 rfl) ?_
        refine gM hx hb hts hin hown hK hP 34 (.ref (ad 34)) (by decide) mf_102 rfl dX10_shown_31 ?_
        refine lv_aload_n hx hb dX10_shown_34 rfl (lv_at hl 0 rfl) ?_
        refine gM hx hb hts hin hown hK hP 33 (.ref (ad 33)) (by decide) mf_99 rfl dX10_shown_35 ?_
        refine lv_iload_n hx hb dX10_shown_38 rfl (lv_at hl 2 rfl) ?_
        obtain ⟨g_39, hF⟩ := ob_gd hF
        refine ldI hx hb hK hP (at_33 _ _ _ _ _) (σ.2 33 x2_15.toNatClampNeg) g_39 rfl dX10_shown_39 ?_
        refine lv_iload_n hx hb dX10_shown_40 rfl (lv_at hl 3 rfl) ?_
        refine lv_iadd hx hb dX10_shown_41 ?_
        obtain ⟨g_42, hF⟩ := ob_gd hF
        refine ldI hx hb hK hP (at_34 _ _ _ _ _) (σ.2 34 ((σ.2 33 x2_15.toNatClampNeg) + x3_15).toNatClampNeg) g_42 rfl dX10_shown_42 ?_
        refine lv_istore (lv' := [(4, .int (σ.2 34 ((σ.2 33 x2_15.toNatClampNeg) + x3_15).toNatClampNeg)), (0, .ref h), (1, .int x1_15), (2, .int x2_15), (3, .int x3_15)]) hx hb dX10_shown_43 hl (by decide) rfl (fun ls hl => ?_)
        refine lv_iload_n hx hb dX10_shown_45 rfl (lv_at hl 2 rfl) ?_
        refine lv_iload hx hb dX10_shown_46 (lv_at hl 0 rfl) ?_
        refine lv_bipush (v := (10 : Int32)) hx hb dX10_shown_48 (by decide) ?_
        refine lv_idiv hx hb dX10_shown_50 (by decide) ?_
        refine lv_bipush (v := (10 : Int32)) hx hb dX10_shown_51 (by decide) ?_
        refine lv_irem hx hb dX10_shown_53 (by decide) ?_
        refine lv_iconst (v := (1 : Int32)) hx hb dX10_shown_54 (by decide) ?_
        refine lv_icmp_eq (tgt := 67) hx hb dX10_shown_55 (by decide) (fun c_55 => ?_) (fun c_55 => ?_)
        · have hF := ob_t c_55 hF
          refine lv_iconst (v := (1 : Int32)) hx hb dX10_shown_67 (by decide) ?_
          refine lv_goto (tgt := 72) hx hb dX10_shown_68 (by decide) ?_
          exact b_72 x2_15 x3_15 (fun x1_15 x3_15 => FM_shown_15 σ K_80 x2_15 n_15 x1_15 x3_15) ih_15 x1_15 (1 : Int32) _ hF (lv_sub hl [1, 3, 4] rfl)
        · have hF := ob_f c_55 hF
          refine lv_iload hx hb dX10_shown_58 (lv_at hl 0 rfl) ?_
          refine lv_bipush (v := (100 : Int32)) hx hb dX10_shown_60 (by decide) ?_
          refine lv_idiv hx hb dX10_shown_62 (by decide) ?_
          refine lv_iconst (v := (3 : Int32)) hx hb dX10_shown_63 (by decide) ?_
          refine lv_icmp_lt (tgt := 71) hx hb dX10_shown_64 (by decide) (fun c_64 => ?_) (fun c_64 => ?_)
          · have hF := ob_t c_64 hF
            refine lv_iconst (v := (0 : Int32)) hx hb dX10_shown_71 (by decide) ?_
            exact b_72 x2_15 x3_15 (fun x1_15 x3_15 => FM_shown_15 σ K_80 x2_15 n_15 x1_15 x3_15) ih_15 x1_15 (0 : Int32) _ hF (lv_sub hl [1, 3, 4] rfl)
          · have hF := ob_f c_64 hF
            refine lv_iconst (v := (1 : Int32)) hx hb dX10_shown_67 (by decide) ?_
            refine lv_goto (tgt := 72) hx hb dX10_shown_68 (by decide) ?_
            exact b_72 x2_15 x3_15 (fun x1_15 x3_15 => FM_shown_15 σ K_80 x2_15 n_15 x1_15 x3_15) ih_15 x1_15 (1 : Int32) _ hF (lv_sub hl [1, 3, 4] rfl)
  have b_80 : ∀ (x1_80 : Int32) (x2_80 : Int32) (K_4 : Int32 → Int32 → Option Int32) (k_4 : ∀ (x1_4 : Int32) (x2_4 : Int32) (ls : Array Slot), K_4 x1_4 x2_4 = some q → lv_has ls 5 [(0, .ref h), (1, .int x1_4), (2, .int x2_4)] → W p l e (headSpec wsM_shown { frames := 0, cells := 0, slots := 0, locals := 0 }).room s m ([.ref h] : List Value).toArray below meth c s.heap [] 0 0 (MQ below (vp_Si (fun x => x = q)) ([.ref h] : List Value).toArray s 0 0 (fun _ => False)) (F0 m 4 ls [])) (ls : Array Slot), FM_shown_80 σ K_4 x1_80 x2_80 = some q → lv_has ls 5 [(0, .ref h), (1, .int x1_80), (2, .int x2_80)] → W p l e (headSpec wsM_shown { frames := 0, cells := 0, slots := 0, locals := 0 }).room s m ([.ref h] : List Value).toArray below meth c s.heap [] 0 0 (MQ below (vp_Si (fun x => x = q)) ([.ref h] : List Value).toArray s 0 0 (fun _ => False)) (F0 m 80 ls []) := by
    intro x1_80 x2_80 K_4 k_4 ls hF hl
    unfold FM_shown_80 at hF
    refine lv_iinc (v := x2_80 + (1 : Int32)) (lv' := [(2, .int (x2_80 + (1 : Int32))), (0, .ref h), (1, .int x1_80)]) hx hb dX10_shown_80 hl (k := 2) rfl rfl (by decide) rfl (fun ls hl => ?_)
    refine lv_goto (tgt := 4) hx hb dX10_shown_83 (by decide) ?_
    exact k_4 x1_80 (x2_80 + (1 : Int32)) _ hF (lv_sub hl [1, 2, 0] rfl)
  have b_4 : ∀ (n_4 : Nat) (x1_4 : Int32) (x2_4 : Int32) (ls : Array Slot), FM_shown_4 σ n_4 x1_4 x2_4 = some q → lv_has ls 5 [(0, .ref h), (1, .int x1_4), (2, .int x2_4)] → W p l e (headSpec wsM_shown { frames := 0, cells := 0, slots := 0, locals := 0 }).room s m ([.ref h] : List Value).toArray below meth c s.heap [] 0 0 (MQ below (vp_Si (fun x => x = q)) ([.ref h] : List Value).toArray s 0 0 (fun _ => False)) (F0 m 4 ls []) := by
    intro n_4
    induction n_4 with
    | zero =>
      intro x1_4 x2_4 ls hF hl
      exact absurd hF (by simp [FM_shown_4])
    | succ n_4 ih_4 =>
      intro x1_4 x2_4 ls hF hl
      rw [FM_shown_4] at hF
      refine lv_iload_n hx hb dX10_shown_4 rfl (lv_at hl 2 rfl) ?_
      refine lv_bipush (v := (6 : Int32)) hx hb dX10_shown_5 (by decide) ?_
      refine lv_icmp_ge (tgt := 86) hx hb dX10_shown_7 (by decide) (fun c_7 => ?_) (fun c_7 => ?_)
      · have hF := ob_t c_7 hF
        refine lv_iload_n hx hb dX10_shown_86 rfl (lv_at hl 1 rfl) ?_
        exact rrM hx hb hr hlocks hF dX10_shown_87
      · have hF := ob_f c_7 hF
        refine lv_aload_n hx hb dX10_shown_10 rfl (lv_at hl 0 rfl) ?_
        refine gM hx hb hts hin hown hK hP 25 (.int (σ.1 25)) (by decide) mf_78 rfl dX10_shown_11 ?_
        refine lv_istore_n (lv' := [(3, .int (σ.1 25)), (0, .ref h), (1, .int x1_4), (2, .int x2_4)]) hx hb dX10_shown_14 rfl hl (by decide) rfl (fun ls hl => ?_)
        exact b_15 x2_4 (fun x1_80 => FM_shown_80 σ (fun x1_4 x2_4 => FM_shown_4 σ  n_4 x1_4 x2_4) x1_80 x2_4) (fun x1_80 => b_80 x1_80 x2_4 (fun x1_4 x2_4 => FM_shown_4 σ  n_4 x1_4 x2_4) ih_4) fu x1_4 (σ.1 25) _ hF (lv_sub hl [1, 2, 3, 0] rfl)
  have hl := lv_entry ([.ref h]) (n := 5) (Nat.le_of_ble_eq_true rfl)
  rw [lg_entry_eq]
  generalize (lg_sl ([.ref h]) ++ List.replicate (5 - (lg_sl ([.ref h])).length) Slot.unset).toArray = ls at hl ⊢
  have hl : lv_has ls 5 [(0, .ref h)] := hl
  unfold FM_shown at hF
  refine lv_iconst (v := (0 : Int32)) hx hb dX10_shown_0 (by decide) ?_
  refine lv_istore_n (lv' := [(1, .int (0 : Int32)), (0, .ref h)]) hx hb dX10_shown_1 rfl hl (by decide) rfl (fun ls hl => ?_)
  refine lv_iconst (v := (0 : Int32)) hx hb dX10_shown_2 (by decide) ?_
  refine lv_istore_n (lv' := [(2, .int (0 : Int32)), (1, .int (0 : Int32)), (0, .ref h)]) hx hb dX10_shown_3 rfl hl (by decide) rfl (fun ls hl => ?_)
  exact b_4 fu (0 : Int32) (0 : Int32) _ hF (lv_sub hl [2, 1, 0] rfl)
def FM_isLaying_33 (K_9 : Int32 → Int32 → Int32 → MS → Option (Int32 × MS)) (x1_33 : Int32) (x2_33 : Int32) (x3_33 : Int32) (x4_33 : Int32) (x5_33 : Int32) (x6_33 : Int32) (t1_33 : Int32) (t2_33 : Int32) (σ_33 : MS) : Option (Int32 × MS) := (gd (inb t1_33 6) (gd (inb x6_33 6) (K_9 (x4_33 / (6 : Int32)) (x5_33 ||| ((1 : Int32) <<< (((sa σ_33 35 t1_33 t2_33).2 35 x6_33.toNatClampNeg) &&& 31))) (x6_33 + (-1 : Int32)) (sa σ_33 35 t1_33 t2_33))))
def FM_isLaying_9 (K_61 : Int32 → Int32 → MS → Option (Int32 × MS)) (x1_9 : Int32) (x2_9 : Int32) (x3_9 : Int32) : Nat → Int32 → Int32 → Int32 → MS → Option (Int32 × MS)
  | 0, _, _, _, _ => none
  | n_9 + 1, x4_9, x5_9, x6_9, σ_9 => (if x6_9 < 0 then (K_61 x4_9 x5_9 σ_9) else (if 0 ≤ x1_9 then (FM_isLaying_33 (fun x4_9 x5_9 x6_9 σ_9 => FM_isLaying_9 K_61 x1_9 x2_9 x3_9 n_9 x4_9 x5_9 x6_9 σ_9) x1_9 x2_9 x3_9 x4_9 x5_9 x6_9 x6_9 (x4_9 - x4_9 / (6 : Int32) * (6 : Int32)) σ_9) else (FM_isLaying_33 (fun x4_9 x5_9 x6_9 σ_9 => FM_isLaying_9 K_61 x1_9 x2_9 x3_9 n_9 x4_9 x5_9 x6_9 σ_9) x1_9 x2_9 x3_9 x4_9 x5_9 x6_9 x6_9 (0 : Int32) σ_9)))
def FM_isLaying_61 (x1_61 : Int32) (x2_61 : Int32) (x3_61 : Int32) (x4_61 : Int32) (x5_61 : Int32) (σ_61 : MS) : Option (Int32 × MS) := (if x1_61 < 0 then (some ((0 : Int32), σ_61)) else (if x4_61 = 0 then (if x5_61 = (63 : Int32) then ((FM_in x2_61 (0 : Int32) (63 : Int32)).bind fun q_81 => (if q_81 = 0 then (some ((0 : Int32), σ_61)) else (if x3_61 = 0 then (some ((1 : Int32), σ_61)) else (if x2_61 = 0 then (some ((1 : Int32), σ_61)) else (if x2_61 = (63 : Int32) then (some ((1 : Int32), σ_61)) else (some ((0 : Int32), σ_61))))))) else (some ((0 : Int32), σ_61))) else (some ((0 : Int32), σ_61))))
def FM_isLaying (σ : MS) (p1 : Int32) (p2 : Int32) (p3 : Int32) : Option (Int32 × MS) := (FM_isLaying_9 (fun x4_61 x5_61 σ_61 => FM_isLaying_61 p1 p2 p3 x4_61 x5_61 σ_61) p1 p2 p3 fu p1 (0 : Int32) (5 : Int32) σ)
def wsM_isLaying : List Cond := Cond.code yX10_isLaying cX10_isLaying 7 (some .boolean) :: wMa
theorem cw_isLaying {R : Room} {s : State} {args : Array Value} {y : MethodName} {c : ByteArray} {n : Nat} {r : Option FieldType} (hts : ∀ w ∈ (Cond.code y c n r :: wMa), w.before args s = true) (hR : 1 + 1 ≤ R.frames ∧ 8 + (7 + 11) + 22 ≤ R.locals) : CallW R s args RX10 RX10 183 yX10_isLaying cX10_isLaying 7 (some .boolean) wsM_isLaying { frames := 1, cells := 0, slots := 0, locals := 22 } 0 0 3 := cwV 3 hts (goodMV mm_183 mi_isLaying ms_isLaying m_ini mc_isLaying) rfl rfl rfl (by decide +kernel) hR
set_option maxHeartbeats 4000000 in
set_option maxRecDepth 100000 in
theorem cM_isLaying (l : Launch) (D : va_G) (cI cZ : ClassId) (h : Nat) (ad : Nat → Nat) (A : Nat → Prop) (σ : MS) (p1 : Int32) (p2 : Int32) (p3 : Int32) (q : Int32 × MS) (hF : FM_isLaying σ p1 p2 p3 = some q) : Met l yX10_isLaying wsM_isLaying { frames := 1, cells := 0, slots := 0, locals := 22 } (va_Pc [.ref h, .int p1, .int p2, .int p3] (preM D cI cZ h ad A σ)) (va_Qi (fun x u => x = q.1 ∧ u = q.2) (preM D cI cZ h ad A) A) 0 0 A := by
  refine Met.ofW (cc := cX10_isLaying) (maxL := 7) (ret := (some .boolean)) (by decide) rfl ?_
  intro p e s m args below meth c s₁ B hml hv
  obtain ⟨rfl, hP, hK, hD⟩ := hv
  have hx := B.exec
  have hb := B.bytes
  have hr := B.returns
  have hts : ∀ w ∈ (Cond.code yX10_isLaying cX10_isLaying 7 (some .boolean) :: wMa), w.before ([.ref h, .int p1, .int p2, .int p3] : List Value).toArray s = true := atoms_spec (ws := wsM_isLaying) B.pre
  have hin : ∀ w ∈ wMa, w ∈ (Cond.code yX10_isLaying cX10_isLaying 7 (some .boolean) :: wMa) := fun w hw => List.mem_cons_of_mem _ hw
  have hown : s.vm.findClass RX10 = some m.cls := findClass_of_methodNamed B.named
  have hlocks := B.notSynchronized
  have hS : va_S A s.heap s.heap [] := va_S.rf
  have b_33 : ∀ (x1_33 : Int32) (x2_33 : Int32) (x3_33 : Int32) (x4_33 : Int32) (x5_33 : Int32) (x6_33 : Int32) (K_9 : Int32 → Int32 → Int32 → MS → Option (Int32 × MS)) (k_9 : ∀ (x4_9 : Int32) (x5_9 : Int32) (x6_9 : Int32) (σ_9 : MS) (H : Heap) (locs : List Loc) (ls : Array Slot), K_9 x4_9 x5_9 x6_9 σ_9 = some q → va_P D vwCl (wM cI cZ h ad σ_9) H → va_D A (wM cI cZ h ad σ_9) → va_S A s.heap H locs → lv_has ls 7 [(0, .ref h), (1, .int x1_33), (2, .int x2_33), (3, .int x3_33), (4, .int x4_9), (5, .int x5_9), (6, .int x6_9)] → W p l e (headSpec wsM_isLaying { frames := 1, cells := 0, slots := 0, locals := 22 }).room s m ([.ref h, .int p1, .int p2, .int p3] : List Value).toArray below meth c H locs 0 0 (MQ below (va_Qi (fun x u => x = q.1 ∧ u = q.2) (preM D cI cZ h ad A) A) ([.ref h, .int p1, .int p2, .int p3] : List Value).toArray s 0 0 A) (F0 m 9 ls [])) (t1_33 : Int32) (t2_33 : Int32) (σ_33 : MS) (H : Heap) (locs : List Loc) (ls : Array Slot), FM_isLaying_33 K_9 x1_33 x2_33 x3_33 x4_33 x5_33 x6_33 t1_33 t2_33 σ_33 = some q → va_P D vwCl (wM cI cZ h ad σ_33) H → va_D A (wM cI cZ h ad σ_33) → va_S A s.heap H locs → lv_has ls 7 [(0, .ref h), (1, .int x1_33), (2, .int x2_33), (3, .int x3_33), (4, .int x4_33), (5, .int x5_33), (6, .int x6_33)] → W p l e (headSpec wsM_isLaying { frames := 1, cells := 0, slots := 0, locals := 22 }).room s m ([.ref h, .int p1, .int p2, .int p3] : List Value).toArray below meth c H locs 0 0 (MQ below (va_Qi (fun x u => x = q.1 ∧ u = q.2) (preM D cI cZ h ad A) A) ([.ref h, .int p1, .int p2, .int p3] : List Value).toArray s 0 0 A) (F0 m 33 ls [.int t2_33, .int t1_33, .ref (ad 35)]) := by
    intro x1_33 x2_33 x3_33 x4_33 x5_33 x6_33 K_9 k_9 t1_33 t2_33 σ_33 H locs ls hF hP hD hS hl
    unfold FM_isLaying_33 at hF
    obtain ⟨g_33, hF⟩ := ob_gd hF
    refine stI hx hb hK hP hD hS (at_35 _ _ _ _ _) (st_35 _ _ _ _ _ _ _) g_33 dX10_isLaying_33 (fun H locs hP hD hS => ?_)
    refine lv_iload hx hb dX10_isLaying_34 (lv_at hl 5 rfl) ?_
    refine lv_iconst (v := (1 : Int32)) hx hb dX10_isLaying_36 (by decide) ?_
    refine lv_aload_n hx hb dX10_isLaying_37 rfl (lv_at hl 0 rfl) ?_
    refine gM hx hb hts hin hown hK hP 35 (.ref (ad 35)) (by decide) mf_105 rfl dX10_isLaying_38 ?_
    refine lv_iload hx hb dX10_isLaying_41 (lv_at hl 6 rfl) ?_
    obtain ⟨g_43, hF⟩ := ob_gd hF
    refine ldI hx hb hK hP (at_35 _ _ _ _ _) ((sa σ_33 35 t1_33 t2_33).2 35 x6_33.toNatClampNeg) g_43 rfl dX10_isLaying_43 ?_
    refine lv_ishl hx hb dX10_isLaying_44 ?_
    refine lv_ior hx hb dX10_isLaying_45 ?_
    refine lv_istore (lv' := [(5, .int (x5_33 ||| ((1 : Int32) <<< (((sa σ_33 35 t1_33 t2_33).2 35 x6_33.toNatClampNeg) &&& 31)))), (0, .ref h), (1, .int x1_33), (2, .int x2_33), (3, .int x3_33), (4, .int x4_33), (6, .int x6_33)]) hx hb dX10_isLaying_46 hl (by decide) rfl (fun ls hl => ?_)
    refine lv_iload hx hb dX10_isLaying_48 (lv_at hl 5 rfl) ?_
    refine lv_bipush (v := (6 : Int32)) hx hb dX10_isLaying_50 (by decide) ?_
    refine lv_idiv hx hb dX10_isLaying_52 (by decide) ?_
    refine lv_istore (lv' := [(4, .int (x4_33 / (6 : Int32))), (5, .int (x5_33 ||| ((1 : Int32) <<< (((sa σ_33 35 t1_33 t2_33).2 35 x6_33.toNatClampNeg) &&& 31)))), (0, .ref h), (1, .int x1_33), (2, .int x2_33), (3, .int x3_33), (6, .int x6_33)]) hx hb dX10_isLaying_53 hl (by decide) rfl (fun ls hl => ?_)
    refine lv_iinc (v := x6_33 + (-1 : Int32)) (lv' := [(6, .int (x6_33 + (-1 : Int32))), (4, .int (x4_33 / (6 : Int32))), (5, .int (x5_33 ||| ((1 : Int32) <<< (((sa σ_33 35 t1_33 t2_33).2 35 x6_33.toNatClampNeg) &&& 31)))), (0, .ref h), (1, .int x1_33), (2, .int x2_33), (3, .int x3_33)]) hx hb dX10_isLaying_55 hl (k := 6) rfl rfl (by decide) rfl (fun ls hl => ?_)
    refine lv_goto (tgt := 9) hx hb dX10_isLaying_58 (by decide) ?_
    exact k_9 (x4_33 / (6 : Int32)) (x5_33 ||| ((1 : Int32) <<< (((sa σ_33 35 t1_33 t2_33).2 35 x6_33.toNatClampNeg) &&& 31))) (x6_33 + (-1 : Int32)) (sa σ_33 35 t1_33 t2_33) _ _ _ hF hP hD hS (lv_sub hl [3, 4, 5, 6, 1, 2, 0] rfl)
  have b_9 : ∀ (x1_9 : Int32) (x2_9 : Int32) (x3_9 : Int32) (K_61 : Int32 → Int32 → MS → Option (Int32 × MS)) (k_61 : ∀ (x4_61 : Int32) (x5_61 : Int32) (σ_61 : MS) (H : Heap) (locs : List Loc) (ls : Array Slot), K_61 x4_61 x5_61 σ_61 = some q → va_P D vwCl (wM cI cZ h ad σ_61) H → va_D A (wM cI cZ h ad σ_61) → va_S A s.heap H locs → lv_has ls 7 [(0, .ref h), (1, .int x1_9), (2, .int x2_9), (3, .int x3_9), (4, .int x4_61), (5, .int x5_61)] → W p l e (headSpec wsM_isLaying { frames := 1, cells := 0, slots := 0, locals := 22 }).room s m ([.ref h, .int p1, .int p2, .int p3] : List Value).toArray below meth c H locs 0 0 (MQ below (va_Qi (fun x u => x = q.1 ∧ u = q.2) (preM D cI cZ h ad A) A) ([.ref h, .int p1, .int p2, .int p3] : List Value).toArray s 0 0 A) (F0 m 61 ls [])) (n_9 : Nat) (x4_9 : Int32) (x5_9 : Int32) (x6_9 : Int32) (σ_9 : MS) (H : Heap) (locs : List Loc) (ls : Array Slot), FM_isLaying_9 K_61 x1_9 x2_9 x3_9 n_9 x4_9 x5_9 x6_9 σ_9 = some q → va_P D vwCl (wM cI cZ h ad σ_9) H → va_D A (wM cI cZ h ad σ_9) → va_S A s.heap H locs → lv_has ls 7 [(0, .ref h), (1, .int x1_9), (2, .int x2_9), (3, .int x3_9), (4, .int x4_9), (5, .int x5_9), (6, .int x6_9)] → W p l e (headSpec wsM_isLaying { frames := 1, cells := 0, slots := 0, locals := 22 }).room s m ([.ref h, .int p1, .int p2, .int p3] : List Value).toArray below meth c H locs 0 0 (MQ below (va_Qi (fun x u => x = q.1 ∧ u = q.2) (preM D cI cZ h ad A) A) ([.ref h, .int p1, .int p2, .int p3] : List Value).toArray s 0 0 A) (F0 m 9 ls []) := by
    intro x1_9 x2_9 x3_9 K_61 k_61
    intro n_9
    induction n_9 with
    | zero =>
      intro x4_9 x5_9 x6_9 σ_9 H locs ls hF hP hD hS hl
      exact absurd hF (by simp [FM_isLaying_9])
    | succ n_9 ih_9 =>
      intro x4_9 x5_9 x6_9 σ_9 H locs ls hF hP hD hS hl
      rw [FM_isLaying_9] at hF
      refine lv_iload hx hb dX10_isLaying_9 (lv_at hl 6 rfl) ?_
      refine lv_if_lt (tgt := 61) hx hb dX10_isLaying_11 (by decide) (fun c_11 => ?_) (fun c_11 => ?_)
      · have hF := ob_t c_11 hF
        exact k_61 x4_9 x5_9 σ_9 _ _ _ hF hP hD hS (lv_sub hl [0, 1, 2, 3, 4, 5] rfl)
      · have hF := ob_f c_11 hF
        refine lv_aload_n hx hb dX10_isLaying_14 rfl (lv_at hl 0 rfl) ?_
        refine gM hx hb hts hin hown hK hP 35 (.ref (ad 35)) (by decide) mf_105 rfl dX10_isLaying_15 ?_
        refine lv_iload hx hb dX10_isLaying_18 (lv_at hl 6 rfl) ?_
        refine lv_iload_n hx hb dX10_isLaying_20 rfl (lv_at hl 1 rfl) ?_
        refine lv_if_ge (tgt := 28) hx hb dX10_isLaying_21 (by decide) (fun c_21 => ?_) (fun c_21 => ?_)
        · have hF := ob_t c_21 hF
          refine lv_iload hx hb dX10_isLaying_28 (lv_at hl 4 rfl) ?_
          refine lv_bipush (v := (6 : Int32)) hx hb dX10_isLaying_30 (by decide) ?_
          refine lv_irem hx hb dX10_isLaying_32 (by decide) ?_
          exact b_33 x1_9 x2_9 x3_9 x4_9 x5_9 x6_9 (fun x4_9 x5_9 x6_9 σ_9 => FM_isLaying_9 K_61 x1_9 x2_9 x3_9 n_9 x4_9 x5_9 x6_9 σ_9) ih_9 x6_9 (x4_9 - x4_9 / (6 : Int32) * (6 : Int32)) σ_9 _ _ _ hF hP hD hS hl
        · have hF := ob_f c_21 hF
          refine lv_iconst (v := (0 : Int32)) hx hb dX10_isLaying_24 (by decide) ?_
          refine lv_goto (tgt := 33) hx hb dX10_isLaying_25 (by decide) ?_
          exact b_33 x1_9 x2_9 x3_9 x4_9 x5_9 x6_9 (fun x4_9 x5_9 x6_9 σ_9 => FM_isLaying_9 K_61 x1_9 x2_9 x3_9 n_9 x4_9 x5_9 x6_9 σ_9) ih_9 x6_9 (0 : Int32) σ_9 _ _ _ hF hP hD hS hl
  have b_61 : ∀ (x1_61 : Int32) (x2_61 : Int32) (x3_61 : Int32) (x4_61 : Int32) (x5_61 : Int32) (σ_61 : MS) (H : Heap) (locs : List Loc) (ls : Array Slot), FM_isLaying_61 x1_61 x2_61 x3_61 x4_61 x5_61 σ_61 = some q → va_P D vwCl (wM cI cZ h ad σ_61) H → va_D A (wM cI cZ h ad σ_61) → va_S A s.heap H locs → lv_has ls 7 [(0, .ref h), (1, .int x1_61), (2, .int x2_61), (3, .int x3_61), (4, .int x4_61), (5, .int x5_61)] → W p l e (headSpec wsM_isLaying { frames := 1, cells := 0, slots := 0, locals := 22 }).room s m ([.ref h, .int p1, .int p2, .int p3] : List Value).toArray below meth c H locs 0 0 (MQ below (va_Qi (fun x u => x = q.1 ∧ u = q.2) (preM D cI cZ h ad A) A) ([.ref h, .int p1, .int p2, .int p3] : List Value).toArray s 0 0 A) (F0 m 61 ls []) := by
    intro x1_61 x2_61 x3_61 x4_61 x5_61 σ_61 H locs ls hF hP hD hS hl
    unfold FM_isLaying_61 at hF
    refine lv_iload_n hx hb dX10_isLaying_61 rfl (lv_at hl 1 rfl) ?_
    refine lv_if_lt (tgt := 105) hx hb dX10_isLaying_62 (by decide) (fun c_62 => ?_) (fun c_62 => ?_)
    · have hF := ob_t c_62 hF
      refine lv_iconst (v := (0 : Int32)) hx hb dX10_isLaying_105 (by decide) ?_
      exact rxM hx hb hr hlocks rfl hF hK hP hD hS dX10_isLaying_106
    · have hF := ob_f c_62 hF
      refine lv_iload hx hb dX10_isLaying_65 (lv_at hl 4 rfl) ?_
      refine lv_if_ne (tgt := 105) hx hb dX10_isLaying_67 (by decide) (fun c_67 => ?_) (fun c_67 => ?_)
      · have hF := ob_f c_67 hF
        refine lv_iconst (v := (0 : Int32)) hx hb dX10_isLaying_105 (by decide) ?_
        exact rxM hx hb hr hlocks rfl hF hK hP hD hS dX10_isLaying_106
      · have hF := ob_t c_67 hF
        refine lv_iload hx hb dX10_isLaying_70 (lv_at hl 5 rfl) ?_
        refine lv_bipush (v := (63 : Int32)) hx hb dX10_isLaying_72 (by decide) ?_
        refine lv_icmp_ne (tgt := 105) hx hb dX10_isLaying_74 (by decide) (fun c_74 => ?_) (fun c_74 => ?_)
        · have hF := ob_f c_74 hF
          refine lv_iconst (v := (0 : Int32)) hx hb dX10_isLaying_105 (by decide) ?_
          exact rxM hx hb hr hlocks rfl hF hK hP hD hS dX10_isLaying_106
        · have hF := ob_t c_74 hF
          refine lv_iload_n hx hb dX10_isLaying_77 rfl (lv_at hl 2 rfl) ?_
          refine lv_iconst (v := (0 : Int32)) hx hb dX10_isLaying_78 (by decide) ?_
          refine lv_bipush (v := (63 : Int32)) hx hb dX10_isLaying_79 (by decide) ?_
          obtain ⟨q_81, e_81, hF⟩ := ob_bd hF
          refine csM (As := [.int x2_61, .int (0 : Int32), .int (63 : Int32)]) (rest := []) ⟨hx, hb, hml, hown, hts⟩ (cM_in l x2_61 (0 : Int32) (63 : Int32) _ e_81) (cw_in hts ⟨Nat.le_of_ble_eq_true rfl, Nat.le_of_ble_eq_true rfl⟩) rfl hl.1 rfl (lv_room (Nat.le_of_ble_eq_true rfl)) dX10_isLaying_81 ?_
          refine lv_if_eq (tgt := 105) hx hb dX10_isLaying_84 (by decide) (fun c_84 => ?_) (fun c_84 => ?_)
          · have hF := ob_t c_84 hF
            refine lv_iconst (v := (0 : Int32)) hx hb dX10_isLaying_105 (by decide) ?_
            exact rxM hx hb hr hlocks rfl hF hK hP hD hS dX10_isLaying_106
          · have hF := ob_f c_84 hF
            refine lv_iload_n hx hb dX10_isLaying_87 rfl (lv_at hl 3 rfl) ?_
            refine lv_if_eq (tgt := 101) hx hb dX10_isLaying_88 (by decide) (fun c_88 => ?_) (fun c_88 => ?_)
            · have hF := ob_t c_88 hF
              refine lv_iconst (v := (1 : Int32)) hx hb dX10_isLaying_101 (by decide) ?_
              refine lv_goto (tgt := 106) hx hb dX10_isLaying_102 (by decide) ?_
              exact rxM hx hb hr hlocks rfl hF hK hP hD hS dX10_isLaying_106
            · have hF := ob_f c_88 hF
              refine lv_iload_n hx hb dX10_isLaying_91 rfl (lv_at hl 2 rfl) ?_
              refine lv_if_eq (tgt := 101) hx hb dX10_isLaying_92 (by decide) (fun c_92 => ?_) (fun c_92 => ?_)
              · have hF := ob_t c_92 hF
                refine lv_iconst (v := (1 : Int32)) hx hb dX10_isLaying_101 (by decide) ?_
                refine lv_goto (tgt := 106) hx hb dX10_isLaying_102 (by decide) ?_
                exact rxM hx hb hr hlocks rfl hF hK hP hD hS dX10_isLaying_106
              · have hF := ob_f c_92 hF
                refine lv_iload_n hx hb dX10_isLaying_95 rfl (lv_at hl 2 rfl) ?_
                refine lv_bipush (v := (63 : Int32)) hx hb dX10_isLaying_96 (by decide) ?_
                refine lv_icmp_ne (tgt := 105) hx hb dX10_isLaying_98 (by decide) (fun c_98 => ?_) (fun c_98 => ?_)
                · have hF := ob_f c_98 hF
                  refine lv_iconst (v := (0 : Int32)) hx hb dX10_isLaying_105 (by decide) ?_
                  exact rxM hx hb hr hlocks rfl hF hK hP hD hS dX10_isLaying_106
                · have hF := ob_t c_98 hF
                  refine lv_iconst (v := (1 : Int32)) hx hb dX10_isLaying_101 (by decide) ?_
                  refine lv_goto (tgt := 106) hx hb dX10_isLaying_102 (by decide) ?_
                  exact rxM hx hb hr hlocks rfl hF hK hP hD hS dX10_isLaying_106
  have hl := lv_entry ([.ref h, .int p1, .int p2, .int p3]) (n := 7) (Nat.le_of_ble_eq_true rfl)
  rw [lg_entry_eq]
  generalize (lg_sl ([.ref h, .int p1, .int p2, .int p3]) ++ List.replicate (7 - (lg_sl ([.ref h, .int p1, .int p2, .int p3])).length) Slot.unset).toArray = ls at hl ⊢
  have hl : lv_has ls 7 [(0, .ref h), (1, .int p1), (2, .int p2), (3, .int p3)] := hl
  unfold FM_isLaying at hF
  refine lv_iload_n hx hb dX10_isLaying_0 rfl (lv_at hl 1 rfl) ?_
  refine lv_istore (lv' := [(4, .int p1), (0, .ref h), (1, .int p1), (2, .int p2), (3, .int p3)]) hx hb dX10_isLaying_1 hl (by decide) rfl (fun ls hl => ?_)
  refine lv_iconst (v := (0 : Int32)) hx hb dX10_isLaying_3 (by decide) ?_
  refine lv_istore (lv' := [(5, .int (0 : Int32)), (4, .int p1), (0, .ref h), (1, .int p1), (2, .int p2), (3, .int p3)]) hx hb dX10_isLaying_4 hl (by decide) rfl (fun ls hl => ?_)
  refine lv_iconst (v := (5 : Int32)) hx hb dX10_isLaying_6 (by decide) ?_
  refine lv_istore (lv' := [(6, .int (5 : Int32)), (5, .int (0 : Int32)), (4, .int p1), (0, .ref h), (1, .int p1), (2, .int p2), (3, .int p3)]) hx hb dX10_isLaying_7 hl (by decide) rfl (fun ls hl => ?_)
  exact b_9 p1 p2 p3 (fun x4_61 x5_61 σ_61 => FM_isLaying_61 p1 p2 p3 x4_61 x5_61 σ_61) (fun x4_61 x5_61 σ_61 => b_61 p1 p2 p3 x4_61 x5_61 σ_61) fu p1 (0 : Int32) (5 : Int32) σ _ _ _ hF hP hD hS (lv_sub hl [3, 4, 5, 6, 2, 1, 0] rfl)
def FM_lays_84 (K_36 : Int32 → MS → Option MS) (x2_84 : Int32) (x3_84 : Int32) (x4_84 : Int32) (x5_84 : Int32) (x6_84 : Int32) (x7_84 : Int32) (t1_84 : Int32) (t3_84 : Int32) (t4_84 : Int32) (σ_84 : MS) : Option MS := (gd (inb (t3_84 + t4_84) 4800) (gd (inb t1_84 120) (K_36 (x7_84 + (1 : Int32)) (sa σ_84 34 t1_84 (σ_84.2 5 (t3_84 + t4_84).toNatClampNeg)))))
def FM_lays_36 (K_93 : MS → Option MS) (x2_36 : Int32) (x3_36 : Int32) (x4_36 : Int32) (x5_36 : Int32) (x6_36 : Int32) : Nat → Int32 → MS → Option MS
  | 0, _, _ => none
  | n_36 + 1, x7_36, σ_36 => (if x6_36 ≤ x7_36 then (K_93 σ_36) else (gd (inb x5_36 6) (if ((x2_36 >>> (x5_36 &&& 31)) &&& (1 : Int32)) = (1 : Int32) then (FM_lays_84 (fun x7_36 σ_36 => FM_lays_36 K_93 x2_36 x3_36 x4_36 x5_36 x6_36 n_36 x7_36 σ_36) x2_36 x3_36 x4_36 x5_36 x6_36 x7_36 ((σ_36.2 33 x5_36.toNatClampNeg) + x7_36) x3_36 ((x6_36 - (1 : Int32)) - x7_36) σ_36) else (FM_lays_84 (fun x7_36 σ_36 => FM_lays_36 K_93 x2_36 x3_36 x4_36 x5_36 x6_36 n_36 x7_36 σ_36) x2_36 x3_36 x4_36 x5_36 x6_36 x7_36 ((σ_36.2 33 x5_36.toNatClampNeg) + x7_36) x3_36 x7_36 σ_36))))
def FM_lays_93 (K_8 : Int32 → Int32 → MS → Option MS) (x2_93 : Int32) (x3_93 : Int32) (x4_93 : Int32) (x6_93 : Int32) (σ_93 : MS) : Option MS := (K_8 (x3_93 + x6_93) (x4_93 + (1 : Int32)) σ_93)
def FM_lays_8 (x2_8 : Int32) : Nat → Int32 → Int32 → MS → Option MS
  | 0, _, _, _ => none
  | n_8 + 1, x3_8, x4_8, σ_8 => (if (6 : Int32) ≤ x4_8 then (some σ_8) else (gd (inb x4_8 6) (gd (inb (σ_8.2 35 x4_8.toNatClampNeg) 6) (FM_lays_36 (fun σ_93 => FM_lays_93 (fun x3_8 x4_8 σ_8 => FM_lays_8  x2_8 n_8 x3_8 x4_8 σ_8) x2_8 x3_8 x4_8 (σ_8.2 32 (σ_8.2 35 x4_8.toNatClampNeg).toNatClampNeg) σ_93) x2_8 x3_8 x4_8 (σ_8.2 35 x4_8.toNatClampNeg) (σ_8.2 32 (σ_8.2 35 x4_8.toNatClampNeg).toNatClampNeg) fu (0 : Int32) σ_8))))
def FM_lays (σ : MS) (p1 : Int32) (p2 : Int32) : Option MS := (FM_lays_8 p2 fu ((120 : Int32) * p1) (0 : Int32) σ)
def wsM_lays : List Cond := Cond.code yX10_lays cX10_lays 8 none :: wMa
theorem cw_lays {R : Room} {s : State} {args : Array Value} {y : MethodName} {c : ByteArray} {n : Nat} {r : Option FieldType} (hts : ∀ w ∈ (Cond.code y c n r :: wMa), w.before args s = true) (hR : 0 + 1 ≤ R.frames ∧ 8 + (8 + 11) + 0 ≤ R.locals) : CallW R s args RX10 RX10 190 yX10_lays cX10_lays 8 none wsM_lays { frames := 0, cells := 0, slots := 0, locals := 0 } 0 0 2 := cwV 2 hts (goodMV mm_190 mi_lays ms_lays m_ini mc_lays) rfl rfl rfl (by decide +kernel) hR
set_option maxHeartbeats 4000000 in
set_option maxRecDepth 100000 in
theorem cM_lays (l : Launch) (D : va_G) (cI cZ : ClassId) (h : Nat) (ad : Nat → Nat) (A : Nat → Prop) (σ : MS) (p1 : Int32) (p2 : Int32) (q : MS) (hF : FM_lays σ p1 p2 = some q) : Met l yX10_lays wsM_lays { frames := 0, cells := 0, slots := 0, locals := 0 } (va_Pc [.ref h, .int p1, .int p2] (preM D cI cZ h ad A σ)) (va_Qv (fun u => u = q) (preM D cI cZ h ad A) A) 0 0 A := by
  refine Met.ofW (cc := cX10_lays) (maxL := 8) (ret := none) (by decide) rfl ?_
  intro p e s m args below meth c s₁ B hml hv
  obtain ⟨rfl, hP, hK, hD⟩ := hv
  have hx := B.exec
  have hb := B.bytes
  have hr := B.returns
  have hts : ∀ w ∈ (Cond.code yX10_lays cX10_lays 8 none :: wMa), w.before ([.ref h, .int p1, .int p2] : List Value).toArray s = true := atoms_spec (ws := wsM_lays) B.pre
  have hin : ∀ w ∈ wMa, w ∈ (Cond.code yX10_lays cX10_lays 8 none :: wMa) := fun w hw => List.mem_cons_of_mem _ hw
  have hown : s.vm.findClass RX10 = some m.cls := findClass_of_methodNamed B.named
  have hlocks := B.notSynchronized
  have hS : va_S A s.heap s.heap [] := va_S.rf
  have b_84 : ∀ (x2_84 : Int32) (x3_84 : Int32) (x4_84 : Int32) (x5_84 : Int32) (x6_84 : Int32) (x7_84 : Int32) (K_36 : Int32 → MS → Option MS) (k_36 : ∀ (x7_36 : Int32) (σ_36 : MS) (H : Heap) (locs : List Loc) (ls : Array Slot), K_36 x7_36 σ_36 = some q → va_P D vwCl (wM cI cZ h ad σ_36) H → va_D A (wM cI cZ h ad σ_36) → va_S A s.heap H locs → lv_has ls 8 [(0, .ref h), (2, .int x2_84), (3, .int x3_84), (4, .int x4_84), (5, .int x5_84), (6, .int x6_84), (7, .int x7_36)] → W p l e (headSpec wsM_lays { frames := 0, cells := 0, slots := 0, locals := 0 }).room s m ([.ref h, .int p1, .int p2] : List Value).toArray below meth c H locs 0 0 (MQ below (va_Qv (fun u => u = q) (preM D cI cZ h ad A) A) ([.ref h, .int p1, .int p2] : List Value).toArray s 0 0 A) (F0 m 36 ls [])) (t1_84 : Int32) (t3_84 : Int32) (t4_84 : Int32) (σ_84 : MS) (H : Heap) (locs : List Loc) (ls : Array Slot), FM_lays_84 K_36 x2_84 x3_84 x4_84 x5_84 x6_84 x7_84 t1_84 t3_84 t4_84 σ_84 = some q → va_P D vwCl (wM cI cZ h ad σ_84) H → va_D A (wM cI cZ h ad σ_84) → va_S A s.heap H locs → lv_has ls 8 [(0, .ref h), (2, .int x2_84), (3, .int x3_84), (4, .int x4_84), (5, .int x5_84), (6, .int x6_84), (7, .int x7_84)] → W p l e (headSpec wsM_lays { frames := 0, cells := 0, slots := 0, locals := 0 }).room s m ([.ref h, .int p1, .int p2] : List Value).toArray below meth c H locs 0 0 (MQ below (va_Qv (fun u => u = q) (preM D cI cZ h ad A) A) ([.ref h, .int p1, .int p2] : List Value).toArray s 0 0 A) (F0 m 84 ls [.int t4_84, .int t3_84, .ref (ad 5), .int t1_84, .ref (ad 34)]) := by
    intro x2_84 x3_84 x4_84 x5_84 x6_84 x7_84 K_36 k_36 t1_84 t3_84 t4_84 σ_84 H locs ls hF hP hD hS hl
    unfold FM_lays_84 at hF
    refine lv_iadd hx hb dX10_lays_84 ?_
    obtain ⟨g_85, hF⟩ := ob_gd hF
    refine ldI hx hb hK hP (at_5 _ _ _ _ _) (σ_84.2 5 (t3_84 + t4_84).toNatClampNeg) g_85 rfl dX10_lays_85 ?_
    obtain ⟨g_86, hF⟩ := ob_gd hF
    refine stI hx hb hK hP hD hS (at_34 _ _ _ _ _) (st_34 _ _ _ _ _ _ _) g_86 dX10_lays_86 (fun H locs hP hD hS => ?_)
    refine lv_iinc (v := x7_84 + (1 : Int32)) (lv' := [(7, .int (x7_84 + (1 : Int32))), (0, .ref h), (2, .int x2_84), (3, .int x3_84), (4, .int x4_84), (5, .int x5_84), (6, .int x6_84)]) hx hb dX10_lays_87 hl (k := 6) rfl rfl (by decide) rfl (fun ls hl => ?_)
    refine lv_goto (tgt := 36) hx hb dX10_lays_90 (by decide) ?_
    exact k_36 (x7_84 + (1 : Int32)) (sa σ_84 34 t1_84 (σ_84.2 5 (t3_84 + t4_84).toNatClampNeg)) _ _ _ hF hP hD hS (lv_sub hl [1, 2, 3, 4, 5, 6, 0] rfl)
  have b_36 : ∀ (x2_36 : Int32) (x3_36 : Int32) (x4_36 : Int32) (x5_36 : Int32) (x6_36 : Int32) (K_93 : MS → Option MS) (k_93 : ∀ (σ_93 : MS) (H : Heap) (locs : List Loc) (ls : Array Slot), K_93 σ_93 = some q → va_P D vwCl (wM cI cZ h ad σ_93) H → va_D A (wM cI cZ h ad σ_93) → va_S A s.heap H locs → lv_has ls 8 [(0, .ref h), (2, .int x2_36), (3, .int x3_36), (4, .int x4_36), (6, .int x6_36)] → W p l e (headSpec wsM_lays { frames := 0, cells := 0, slots := 0, locals := 0 }).room s m ([.ref h, .int p1, .int p2] : List Value).toArray below meth c H locs 0 0 (MQ below (va_Qv (fun u => u = q) (preM D cI cZ h ad A) A) ([.ref h, .int p1, .int p2] : List Value).toArray s 0 0 A) (F0 m 93 ls [])) (n_36 : Nat) (x7_36 : Int32) (σ_36 : MS) (H : Heap) (locs : List Loc) (ls : Array Slot), FM_lays_36 K_93 x2_36 x3_36 x4_36 x5_36 x6_36 n_36 x7_36 σ_36 = some q → va_P D vwCl (wM cI cZ h ad σ_36) H → va_D A (wM cI cZ h ad σ_36) → va_S A s.heap H locs → lv_has ls 8 [(0, .ref h), (2, .int x2_36), (3, .int x3_36), (4, .int x4_36), (5, .int x5_36), (6, .int x6_36), (7, .int x7_36)] → W p l e (headSpec wsM_lays { frames := 0, cells := 0, slots := 0, locals := 0 }).room s m ([.ref h, .int p1, .int p2] : List Value).toArray below meth c H locs 0 0 (MQ below (va_Qv (fun u => u = q) (preM D cI cZ h ad A) A) ([.ref h, .int p1, .int p2] : List Value).toArray s 0 0 A) (F0 m 36 ls []) := by
    intro x2_36 x3_36 x4_36 x5_36 x6_36 K_93 k_93
    intro n_36
    induction n_36 with
    | zero =>
      intro x7_36 σ_36 H locs ls hF hP hD hS hl
      exact absurd hF (by simp [FM_lays_36])
    | succ n_36 ih_36 =>
      intro x7_36 σ_36 H locs ls hF hP hD hS hl
      rw [FM_lays_36] at hF
      refine lv_iload hx hb dX10_lays_36 (lv_at hl 6 rfl) ?_
      refine lv_iload hx hb dX10_lays_38 (lv_at hl 5 rfl) ?_
      refine lv_icmp_ge (tgt := 93) hx hb dX10_lays_40 (by decide) (fun c_40 => ?_) (fun c_40 => ?_)
      · have hF := ob_t c_40 hF
        exact k_93 σ_36 _ _ _ hF hP hD hS (lv_sub hl [0, 1, 2, 3, 5] rfl)
      · have hF := ob_f c_40 hF
        refine lv_aload_n hx hb dX10_lays_43 rfl (lv_at hl 0 rfl) ?_
        refine gM hx hb hts hin hown hK hP 34 (.ref (ad 34)) (by decide) mf_102 rfl dX10_lays_44 ?_
        refine lv_aload_n hx hb dX10_lays_47 rfl (lv_at hl 0 rfl) ?_
        refine gM hx hb hts hin hown hK hP 33 (.ref (ad 33)) (by decide) mf_99 rfl dX10_lays_48 ?_
        refine lv_iload hx hb dX10_lays_51 (lv_at hl 4 rfl) ?_
        obtain ⟨g_53, hF⟩ := ob_gd hF
        refine ldI hx hb hK hP (at_33 _ _ _ _ _) (σ_36.2 33 x5_36.toNatClampNeg) g_53 rfl dX10_lays_53 ?_
        refine lv_iload hx hb dX10_lays_54 (lv_at hl 6 rfl) ?_
        refine lv_iadd hx hb dX10_lays_56 ?_
        refine lv_aload_n hx hb dX10_lays_57 rfl (lv_at hl 0 rfl) ?_
        refine gM hx hb hts hin hown hK hP 5 (.ref (ad 5)) (by decide) mf_23 rfl dX10_lays_58 ?_
        refine lv_iload_n hx hb dX10_lays_61 rfl (lv_at hl 2 rfl) ?_
        refine lv_iload_n hx hb dX10_lays_62 rfl (lv_at hl 1 rfl) ?_
        refine lv_iload hx hb dX10_lays_63 (lv_at hl 4 rfl) ?_
        refine lv_ishr hx hb dX10_lays_65 ?_
        refine lv_iconst (v := (1 : Int32)) hx hb dX10_lays_66 (by decide) ?_
        refine lv_iand hx hb dX10_lays_67 ?_
        refine lv_iconst (v := (1 : Int32)) hx hb dX10_lays_68 (by decide) ?_
        refine lv_icmp_ne (tgt := 82) hx hb dX10_lays_69 (by decide) (fun c_69 => ?_) (fun c_69 => ?_)
        · have hF := ob_f c_69 hF
          refine lv_iload hx hb dX10_lays_82 (lv_at hl 6 rfl) ?_
          exact b_84 x2_36 x3_36 x4_36 x5_36 x6_36 x7_36 (fun x7_36 σ_36 => FM_lays_36 K_93 x2_36 x3_36 x4_36 x5_36 x6_36 n_36 x7_36 σ_36) ih_36 ((σ_36.2 33 x5_36.toNatClampNeg) + x7_36) x3_36 x7_36 σ_36 _ _ _ hF hP hD hS hl
        · have hF := ob_t c_69 hF
          refine lv_iload hx hb dX10_lays_72 (lv_at hl 5 rfl) ?_
          refine lv_iconst (v := (1 : Int32)) hx hb dX10_lays_74 (by decide) ?_
          refine lv_isub hx hb dX10_lays_75 ?_
          refine lv_iload hx hb dX10_lays_76 (lv_at hl 6 rfl) ?_
          refine lv_isub hx hb dX10_lays_78 ?_
          refine lv_goto (tgt := 84) hx hb dX10_lays_79 (by decide) ?_
          exact b_84 x2_36 x3_36 x4_36 x5_36 x6_36 x7_36 (fun x7_36 σ_36 => FM_lays_36 K_93 x2_36 x3_36 x4_36 x5_36 x6_36 n_36 x7_36 σ_36) ih_36 ((σ_36.2 33 x5_36.toNatClampNeg) + x7_36) x3_36 ((x6_36 - (1 : Int32)) - x7_36) σ_36 _ _ _ hF hP hD hS hl
  have b_93 : ∀ (x2_93 : Int32) (x3_93 : Int32) (x4_93 : Int32) (x6_93 : Int32) (K_8 : Int32 → Int32 → MS → Option MS) (k_8 : ∀ (x3_8 : Int32) (x4_8 : Int32) (σ_8 : MS) (H : Heap) (locs : List Loc) (ls : Array Slot), K_8 x3_8 x4_8 σ_8 = some q → va_P D vwCl (wM cI cZ h ad σ_8) H → va_D A (wM cI cZ h ad σ_8) → va_S A s.heap H locs → lv_has ls 8 [(0, .ref h), (2, .int x2_93), (3, .int x3_8), (4, .int x4_8)] → W p l e (headSpec wsM_lays { frames := 0, cells := 0, slots := 0, locals := 0 }).room s m ([.ref h, .int p1, .int p2] : List Value).toArray below meth c H locs 0 0 (MQ below (va_Qv (fun u => u = q) (preM D cI cZ h ad A) A) ([.ref h, .int p1, .int p2] : List Value).toArray s 0 0 A) (F0 m 8 ls [])) (σ_93 : MS) (H : Heap) (locs : List Loc) (ls : Array Slot), FM_lays_93 K_8 x2_93 x3_93 x4_93 x6_93 σ_93 = some q → va_P D vwCl (wM cI cZ h ad σ_93) H → va_D A (wM cI cZ h ad σ_93) → va_S A s.heap H locs → lv_has ls 8 [(0, .ref h), (2, .int x2_93), (3, .int x3_93), (4, .int x4_93), (6, .int x6_93)] → W p l e (headSpec wsM_lays { frames := 0, cells := 0, slots := 0, locals := 0 }).room s m ([.ref h, .int p1, .int p2] : List Value).toArray below meth c H locs 0 0 (MQ below (va_Qv (fun u => u = q) (preM D cI cZ h ad A) A) ([.ref h, .int p1, .int p2] : List Value).toArray s 0 0 A) (F0 m 93 ls []) := by
    intro x2_93 x3_93 x4_93 x6_93 K_8 k_8 σ_93 H locs ls hF hP hD hS hl
    unfold FM_lays_93 at hF
    refine lv_iload_n hx hb dX10_lays_93 rfl (lv_at hl 2 rfl) ?_
    refine lv_iload hx hb dX10_lays_94 (lv_at hl 4 rfl) ?_
    refine lv_iadd hx hb dX10_lays_96 ?_
    refine lv_istore_n (lv' := [(3, .int (x3_93 + x6_93)), (0, .ref h), (2, .int x2_93), (4, .int x4_93), (6, .int x6_93)]) hx hb dX10_lays_97 rfl hl (by decide) rfl (fun ls hl => ?_)
    refine lv_iinc (v := x4_93 + (1 : Int32)) (lv' := [(4, .int (x4_93 + (1 : Int32))), (3, .int (x3_93 + x6_93)), (0, .ref h), (2, .int x2_93), (6, .int x6_93)]) hx hb dX10_lays_98 hl (k := 3) rfl rfl (by decide) rfl (fun ls hl => ?_)
    refine lv_goto (tgt := 8) hx hb dX10_lays_101 (by decide) ?_
    exact k_8 (x3_93 + x6_93) (x4_93 + (1 : Int32)) σ_93 _ _ _ hF hP hD hS (lv_sub hl [2, 3, 1, 0] rfl)
  have b_8 : ∀ (x2_8 : Int32) (n_8 : Nat) (x3_8 : Int32) (x4_8 : Int32) (σ_8 : MS) (H : Heap) (locs : List Loc) (ls : Array Slot), FM_lays_8 x2_8 n_8 x3_8 x4_8 σ_8 = some q → va_P D vwCl (wM cI cZ h ad σ_8) H → va_D A (wM cI cZ h ad σ_8) → va_S A s.heap H locs → lv_has ls 8 [(0, .ref h), (2, .int x2_8), (3, .int x3_8), (4, .int x4_8)] → W p l e (headSpec wsM_lays { frames := 0, cells := 0, slots := 0, locals := 0 }).room s m ([.ref h, .int p1, .int p2] : List Value).toArray below meth c H locs 0 0 (MQ below (va_Qv (fun u => u = q) (preM D cI cZ h ad A) A) ([.ref h, .int p1, .int p2] : List Value).toArray s 0 0 A) (F0 m 8 ls []) := by
    intro x2_8
    intro n_8
    induction n_8 with
    | zero =>
      intro x3_8 x4_8 σ_8 H locs ls hF hP hD hS hl
      exact absurd hF (by simp [FM_lays_8])
    | succ n_8 ih_8 =>
      intro x3_8 x4_8 σ_8 H locs ls hF hP hD hS hl
      rw [FM_lays_8] at hF
      refine lv_iload hx hb dX10_lays_8 (lv_at hl 3 rfl) ?_
      refine lv_bipush (v := (6 : Int32)) hx hb dX10_lays_10 (by decide) ?_
      refine lv_icmp_ge (tgt := 104) hx hb dX10_lays_12 (by decide) (fun c_12 => ?_) (fun c_12 => ?_)
      · have hF := ob_t c_12 hF
        exact rvM hx hb hr hlocks hF hK hP hD hS dX10_lays_104
      · have hF := ob_f c_12 hF
        refine lv_aload_n hx hb dX10_lays_15 rfl (lv_at hl 0 rfl) ?_
        refine gM hx hb hts hin hown hK hP 35 (.ref (ad 35)) (by decide) mf_105 rfl dX10_lays_16 ?_
        refine lv_iload hx hb dX10_lays_19 (lv_at hl 3 rfl) ?_
        obtain ⟨g_21, hF⟩ := ob_gd hF
        refine ldI hx hb hK hP (at_35 _ _ _ _ _) (σ_8.2 35 x4_8.toNatClampNeg) g_21 rfl dX10_lays_21 ?_
        refine lv_istore (lv' := [(5, .int (σ_8.2 35 x4_8.toNatClampNeg)), (0, .ref h), (2, .int x2_8), (3, .int x3_8), (4, .int x4_8)]) hx hb dX10_lays_22 hl (by decide) rfl (fun ls hl => ?_)
        refine lv_aload_n hx hb dX10_lays_24 rfl (lv_at hl 1 rfl) ?_
        refine gM hx hb hts hin hown hK hP 32 (.ref (ad 32)) (by decide) mf_96 rfl dX10_lays_25 ?_
        refine lv_iload hx hb dX10_lays_28 (lv_at hl 0 rfl) ?_
        obtain ⟨g_30, hF⟩ := ob_gd hF
        refine ldI hx hb hK hP (at_32 _ _ _ _ _) (σ_8.2 32 (σ_8.2 35 x4_8.toNatClampNeg).toNatClampNeg) g_30 rfl dX10_lays_30 ?_
        refine lv_istore (lv' := [(6, .int (σ_8.2 32 (σ_8.2 35 x4_8.toNatClampNeg).toNatClampNeg)), (5, .int (σ_8.2 35 x4_8.toNatClampNeg)), (0, .ref h), (2, .int x2_8), (3, .int x3_8), (4, .int x4_8)]) hx hb dX10_lays_31 hl (by decide) rfl (fun ls hl => ?_)
        refine lv_iconst (v := (0 : Int32)) hx hb dX10_lays_33 (by decide) ?_
        refine lv_istore (lv' := [(7, .int (0 : Int32)), (6, .int (σ_8.2 32 (σ_8.2 35 x4_8.toNatClampNeg).toNatClampNeg)), (5, .int (σ_8.2 35 x4_8.toNatClampNeg)), (0, .ref h), (2, .int x2_8), (3, .int x3_8), (4, .int x4_8)]) hx hb dX10_lays_34 hl (by decide) rfl (fun ls hl => ?_)
        exact b_36 x2_8 x3_8 x4_8 (σ_8.2 35 x4_8.toNatClampNeg) (σ_8.2 32 (σ_8.2 35 x4_8.toNatClampNeg).toNatClampNeg) (fun σ_93 => FM_lays_93 (fun x3_8 x4_8 σ_8 => FM_lays_8  x2_8 n_8 x3_8 x4_8 σ_8) x2_8 x3_8 x4_8 (σ_8.2 32 (σ_8.2 35 x4_8.toNatClampNeg).toNatClampNeg) σ_93) (fun σ_93 => b_93 x2_8 x3_8 x4_8 (σ_8.2 32 (σ_8.2 35 x4_8.toNatClampNeg).toNatClampNeg) (fun x3_8 x4_8 σ_8 => FM_lays_8  x2_8 n_8 x3_8 x4_8 σ_8) ih_8 σ_93) fu (0 : Int32) σ_8 _ _ _ hF hP hD hS (lv_sub hl [3, 4, 5, 6, 2, 1, 0] rfl)
  have hl := lv_entry ([.ref h, .int p1, .int p2]) (n := 8) (Nat.le_of_ble_eq_true rfl)
  rw [lg_entry_eq]
  generalize (lg_sl ([.ref h, .int p1, .int p2]) ++ List.replicate (8 - (lg_sl ([.ref h, .int p1, .int p2])).length) Slot.unset).toArray = ls at hl ⊢
  have hl : lv_has ls 8 [(0, .ref h), (1, .int p1), (2, .int p2)] := hl
  unfold FM_lays at hF
  refine lv_bipush (v := (120 : Int32)) hx hb dX10_lays_0 (by decide) ?_
  refine lv_iload_n hx hb dX10_lays_2 rfl (lv_at hl 1 rfl) ?_
  refine lv_imul hx hb dX10_lays_3 ?_
  refine lv_istore_n (lv' := [(3, .int ((120 : Int32) * p1)), (0, .ref h), (1, .int p1), (2, .int p2)]) hx hb dX10_lays_4 rfl hl (by decide) rfl (fun ls hl => ?_)
  refine lv_iconst (v := (0 : Int32)) hx hb dX10_lays_5 (by decide) ?_
  refine lv_istore (lv' := [(4, .int (0 : Int32)), (3, .int ((120 : Int32) * p1)), (0, .ref h), (1, .int p1), (2, .int p2)]) hx hb dX10_lays_6 hl (by decide) rfl (fun ls hl => ?_)
  exact b_8 p2 fu ((120 : Int32) * p1) (0 : Int32) σ _ _ _ hF hP hD hS (lv_sub hl [2, 4, 1, 0] rfl)
def FM_uglyNow_9 (σ : MS) : Nat → Int32 → Int32 → Option Int32
  | 0, _, _ => none
  | n_9 + 1, x1_9, x2_9 => (if (5 : Int32) ≤ x2_9 then (some x1_9) else ((FM_seam σ x2_9).bind fun q_17 => (FM_uglyNow_9 σ  n_9 (x1_9 + q_17) (x2_9 + (1 : Int32)))))
def FM_uglyNow (σ : MS) : Option Int32 := ((FM_shown σ).bind fun q_2 => (FM_uglyNow_9 σ fu ((5 : Int32) * q_2) (0 : Int32)))
def wsM_uglyNow : List Cond := Cond.code yX10_uglyNow cX10_uglyNow 3 (some .int) :: wMa
theorem cw_uglyNow {R : Room} {s : State} {args : Array Value} {y : MethodName} {c : ByteArray} {n : Nat} {r : Option FieldType} (hts : ∀ w ∈ (Cond.code y c n r :: wMa), w.before args s = true) (hR : 2 + 1 ≤ R.frames ∧ 8 + (3 + 11) + 48 ≤ R.locals) : CallW R s args RX10 RX10 197 yX10_uglyNow cX10_uglyNow 3 (some .int) wsM_uglyNow { frames := 2, cells := 0, slots := 0, locals := 48 } 0 0 0 := cwV 0 hts (goodMV mm_197 mi_uglyNow ms_uglyNow m_ini mc_uglyNow) rfl rfl rfl (by decide +kernel) hR
set_option maxHeartbeats 4000000 in
set_option maxRecDepth 100000 in
theorem cM_uglyNow (l : Launch) (D : va_G) (cI cZ : ClassId) (h : Nat) (ad : Nat → Nat) (σ : MS) (q : Int32) (hF : FM_uglyNow σ = some q) : Met l yX10_uglyNow wsM_uglyNow { frames := 2, cells := 0, slots := 0, locals := 48 } (va_Pc [.ref h] (preR D cI cZ h ad σ)) (vp_Si (fun x => x = q)) 0 0 (fun _ => False) := by
  refine Met.ofW (cc := cX10_uglyNow) (maxL := 3) (ret := (some .int)) (by decide) rfl ?_
  intro p e s m args below meth c s₁ B hml hv
  obtain ⟨rfl, hP, hK⟩ := hv
  have hx := B.exec
  have hb := B.bytes
  have hr := B.returns
  have hts : ∀ w ∈ (Cond.code yX10_uglyNow cX10_uglyNow 3 (some .int) :: wMa), w.before ([.ref h] : List Value).toArray s = true := atoms_spec (ws := wsM_uglyNow) B.pre
  have hin : ∀ w ∈ wMa, w ∈ (Cond.code yX10_uglyNow cX10_uglyNow 3 (some .int) :: wMa) := fun w hw => List.mem_cons_of_mem _ hw
  have hown : s.vm.findClass RX10 = some m.cls := findClass_of_methodNamed B.named
  have hlocks := B.notSynchronized
  have b_9 : ∀ (n_9 : Nat) (x1_9 : Int32) (x2_9 : Int32) (ls : Array Slot), FM_uglyNow_9 σ n_9 x1_9 x2_9 = some q → lv_has ls 3 [(0, .ref h), (1, .int x1_9), (2, .int x2_9)] → W p l e (headSpec wsM_uglyNow { frames := 2, cells := 0, slots := 0, locals := 48 }).room s m ([.ref h] : List Value).toArray below meth c s.heap [] 0 0 (MQ below (vp_Si (fun x => x = q)) ([.ref h] : List Value).toArray s 0 0 (fun _ => False)) (F0 m 9 ls []) := by
    intro n_9
    induction n_9 with
    | zero =>
      intro x1_9 x2_9 ls hF hl
      exact absurd hF (by simp [FM_uglyNow_9])
    | succ n_9 ih_9 =>
      intro x1_9 x2_9 ls hF hl
      rw [FM_uglyNow_9] at hF
      refine lv_iload_n hx hb dX10_uglyNow_9 rfl (lv_at hl 2 rfl) ?_
      refine lv_iconst (v := (5 : Int32)) hx hb dX10_uglyNow_10 (by decide) ?_
      refine lv_icmp_ge (tgt := 28) hx hb dX10_uglyNow_11 (by decide) (fun c_11 => ?_) (fun c_11 => ?_)
      · have hF := ob_t c_11 hF
        refine lv_iload_n hx hb dX10_uglyNow_28 rfl (lv_at hl 1 rfl) ?_
        exact rrM hx hb hr hlocks hF dX10_uglyNow_29
      · have hF := ob_f c_11 hF
        refine lv_iload_n hx hb dX10_uglyNow_14 rfl (lv_at hl 1 rfl) ?_
        refine lv_aload_n hx hb dX10_uglyNow_15 rfl (lv_at hl 0 rfl) ?_
        refine lv_iload_n hx hb dX10_uglyNow_16 rfl (lv_at hl 2 rfl) ?_
        obtain ⟨q_17, e_17, hF⟩ := ob_bd hF
        refine crM (As := [.int x2_9]) (rest := [.int x1_9]) ⟨hx, hb, hml, hown, hts⟩ (cM_seam l D cI cZ h ad σ x2_9 _ e_17) (cw_seam hts ⟨Nat.le_of_ble_eq_true rfl, Nat.le_of_ble_eq_true rfl⟩) hK hP rfl hl.1 rfl (lv_room (Nat.le_of_ble_eq_true rfl)) dX10_uglyNow_17 ?_
        refine lv_iadd hx hb dX10_uglyNow_20 ?_
        refine lv_istore_n (lv' := [(1, .int (x1_9 + q_17)), (0, .ref h), (2, .int x2_9)]) hx hb dX10_uglyNow_21 rfl hl (by decide) rfl (fun ls hl => ?_)
        refine lv_iinc (v := x2_9 + (1 : Int32)) (lv' := [(2, .int (x2_9 + (1 : Int32))), (1, .int (x1_9 + q_17)), (0, .ref h)]) hx hb dX10_uglyNow_22 hl (k := 2) rfl rfl (by decide) rfl (fun ls hl => ?_)
        refine lv_goto (tgt := 9) hx hb dX10_uglyNow_25 (by decide) ?_
        exact ih_9 (x1_9 + q_17) (x2_9 + (1 : Int32)) _ hF (lv_sub hl [2, 1, 0] rfl)
  have hl := lv_entry ([.ref h]) (n := 3) (Nat.le_of_ble_eq_true rfl)
  rw [lg_entry_eq]
  generalize (lg_sl ([.ref h]) ++ List.replicate (3 - (lg_sl ([.ref h])).length) Slot.unset).toArray = ls at hl ⊢
  have hl : lv_has ls 3 [(0, .ref h)] := hl
  unfold FM_uglyNow at hF
  refine lv_iconst (v := (5 : Int32)) hx hb dX10_uglyNow_0 (by decide) ?_
  refine lv_aload_n hx hb dX10_uglyNow_1 rfl (lv_at hl 0 rfl) ?_
  obtain ⟨q_2, e_2, hF⟩ := ob_bd hF
  refine crM (As := []) (rest := [.int (5 : Int32)]) ⟨hx, hb, hml, hown, hts⟩ (cM_shown l D cI cZ h ad σ _ e_2) (cw_shown hts ⟨Nat.le_of_ble_eq_true rfl, Nat.le_of_ble_eq_true rfl⟩) hK hP rfl hl.1 rfl (lv_room (Nat.le_of_ble_eq_true rfl)) dX10_uglyNow_2 ?_
  refine lv_imul hx hb dX10_uglyNow_5 ?_
  refine lv_istore_n (lv' := [(1, .int ((5 : Int32) * q_2)), (0, .ref h)]) hx hb dX10_uglyNow_6 rfl hl (by decide) rfl (fun ls hl => ?_)
  refine lv_iconst (v := (0 : Int32)) hx hb dX10_uglyNow_7 (by decide) ?_
  refine lv_istore_n (lv' := [(2, .int (0 : Int32)), (1, .int ((5 : Int32) * q_2)), (0, .ref h)]) hx hb dX10_uglyNow_8 rfl hl (by decide) rfl (fun ls hl => ?_)
  exact b_9 fu ((5 : Int32) * q_2) (0 : Int32) _ hF (lv_sub hl [2, 1, 0] rfl)
def FM_bad (σ : MS) (p1 : Int32) (p2 : Int32) (p3 : Int32) : Option (Int32 × MS) := ((FM_isThere σ p1).bind fun q_2 => (if q_2 = 0 then (some ((-1 : Int32), σ)) else (gd (inb p1 40) ((FM_isLaying σ p2 p3 (σ.2 4 p1.toNatClampNeg)).bind fun q_19 => (if q_19.1 = 0 then (some ((-2 : Int32), q_19.2)) else ((FM_sleeveOf q_19.2 p1).bind fun q_30 => (if q_30 = (-3 : Int32) then (some ((-3 : Int32), q_19.2)) else ((FM_lengths q_19.2 (q_19.2.1 21) q_30 (q_19.2.1 22) (q_19.2.1 23)).bind fun q_60 => ((FM_lays q_60 p1 p3).bind fun q_66 => (some ((0 : Int32), q_66)))))))))))
def wsM_bad : List Cond := Cond.code yX10_bad cX10_bad 5 (some .int) :: wMa
theorem cw_bad {R : Room} {s : State} {args : Array Value} {y : MethodName} {c : ByteArray} {n : Nat} {r : Option FieldType} (hts : ∀ w ∈ (Cond.code y c n r :: wMa), w.before args s = true) (hR : 2 + 1 ≤ R.frames ∧ 8 + (5 + 11) + 48 ≤ R.locals) : CallW R s args RX10 RX10 194 yX10_bad cX10_bad 5 (some .int) wsM_bad { frames := 2, cells := 0, slots := 0, locals := 48 } 0 0 3 := cwV 3 hts (goodMV mm_194 mi_bad ms_bad m_ini mc_bad) rfl rfl rfl (by decide +kernel) hR
set_option maxHeartbeats 4000000 in
set_option maxRecDepth 100000 in
theorem cM_bad (l : Launch) (D : va_G) (cI cZ : ClassId) (h : Nat) (ad : Nat → Nat) (A : Nat → Prop) (σ : MS) (p1 : Int32) (p2 : Int32) (p3 : Int32) (q : Int32 × MS) (hF : FM_bad σ p1 p2 p3 = some q) : Met l yX10_bad wsM_bad { frames := 2, cells := 0, slots := 0, locals := 48 } (va_Pc [.ref h, .int p1, .int p2, .int p3] (preM D cI cZ h ad A σ)) (va_Qi (fun x u => x = q.1 ∧ u = q.2) (preM D cI cZ h ad A) A) 0 0 A := by
  refine Met.ofW (cc := cX10_bad) (maxL := 5) (ret := (some .int)) (by decide) rfl ?_
  intro p e s m args below meth c s₁ B hml hv
  obtain ⟨rfl, hP, hK, hD⟩ := hv
  have hx := B.exec
  have hb := B.bytes
  have hr := B.returns
  have hts : ∀ w ∈ (Cond.code yX10_bad cX10_bad 5 (some .int) :: wMa), w.before ([.ref h, .int p1, .int p2, .int p3] : List Value).toArray s = true := atoms_spec (ws := wsM_bad) B.pre
  have hin : ∀ w ∈ wMa, w ∈ (Cond.code yX10_bad cX10_bad 5 (some .int) :: wMa) := fun w hw => List.mem_cons_of_mem _ hw
  have hown : s.vm.findClass RX10 = some m.cls := findClass_of_methodNamed B.named
  have hlocks := B.notSynchronized
  have hS : va_S A s.heap s.heap [] := va_S.rf
  have hl := lv_entry ([.ref h, .int p1, .int p2, .int p3]) (n := 5) (Nat.le_of_ble_eq_true rfl)
  rw [lg_entry_eq]
  generalize (lg_sl ([.ref h, .int p1, .int p2, .int p3]) ++ List.replicate (5 - (lg_sl ([.ref h, .int p1, .int p2, .int p3])).length) Slot.unset).toArray = ls at hl ⊢
  have hl : lv_has ls 5 [(0, .ref h), (1, .int p1), (2, .int p2), (3, .int p3)] := hl
  unfold FM_bad at hF
  refine lv_aload_n hx hb dX10_bad_0 rfl (lv_at hl 0 rfl) ?_
  refine lv_iload_n hx hb dX10_bad_1 rfl (lv_at hl 1 rfl) ?_
  obtain ⟨q_2, e_2, hF⟩ := ob_bd hF
  refine crM (As := [.int p1]) (rest := []) ⟨hx, hb, hml, hown, hts⟩ (cM_isThere l D cI cZ h ad σ p1 _ e_2) (cw_isThere hts ⟨Nat.le_of_ble_eq_true rfl, Nat.le_of_ble_eq_true rfl⟩) hK hP rfl hl.1 rfl (lv_room (Nat.le_of_ble_eq_true rfl)) dX10_bad_2 ?_
  refine lv_if_ne (tgt := 10) hx hb dX10_bad_5 (by decide) (fun c_5 => ?_) (fun c_5 => ?_)
  · have hF := ob_f c_5 hF
    refine lv_aload_n hx hb dX10_bad_10 rfl (lv_at hl 0 rfl) ?_
    refine lv_iload_n hx hb dX10_bad_11 rfl (lv_at hl 2 rfl) ?_
    refine lv_iload_n hx hb dX10_bad_12 rfl (lv_at hl 3 rfl) ?_
    refine lv_aload_n hx hb dX10_bad_13 rfl (lv_at hl 0 rfl) ?_
    refine gM hx hb hts hin hown hK hP 4 (.ref (ad 4)) (by decide) mf_20 rfl dX10_bad_14 ?_
    refine lv_iload_n hx hb dX10_bad_17 rfl (lv_at hl 1 rfl) ?_
    obtain ⟨g_18, hF⟩ := ob_gd hF
    refine ldI hx hb hK hP (at_4 _ _ _ _ _) (σ.2 4 p1.toNatClampNeg) g_18 rfl dX10_bad_18 ?_
    obtain ⟨q_19, e_19, hF⟩ := ob_bd hF
    refine cwM (As := [.int p2, .int p3, .int (σ.2 4 p1.toNatClampNeg)]) (rest := []) ⟨hx, hb, hml, hown, hts⟩ (cM_isLaying l D cI cZ h ad A σ p2 p3 (σ.2 4 p1.toNatClampNeg) _ e_19) (cw_isLaying hts ⟨Nat.le_of_ble_eq_true rfl, Nat.le_of_ble_eq_true rfl⟩) hK hP hD hS rfl hl.1 rfl (lv_room (Nat.le_of_ble_eq_true rfl)) dX10_bad_19 (fun H locs hP hD hS => ?_)
    refine lv_if_ne (tgt := 28) hx hb dX10_bad_22 (by decide) (fun c_22 => ?_) (fun c_22 => ?_)
    · have hF := ob_f c_22 hF
      refine lv_aload_n hx hb dX10_bad_28 rfl (lv_at hl 0 rfl) ?_
      refine lv_iload_n hx hb dX10_bad_29 rfl (lv_at hl 1 rfl) ?_
      obtain ⟨q_30, e_30, hF⟩ := ob_bd hF
      refine crM (As := [.int p1]) (rest := []) ⟨hx, hb, hml, hown, hts⟩ (cM_sleeveOf l D cI cZ h ad q_19.2 p1 _ e_30) (cw_sleeveOf hts ⟨Nat.le_of_ble_eq_true rfl, Nat.le_of_ble_eq_true rfl⟩) hK hP rfl hl.1 rfl (lv_room (Nat.le_of_ble_eq_true rfl)) dX10_bad_30 ?_
      refine lv_istore (lv' := [(4, .int q_30), (0, .ref h), (1, .int p1), (2, .int p2), (3, .int p3)]) hx hb dX10_bad_33 hl (by decide) rfl (fun ls hl => ?_)
      refine lv_iload hx hb dX10_bad_35 (lv_at hl 0 rfl) ?_
      refine lv_bipush (v := (-3 : Int32)) hx hb dX10_bad_37 (by decide) ?_
      refine lv_icmp_ne (tgt := 45) hx hb dX10_bad_39 (by decide) (fun c_39 => ?_) (fun c_39 => ?_)
      · have hF := ob_f c_39 hF
        refine lv_aload_n hx hb dX10_bad_45 rfl (lv_at hl 1 rfl) ?_
        refine lv_aload_n hx hb dX10_bad_46 rfl (lv_at hl 1 rfl) ?_
        refine gM hx hb hts hin hown hK hP 21 (.int (q_19.2.1 21)) (by decide) mf_68 rfl dX10_bad_47 ?_
        refine lv_iload hx hb dX10_bad_50 (lv_at hl 0 rfl) ?_
        refine lv_aload_n hx hb dX10_bad_52 rfl (lv_at hl 1 rfl) ?_
        refine gM hx hb hts hin hown hK hP 22 (.int (q_19.2.1 22)) (by decide) mf_72 rfl dX10_bad_53 ?_
        refine lv_aload_n hx hb dX10_bad_56 rfl (lv_at hl 1 rfl) ?_
        refine gM hx hb hts hin hown hK hP 23 (.int (q_19.2.1 23)) (by decide) mf_75 rfl dX10_bad_57 ?_
        obtain ⟨q_60, e_60, hF⟩ := ob_bd hF
        refine cvM (As := [.int (q_19.2.1 21), .int q_30, .int (q_19.2.1 22), .int (q_19.2.1 23)]) (rest := []) ⟨hx, hb, hml, hown, hts⟩ (cM_lengths l D cI cZ h ad A q_19.2 (q_19.2.1 21) q_30 (q_19.2.1 22) (q_19.2.1 23) _ e_60) (cw_lengths hts ⟨Nat.le_of_ble_eq_true rfl, Nat.le_of_ble_eq_true rfl⟩) hK hP hD hS rfl hl.1 rfl (lv_room (Nat.le_of_ble_eq_true rfl)) dX10_bad_60 (fun H locs hP hD hS => ?_)
        refine lv_aload_n hx hb dX10_bad_63 rfl (lv_at hl 1 rfl) ?_
        refine lv_iload_n hx hb dX10_bad_64 rfl (lv_at hl 2 rfl) ?_
        refine lv_iload_n hx hb dX10_bad_65 rfl (lv_at hl 4 rfl) ?_
        obtain ⟨q_66, e_66, hF⟩ := ob_bd hF
        refine cvM (As := [.int p1, .int p3]) (rest := []) ⟨hx, hb, hml, hown, hts⟩ (cM_lays l D cI cZ h ad A q_60 p1 p3 _ e_66) (cw_lays hts ⟨Nat.le_of_ble_eq_true rfl, Nat.le_of_ble_eq_true rfl⟩) hK hP hD hS rfl hl.1 rfl (lv_room (Nat.le_of_ble_eq_true rfl)) dX10_bad_66 (fun H locs hP hD hS => ?_)
        refine lv_iconst (v := (0 : Int32)) hx hb dX10_bad_69 (by decide) ?_
        exact rwM hx hb hr hlocks hF hK hP hD hS dX10_bad_70
      · have hF := ob_t c_39 hF
        refine lv_bipush (v := (-3 : Int32)) hx hb dX10_bad_42 (by decide) ?_
        exact rwM hx hb hr hlocks hF hK hP hD hS dX10_bad_44
    · have hF := ob_t c_22 hF
      refine lv_bipush (v := (-2 : Int32)) hx hb dX10_bad_25 (by decide) ?_
      exact rwM hx hb hr hlocks hF hK hP hD hS dX10_bad_27
  · have hF := ob_t c_5 hF
    refine lv_iconst (v := (-1 : Int32)) hx hb dX10_bad_8 (by decide) ?_
    exact rwM hx hb hr hlocks hF hK hP hD hS dX10_bad_9
def FM_ugly (σ : MS) (p1 : Int32) (p2 : Int32) (p3 : Int32) : Option (Int32 × MS) := ((FM_bad σ p1 p2 p3).bind fun q_4 => (if q_4.1 = 0 then ((FM_uglyNow q_4.2).bind fun q_20 => (some (q_20, q_4.2))) else (some (q_4.1, q_4.2))))
def wsM_ugly : List Cond := Cond.code yX10_ugly cX10_ugly 5 (some .int) :: wMa
set_option maxHeartbeats 4000000 in
set_option maxRecDepth 100000 in
theorem cM_ugly (l : Launch) (D : va_G) (cI cZ : ClassId) (h : Nat) (ad : Nat → Nat) (A : Nat → Prop) (σ : MS) (p1 : Int32) (p2 : Int32) (p3 : Int32) (q : Int32 × MS) (hF : FM_ugly σ p1 p2 p3 = some q) : Met l yX10_ugly wsM_ugly { frames := 3, cells := 0, slots := 0, locals := 72 } (va_Pc [.ref h, .int p1, .int p2, .int p3] (preM D cI cZ h ad A σ)) (va_Qi (fun x u => x = q.1 ∧ u = q.2) (preM D cI cZ h ad A) A) 0 0 A := by
  refine Met.ofW (cc := cX10_ugly) (maxL := 5) (ret := (some .int)) (by decide) rfl ?_
  intro p e s m args below meth c s₁ B hml hv
  obtain ⟨rfl, hP, hK, hD⟩ := hv
  have hx := B.exec
  have hb := B.bytes
  have hr := B.returns
  have hts : ∀ w ∈ (Cond.code yX10_ugly cX10_ugly 5 (some .int) :: wMa), w.before ([.ref h, .int p1, .int p2, .int p3] : List Value).toArray s = true := atoms_spec (ws := wsM_ugly) B.pre
  have hin : ∀ w ∈ wMa, w ∈ (Cond.code yX10_ugly cX10_ugly 5 (some .int) :: wMa) := fun w hw => List.mem_cons_of_mem _ hw
  have hown : s.vm.findClass RX10 = some m.cls := findClass_of_methodNamed B.named
  have hlocks := B.notSynchronized
  have hS : va_S A s.heap s.heap [] := va_S.rf
  have hl := lv_entry ([.ref h, .int p1, .int p2, .int p3]) (n := 5) (Nat.le_of_ble_eq_true rfl)
  rw [lg_entry_eq]
  generalize (lg_sl ([.ref h, .int p1, .int p2, .int p3]) ++ List.replicate (5 - (lg_sl ([.ref h, .int p1, .int p2, .int p3])).length) Slot.unset).toArray = ls at hl ⊢
  have hl : lv_has ls 5 [(0, .ref h), (1, .int p1), (2, .int p2), (3, .int p3)] := hl
  unfold FM_ugly at hF
  refine lv_aload_n hx hb dX10_ugly_0 rfl (lv_at hl 0 rfl) ?_
  refine lv_iload_n hx hb dX10_ugly_1 rfl (lv_at hl 1 rfl) ?_
  refine lv_iload_n hx hb dX10_ugly_2 rfl (lv_at hl 2 rfl) ?_
  refine lv_iload_n hx hb dX10_ugly_3 rfl (lv_at hl 3 rfl) ?_
  obtain ⟨q_4, e_4, hF⟩ := ob_bd hF
  refine cwM (As := [.int p1, .int p2, .int p3]) (rest := []) ⟨hx, hb, hml, hown, hts⟩ (cM_bad l D cI cZ h ad A σ p1 p2 p3 _ e_4) (cw_bad hts ⟨Nat.le_of_ble_eq_true rfl, Nat.le_of_ble_eq_true rfl⟩) hK hP hD hS rfl hl.1 rfl (lv_room (Nat.le_of_ble_eq_true rfl)) dX10_ugly_4 (fun H locs hP hD hS => ?_)
  refine lv_istore (lv' := [(4, .int q_4.1), (0, .ref h), (1, .int p1), (2, .int p2), (3, .int p3)]) hx hb dX10_ugly_7 hl (by decide) rfl (fun ls hl => ?_)
  refine lv_iload hx hb dX10_ugly_9 (lv_at hl 0 rfl) ?_
  refine lv_if_eq (tgt := 19) hx hb dX10_ugly_11 (by decide) (fun c_11 => ?_) (fun c_11 => ?_)
  · have hF := ob_t c_11 hF
    refine lv_aload_n hx hb dX10_ugly_19 rfl (lv_at hl 1 rfl) ?_
    obtain ⟨q_20, e_20, hF⟩ := ob_bd hF
    refine crM (As := []) (rest := []) ⟨hx, hb, hml, hown, hts⟩ (cM_uglyNow l D cI cZ h ad q_4.2 _ e_20) (cw_uglyNow hts ⟨Nat.le_of_ble_eq_true rfl, Nat.le_of_ble_eq_true rfl⟩) hK hP rfl hl.1 rfl (lv_room (Nat.le_of_ble_eq_true rfl)) dX10_ugly_20 ?_
    exact rwM hx hb hr hlocks hF hK hP hD hS dX10_ugly_23
  · have hF := ob_f c_11 hF
    refine lv_iload hx hb dX10_ugly_14 (lv_at hl 0 rfl) ?_
    refine lv_goto (tgt := 23) hx hb dX10_ugly_16 (by decide) ?_
    exact rwM hx hb hr hlocks hF hK hP hD hS dX10_ugly_23
def FM_many_4 (x0_4 : Int32) : Nat → Int32 → Int32 → Option Int32
  | 0, _, _ => none
  | n_4 + 1, x1_4, x2_4 => (if (6 : Int32) ≤ x2_4 then (some x1_4) else (FM_many_4  x0_4 n_4 (x1_4 + ((x0_4 >>> (x2_4 &&& 31)) &&& (1 : Int32))) (x2_4 + (1 : Int32))))
def FM_many (p0 : Int32) : Option Int32 := (FM_many_4 p0 fu (0 : Int32) (0 : Int32))
def wsM_many : List Cond := Cond.code yX10_many cX10_many 3 (some .int) :: wMa
theorem cw_many {R : Room} {s : State} {args : Array Value} {y : MethodName} {c : ByteArray} {n : Nat} {r : Option FieldType} (hts : ∀ w ∈ (Cond.code y c n r :: wMa), w.before args s = true) (hR : 0 + 1 ≤ R.frames ∧ 8 + (3 + 11) + 0 ≤ R.locals) : CallB R s args RX10 203 yX10_many cX10_many 3 (some .int) wsM_many { frames := 0, cells := 0, slots := 0, locals := 0 } 0 0 1 ∧ (Cond.static yX10_many).before args s = true := va_cwS 1 hts (goodMS mm_203 mt_many m_ini mc_many) rfl rfl rfl (by decide +kernel) hR
set_option maxHeartbeats 4000000 in
set_option maxRecDepth 100000 in
theorem cM_many (l : Launch) (p0 : Int32) (q : Int32) (hF : FM_many p0 = some q) : Met l yX10_many wsM_many { frames := 0, cells := 0, slots := 0, locals := 0 } (va_Pc [.int p0] (fun _ => True)) (vp_Si (fun x => x = q)) 0 0 (fun _ => False) := by
  refine Met.ofW (cc := cX10_many) (maxL := 3) (ret := (some .int)) (by decide) rfl ?_
  intro p e s m args below meth c s₁ B hml hv
  obtain ⟨rfl, -⟩ := hv
  have hx := B.exec
  have hb := B.bytes
  have hr := B.returns
  have hts : ∀ w ∈ (Cond.code yX10_many cX10_many 3 (some .int) :: wMa), w.before ([.int p0] : List Value).toArray s = true := atoms_spec (ws := wsM_many) B.pre
  have hin : ∀ w ∈ wMa, w ∈ (Cond.code yX10_many cX10_many 3 (some .int) :: wMa) := fun w hw => List.mem_cons_of_mem _ hw
  have hown : s.vm.findClass RX10 = some m.cls := findClass_of_methodNamed B.named
  have hlocks := B.notSynchronized
  have b_4 : ∀ (x0_4 : Int32) (n_4 : Nat) (x1_4 : Int32) (x2_4 : Int32) (ls : Array Slot), FM_many_4 x0_4 n_4 x1_4 x2_4 = some q → lv_has ls 3 [(0, .int x0_4), (1, .int x1_4), (2, .int x2_4)] → W p l e (headSpec wsM_many { frames := 0, cells := 0, slots := 0, locals := 0 }).room s m ([.int p0] : List Value).toArray below meth c s.heap [] 0 0 (MQ below (vp_Si (fun x => x = q)) ([.int p0] : List Value).toArray s 0 0 (fun _ => False)) (F0 m 4 ls []) := by
    intro x0_4
    intro n_4
    induction n_4 with
    | zero =>
      intro x1_4 x2_4 ls hF hl
      exact absurd hF (by simp [FM_many_4])
    | succ n_4 ih_4 =>
      intro x1_4 x2_4 ls hF hl
      rw [FM_many_4] at hF
      refine lv_iload_n hx hb dX10_many_4 rfl (lv_at hl 2 rfl) ?_
      refine lv_bipush (v := (6 : Int32)) hx hb dX10_many_5 (by decide) ?_
      refine lv_icmp_ge (tgt := 24) hx hb dX10_many_7 (by decide) (fun c_7 => ?_) (fun c_7 => ?_)
      · have hF := ob_t c_7 hF
        refine lv_iload_n hx hb dX10_many_24 rfl (lv_at hl 1 rfl) ?_
        exact rrM hx hb hr hlocks hF dX10_many_25
      · have hF := ob_f c_7 hF
        refine lv_iload_n hx hb dX10_many_10 rfl (lv_at hl 1 rfl) ?_
        refine lv_iload_n hx hb dX10_many_11 rfl (lv_at hl 0 rfl) ?_
        refine lv_iload_n hx hb dX10_many_12 rfl (lv_at hl 2 rfl) ?_
        refine lv_ishr hx hb dX10_many_13 ?_
        refine lv_iconst (v := (1 : Int32)) hx hb dX10_many_14 (by decide) ?_
        refine lv_iand hx hb dX10_many_15 ?_
        refine lv_iadd hx hb dX10_many_16 ?_
        refine lv_istore_n (lv' := [(1, .int (x1_4 + ((x0_4 >>> (x2_4 &&& 31)) &&& (1 : Int32)))), (0, .int x0_4), (2, .int x2_4)]) hx hb dX10_many_17 rfl hl (by decide) rfl (fun ls hl => ?_)
        refine lv_iinc (v := x2_4 + (1 : Int32)) (lv' := [(2, .int (x2_4 + (1 : Int32))), (1, .int (x1_4 + ((x0_4 >>> (x2_4 &&& 31)) &&& (1 : Int32)))), (0, .int x0_4)]) hx hb dX10_many_18 hl (k := 2) rfl rfl (by decide) rfl (fun ls hl => ?_)
        refine lv_goto (tgt := 4) hx hb dX10_many_21 (by decide) ?_
        exact ih_4 (x1_4 + ((x0_4 >>> (x2_4 &&& 31)) &&& (1 : Int32))) (x2_4 + (1 : Int32)) _ hF (lv_sub hl [2, 1, 0] rfl)
  have hl := lv_entry ([.int p0]) (n := 3) (Nat.le_of_ble_eq_true rfl)
  rw [lg_entry_eq]
  generalize (lg_sl ([.int p0]) ++ List.replicate (3 - (lg_sl ([.int p0])).length) Slot.unset).toArray = ls at hl ⊢
  have hl : lv_has ls 3 [(0, .int p0)] := hl
  unfold FM_many at hF
  refine lv_iconst (v := (0 : Int32)) hx hb dX10_many_0 (by decide) ?_
  refine lv_istore_n (lv' := [(1, .int (0 : Int32)), (0, .int p0)]) hx hb dX10_many_1 rfl hl (by decide) rfl (fun ls hl => ?_)
  refine lv_iconst (v := (0 : Int32)) hx hb dX10_many_2 (by decide) ?_
  refine lv_istore_n (lv' := [(2, .int (0 : Int32)), (1, .int (0 : Int32)), (0, .int p0)]) hx hb dX10_many_3 rfl hl (by decide) rfl (fun ls hl => ?_)
  exact b_4 p0 fu (0 : Int32) (0 : Int32) _ hF (lv_sub hl [2, 1, 0] rfl)
def FM_swap (σ : MS) (p1 : Int32) (p2 : Int32) : Option MS := (gd (inb p1 6) (gd (inb p2 6) (gd (inb p1 6) (gd (inb p2 6) (some (sa (sa σ 35 p1 (σ.2 35 p2.toNatClampNeg)) 35 p2 (σ.2 35 p1.toNatClampNeg)))))))
def wsM_swap : List Cond := Cond.code yX10_swap cX10_swap 4 none :: wMa
theorem cw_swap {R : Room} {s : State} {args : Array Value} {y : MethodName} {c : ByteArray} {n : Nat} {r : Option FieldType} (hts : ∀ w ∈ (Cond.code y c n r :: wMa), w.before args s = true) (hR : 0 + 1 ≤ R.frames ∧ 8 + (4 + 11) + 0 ≤ R.locals) : CallW R s args RX10 RX10 200 yX10_swap cX10_swap 4 none wsM_swap { frames := 0, cells := 0, slots := 0, locals := 0 } 0 0 2 := cwV 2 hts (goodMV mm_200 mi_swap ms_swap m_ini mc_swap) rfl rfl rfl (by decide +kernel) hR
set_option maxHeartbeats 4000000 in
set_option maxRecDepth 100000 in
theorem cM_swap (l : Launch) (D : va_G) (cI cZ : ClassId) (h : Nat) (ad : Nat → Nat) (A : Nat → Prop) (σ : MS) (p1 : Int32) (p2 : Int32) (q : MS) (hF : FM_swap σ p1 p2 = some q) : Met l yX10_swap wsM_swap { frames := 0, cells := 0, slots := 0, locals := 0 } (va_Pc [.ref h, .int p1, .int p2] (preM D cI cZ h ad A σ)) (va_Qv (fun u => u = q) (preM D cI cZ h ad A) A) 0 0 A := by
  refine Met.ofW (cc := cX10_swap) (maxL := 4) (ret := none) (by decide) rfl ?_
  intro p e s m args below meth c s₁ B hml hv
  obtain ⟨rfl, hP, hK, hD⟩ := hv
  have hx := B.exec
  have hb := B.bytes
  have hr := B.returns
  have hts : ∀ w ∈ (Cond.code yX10_swap cX10_swap 4 none :: wMa), w.before ([.ref h, .int p1, .int p2] : List Value).toArray s = true := atoms_spec (ws := wsM_swap) B.pre
  have hin : ∀ w ∈ wMa, w ∈ (Cond.code yX10_swap cX10_swap 4 none :: wMa) := fun w hw => List.mem_cons_of_mem _ hw
  have hown : s.vm.findClass RX10 = some m.cls := findClass_of_methodNamed B.named
  have hlocks := B.notSynchronized
  have hS : va_S A s.heap s.heap [] := va_S.rf
  have hl := lv_entry ([.ref h, .int p1, .int p2]) (n := 4) (Nat.le_of_ble_eq_true rfl)
  rw [lg_entry_eq]
  generalize (lg_sl ([.ref h, .int p1, .int p2]) ++ List.replicate (4 - (lg_sl ([.ref h, .int p1, .int p2])).length) Slot.unset).toArray = ls at hl ⊢
  have hl : lv_has ls 4 [(0, .ref h), (1, .int p1), (2, .int p2)] := hl
  unfold FM_swap at hF
  refine lv_aload_n hx hb dX10_swap_0 rfl (lv_at hl 0 rfl) ?_
  refine gM hx hb hts hin hown hK hP 35 (.ref (ad 35)) (by decide) mf_105 rfl dX10_swap_1 ?_
  refine lv_iload_n hx hb dX10_swap_4 rfl (lv_at hl 1 rfl) ?_
  obtain ⟨g_5, hF⟩ := ob_gd hF
  refine ldI hx hb hK hP (at_35 _ _ _ _ _) (σ.2 35 p1.toNatClampNeg) g_5 rfl dX10_swap_5 ?_
  refine lv_istore_n (lv' := [(3, .int (σ.2 35 p1.toNatClampNeg)), (0, .ref h), (1, .int p1), (2, .int p2)]) hx hb dX10_swap_6 rfl hl (by decide) rfl (fun ls hl => ?_)
  refine lv_aload_n hx hb dX10_swap_7 rfl (lv_at hl 1 rfl) ?_
  refine gM hx hb hts hin hown hK hP 35 (.ref (ad 35)) (by decide) mf_105 rfl dX10_swap_8 ?_
  refine lv_iload_n hx hb dX10_swap_11 rfl (lv_at hl 2 rfl) ?_
  refine lv_aload_n hx hb dX10_swap_12 rfl (lv_at hl 1 rfl) ?_
  refine gM hx hb hts hin hown hK hP 35 (.ref (ad 35)) (by decide) mf_105 rfl dX10_swap_13 ?_
  refine lv_iload_n hx hb dX10_swap_16 rfl (lv_at hl 3 rfl) ?_
  obtain ⟨g_17, hF⟩ := ob_gd hF
  refine ldI hx hb hK hP (at_35 _ _ _ _ _) (σ.2 35 p2.toNatClampNeg) g_17 rfl dX10_swap_17 ?_
  obtain ⟨g_18, hF⟩ := ob_gd hF
  refine stI hx hb hK hP hD hS (at_35 _ _ _ _ _) (st_35 _ _ _ _ _ _ _) g_18 dX10_swap_18 (fun H locs hP hD hS => ?_)
  refine lv_aload_n hx hb dX10_swap_19 rfl (lv_at hl 1 rfl) ?_
  refine gM hx hb hts hin hown hK hP 35 (.ref (ad 35)) (by decide) mf_105 rfl dX10_swap_20 ?_
  refine lv_iload_n hx hb dX10_swap_23 rfl (lv_at hl 3 rfl) ?_
  refine lv_iload_n hx hb dX10_swap_24 rfl (lv_at hl 0 rfl) ?_
  obtain ⟨g_25, hF⟩ := ob_gd hF
  refine stI hx hb hK hP hD hS (at_35 _ _ _ _ _) (st_35 _ _ _ _ _ _ _) g_25 dX10_swap_25 (fun H locs hP hD hS => ?_)
  exact rvM hx hb hr hlocks hF hK hP hD hS dX10_swap_26
def FM_turns_2 (K_29 : Int32 → MS → Option (Int32 × MS)) : Nat → Int32 → MS → Option (Int32 × MS)
  | 0, _, _ => none
  | n_2 + 1, x1_2, σ_2 => (if x1_2 < 0 then (K_29 x1_2 σ_2) else (gd (inb x1_2 6) (gd (inb (x1_2 + (1 : Int32)) 6) (if (σ_2.2 35 x1_2.toNatClampNeg) ≤ (σ_2.2 35 (x1_2 + (1 : Int32)).toNatClampNeg) then (K_29 x1_2 σ_2) else (FM_turns_2 K_29 n_2 (x1_2 + (-1 : Int32)) σ_2)))))
def FM_turns_37 (K_58 : Int32 → MS → Option (Int32 × MS)) (x1_37 : Int32) : Nat → Int32 → MS → Option (Int32 × MS)
  | 0, _, _ => none
  | n_37 + 1, x2_37, σ_37 => (gd (inb x2_37 6) (gd (inb x1_37 6) (if (σ_37.2 35 x1_37.toNatClampNeg) ≤ (σ_37.2 35 x2_37.toNatClampNeg) then (K_58 x2_37 σ_37) else (FM_turns_37 K_58 x1_37 n_37 (x2_37 + (-1 : Int32)) σ_37))))
def FM_turns_71 : Nat → Int32 → Int32 → MS → Option (Int32 × MS)
  | 0, _, _, _ => none
  | n_71 + 1, x3_71, x4_71, σ_71 => (if x4_71 ≤ x3_71 then (some ((1 : Int32), σ_71)) else ((FM_swap σ_71 x3_71 x4_71).bind fun q_81 => (FM_turns_71  n_71 (x3_71 + (1 : Int32)) (x4_71 + (-1 : Int32)) q_81)))
def FM_turns_58 (x1_58 : Int32) (x2_58 : Int32) (σ_58 : MS) : Option (Int32 × MS) := ((FM_swap σ_58 x1_58 x2_58).bind fun q_61 => (FM_turns_71 fu (x1_58 + (1 : Int32)) (5 : Int32) q_61))
def FM_turns_29 (x1_29 : Int32) (σ_29 : MS) : Option (Int32 × MS) := (if 0 ≤ x1_29 then (FM_turns_37 (fun x2_58 σ_58 => FM_turns_58 x1_29 x2_58 σ_58) x1_29 fu (5 : Int32) σ_29) else (some ((0 : Int32), σ_29)))
def FM_turns (σ : MS) : Option (Int32 × MS) := (FM_turns_2 (fun x1_29 σ_29 => FM_turns_29 x1_29 σ_29) fu (4 : Int32) σ)
def wsM_turns : List Cond := Cond.code yX10_turns cX10_turns 5 (some .boolean) :: wMa
theorem cw_turns {R : Room} {s : State} {args : Array Value} {y : MethodName} {c : ByteArray} {n : Nat} {r : Option FieldType} (hts : ∀ w ∈ (Cond.code y c n r :: wMa), w.before args s = true) (hR : 1 + 1 ≤ R.frames ∧ 8 + (5 + 11) + 23 ≤ R.locals) : CallW R s args RX10 RX10 212 yX10_turns cX10_turns 5 (some .boolean) wsM_turns { frames := 1, cells := 0, slots := 0, locals := 23 } 0 0 0 := cwV 0 hts (goodMV mm_212 mi_turns ms_turns m_ini mc_turns) rfl rfl rfl (by decide +kernel) hR
set_option maxHeartbeats 4000000 in
set_option maxRecDepth 100000 in
theorem cM_turns (l : Launch) (D : va_G) (cI cZ : ClassId) (h : Nat) (ad : Nat → Nat) (A : Nat → Prop) (σ : MS) (q : Int32 × MS) (hF : FM_turns σ = some q) : Met l yX10_turns wsM_turns { frames := 1, cells := 0, slots := 0, locals := 23 } (va_Pc [.ref h] (preM D cI cZ h ad A σ)) (va_Qi (fun x u => x = q.1 ∧ u = q.2) (preM D cI cZ h ad A) A) 0 0 A := by
  refine Met.ofW (cc := cX10_turns) (maxL := 5) (ret := (some .boolean)) (by decide) rfl ?_
  intro p e s m args below meth c s₁ B hml hv
  obtain ⟨rfl, hP, hK, hD⟩ := hv
  have hx := B.exec
  have hb := B.bytes
  have hr := B.returns
  have hts : ∀ w ∈ (Cond.code yX10_turns cX10_turns 5 (some .boolean) :: wMa), w.before ([.ref h] : List Value).toArray s = true := atoms_spec (ws := wsM_turns) B.pre
  have hin : ∀ w ∈ wMa, w ∈ (Cond.code yX10_turns cX10_turns 5 (some .boolean) :: wMa) := fun w hw => List.mem_cons_of_mem _ hw
  have hown : s.vm.findClass RX10 = some m.cls := findClass_of_methodNamed B.named
  have hlocks := B.notSynchronized
  have hS : va_S A s.heap s.heap [] := va_S.rf
  have b_2 : ∀ (K_29 : Int32 → MS → Option (Int32 × MS)) (k_29 : ∀ (x1_29 : Int32) (σ_29 : MS) (H : Heap) (locs : List Loc) (ls : Array Slot), K_29 x1_29 σ_29 = some q → va_P D vwCl (wM cI cZ h ad σ_29) H → va_D A (wM cI cZ h ad σ_29) → va_S A s.heap H locs → lv_has ls 5 [(0, .ref h), (1, .int x1_29)] → W p l e (headSpec wsM_turns { frames := 1, cells := 0, slots := 0, locals := 23 }).room s m ([.ref h] : List Value).toArray below meth c H locs 0 0 (MQ below (va_Qi (fun x u => x = q.1 ∧ u = q.2) (preM D cI cZ h ad A) A) ([.ref h] : List Value).toArray s 0 0 A) (F0 m 29 ls [])) (n_2 : Nat) (x1_2 : Int32) (σ_2 : MS) (H : Heap) (locs : List Loc) (ls : Array Slot), FM_turns_2 K_29 n_2 x1_2 σ_2 = some q → va_P D vwCl (wM cI cZ h ad σ_2) H → va_D A (wM cI cZ h ad σ_2) → va_S A s.heap H locs → lv_has ls 5 [(0, .ref h), (1, .int x1_2)] → W p l e (headSpec wsM_turns { frames := 1, cells := 0, slots := 0, locals := 23 }).room s m ([.ref h] : List Value).toArray below meth c H locs 0 0 (MQ below (va_Qi (fun x u => x = q.1 ∧ u = q.2) (preM D cI cZ h ad A) A) ([.ref h] : List Value).toArray s 0 0 A) (F0 m 2 ls []) := by
    intro K_29 k_29
    intro n_2
    induction n_2 with
    | zero =>
      intro x1_2 σ_2 H locs ls hF hP hD hS hl
      exact absurd hF (by simp [FM_turns_2])
    | succ n_2 ih_2 =>
      intro x1_2 σ_2 H locs ls hF hP hD hS hl
      rw [FM_turns_2] at hF
      refine lv_iload_n hx hb dX10_turns_2 rfl (lv_at hl 1 rfl) ?_
      refine lv_if_lt (tgt := 29) hx hb dX10_turns_3 (by decide) (fun c_3 => ?_) (fun c_3 => ?_)
      · have hF := ob_t c_3 hF
        exact k_29 x1_2 σ_2 _ _ _ hF hP hD hS hl
      · have hF := ob_f c_3 hF
        refine lv_aload_n hx hb dX10_turns_6 rfl (lv_at hl 0 rfl) ?_
        refine gM hx hb hts hin hown hK hP 35 (.ref (ad 35)) (by decide) mf_105 rfl dX10_turns_7 ?_
        refine lv_iload_n hx hb dX10_turns_10 rfl (lv_at hl 1 rfl) ?_
        obtain ⟨g_11, hF⟩ := ob_gd hF
        refine ldI hx hb hK hP (at_35 _ _ _ _ _) (σ_2.2 35 x1_2.toNatClampNeg) g_11 rfl dX10_turns_11 ?_
        refine lv_aload_n hx hb dX10_turns_12 rfl (lv_at hl 0 rfl) ?_
        refine gM hx hb hts hin hown hK hP 35 (.ref (ad 35)) (by decide) mf_105 rfl dX10_turns_13 ?_
        refine lv_iload_n hx hb dX10_turns_16 rfl (lv_at hl 1 rfl) ?_
        refine lv_iconst (v := (1 : Int32)) hx hb dX10_turns_17 (by decide) ?_
        refine lv_iadd hx hb dX10_turns_18 ?_
        obtain ⟨g_19, hF⟩ := ob_gd hF
        refine ldI hx hb hK hP (at_35 _ _ _ _ _) (σ_2.2 35 (x1_2 + (1 : Int32)).toNatClampNeg) g_19 rfl dX10_turns_19 ?_
        refine lv_icmp_le (tgt := 29) hx hb dX10_turns_20 (by decide) (fun c_20 => ?_) (fun c_20 => ?_)
        · have hF := ob_t c_20 hF
          exact k_29 x1_2 σ_2 _ _ _ hF hP hD hS hl
        · have hF := ob_f c_20 hF
          refine lv_iinc (v := x1_2 + (-1 : Int32)) (lv' := [(1, .int (x1_2 + (-1 : Int32))), (0, .ref h)]) hx hb dX10_turns_23 hl (k := 1) rfl rfl (by decide) rfl (fun ls hl => ?_)
          refine lv_goto (tgt := 2) hx hb dX10_turns_26 (by decide) ?_
          exact ih_2 (x1_2 + (-1 : Int32)) σ_2 _ _ _ hF hP hD hS (lv_sub hl [1, 0] rfl)
  have b_37 : ∀ (x1_37 : Int32) (K_58 : Int32 → MS → Option (Int32 × MS)) (k_58 : ∀ (x2_58 : Int32) (σ_58 : MS) (H : Heap) (locs : List Loc) (ls : Array Slot), K_58 x2_58 σ_58 = some q → va_P D vwCl (wM cI cZ h ad σ_58) H → va_D A (wM cI cZ h ad σ_58) → va_S A s.heap H locs → lv_has ls 5 [(0, .ref h), (1, .int x1_37), (2, .int x2_58)] → W p l e (headSpec wsM_turns { frames := 1, cells := 0, slots := 0, locals := 23 }).room s m ([.ref h] : List Value).toArray below meth c H locs 0 0 (MQ below (va_Qi (fun x u => x = q.1 ∧ u = q.2) (preM D cI cZ h ad A) A) ([.ref h] : List Value).toArray s 0 0 A) (F0 m 58 ls [])) (n_37 : Nat) (x2_37 : Int32) (σ_37 : MS) (H : Heap) (locs : List Loc) (ls : Array Slot), FM_turns_37 K_58 x1_37 n_37 x2_37 σ_37 = some q → va_P D vwCl (wM cI cZ h ad σ_37) H → va_D A (wM cI cZ h ad σ_37) → va_S A s.heap H locs → lv_has ls 5 [(0, .ref h), (1, .int x1_37), (2, .int x2_37)] → W p l e (headSpec wsM_turns { frames := 1, cells := 0, slots := 0, locals := 23 }).room s m ([.ref h] : List Value).toArray below meth c H locs 0 0 (MQ below (va_Qi (fun x u => x = q.1 ∧ u = q.2) (preM D cI cZ h ad A) A) ([.ref h] : List Value).toArray s 0 0 A) (F0 m 37 ls []) := by
    intro x1_37 K_58 k_58
    intro n_37
    induction n_37 with
    | zero =>
      intro x2_37 σ_37 H locs ls hF hP hD hS hl
      exact absurd hF (by simp [FM_turns_37])
    | succ n_37 ih_37 =>
      intro x2_37 σ_37 H locs ls hF hP hD hS hl
      rw [FM_turns_37] at hF
      refine lv_aload_n hx hb dX10_turns_37 rfl (lv_at hl 0 rfl) ?_
      refine gM hx hb hts hin hown hK hP 35 (.ref (ad 35)) (by decide) mf_105 rfl dX10_turns_38 ?_
      refine lv_iload_n hx hb dX10_turns_41 rfl (lv_at hl 2 rfl) ?_
      obtain ⟨g_42, hF⟩ := ob_gd hF
      refine ldI hx hb hK hP (at_35 _ _ _ _ _) (σ_37.2 35 x2_37.toNatClampNeg) g_42 rfl dX10_turns_42 ?_
      refine lv_aload_n hx hb dX10_turns_43 rfl (lv_at hl 0 rfl) ?_
      refine gM hx hb hts hin hown hK hP 35 (.ref (ad 35)) (by decide) mf_105 rfl dX10_turns_44 ?_
      refine lv_iload_n hx hb dX10_turns_47 rfl (lv_at hl 1 rfl) ?_
      obtain ⟨g_48, hF⟩ := ob_gd hF
      refine ldI hx hb hK hP (at_35 _ _ _ _ _) (σ_37.2 35 x1_37.toNatClampNeg) g_48 rfl dX10_turns_48 ?_
      refine lv_icmp_ge (tgt := 58) hx hb dX10_turns_49 (by decide) (fun c_49 => ?_) (fun c_49 => ?_)
      · have hF := ob_t c_49 hF
        exact k_58 x2_37 σ_37 _ _ _ hF hP hD hS hl
      · have hF := ob_f c_49 hF
        refine lv_iinc (v := x2_37 + (-1 : Int32)) (lv' := [(2, .int (x2_37 + (-1 : Int32))), (0, .ref h), (1, .int x1_37)]) hx hb dX10_turns_52 hl (k := 2) rfl rfl (by decide) rfl (fun ls hl => ?_)
        refine lv_goto (tgt := 37) hx hb dX10_turns_55 (by decide) ?_
        exact ih_37 (x2_37 + (-1 : Int32)) σ_37 _ _ _ hF hP hD hS (lv_sub hl [1, 2, 0] rfl)
  have b_71 : ∀ (n_71 : Nat) (x3_71 : Int32) (x4_71 : Int32) (σ_71 : MS) (H : Heap) (locs : List Loc) (ls : Array Slot), FM_turns_71 n_71 x3_71 x4_71 σ_71 = some q → va_P D vwCl (wM cI cZ h ad σ_71) H → va_D A (wM cI cZ h ad σ_71) → va_S A s.heap H locs → lv_has ls 5 [(0, .ref h), (3, .int x3_71), (4, .int x4_71)] → W p l e (headSpec wsM_turns { frames := 1, cells := 0, slots := 0, locals := 23 }).room s m ([.ref h] : List Value).toArray below meth c H locs 0 0 (MQ below (va_Qi (fun x u => x = q.1 ∧ u = q.2) (preM D cI cZ h ad A) A) ([.ref h] : List Value).toArray s 0 0 A) (F0 m 71 ls []) := by
    intro n_71
    induction n_71 with
    | zero =>
      intro x3_71 x4_71 σ_71 H locs ls hF hP hD hS hl
      exact absurd hF (by simp [FM_turns_71])
    | succ n_71 ih_71 =>
      intro x3_71 x4_71 σ_71 H locs ls hF hP hD hS hl
      rw [FM_turns_71] at hF
      refine lv_iload_n hx hb dX10_turns_71 rfl (lv_at hl 1 rfl) ?_
      refine lv_iload hx hb dX10_turns_72 (lv_at hl 2 rfl) ?_
      refine lv_icmp_ge (tgt := 93) hx hb dX10_turns_74 (by decide) (fun c_74 => ?_) (fun c_74 => ?_)
      · have hF := ob_t c_74 hF
        refine lv_iconst (v := (1 : Int32)) hx hb dX10_turns_93 (by decide) ?_
        exact rxM hx hb hr hlocks rfl hF hK hP hD hS dX10_turns_94
      · have hF := ob_f c_74 hF
        refine lv_aload_n hx hb dX10_turns_77 rfl (lv_at hl 0 rfl) ?_
        refine lv_iload_n hx hb dX10_turns_78 rfl (lv_at hl 1 rfl) ?_
        refine lv_iload hx hb dX10_turns_79 (lv_at hl 2 rfl) ?_
        obtain ⟨q_81, e_81, hF⟩ := ob_bd hF
        refine cvM (As := [.int x3_71, .int x4_71]) (rest := []) ⟨hx, hb, hml, hown, hts⟩ (cM_swap l D cI cZ h ad A σ_71 x3_71 x4_71 _ e_81) (cw_swap hts ⟨Nat.le_of_ble_eq_true rfl, Nat.le_of_ble_eq_true rfl⟩) hK hP hD hS rfl hl.1 rfl (lv_room (Nat.le_of_ble_eq_true rfl)) dX10_turns_81 (fun H locs hP hD hS => ?_)
        refine lv_iinc (v := x3_71 + (1 : Int32)) (lv' := [(3, .int (x3_71 + (1 : Int32))), (0, .ref h), (4, .int x4_71)]) hx hb dX10_turns_84 hl (k := 1) rfl rfl (by decide) rfl (fun ls hl => ?_)
        refine lv_iinc (v := x4_71 + (-1 : Int32)) (lv' := [(4, .int (x4_71 + (-1 : Int32))), (3, .int (x3_71 + (1 : Int32))), (0, .ref h)]) hx hb dX10_turns_87 hl (k := 2) rfl rfl (by decide) rfl (fun ls hl => ?_)
        refine lv_goto (tgt := 71) hx hb dX10_turns_90 (by decide) ?_
        exact ih_71 (x3_71 + (1 : Int32)) (x4_71 + (-1 : Int32)) q_81 _ _ _ hF hP hD hS (lv_sub hl [2, 1, 0] rfl)
  have b_58 : ∀ (x1_58 : Int32) (x2_58 : Int32) (σ_58 : MS) (H : Heap) (locs : List Loc) (ls : Array Slot), FM_turns_58 x1_58 x2_58 σ_58 = some q → va_P D vwCl (wM cI cZ h ad σ_58) H → va_D A (wM cI cZ h ad σ_58) → va_S A s.heap H locs → lv_has ls 5 [(0, .ref h), (1, .int x1_58), (2, .int x2_58)] → W p l e (headSpec wsM_turns { frames := 1, cells := 0, slots := 0, locals := 23 }).room s m ([.ref h] : List Value).toArray below meth c H locs 0 0 (MQ below (va_Qi (fun x u => x = q.1 ∧ u = q.2) (preM D cI cZ h ad A) A) ([.ref h] : List Value).toArray s 0 0 A) (F0 m 58 ls []) := by
    intro x1_58 x2_58 σ_58 H locs ls hF hP hD hS hl
    unfold FM_turns_58 at hF
    refine lv_aload_n hx hb dX10_turns_58 rfl (lv_at hl 0 rfl) ?_
    refine lv_iload_n hx hb dX10_turns_59 rfl (lv_at hl 1 rfl) ?_
    refine lv_iload_n hx hb dX10_turns_60 rfl (lv_at hl 2 rfl) ?_
    obtain ⟨q_61, e_61, hF⟩ := ob_bd hF
    refine cvM (As := [.int x1_58, .int x2_58]) (rest := []) ⟨hx, hb, hml, hown, hts⟩ (cM_swap l D cI cZ h ad A σ_58 x1_58 x2_58 _ e_61) (cw_swap hts ⟨Nat.le_of_ble_eq_true rfl, Nat.le_of_ble_eq_true rfl⟩) hK hP hD hS rfl hl.1 rfl (lv_room (Nat.le_of_ble_eq_true rfl)) dX10_turns_61 (fun H locs hP hD hS => ?_)
    refine lv_iload_n hx hb dX10_turns_64 rfl (lv_at hl 1 rfl) ?_
    refine lv_iconst (v := (1 : Int32)) hx hb dX10_turns_65 (by decide) ?_
    refine lv_iadd hx hb dX10_turns_66 ?_
    refine lv_istore_n (lv' := [(3, .int (x1_58 + (1 : Int32))), (0, .ref h), (1, .int x1_58), (2, .int x2_58)]) hx hb dX10_turns_67 rfl hl (by decide) rfl (fun ls hl => ?_)
    refine lv_iconst (v := (5 : Int32)) hx hb dX10_turns_68 (by decide) ?_
    refine lv_istore (lv' := [(4, .int (5 : Int32)), (3, .int (x1_58 + (1 : Int32))), (0, .ref h), (1, .int x1_58), (2, .int x2_58)]) hx hb dX10_turns_69 hl (by decide) rfl (fun ls hl => ?_)
    exact b_71 fu (x1_58 + (1 : Int32)) (5 : Int32) q_61 _ _ _ hF hP hD hS (lv_sub hl [2, 1, 0] rfl)
  have b_29 : ∀ (x1_29 : Int32) (σ_29 : MS) (H : Heap) (locs : List Loc) (ls : Array Slot), FM_turns_29 x1_29 σ_29 = some q → va_P D vwCl (wM cI cZ h ad σ_29) H → va_D A (wM cI cZ h ad σ_29) → va_S A s.heap H locs → lv_has ls 5 [(0, .ref h), (1, .int x1_29)] → W p l e (headSpec wsM_turns { frames := 1, cells := 0, slots := 0, locals := 23 }).room s m ([.ref h] : List Value).toArray below meth c H locs 0 0 (MQ below (va_Qi (fun x u => x = q.1 ∧ u = q.2) (preM D cI cZ h ad A) A) ([.ref h] : List Value).toArray s 0 0 A) (F0 m 29 ls []) := by
    intro x1_29 σ_29 H locs ls hF hP hD hS hl
    unfold FM_turns_29 at hF
    refine lv_iload_n hx hb dX10_turns_29 rfl (lv_at hl 1 rfl) ?_
    refine lv_if_ge (tgt := 35) hx hb dX10_turns_30 (by decide) (fun c_30 => ?_) (fun c_30 => ?_)
    · have hF := ob_t c_30 hF
      refine lv_iconst (v := (5 : Int32)) hx hb dX10_turns_35 (by decide) ?_
      refine lv_istore_n (lv' := [(2, .int (5 : Int32)), (0, .ref h), (1, .int x1_29)]) hx hb dX10_turns_36 rfl hl (by decide) rfl (fun ls hl => ?_)
      exact b_37 x1_29 (fun x2_58 σ_58 => FM_turns_58 x1_29 x2_58 σ_58) (fun x2_58 σ_58 => b_58 x1_29 x2_58 σ_58) fu (5 : Int32) σ_29 _ _ _ hF hP hD hS (lv_sub hl [1, 2, 0] rfl)
    · have hF := ob_f c_30 hF
      refine lv_iconst (v := (0 : Int32)) hx hb dX10_turns_33 (by decide) ?_
      exact rxM hx hb hr hlocks rfl hF hK hP hD hS dX10_turns_34
  have hl := lv_entry ([.ref h]) (n := 5) (Nat.le_of_ble_eq_true rfl)
  rw [lg_entry_eq]
  generalize (lg_sl ([.ref h]) ++ List.replicate (5 - (lg_sl ([.ref h])).length) Slot.unset).toArray = ls at hl ⊢
  have hl : lv_has ls 5 [(0, .ref h)] := hl
  unfold FM_turns at hF
  refine lv_iconst (v := (4 : Int32)) hx hb dX10_turns_0 (by decide) ?_
  refine lv_istore_n (lv' := [(1, .int (4 : Int32)), (0, .ref h)]) hx hb dX10_turns_1 rfl hl (by decide) rfl (fun ls hl => ?_)
  exact b_2 (fun x1_29 σ_29 => FM_turns_29 x1_29 σ_29) (fun x1_29 σ_29 => b_29 x1_29 σ_29) fu (4 : Int32) σ _ _ _ hF hP hD hS (lv_sub hl [1, 0] rfl)
def FM_code_4 (σ : MS) : Nat → Int32 → Int32 → Option Int32
  | 0, _, _ => none
  | n_4 + 1, x1_4, x2_4 => (if (6 : Int32) ≤ x2_4 then (some x1_4) else (gd (inb x2_4 6) (FM_code_4 σ  n_4 (((6 : Int32) * x1_4) + (σ.2 35 x2_4.toNatClampNeg)) (x2_4 + (1 : Int32)))))
def FM_code (σ : MS) : Option Int32 := (FM_code_4 σ fu (0 : Int32) (0 : Int32))
def wsM_code : List Cond := Cond.code yX10_code cX10_code 3 (some .int) :: wMa
theorem cw_code {R : Room} {s : State} {args : Array Value} {y : MethodName} {c : ByteArray} {n : Nat} {r : Option FieldType} (hts : ∀ w ∈ (Cond.code y c n r :: wMa), w.before args s = true) (hR : 0 + 1 ≤ R.frames ∧ 8 + (3 + 11) + 0 ≤ R.locals) : CallW R s args RX10 RX10 206 yX10_code cX10_code 3 (some .int) wsM_code { frames := 0, cells := 0, slots := 0, locals := 0 } 0 0 0 := cwV 0 hts (goodMV mm_206 mi_code ms_code m_ini mc_code) rfl rfl rfl (by decide +kernel) hR
set_option maxHeartbeats 4000000 in
set_option maxRecDepth 100000 in
theorem cM_code (l : Launch) (D : va_G) (cI cZ : ClassId) (h : Nat) (ad : Nat → Nat) (σ : MS) (q : Int32) (hF : FM_code σ = some q) : Met l yX10_code wsM_code { frames := 0, cells := 0, slots := 0, locals := 0 } (va_Pc [.ref h] (preR D cI cZ h ad σ)) (vp_Si (fun x => x = q)) 0 0 (fun _ => False) := by
  refine Met.ofW (cc := cX10_code) (maxL := 3) (ret := (some .int)) (by decide) rfl ?_
  intro p e s m args below meth c s₁ B hml hv
  obtain ⟨rfl, hP, hK⟩ := hv
  have hx := B.exec
  have hb := B.bytes
  have hr := B.returns
  have hts : ∀ w ∈ (Cond.code yX10_code cX10_code 3 (some .int) :: wMa), w.before ([.ref h] : List Value).toArray s = true := atoms_spec (ws := wsM_code) B.pre
  have hin : ∀ w ∈ wMa, w ∈ (Cond.code yX10_code cX10_code 3 (some .int) :: wMa) := fun w hw => List.mem_cons_of_mem _ hw
  have hown : s.vm.findClass RX10 = some m.cls := findClass_of_methodNamed B.named
  have hlocks := B.notSynchronized
  have b_4 : ∀ (n_4 : Nat) (x1_4 : Int32) (x2_4 : Int32) (ls : Array Slot), FM_code_4 σ n_4 x1_4 x2_4 = some q → lv_has ls 3 [(0, .ref h), (1, .int x1_4), (2, .int x2_4)] → W p l e (headSpec wsM_code { frames := 0, cells := 0, slots := 0, locals := 0 }).room s m ([.ref h] : List Value).toArray below meth c s.heap [] 0 0 (MQ below (vp_Si (fun x => x = q)) ([.ref h] : List Value).toArray s 0 0 (fun _ => False)) (F0 m 4 ls []) := by
    intro n_4
    induction n_4 with
    | zero =>
      intro x1_4 x2_4 ls hF hl
      exact absurd hF (by simp [FM_code_4])
    | succ n_4 ih_4 =>
      intro x1_4 x2_4 ls hF hl
      rw [FM_code_4] at hF
      refine lv_iload_n hx hb dX10_code_4 rfl (lv_at hl 2 rfl) ?_
      refine lv_bipush (v := (6 : Int32)) hx hb dX10_code_5 (by decide) ?_
      refine lv_icmp_ge (tgt := 28) hx hb dX10_code_7 (by decide) (fun c_7 => ?_) (fun c_7 => ?_)
      · have hF := ob_t c_7 hF
        refine lv_iload_n hx hb dX10_code_28 rfl (lv_at hl 1 rfl) ?_
        exact rrM hx hb hr hlocks hF dX10_code_29
      · have hF := ob_f c_7 hF
        refine lv_bipush (v := (6 : Int32)) hx hb dX10_code_10 (by decide) ?_
        refine lv_iload_n hx hb dX10_code_12 rfl (lv_at hl 1 rfl) ?_
        refine lv_imul hx hb dX10_code_13 ?_
        refine lv_aload_n hx hb dX10_code_14 rfl (lv_at hl 0 rfl) ?_
        refine gM hx hb hts hin hown hK hP 35 (.ref (ad 35)) (by decide) mf_105 rfl dX10_code_15 ?_
        refine lv_iload_n hx hb dX10_code_18 rfl (lv_at hl 2 rfl) ?_
        obtain ⟨g_19, hF⟩ := ob_gd hF
        refine ldI hx hb hK hP (at_35 _ _ _ _ _) (σ.2 35 x2_4.toNatClampNeg) g_19 rfl dX10_code_19 ?_
        refine lv_iadd hx hb dX10_code_20 ?_
        refine lv_istore_n (lv' := [(1, .int (((6 : Int32) * x1_4) + (σ.2 35 x2_4.toNatClampNeg))), (0, .ref h), (2, .int x2_4)]) hx hb dX10_code_21 rfl hl (by decide) rfl (fun ls hl => ?_)
        refine lv_iinc (v := x2_4 + (1 : Int32)) (lv' := [(2, .int (x2_4 + (1 : Int32))), (1, .int (((6 : Int32) * x1_4) + (σ.2 35 x2_4.toNatClampNeg))), (0, .ref h)]) hx hb dX10_code_22 hl (k := 2) rfl rfl (by decide) rfl (fun ls hl => ?_)
        refine lv_goto (tgt := 4) hx hb dX10_code_25 (by decide) ?_
        exact ih_4 (((6 : Int32) * x1_4) + (σ.2 35 x2_4.toNatClampNeg)) (x2_4 + (1 : Int32)) _ hF (lv_sub hl [2, 1, 0] rfl)
  have hl := lv_entry ([.ref h]) (n := 3) (Nat.le_of_ble_eq_true rfl)
  rw [lg_entry_eq]
  generalize (lg_sl ([.ref h]) ++ List.replicate (3 - (lg_sl ([.ref h])).length) Slot.unset).toArray = ls at hl ⊢
  have hl : lv_has ls 3 [(0, .ref h)] := hl
  unfold FM_code at hF
  refine lv_iconst (v := (0 : Int32)) hx hb dX10_code_0 (by decide) ?_
  refine lv_istore_n (lv' := [(1, .int (0 : Int32)), (0, .ref h)]) hx hb dX10_code_1 rfl hl (by decide) rfl (fun ls hl => ?_)
  refine lv_iconst (v := (0 : Int32)) hx hb dX10_code_2 (by decide) ?_
  refine lv_istore_n (lv' := [(2, .int (0 : Int32)), (1, .int (0 : Int32)), (0, .ref h)]) hx hb dX10_code_3 rfl hl (by decide) rfl (fun ls hl => ?_)
  exact b_4 fu (0 : Int32) (0 : Int32) _ hF (lv_sub hl [2, 1, 0] rfl)
def FM_best_47 (K_69 : MS → Option (Int32 × MS)) (x1_47 : Int32) (x3_47 : Int32) : Nat → Int32 → MS → Option (Int32 × MS)
  | 0, _, _ => none
  | n_47 + 1, x4_47, σ_47 => (if (6 : Int32) ≤ x4_47 then (K_69 σ_47) else (gd (inb x4_47 6) (FM_best_47 K_69 x1_47 x3_47 n_47 (x4_47 + (1 : Int32)) (sa σ_47 35 x4_47 x4_47))))
def FM_best_152 (K_90 : Int32 → Int32 → MS → Option (Int32 × MS)) (x1_152 : Int32) (x5_152 : Int32) (x6_152 : Int32) (x7_152 : Int32) (σ_152 : MS) : Option (Int32 × MS) := ((FM_code σ_152).bind fun q_157 => (K_90 x7_152 (x6_152 + (1 : Int32)) (si (si σ_152 36 q_157) 37 x6_152)))
def FM_best_128 (K_90 : Int32 → Int32 → MS → Option (Int32 × MS)) (x1_128 : Int32) (x3_128 : Int32) (x5_128 : Int32) (x6_128 : Int32) (σ_128 : MS) : Option (Int32 × MS) := ((FM_lays σ_128 x1_128 x6_128).bind fun q_132 => ((FM_uglyNow q_132).bind fun q_136 => (if x3_128 = (-1 : Int32) then (FM_best_152 K_90 x1_128 x5_128 x6_128 q_136 q_132) else (if x3_128 ≤ q_136 then (K_90 x3_128 (x6_128 + (1 : Int32)) q_132) else (FM_best_152 K_90 x1_128 x5_128 x6_128 q_136 q_132)))))
def FM_best_90 (K_175 : Int32 → MS → Option (Int32 × MS)) (x1_90 : Int32) (x5_90 : Int32) : Nat → Int32 → Int32 → MS → Option (Int32 × MS)
  | 0, _, _, _ => none
  | n_90 + 1, x3_90, x6_90, σ_90 => (if (64 : Int32) ≤ x6_90 then (K_175 x3_90 σ_90) else ((FM_many x6_90).bind fun q_99 => (if q_99 = x5_90 then (gd (inb x1_90 40) (if (σ_90.2 4 x1_90.toNatClampNeg) = 0 then (FM_best_128 (fun x3_90 x6_90 σ_90 => FM_best_90 K_175 x1_90 x5_90 n_90 x3_90 x6_90 σ_90) x1_90 x3_90 x5_90 x6_90 σ_90) else (if x5_90 = 0 then (FM_best_128 (fun x3_90 x6_90 σ_90 => FM_best_90 K_175 x1_90 x5_90 n_90 x3_90 x6_90 σ_90) x1_90 x3_90 x5_90 x6_90 σ_90) else (if x5_90 = (6 : Int32) then (FM_best_128 (fun x3_90 x6_90 σ_90 => FM_best_90 K_175 x1_90 x5_90 n_90 x3_90 x6_90 σ_90) x1_90 x3_90 x5_90 x6_90 σ_90) else (FM_best_90 K_175 x1_90 x5_90 n_90 x3_90 (x6_90 + (1 : Int32)) σ_90))))) else (FM_best_90 K_175 x1_90 x5_90 n_90 x3_90 (x6_90 + (1 : Int32)) σ_90))))
def FM_best_175 (K_80 : Int32 → Int32 → MS → Option (Int32 × MS)) (x1_175 : Int32) (x3_175 : Int32) (x5_175 : Int32) (σ_175 : MS) : Option (Int32 × MS) := (K_80 x3_175 (x5_175 + (1 : Int32)) σ_175)
def FM_best_80 (K_181 : Int32 → MS → Option (Int32 × MS)) (x1_80 : Int32) : Nat → Int32 → Int32 → MS → Option (Int32 × MS)
  | 0, _, _, _ => none
  | n_80 + 1, x3_80, x5_80, σ_80 => (if (6 : Int32) < x5_80 then (K_181 x3_80 σ_80) else (FM_best_90 (fun x3_175 σ_175 => FM_best_175 (fun x3_80 x5_80 σ_80 => FM_best_80 K_181 x1_80 n_80 x3_80 x5_80 σ_80) x1_80 x3_175 x5_80 σ_175) x1_80 x5_80 fu x3_80 (0 : Int32) σ_80))
def FM_best_181 (K_72 : Int32 → Int32 → MS → Option (Int32 × MS)) (x1_181 : Int32) (x3_181 : Int32) (σ_181 : MS) : Option (Int32 × MS) := ((FM_turns σ_181).bind fun q_182 => (K_72 x3_181 q_182.1 q_182.2))
def FM_best_72 (x1_72 : Int32) : Nat → Int32 → Int32 → MS → Option (Int32 × MS)
  | 0, _, _, _ => none
  | n_72 + 1, x3_72, x4_72, σ_72 => (if x4_72 = 0 then (some (x3_72, σ_72)) else (FM_best_80 (fun x3_181 σ_181 => FM_best_181 (fun x3_72 x4_72 σ_72 => FM_best_72  x1_72 n_72 x3_72 x4_72 σ_72) x1_72 x3_181 σ_181) x1_72 fu x3_72 (0 : Int32) σ_72))
def FM_best_69 (x1_69 : Int32) (x3_69 : Int32) (σ_69 : MS) : Option (Int32 × MS) := (FM_best_72 x1_69 fu x3_69 (1 : Int32) σ_69)
def FM_best (σ : MS) (p1 : Int32) : Option (Int32 × MS) := ((FM_isThere σ p1).bind fun q_2 => (if q_2 = 0 then (some ((-1 : Int32), σ)) else ((FM_sleeveOf σ p1).bind fun q_12 => (if q_12 = (-3 : Int32) then (some ((-3 : Int32), σ)) else ((FM_lengths σ (σ.1 21) q_12 (σ.1 22) (σ.1 23)).bind fun q_39 => (FM_best_47 (fun σ_69 => FM_best_69 p1 (-1 : Int32) σ_69) p1 (-1 : Int32) fu (0 : Int32) q_39))))))
def wsM_best : List Cond := Cond.code yX10_best cX10_best 8 (some .int) :: wMa
set_option maxHeartbeats 4000000 in
set_option maxRecDepth 100000 in
theorem cM_best (l : Launch) (D : va_G) (cI cZ : ClassId) (h : Nat) (ad : Nat → Nat) (A : Nat → Prop) (σ : MS) (p1 : Int32) (q : Int32 × MS) (hF : FM_best σ p1 = some q) : Met l yX10_best wsM_best { frames := 3, cells := 0, slots := 0, locals := 70 } (va_Pc [.ref h, .int p1] (preM D cI cZ h ad A σ)) (va_Qi (fun x u => x = q.1 ∧ u = q.2) (preM D cI cZ h ad A) A) 0 0 A := by
  refine Met.ofW (cc := cX10_best) (maxL := 8) (ret := (some .int)) (by decide) rfl ?_
  intro p e s m args below meth c s₁ B hml hv
  obtain ⟨rfl, hP, hK, hD⟩ := hv
  have hx := B.exec
  have hb := B.bytes
  have hr := B.returns
  have hts : ∀ w ∈ (Cond.code yX10_best cX10_best 8 (some .int) :: wMa), w.before ([.ref h, .int p1] : List Value).toArray s = true := atoms_spec (ws := wsM_best) B.pre
  have hin : ∀ w ∈ wMa, w ∈ (Cond.code yX10_best cX10_best 8 (some .int) :: wMa) := fun w hw => List.mem_cons_of_mem _ hw
  have hown : s.vm.findClass RX10 = some m.cls := findClass_of_methodNamed B.named
  have hlocks := B.notSynchronized
  have hS : va_S A s.heap s.heap [] := va_S.rf
  have b_47 : ∀ (x1_47 : Int32) (x3_47 : Int32) (K_69 : MS → Option (Int32 × MS)) (k_69 : ∀ (σ_69 : MS) (H : Heap) (locs : List Loc) (ls : Array Slot), K_69 σ_69 = some q → va_P D vwCl (wM cI cZ h ad σ_69) H → va_D A (wM cI cZ h ad σ_69) → va_S A s.heap H locs → lv_has ls 8 [(0, .ref h), (1, .int x1_47), (3, .int x3_47)] → W p l e (headSpec wsM_best { frames := 3, cells := 0, slots := 0, locals := 70 }).room s m ([.ref h, .int p1] : List Value).toArray below meth c H locs 0 0 (MQ below (va_Qi (fun x u => x = q.1 ∧ u = q.2) (preM D cI cZ h ad A) A) ([.ref h, .int p1] : List Value).toArray s 0 0 A) (F0 m 69 ls [])) (n_47 : Nat) (x4_47 : Int32) (σ_47 : MS) (H : Heap) (locs : List Loc) (ls : Array Slot), FM_best_47 K_69 x1_47 x3_47 n_47 x4_47 σ_47 = some q → va_P D vwCl (wM cI cZ h ad σ_47) H → va_D A (wM cI cZ h ad σ_47) → va_S A s.heap H locs → lv_has ls 8 [(0, .ref h), (1, .int x1_47), (3, .int x3_47), (4, .int x4_47)] → W p l e (headSpec wsM_best { frames := 3, cells := 0, slots := 0, locals := 70 }).room s m ([.ref h, .int p1] : List Value).toArray below meth c H locs 0 0 (MQ below (va_Qi (fun x u => x = q.1 ∧ u = q.2) (preM D cI cZ h ad A) A) ([.ref h, .int p1] : List Value).toArray s 0 0 A) (F0 m 47 ls []) := by
    intro x1_47 x3_47 K_69 k_69
    intro n_47
    induction n_47 with
    | zero =>
      intro x4_47 σ_47 H locs ls hF hP hD hS hl
      exact absurd hF (by simp [FM_best_47])
    | succ n_47 ih_47 =>
      intro x4_47 σ_47 H locs ls hF hP hD hS hl
      rw [FM_best_47] at hF
      refine lv_iload hx hb dX10_best_47 (lv_at hl 3 rfl) ?_
      refine lv_bipush (v := (6 : Int32)) hx hb dX10_best_49 (by decide) ?_
      refine lv_icmp_ge (tgt := 69) hx hb dX10_best_51 (by decide) (fun c_51 => ?_) (fun c_51 => ?_)
      · have hF := ob_t c_51 hF
        exact k_69 σ_47 _ _ _ hF hP hD hS (lv_sub hl [0, 1, 2] rfl)
      · have hF := ob_f c_51 hF
        refine lv_aload_n hx hb dX10_best_54 rfl (lv_at hl 0 rfl) ?_
        refine gM hx hb hts hin hown hK hP 35 (.ref (ad 35)) (by decide) mf_105 rfl dX10_best_55 ?_
        refine lv_iload hx hb dX10_best_58 (lv_at hl 3 rfl) ?_
        refine lv_iload hx hb dX10_best_60 (lv_at hl 3 rfl) ?_
        obtain ⟨g_62, hF⟩ := ob_gd hF
        refine stI hx hb hK hP hD hS (at_35 _ _ _ _ _) (st_35 _ _ _ _ _ _ _) g_62 dX10_best_62 (fun H locs hP hD hS => ?_)
        refine lv_iinc (v := x4_47 + (1 : Int32)) (lv' := [(4, .int (x4_47 + (1 : Int32))), (0, .ref h), (1, .int x1_47), (3, .int x3_47)]) hx hb dX10_best_63 hl (k := 3) rfl rfl (by decide) rfl (fun ls hl => ?_)
        refine lv_goto (tgt := 47) hx hb dX10_best_66 (by decide) ?_
        exact ih_47 (x4_47 + (1 : Int32)) (sa σ_47 35 x4_47 x4_47) _ _ _ hF hP hD hS (lv_sub hl [1, 2, 3, 0] rfl)
  have b_152 : ∀ (x1_152 : Int32) (x5_152 : Int32) (x6_152 : Int32) (x7_152 : Int32) (K_90 : Int32 → Int32 → MS → Option (Int32 × MS)) (k_90 : ∀ (x3_90 : Int32) (x6_90 : Int32) (σ_90 : MS) (H : Heap) (locs : List Loc) (ls : Array Slot), K_90 x3_90 x6_90 σ_90 = some q → va_P D vwCl (wM cI cZ h ad σ_90) H → va_D A (wM cI cZ h ad σ_90) → va_S A s.heap H locs → lv_has ls 8 [(0, .ref h), (1, .int x1_152), (3, .int x3_90), (5, .int x5_152), (6, .int x6_90)] → W p l e (headSpec wsM_best { frames := 3, cells := 0, slots := 0, locals := 70 }).room s m ([.ref h, .int p1] : List Value).toArray below meth c H locs 0 0 (MQ below (va_Qi (fun x u => x = q.1 ∧ u = q.2) (preM D cI cZ h ad A) A) ([.ref h, .int p1] : List Value).toArray s 0 0 A) (F0 m 90 ls [])) (σ_152 : MS) (H : Heap) (locs : List Loc) (ls : Array Slot), FM_best_152 K_90 x1_152 x5_152 x6_152 x7_152 σ_152 = some q → va_P D vwCl (wM cI cZ h ad σ_152) H → va_D A (wM cI cZ h ad σ_152) → va_S A s.heap H locs → lv_has ls 8 [(0, .ref h), (1, .int x1_152), (5, .int x5_152), (6, .int x6_152), (7, .int x7_152)] → W p l e (headSpec wsM_best { frames := 3, cells := 0, slots := 0, locals := 70 }).room s m ([.ref h, .int p1] : List Value).toArray below meth c H locs 0 0 (MQ below (va_Qi (fun x u => x = q.1 ∧ u = q.2) (preM D cI cZ h ad A) A) ([.ref h, .int p1] : List Value).toArray s 0 0 A) (F0 m 152 ls []) := by
    intro x1_152 x5_152 x6_152 x7_152 K_90 k_90 σ_152 H locs ls hF hP hD hS hl
    unfold FM_best_152 at hF
    refine lv_iload hx hb dX10_best_152 (lv_at hl 4 rfl) ?_
    refine lv_istore_n (lv' := [(3, .int x7_152), (0, .ref h), (1, .int x1_152), (5, .int x5_152), (6, .int x6_152), (7, .int x7_152)]) hx hb dX10_best_154 rfl hl (by decide) rfl (fun ls hl => ?_)
    refine lv_aload_n hx hb dX10_best_155 rfl (lv_at hl 1 rfl) ?_
    refine lv_aload_n hx hb dX10_best_156 rfl (lv_at hl 1 rfl) ?_
    obtain ⟨q_157, e_157, hF⟩ := ob_bd hF
    refine crM (As := []) (rest := [.ref h]) ⟨hx, hb, hml, hown, hts⟩ (cM_code l D cI cZ h ad σ_152 _ e_157) (cw_code hts ⟨Nat.le_of_ble_eq_true rfl, Nat.le_of_ble_eq_true rfl⟩) hK hP rfl hl.1 rfl (lv_room (Nat.le_of_ble_eq_true rfl)) dX10_best_157 ?_
    refine pM (ty := .int) (v := q_157) hx hb hts hin hown hK hP hD hS 36 (by decide) mf_108 rfl (by decide +kernel) rfl rfl (Nat.le_of_ble_eq_true rfl) (pu_36 _ _ _ _ _ _) dX10_best_160 (fun H locs hP hD hS => ?_)
    refine lv_aload_n hx hb dX10_best_163 rfl (lv_at hl 1 rfl) ?_
    refine lv_iload hx hb dX10_best_164 (lv_at hl 4 rfl) ?_
    refine pM (ty := .int) (v := x6_152) hx hb hts hin hown hK hP hD hS 37 (by decide) mf_209 rfl (by decide +kernel) rfl rfl (Nat.le_of_ble_eq_true rfl) (pu_37 _ _ _ _ _ _) dX10_best_166 (fun H locs hP hD hS => ?_)
    refine lv_iinc (v := x6_152 + (1 : Int32)) (lv' := [(6, .int (x6_152 + (1 : Int32))), (3, .int x7_152), (0, .ref h), (1, .int x1_152), (5, .int x5_152), (7, .int x7_152)]) hx hb dX10_best_169 hl (k := 4) rfl rfl (by decide) rfl (fun ls hl => ?_)
    refine lv_goto (tgt := 90) hx hb dX10_best_172 (by decide) ?_
    exact k_90 x7_152 (x6_152 + (1 : Int32)) (si (si σ_152 36 q_157) 37 x6_152) _ _ _ hF hP hD hS (lv_sub hl [2, 3, 1, 4, 0] rfl)
  have b_128 : ∀ (x1_128 : Int32) (x3_128 : Int32) (x5_128 : Int32) (x6_128 : Int32) (K_90 : Int32 → Int32 → MS → Option (Int32 × MS)) (k_90 : ∀ (x3_90 : Int32) (x6_90 : Int32) (σ_90 : MS) (H : Heap) (locs : List Loc) (ls : Array Slot), K_90 x3_90 x6_90 σ_90 = some q → va_P D vwCl (wM cI cZ h ad σ_90) H → va_D A (wM cI cZ h ad σ_90) → va_S A s.heap H locs → lv_has ls 8 [(0, .ref h), (1, .int x1_128), (3, .int x3_90), (5, .int x5_128), (6, .int x6_90)] → W p l e (headSpec wsM_best { frames := 3, cells := 0, slots := 0, locals := 70 }).room s m ([.ref h, .int p1] : List Value).toArray below meth c H locs 0 0 (MQ below (va_Qi (fun x u => x = q.1 ∧ u = q.2) (preM D cI cZ h ad A) A) ([.ref h, .int p1] : List Value).toArray s 0 0 A) (F0 m 90 ls [])) (σ_128 : MS) (H : Heap) (locs : List Loc) (ls : Array Slot), FM_best_128 K_90 x1_128 x3_128 x5_128 x6_128 σ_128 = some q → va_P D vwCl (wM cI cZ h ad σ_128) H → va_D A (wM cI cZ h ad σ_128) → va_S A s.heap H locs → lv_has ls 8 [(0, .ref h), (1, .int x1_128), (3, .int x3_128), (5, .int x5_128), (6, .int x6_128)] → W p l e (headSpec wsM_best { frames := 3, cells := 0, slots := 0, locals := 70 }).room s m ([.ref h, .int p1] : List Value).toArray below meth c H locs 0 0 (MQ below (va_Qi (fun x u => x = q.1 ∧ u = q.2) (preM D cI cZ h ad A) A) ([.ref h, .int p1] : List Value).toArray s 0 0 A) (F0 m 128 ls []) := by
    intro x1_128 x3_128 x5_128 x6_128 K_90 k_90 σ_128 H locs ls hF hP hD hS hl
    unfold FM_best_128 at hF
    refine lv_aload_n hx hb dX10_best_128 rfl (lv_at hl 0 rfl) ?_
    refine lv_iload_n hx hb dX10_best_129 rfl (lv_at hl 1 rfl) ?_
    refine lv_iload hx hb dX10_best_130 (lv_at hl 4 rfl) ?_
    obtain ⟨q_132, e_132, hF⟩ := ob_bd hF
    refine cvM (As := [.int x1_128, .int x6_128]) (rest := []) ⟨hx, hb, hml, hown, hts⟩ (cM_lays l D cI cZ h ad A σ_128 x1_128 x6_128 _ e_132) (cw_lays hts ⟨Nat.le_of_ble_eq_true rfl, Nat.le_of_ble_eq_true rfl⟩) hK hP hD hS rfl hl.1 rfl (lv_room (Nat.le_of_ble_eq_true rfl)) dX10_best_132 (fun H locs hP hD hS => ?_)
    refine lv_aload_n hx hb dX10_best_135 rfl (lv_at hl 0 rfl) ?_
    obtain ⟨q_136, e_136, hF⟩ := ob_bd hF
    refine crM (As := []) (rest := []) ⟨hx, hb, hml, hown, hts⟩ (cM_uglyNow l D cI cZ h ad q_132 _ e_136) (cw_uglyNow hts ⟨Nat.le_of_ble_eq_true rfl, Nat.le_of_ble_eq_true rfl⟩) hK hP rfl hl.1 rfl (lv_room (Nat.le_of_ble_eq_true rfl)) dX10_best_136 ?_
    refine lv_istore (lv' := [(7, .int q_136), (0, .ref h), (1, .int x1_128), (3, .int x3_128), (5, .int x5_128), (6, .int x6_128)]) hx hb dX10_best_139 hl (by decide) rfl (fun ls hl => ?_)
    refine lv_iload_n hx hb dX10_best_141 rfl (lv_at hl 3 rfl) ?_
    refine lv_iconst (v := (-1 : Int32)) hx hb dX10_best_142 (by decide) ?_
    refine lv_icmp_eq (tgt := 152) hx hb dX10_best_143 (by decide) (fun c_143 => ?_) (fun c_143 => ?_)
    · have hF := ob_t c_143 hF
      exact b_152 x1_128 x5_128 x6_128 q_136 K_90 k_90 q_132 _ _ _ hF hP hD hS (lv_sub hl [1, 2, 4, 5, 0] rfl)
    · have hF := ob_f c_143 hF
      refine lv_iload hx hb dX10_best_146 (lv_at hl 0 rfl) ?_
      refine lv_iload_n hx hb dX10_best_148 rfl (lv_at hl 3 rfl) ?_
      refine lv_icmp_ge (tgt := 169) hx hb dX10_best_149 (by decide) (fun c_149 => ?_) (fun c_149 => ?_)
      · have hF := ob_t c_149 hF
        refine lv_iinc (v := x6_128 + (1 : Int32)) (lv' := [(6, .int (x6_128 + (1 : Int32))), (7, .int q_136), (0, .ref h), (1, .int x1_128), (3, .int x3_128), (5, .int x5_128)]) hx hb dX10_best_169 hl (k := 5) rfl rfl (by decide) rfl (fun ls hl => ?_)
        refine lv_goto (tgt := 90) hx hb dX10_best_172 (by decide) ?_
        exact k_90 x3_128 (x6_128 + (1 : Int32)) q_132 _ _ _ hF hP hD hS (lv_sub hl [2, 3, 4, 5, 0] rfl)
      · have hF := ob_f c_149 hF
        exact b_152 x1_128 x5_128 x6_128 q_136 K_90 k_90 q_132 _ _ _ hF hP hD hS (lv_sub hl [1, 2, 4, 5, 0] rfl)
  have b_90 : ∀ (x1_90 : Int32) (x5_90 : Int32) (K_175 : Int32 → MS → Option (Int32 × MS)) (k_175 : ∀ (x3_175 : Int32) (σ_175 : MS) (H : Heap) (locs : List Loc) (ls : Array Slot), K_175 x3_175 σ_175 = some q → va_P D vwCl (wM cI cZ h ad σ_175) H → va_D A (wM cI cZ h ad σ_175) → va_S A s.heap H locs → lv_has ls 8 [(0, .ref h), (1, .int x1_90), (3, .int x3_175), (5, .int x5_90)] → W p l e (headSpec wsM_best { frames := 3, cells := 0, slots := 0, locals := 70 }).room s m ([.ref h, .int p1] : List Value).toArray below meth c H locs 0 0 (MQ below (va_Qi (fun x u => x = q.1 ∧ u = q.2) (preM D cI cZ h ad A) A) ([.ref h, .int p1] : List Value).toArray s 0 0 A) (F0 m 175 ls [])) (n_90 : Nat) (x3_90 : Int32) (x6_90 : Int32) (σ_90 : MS) (H : Heap) (locs : List Loc) (ls : Array Slot), FM_best_90 K_175 x1_90 x5_90 n_90 x3_90 x6_90 σ_90 = some q → va_P D vwCl (wM cI cZ h ad σ_90) H → va_D A (wM cI cZ h ad σ_90) → va_S A s.heap H locs → lv_has ls 8 [(0, .ref h), (1, .int x1_90), (3, .int x3_90), (5, .int x5_90), (6, .int x6_90)] → W p l e (headSpec wsM_best { frames := 3, cells := 0, slots := 0, locals := 70 }).room s m ([.ref h, .int p1] : List Value).toArray below meth c H locs 0 0 (MQ below (va_Qi (fun x u => x = q.1 ∧ u = q.2) (preM D cI cZ h ad A) A) ([.ref h, .int p1] : List Value).toArray s 0 0 A) (F0 m 90 ls []) := by
    intro x1_90 x5_90 K_175 k_175
    intro n_90
    induction n_90 with
    | zero =>
      intro x3_90 x6_90 σ_90 H locs ls hF hP hD hS hl
      exact absurd hF (by simp [FM_best_90])
    | succ n_90 ih_90 =>
      intro x3_90 x6_90 σ_90 H locs ls hF hP hD hS hl
      rw [FM_best_90] at hF
      refine lv_iload hx hb dX10_best_90 (lv_at hl 4 rfl) ?_
      refine lv_bipush (v := (64 : Int32)) hx hb dX10_best_92 (by decide) ?_
      refine lv_icmp_ge (tgt := 175) hx hb dX10_best_94 (by decide) (fun c_94 => ?_) (fun c_94 => ?_)
      · have hF := ob_t c_94 hF
        exact k_175 x3_90 σ_90 _ _ _ hF hP hD hS (lv_sub hl [0, 1, 2, 3] rfl)
      · have hF := ob_f c_94 hF
        refine lv_iload hx hb dX10_best_97 (lv_at hl 4 rfl) ?_
        obtain ⟨q_99, e_99, hF⟩ := ob_bd hF
        refine csM (As := [.int x6_90]) (rest := []) ⟨hx, hb, hml, hown, hts⟩ (cM_many l x6_90 _ e_99) (cw_many hts ⟨Nat.le_of_ble_eq_true rfl, Nat.le_of_ble_eq_true rfl⟩) rfl hl.1 rfl (lv_room (Nat.le_of_ble_eq_true rfl)) dX10_best_99 ?_
        refine lv_iload hx hb dX10_best_102 (lv_at hl 3 rfl) ?_
        refine lv_icmp_ne (tgt := 169) hx hb dX10_best_104 (by decide) (fun c_104 => ?_) (fun c_104 => ?_)
        · have hF := ob_f c_104 hF
          refine lv_iinc (v := x6_90 + (1 : Int32)) (lv' := [(6, .int (x6_90 + (1 : Int32))), (0, .ref h), (1, .int x1_90), (3, .int x3_90), (5, .int x5_90)]) hx hb dX10_best_169 hl (k := 4) rfl rfl (by decide) rfl (fun ls hl => ?_)
          refine lv_goto (tgt := 90) hx hb dX10_best_172 (by decide) ?_
          exact ih_90 x3_90 (x6_90 + (1 : Int32)) σ_90 _ _ _ hF hP hD hS (lv_sub hl [1, 2, 3, 4, 0] rfl)
        · have hF := ob_t c_104 hF
          refine lv_aload_n hx hb dX10_best_107 rfl (lv_at hl 0 rfl) ?_
          refine gM hx hb hts hin hown hK hP 4 (.ref (ad 4)) (by decide) mf_20 rfl dX10_best_108 ?_
          refine lv_iload_n hx hb dX10_best_111 rfl (lv_at hl 1 rfl) ?_
          obtain ⟨g_112, hF⟩ := ob_gd hF
          refine ldI hx hb hK hP (at_4 _ _ _ _ _) (σ_90.2 4 x1_90.toNatClampNeg) g_112 rfl dX10_best_112 ?_
          refine lv_if_eq (tgt := 128) hx hb dX10_best_113 (by decide) (fun c_113 => ?_) (fun c_113 => ?_)
          · have hF := ob_t c_113 hF
            exact b_128 x1_90 x3_90 x5_90 x6_90 (fun x3_90 x6_90 σ_90 => FM_best_90 K_175 x1_90 x5_90 n_90 x3_90 x6_90 σ_90) ih_90 σ_90 _ _ _ hF hP hD hS hl
          · have hF := ob_f c_113 hF
            refine lv_iload hx hb dX10_best_116 (lv_at hl 3 rfl) ?_
            refine lv_if_eq (tgt := 128) hx hb dX10_best_118 (by decide) (fun c_118 => ?_) (fun c_118 => ?_)
            · have hF := ob_t c_118 hF
              exact b_128 x1_90 x3_90 x5_90 x6_90 (fun x3_90 x6_90 σ_90 => FM_best_90 K_175 x1_90 x5_90 n_90 x3_90 x6_90 σ_90) ih_90 σ_90 _ _ _ hF hP hD hS hl
            · have hF := ob_f c_118 hF
              refine lv_iload hx hb dX10_best_121 (lv_at hl 3 rfl) ?_
              refine lv_bipush (v := (6 : Int32)) hx hb dX10_best_123 (by decide) ?_
              refine lv_icmp_ne (tgt := 169) hx hb dX10_best_125 (by decide) (fun c_125 => ?_) (fun c_125 => ?_)
              · have hF := ob_f c_125 hF
                refine lv_iinc (v := x6_90 + (1 : Int32)) (lv' := [(6, .int (x6_90 + (1 : Int32))), (0, .ref h), (1, .int x1_90), (3, .int x3_90), (5, .int x5_90)]) hx hb dX10_best_169 hl (k := 4) rfl rfl (by decide) rfl (fun ls hl => ?_)
                refine lv_goto (tgt := 90) hx hb dX10_best_172 (by decide) ?_
                exact ih_90 x3_90 (x6_90 + (1 : Int32)) σ_90 _ _ _ hF hP hD hS (lv_sub hl [1, 2, 3, 4, 0] rfl)
              · have hF := ob_t c_125 hF
                exact b_128 x1_90 x3_90 x5_90 x6_90 (fun x3_90 x6_90 σ_90 => FM_best_90 K_175 x1_90 x5_90 n_90 x3_90 x6_90 σ_90) ih_90 σ_90 _ _ _ hF hP hD hS hl
  have b_175 : ∀ (x1_175 : Int32) (x3_175 : Int32) (x5_175 : Int32) (K_80 : Int32 → Int32 → MS → Option (Int32 × MS)) (k_80 : ∀ (x3_80 : Int32) (x5_80 : Int32) (σ_80 : MS) (H : Heap) (locs : List Loc) (ls : Array Slot), K_80 x3_80 x5_80 σ_80 = some q → va_P D vwCl (wM cI cZ h ad σ_80) H → va_D A (wM cI cZ h ad σ_80) → va_S A s.heap H locs → lv_has ls 8 [(0, .ref h), (1, .int x1_175), (3, .int x3_80), (5, .int x5_80)] → W p l e (headSpec wsM_best { frames := 3, cells := 0, slots := 0, locals := 70 }).room s m ([.ref h, .int p1] : List Value).toArray below meth c H locs 0 0 (MQ below (va_Qi (fun x u => x = q.1 ∧ u = q.2) (preM D cI cZ h ad A) A) ([.ref h, .int p1] : List Value).toArray s 0 0 A) (F0 m 80 ls [])) (σ_175 : MS) (H : Heap) (locs : List Loc) (ls : Array Slot), FM_best_175 K_80 x1_175 x3_175 x5_175 σ_175 = some q → va_P D vwCl (wM cI cZ h ad σ_175) H → va_D A (wM cI cZ h ad σ_175) → va_S A s.heap H locs → lv_has ls 8 [(0, .ref h), (1, .int x1_175), (3, .int x3_175), (5, .int x5_175)] → W p l e (headSpec wsM_best { frames := 3, cells := 0, slots := 0, locals := 70 }).room s m ([.ref h, .int p1] : List Value).toArray below meth c H locs 0 0 (MQ below (va_Qi (fun x u => x = q.1 ∧ u = q.2) (preM D cI cZ h ad A) A) ([.ref h, .int p1] : List Value).toArray s 0 0 A) (F0 m 175 ls []) := by
    intro x1_175 x3_175 x5_175 K_80 k_80 σ_175 H locs ls hF hP hD hS hl
    unfold FM_best_175 at hF
    refine lv_iinc (v := x5_175 + (1 : Int32)) (lv' := [(5, .int (x5_175 + (1 : Int32))), (0, .ref h), (1, .int x1_175), (3, .int x3_175)]) hx hb dX10_best_175 hl (k := 3) rfl rfl (by decide) rfl (fun ls hl => ?_)
    refine lv_goto (tgt := 80) hx hb dX10_best_178 (by decide) ?_
    exact k_80 x3_175 (x5_175 + (1 : Int32)) σ_175 _ _ _ hF hP hD hS (lv_sub hl [1, 2, 3, 0] rfl)
  have b_80 : ∀ (x1_80 : Int32) (K_181 : Int32 → MS → Option (Int32 × MS)) (k_181 : ∀ (x3_181 : Int32) (σ_181 : MS) (H : Heap) (locs : List Loc) (ls : Array Slot), K_181 x3_181 σ_181 = some q → va_P D vwCl (wM cI cZ h ad σ_181) H → va_D A (wM cI cZ h ad σ_181) → va_S A s.heap H locs → lv_has ls 8 [(0, .ref h), (1, .int x1_80), (3, .int x3_181)] → W p l e (headSpec wsM_best { frames := 3, cells := 0, slots := 0, locals := 70 }).room s m ([.ref h, .int p1] : List Value).toArray below meth c H locs 0 0 (MQ below (va_Qi (fun x u => x = q.1 ∧ u = q.2) (preM D cI cZ h ad A) A) ([.ref h, .int p1] : List Value).toArray s 0 0 A) (F0 m 181 ls [])) (n_80 : Nat) (x3_80 : Int32) (x5_80 : Int32) (σ_80 : MS) (H : Heap) (locs : List Loc) (ls : Array Slot), FM_best_80 K_181 x1_80 n_80 x3_80 x5_80 σ_80 = some q → va_P D vwCl (wM cI cZ h ad σ_80) H → va_D A (wM cI cZ h ad σ_80) → va_S A s.heap H locs → lv_has ls 8 [(0, .ref h), (1, .int x1_80), (3, .int x3_80), (5, .int x5_80)] → W p l e (headSpec wsM_best { frames := 3, cells := 0, slots := 0, locals := 70 }).room s m ([.ref h, .int p1] : List Value).toArray below meth c H locs 0 0 (MQ below (va_Qi (fun x u => x = q.1 ∧ u = q.2) (preM D cI cZ h ad A) A) ([.ref h, .int p1] : List Value).toArray s 0 0 A) (F0 m 80 ls []) := by
    intro x1_80 K_181 k_181
    intro n_80
    induction n_80 with
    | zero =>
      intro x3_80 x5_80 σ_80 H locs ls hF hP hD hS hl
      exact absurd hF (by simp [FM_best_80])
    | succ n_80 ih_80 =>
      intro x3_80 x5_80 σ_80 H locs ls hF hP hD hS hl
      rw [FM_best_80] at hF
      refine lv_iload hx hb dX10_best_80 (lv_at hl 3 rfl) ?_
      refine lv_bipush (v := (6 : Int32)) hx hb dX10_best_82 (by decide) ?_
      refine lv_icmp_gt (tgt := 181) hx hb dX10_best_84 (by decide) (fun c_84 => ?_) (fun c_84 => ?_)
      · have hF := ob_t c_84 hF
        exact k_181 x3_80 σ_80 _ _ _ hF hP hD hS (lv_sub hl [0, 1, 2] rfl)
      · have hF := ob_f c_84 hF
        refine lv_iconst (v := (0 : Int32)) hx hb dX10_best_87 (by decide) ?_
        refine lv_istore (lv' := [(6, .int (0 : Int32)), (0, .ref h), (1, .int x1_80), (3, .int x3_80), (5, .int x5_80)]) hx hb dX10_best_88 hl (by decide) rfl (fun ls hl => ?_)
        exact b_90 x1_80 x5_80 (fun x3_175 σ_175 => FM_best_175 (fun x3_80 x5_80 σ_80 => FM_best_80 K_181 x1_80 n_80 x3_80 x5_80 σ_80) x1_80 x3_175 x5_80 σ_175) (fun x3_175 σ_175 => b_175 x1_80 x3_175 x5_80 (fun x3_80 x5_80 σ_80 => FM_best_80 K_181 x1_80 n_80 x3_80 x5_80 σ_80) ih_80 σ_175) fu x3_80 (0 : Int32) σ_80 _ _ _ hF hP hD hS (lv_sub hl [1, 2, 3, 4, 0] rfl)
  have b_181 : ∀ (x1_181 : Int32) (x3_181 : Int32) (K_72 : Int32 → Int32 → MS → Option (Int32 × MS)) (k_72 : ∀ (x3_72 : Int32) (x4_72 : Int32) (σ_72 : MS) (H : Heap) (locs : List Loc) (ls : Array Slot), K_72 x3_72 x4_72 σ_72 = some q → va_P D vwCl (wM cI cZ h ad σ_72) H → va_D A (wM cI cZ h ad σ_72) → va_S A s.heap H locs → lv_has ls 8 [(0, .ref h), (1, .int x1_181), (3, .int x3_72), (4, .int x4_72)] → W p l e (headSpec wsM_best { frames := 3, cells := 0, slots := 0, locals := 70 }).room s m ([.ref h, .int p1] : List Value).toArray below meth c H locs 0 0 (MQ below (va_Qi (fun x u => x = q.1 ∧ u = q.2) (preM D cI cZ h ad A) A) ([.ref h, .int p1] : List Value).toArray s 0 0 A) (F0 m 72 ls [])) (σ_181 : MS) (H : Heap) (locs : List Loc) (ls : Array Slot), FM_best_181 K_72 x1_181 x3_181 σ_181 = some q → va_P D vwCl (wM cI cZ h ad σ_181) H → va_D A (wM cI cZ h ad σ_181) → va_S A s.heap H locs → lv_has ls 8 [(0, .ref h), (1, .int x1_181), (3, .int x3_181)] → W p l e (headSpec wsM_best { frames := 3, cells := 0, slots := 0, locals := 70 }).room s m ([.ref h, .int p1] : List Value).toArray below meth c H locs 0 0 (MQ below (va_Qi (fun x u => x = q.1 ∧ u = q.2) (preM D cI cZ h ad A) A) ([.ref h, .int p1] : List Value).toArray s 0 0 A) (F0 m 181 ls []) := by
    intro x1_181 x3_181 K_72 k_72 σ_181 H locs ls hF hP hD hS hl
    unfold FM_best_181 at hF
    refine lv_aload_n hx hb dX10_best_181 rfl (lv_at hl 0 rfl) ?_
    obtain ⟨q_182, e_182, hF⟩ := ob_bd hF
    refine cwM (As := []) (rest := []) ⟨hx, hb, hml, hown, hts⟩ (cM_turns l D cI cZ h ad A σ_181 _ e_182) (cw_turns hts ⟨Nat.le_of_ble_eq_true rfl, Nat.le_of_ble_eq_true rfl⟩) hK hP hD hS rfl hl.1 rfl (lv_room (Nat.le_of_ble_eq_true rfl)) dX10_best_182 (fun H locs hP hD hS => ?_)
    refine lv_istore (lv' := [(4, .int q_182.1), (0, .ref h), (1, .int x1_181), (3, .int x3_181)]) hx hb dX10_best_185 hl (by decide) rfl (fun ls hl => ?_)
    refine lv_goto (tgt := 72) hx hb dX10_best_187 (by decide) ?_
    exact k_72 x3_181 q_182.1 q_182.2 _ _ _ hF hP hD hS (lv_sub hl [1, 2, 3, 0] rfl)
  have b_72 : ∀ (x1_72 : Int32) (n_72 : Nat) (x3_72 : Int32) (x4_72 : Int32) (σ_72 : MS) (H : Heap) (locs : List Loc) (ls : Array Slot), FM_best_72 x1_72 n_72 x3_72 x4_72 σ_72 = some q → va_P D vwCl (wM cI cZ h ad σ_72) H → va_D A (wM cI cZ h ad σ_72) → va_S A s.heap H locs → lv_has ls 8 [(0, .ref h), (1, .int x1_72), (3, .int x3_72), (4, .int x4_72)] → W p l e (headSpec wsM_best { frames := 3, cells := 0, slots := 0, locals := 70 }).room s m ([.ref h, .int p1] : List Value).toArray below meth c H locs 0 0 (MQ below (va_Qi (fun x u => x = q.1 ∧ u = q.2) (preM D cI cZ h ad A) A) ([.ref h, .int p1] : List Value).toArray s 0 0 A) (F0 m 72 ls []) := by
    intro x1_72
    intro n_72
    induction n_72 with
    | zero =>
      intro x3_72 x4_72 σ_72 H locs ls hF hP hD hS hl
      exact absurd hF (by simp [FM_best_72])
    | succ n_72 ih_72 =>
      intro x3_72 x4_72 σ_72 H locs ls hF hP hD hS hl
      rw [FM_best_72] at hF
      refine lv_iload hx hb dX10_best_72 (lv_at hl 3 rfl) ?_
      refine lv_if_eq (tgt := 190) hx hb dX10_best_74 (by decide) (fun c_74 => ?_) (fun c_74 => ?_)
      · have hF := ob_t c_74 hF
        refine lv_iload_n hx hb dX10_best_190 rfl (lv_at hl 2 rfl) ?_
        exact rwM hx hb hr hlocks hF hK hP hD hS dX10_best_191
      · have hF := ob_f c_74 hF
        refine lv_iconst (v := (0 : Int32)) hx hb dX10_best_77 (by decide) ?_
        refine lv_istore (lv' := [(5, .int (0 : Int32)), (0, .ref h), (1, .int x1_72), (3, .int x3_72), (4, .int x4_72)]) hx hb dX10_best_78 hl (by decide) rfl (fun ls hl => ?_)
        exact b_80 x1_72 (fun x3_181 σ_181 => FM_best_181 (fun x3_72 x4_72 σ_72 => FM_best_72  x1_72 n_72 x3_72 x4_72 σ_72) x1_72 x3_181 σ_181) (fun x3_181 σ_181 => b_181 x1_72 x3_181 (fun x3_72 x4_72 σ_72 => FM_best_72  x1_72 n_72 x3_72 x4_72 σ_72) ih_72 σ_181) fu x3_72 (0 : Int32) σ_72 _ _ _ hF hP hD hS (lv_sub hl [1, 2, 3, 0] rfl)
  have b_69 : ∀ (x1_69 : Int32) (x3_69 : Int32) (σ_69 : MS) (H : Heap) (locs : List Loc) (ls : Array Slot), FM_best_69 x1_69 x3_69 σ_69 = some q → va_P D vwCl (wM cI cZ h ad σ_69) H → va_D A (wM cI cZ h ad σ_69) → va_S A s.heap H locs → lv_has ls 8 [(0, .ref h), (1, .int x1_69), (3, .int x3_69)] → W p l e (headSpec wsM_best { frames := 3, cells := 0, slots := 0, locals := 70 }).room s m ([.ref h, .int p1] : List Value).toArray below meth c H locs 0 0 (MQ below (va_Qi (fun x u => x = q.1 ∧ u = q.2) (preM D cI cZ h ad A) A) ([.ref h, .int p1] : List Value).toArray s 0 0 A) (F0 m 69 ls []) := by
    intro x1_69 x3_69 σ_69 H locs ls hF hP hD hS hl
    unfold FM_best_69 at hF
    refine lv_iconst (v := (1 : Int32)) hx hb dX10_best_69 (by decide) ?_
    refine lv_istore (lv' := [(4, .int (1 : Int32)), (0, .ref h), (1, .int x1_69), (3, .int x3_69)]) hx hb dX10_best_70 hl (by decide) rfl (fun ls hl => ?_)
    exact b_72 x1_69 fu x3_69 (1 : Int32) σ_69 _ _ _ hF hP hD hS (lv_sub hl [1, 2, 3, 0] rfl)
  have hl := lv_entry ([.ref h, .int p1]) (n := 8) (Nat.le_of_ble_eq_true rfl)
  rw [lg_entry_eq]
  generalize (lg_sl ([.ref h, .int p1]) ++ List.replicate (8 - (lg_sl ([.ref h, .int p1])).length) Slot.unset).toArray = ls at hl ⊢
  have hl : lv_has ls 8 [(0, .ref h), (1, .int p1)] := hl
  unfold FM_best at hF
  refine lv_aload_n hx hb dX10_best_0 rfl (lv_at hl 0 rfl) ?_
  refine lv_iload_n hx hb dX10_best_1 rfl (lv_at hl 1 rfl) ?_
  obtain ⟨q_2, e_2, hF⟩ := ob_bd hF
  refine crM (As := [.int p1]) (rest := []) ⟨hx, hb, hml, hown, hts⟩ (cM_isThere l D cI cZ h ad σ p1 _ e_2) (cw_isThere hts ⟨Nat.le_of_ble_eq_true rfl, Nat.le_of_ble_eq_true rfl⟩) hK hP rfl hl.1 rfl (lv_room (Nat.le_of_ble_eq_true rfl)) dX10_best_2 ?_
  refine lv_if_ne (tgt := 10) hx hb dX10_best_5 (by decide) (fun c_5 => ?_) (fun c_5 => ?_)
  · have hF := ob_f c_5 hF
    refine lv_aload_n hx hb dX10_best_10 rfl (lv_at hl 0 rfl) ?_
    refine lv_iload_n hx hb dX10_best_11 rfl (lv_at hl 1 rfl) ?_
    obtain ⟨q_12, e_12, hF⟩ := ob_bd hF
    refine crM (As := [.int p1]) (rest := []) ⟨hx, hb, hml, hown, hts⟩ (cM_sleeveOf l D cI cZ h ad σ p1 _ e_12) (cw_sleeveOf hts ⟨Nat.le_of_ble_eq_true rfl, Nat.le_of_ble_eq_true rfl⟩) hK hP rfl hl.1 rfl (lv_room (Nat.le_of_ble_eq_true rfl)) dX10_best_12 ?_
    refine lv_istore_n (lv' := [(2, .int q_12), (0, .ref h), (1, .int p1)]) hx hb dX10_best_15 rfl hl (by decide) rfl (fun ls hl => ?_)
    refine lv_iload_n hx hb dX10_best_16 rfl (lv_at hl 0 rfl) ?_
    refine lv_bipush (v := (-3 : Int32)) hx hb dX10_best_17 (by decide) ?_
    refine lv_icmp_ne (tgt := 25) hx hb dX10_best_19 (by decide) (fun c_19 => ?_) (fun c_19 => ?_)
    · have hF := ob_f c_19 hF
      refine lv_aload_n hx hb dX10_best_25 rfl (lv_at hl 1 rfl) ?_
      refine lv_aload_n hx hb dX10_best_26 rfl (lv_at hl 1 rfl) ?_
      refine gM hx hb hts hin hown hK hP 21 (.int (σ.1 21)) (by decide) mf_68 rfl dX10_best_27 ?_
      refine lv_iload_n hx hb dX10_best_30 rfl (lv_at hl 0 rfl) ?_
      refine lv_aload_n hx hb dX10_best_31 rfl (lv_at hl 1 rfl) ?_
      refine gM hx hb hts hin hown hK hP 22 (.int (σ.1 22)) (by decide) mf_72 rfl dX10_best_32 ?_
      refine lv_aload_n hx hb dX10_best_35 rfl (lv_at hl 1 rfl) ?_
      refine gM hx hb hts hin hown hK hP 23 (.int (σ.1 23)) (by decide) mf_75 rfl dX10_best_36 ?_
      obtain ⟨q_39, e_39, hF⟩ := ob_bd hF
      refine cvM (As := [.int (σ.1 21), .int q_12, .int (σ.1 22), .int (σ.1 23)]) (rest := []) ⟨hx, hb, hml, hown, hts⟩ (cM_lengths l D cI cZ h ad A σ (σ.1 21) q_12 (σ.1 22) (σ.1 23) _ e_39) (cw_lengths hts ⟨Nat.le_of_ble_eq_true rfl, Nat.le_of_ble_eq_true rfl⟩) hK hP hD hS rfl hl.1 rfl (lv_room (Nat.le_of_ble_eq_true rfl)) dX10_best_39 (fun H locs hP hD hS => ?_)
      refine lv_iconst (v := (-1 : Int32)) hx hb dX10_best_42 (by decide) ?_
      refine lv_istore_n (lv' := [(3, .int (-1 : Int32)), (2, .int q_12), (0, .ref h), (1, .int p1)]) hx hb dX10_best_43 rfl hl (by decide) rfl (fun ls hl => ?_)
      refine lv_iconst (v := (0 : Int32)) hx hb dX10_best_44 (by decide) ?_
      refine lv_istore (lv' := [(4, .int (0 : Int32)), (3, .int (-1 : Int32)), (2, .int q_12), (0, .ref h), (1, .int p1)]) hx hb dX10_best_45 hl (by decide) rfl (fun ls hl => ?_)
      exact b_47 p1 (-1 : Int32) (fun σ_69 => FM_best_69 p1 (-1 : Int32) σ_69) (fun σ_69 => b_69 p1 (-1 : Int32) σ_69) fu (0 : Int32) q_39 _ _ _ hF hP hD hS (lv_sub hl [3, 4, 1, 0] rfl)
    · have hF := ob_t c_19 hF
      refine lv_bipush (v := (-3 : Int32)) hx hb dX10_best_22 (by decide) ?_
      exact rwM hx hb hr hlocks hF hK hP hD hS dX10_best_24
  · have hF := ob_t c_5 hF
    refine lv_iconst (v := (-1 : Int32)) hx hb dX10_best_8 (by decide) ?_
    exact rwM hx hb hr hlocks hF hK hP hD hS dX10_best_9
def FM_laid (σ : MS) (p1 : Int32) : Option Int32 := (if (σ.1 36) = (-1 : Int32) then (some (-1 : Int32)) else (if p1 = 0 then (some (σ.1 36)) else (if p1 = (1 : Int32) then (some (σ.1 37)) else (some (-1 : Int32)))))
def wsM_laid : List Cond := Cond.code yX10_laid cX10_laid 2 (some .int) :: wMa
set_option maxHeartbeats 4000000 in
set_option maxRecDepth 100000 in
theorem cM_laid (l : Launch) (D : va_G) (cI cZ : ClassId) (h : Nat) (ad : Nat → Nat) (σ : MS) (p1 : Int32) (q : Int32) (hF : FM_laid σ p1 = some q) : Met l yX10_laid wsM_laid { frames := 0, cells := 0, slots := 0, locals := 0 } (va_Pc [.ref h, .int p1] (preR D cI cZ h ad σ)) (vp_Si (fun x => x = q)) 0 0 (fun _ => False) := by
  refine Met.ofW (cc := cX10_laid) (maxL := 2) (ret := (some .int)) (by decide) rfl ?_
  intro p e s m args below meth c s₁ B hml hv
  obtain ⟨rfl, hP, hK⟩ := hv
  have hx := B.exec
  have hb := B.bytes
  have hr := B.returns
  have hts : ∀ w ∈ (Cond.code yX10_laid cX10_laid 2 (some .int) :: wMa), w.before ([.ref h, .int p1] : List Value).toArray s = true := atoms_spec (ws := wsM_laid) B.pre
  have hin : ∀ w ∈ wMa, w ∈ (Cond.code yX10_laid cX10_laid 2 (some .int) :: wMa) := fun w hw => List.mem_cons_of_mem _ hw
  have hown : s.vm.findClass RX10 = some m.cls := findClass_of_methodNamed B.named
  have hlocks := B.notSynchronized
  have hl := lv_entry ([.ref h, .int p1]) (n := 2) (Nat.le_of_ble_eq_true rfl)
  rw [lg_entry_eq]
  generalize (lg_sl ([.ref h, .int p1]) ++ List.replicate (2 - (lg_sl ([.ref h, .int p1])).length) Slot.unset).toArray = ls at hl ⊢
  have hl : lv_has ls 2 [(0, .ref h), (1, .int p1)] := hl
  unfold FM_laid at hF
  refine lv_aload_n hx hb dX10_laid_0 rfl (lv_at hl 0 rfl) ?_
  refine gM hx hb hts hin hown hK hP 36 (.int (σ.1 36)) (by decide) mf_108 rfl dX10_laid_1 ?_
  refine lv_iconst (v := (-1 : Int32)) hx hb dX10_laid_4 (by decide) ?_
  refine lv_icmp_ne (tgt := 12) hx hb dX10_laid_5 (by decide) (fun c_5 => ?_) (fun c_5 => ?_)
  · have hF := ob_f c_5 hF
    refine lv_iload_n hx hb dX10_laid_12 rfl (lv_at hl 1 rfl) ?_
    refine lv_if_ne (tgt := 23) hx hb dX10_laid_13 (by decide) (fun c_13 => ?_) (fun c_13 => ?_)
    · have hF := ob_f c_13 hF
      refine lv_iload_n hx hb dX10_laid_23 rfl (lv_at hl 1 rfl) ?_
      refine lv_iconst (v := (1 : Int32)) hx hb dX10_laid_24 (by decide) ?_
      refine lv_icmp_ne (tgt := 35) hx hb dX10_laid_25 (by decide) (fun c_25 => ?_) (fun c_25 => ?_)
      · have hF := ob_f c_25 hF
        refine lv_iconst (v := (-1 : Int32)) hx hb dX10_laid_35 (by decide) ?_
        exact rrM hx hb hr hlocks hF dX10_laid_36
      · have hF := ob_t c_25 hF
        refine lv_aload_n hx hb dX10_laid_28 rfl (lv_at hl 0 rfl) ?_
        refine gM hx hb hts hin hown hK hP 37 (.int (σ.1 37)) (by decide) mf_209 rfl dX10_laid_29 ?_
        refine lv_goto (tgt := 36) hx hb dX10_laid_32 (by decide) ?_
        exact rrM hx hb hr hlocks hF dX10_laid_36
    · have hF := ob_t c_13 hF
      refine lv_aload_n hx hb dX10_laid_16 rfl (lv_at hl 0 rfl) ?_
      refine gM hx hb hts hin hown hK hP 36 (.int (σ.1 36)) (by decide) mf_108 rfl dX10_laid_17 ?_
      refine lv_goto (tgt := 36) hx hb dX10_laid_20 (by decide) ?_
      exact rrM hx hb hr hlocks hF dX10_laid_36
  · have hF := ob_t c_5 hF
    refine lv_iconst (v := (-1 : Int32)) hx hb dX10_laid_8 (by decide) ?_
    refine lv_goto (tgt := 36) hx hb dX10_laid_9 (by decide) ?_
    exact rrM hx hb hr hlocks hF dX10_laid_36
