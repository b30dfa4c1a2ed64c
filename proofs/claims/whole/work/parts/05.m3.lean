def FM_sew_118 (K_155 : MS → Option (Int32 × MS)) (x1_118 : Int32) (x5_118 : Int32) : Nat → Int32 → MS → Option (Int32 × MS)
  | 0, _, _ => none
  | n_118 + 1, x6_118, σ_118 => (gd (inb x1_118 40) (if (σ_118.2 2 x1_118.toNatClampNeg) ≤ x6_118 then (K_155 σ_118) else (gd (inb x6_118 120) (gd (inb (((120 : Int32) * x5_118) + x6_118) 3600) (FM_sew_118 K_155 x1_118 x5_118 n_118 (x6_118 + (1 : Int32)) (sa σ_118 14 (((120 : Int32) * x5_118) + x6_118) (σ_118.2 34 x6_118.toNatClampNeg)))))))
def FM_sew_155 (x1_155 : Int32) (x5_155 : Int32) (σ_155 : MS) : Option (Int32 × MS) := (gd (inb x5_155 30) (gd (inb x5_155 30) (gd (inb x1_155 40) (some (x5_155, (si (sa (sa (sa σ_155 19 x5_155 (-1 : Int32)) 20 x5_155 (-1 : Int32)) 1 x1_155 (0 : Int32)) 6 ((σ_155.1 6) + (1 : Int32))))))))
def FM_sew (σ : MS) (p1 : Int32) (p2 : Int32) (p3 : Int32) : Option (Int32 × MS) := ((FM_bad σ p1 p2 p3).bind fun q_4 => (if q_4.1 = 0 then (if (q_4.2.1 6) = (30 : Int32) then (some ((-4 : Int32), q_4.2)) else (gd (inb (q_4.2.1 6) 30) (gd (inb p1 40) (gd (inb (q_4.2.1 6) 30) (gd (inb p1 40) (gd (inb (q_4.2.1 6) 30) (gd (inb (q_4.2.1 6) 30) (gd (inb (q_4.2.1 6) 30) (gd (inb (q_4.2.1 6) 30) (gd (inb (2 : Int32) 6) (gd (inb (q_4.2.1 6) 30) (FM_sew_118 (fun σ_155 => FM_sew_155 p1 (q_4.2.1 6) σ_155) p1 (q_4.2.1 6) fu (0 : Int32) (sa (sa (sa (sa (sa (sa (sa q_4.2 7 (q_4.2.1 6) (1 : Int32)) 8 (q_4.2.1 6) (q_4.2.2 3 p1.toNatClampNeg)) 9 (q_4.2.1 6) (q_4.2.2 4 p1.toNatClampNeg)) 10 (q_4.2.1 6) (q_4.2.1 21)) 11 (q_4.2.1 6) (q_4.2.1 22)) 12 (q_4.2.1 6) (q_4.2.1 23)) 13 (q_4.2.1 6) (q_4.2.2 32 (2 : Int32).toNatClampNeg)))))))))))))) else (some (q_4.1, q_4.2))))
def wsM_sew : List Cond := Cond.code yX10_sew cX10_sew 7 (some .int) :: wMa
set_option maxHeartbeats 4000000 in
set_option maxRecDepth 100000 in
theorem cM_sew (l : Launch) (D : va_G) (cI cZ : ClassId) (h : Nat) (ad : Nat → Nat) (A : Nat → Prop) (σ : MS) (p1 : Int32) (p2 : Int32) (p3 : Int32) (q : Int32 × MS) (hF : FM_sew σ p1 p2 p3 = some q) : Met l yX10_sew wsM_sew { frames := 3, cells := 0, slots := 0, locals := 72 } (va_Pc [.ref h, .int p1, .int p2, .int p3] (preM D cI cZ h ad A σ)) (va_Qi (fun x u => x = q.1 ∧ u = q.2) (preM D cI cZ h ad A) A) 0 0 A := by
  refine Met.ofW (cc := cX10_sew) (maxL := 7) (ret := (some .int)) (by decide) rfl ?_
  intro p e s m args below meth c s₁ B hml hv
  obtain ⟨rfl, hP, hK, hD⟩ := hv
  have hx := B.exec
  have hb := B.bytes
  have hr := B.returns
  have hts : ∀ w ∈ (Cond.code yX10_sew cX10_sew 7 (some .int) :: wMa), w.before ([.ref h, .int p1, .int p2, .int p3] : List Value).toArray s = true := atoms_spec (ws := wsM_sew) B.pre
  have hin : ∀ w ∈ wMa, w ∈ (Cond.code yX10_sew cX10_sew 7 (some .int) :: wMa) := fun w hw => List.mem_cons_of_mem _ hw
  have hown : s.vm.findClass RX10 = some m.cls := findClass_of_methodNamed B.named
  have hlocks := B.notSynchronized
  have hS : va_S A s.heap s.heap [] := va_S.rf
  have b_118 : ∀ (x1_118 : Int32) (x5_118 : Int32) (K_155 : MS → Option (Int32 × MS)) (k_155 : ∀ (σ_155 : MS) (H : Heap) (locs : List Loc) (ls : Array Slot), K_155 σ_155 = some q → va_P D vwCl (wM cI cZ h ad σ_155) H → va_D A (wM cI cZ h ad σ_155) → va_S A s.heap H locs → lv_has ls 7 [(0, .ref h), (1, .int x1_118), (5, .int x5_118)] → W p l e (headSpec wsM_sew { frames := 3, cells := 0, slots := 0, locals := 72 }).room s m ([.ref h, .int p1, .int p2, .int p3] : List Value).toArray below meth c H locs 0 0 (MQ below (va_Qi (fun x u => x = q.1 ∧ u = q.2) (preM D cI cZ h ad A) A) ([.ref h, .int p1, .int p2, .int p3] : List Value).toArray s 0 0 A) (F0 m 155 ls [])) (n_118 : Nat) (x6_118 : Int32) (σ_118 : MS) (H : Heap) (locs : List Loc) (ls : Array Slot), FM_sew_118 K_155 x1_118 x5_118 n_118 x6_118 σ_118 = some q → va_P D vwCl (wM cI cZ h ad σ_118) H → va_D A (wM cI cZ h ad σ_118) → va_S A s.heap H locs → lv_has ls 7 [(0, .ref h), (1, .int x1_118), (5, .int x5_118), (6, .int x6_118)] → W p l e (headSpec wsM_sew { frames := 3, cells := 0, slots := 0, locals := 72 }).room s m ([.ref h, .int p1, .int p2, .int p3] : List Value).toArray below meth c H locs 0 0 (MQ below (va_Qi (fun x u => x = q.1 ∧ u = q.2) (preM D cI cZ h ad A) A) ([.ref h, .int p1, .int p2, .int p3] : List Value).toArray s 0 0 A) (F0 m 118 ls []) := by
    intro x1_118 x5_118 K_155 k_155
    intro n_118
    induction n_118 with
    | zero =>
      intro x6_118 σ_118 H locs ls hF hP hD hS hl
      exact absurd hF (by simp [FM_sew_118])
    | succ n_118 ih_118 =>
      intro x6_118 σ_118 H locs ls hF hP hD hS hl
      rw [FM_sew_118] at hF
      refine lv_iload hx hb dX10_sew_118 (lv_at hl 3 rfl) ?_
      refine lv_aload_n hx hb dX10_sew_120 rfl (lv_at hl 0 rfl) ?_
      refine gM hx hb hts hin hown hK hP 2 (.ref (ad 2)) (by decide) mf_13 rfl dX10_sew_121 ?_
      refine lv_iload_n hx hb dX10_sew_124 rfl (lv_at hl 1 rfl) ?_
      obtain ⟨g_125, hF⟩ := ob_gd hF
      refine ldI hx hb hK hP (at_2 _ _ _ _ _) (σ_118.2 2 x1_118.toNatClampNeg) g_125 rfl dX10_sew_125 ?_
      refine lv_icmp_ge (tgt := 155) hx hb dX10_sew_126 (by decide) (fun c_126 => ?_) (fun c_126 => ?_)
      · have hF := ob_t c_126 hF
        exact k_155 σ_118 _ _ _ hF hP hD hS (lv_sub hl [0, 1, 2] rfl)
      · have hF := ob_f c_126 hF
        refine lv_aload_n hx hb dX10_sew_129 rfl (lv_at hl 0 rfl) ?_
        refine gM hx hb hts hin hown hK hP 14 (.ref (ad 14)) (by decide) mf_47 rfl dX10_sew_130 ?_
        refine lv_bipush (v := (120 : Int32)) hx hb dX10_sew_133 (by decide) ?_
        refine lv_iload hx hb dX10_sew_135 (lv_at hl 2 rfl) ?_
        refine lv_imul hx hb dX10_sew_137 ?_
        refine lv_iload hx hb dX10_sew_138 (lv_at hl 3 rfl) ?_
        refine lv_iadd hx hb dX10_sew_140 ?_
        refine lv_aload_n hx hb dX10_sew_141 rfl (lv_at hl 0 rfl) ?_
        refine gM hx hb hts hin hown hK hP 34 (.ref (ad 34)) (by decide) mf_102 rfl dX10_sew_142 ?_
        refine lv_iload hx hb dX10_sew_145 (lv_at hl 3 rfl) ?_
        obtain ⟨g_147, hF⟩ := ob_gd hF
        refine ldI hx hb hK hP (at_34 _ _ _ _ _) (σ_118.2 34 x6_118.toNatClampNeg) g_147 rfl dX10_sew_147 ?_
        obtain ⟨g_148, hF⟩ := ob_gd hF
        refine stI hx hb hK hP hD hS (at_14 _ _ _ _ _) (st_14 _ _ _ _ _ _ _) g_148 dX10_sew_148 (fun H locs hP hD hS => ?_)
        refine lv_iinc (v := x6_118 + (1 : Int32)) (lv' := [(6, .int (x6_118 + (1 : Int32))), (0, .ref h), (1, .int x1_118), (5, .int x5_118)]) hx hb dX10_sew_149 hl (k := 3) rfl rfl (by decide) rfl (fun ls hl => ?_)
        refine lv_goto (tgt := 118) hx hb dX10_sew_152 (by decide) ?_
        exact ih_118 (x6_118 + (1 : Int32)) (sa σ_118 14 (((120 : Int32) * x5_118) + x6_118) (σ_118.2 34 x6_118.toNatClampNeg)) _ _ _ hF hP hD hS (lv_sub hl [1, 2, 3, 0] rfl)
  have b_155 : ∀ (x1_155 : Int32) (x5_155 : Int32) (σ_155 : MS) (H : Heap) (locs : List Loc) (ls : Array Slot), FM_sew_155 x1_155 x5_155 σ_155 = some q → va_P D vwCl (wM cI cZ h ad σ_155) H → va_D A (wM cI cZ h ad σ_155) → va_S A s.heap H locs → lv_has ls 7 [(0, .ref h), (1, .int x1_155), (5, .int x5_155)] → W p l e (headSpec wsM_sew { frames := 3, cells := 0, slots := 0, locals := 72 }).room s m ([.ref h, .int p1, .int p2, .int p3] : List Value).toArray below meth c H locs 0 0 (MQ below (va_Qi (fun x u => x = q.1 ∧ u = q.2) (preM D cI cZ h ad A) A) ([.ref h, .int p1, .int p2, .int p3] : List Value).toArray s 0 0 A) (F0 m 155 ls []) := by
    intro x1_155 x5_155 σ_155 H locs ls hF hP hD hS hl
    unfold FM_sew_155 at hF
    refine lv_aload_n hx hb dX10_sew_155 rfl (lv_at hl 0 rfl) ?_
    refine gM hx hb hts hin hown hK hP 19 (.ref (ad 19)) (by decide) mf_62 rfl dX10_sew_156 ?_
    refine lv_iload hx hb dX10_sew_159 (lv_at hl 2 rfl) ?_
    refine lv_iconst (v := (-1 : Int32)) hx hb dX10_sew_161 (by decide) ?_
    obtain ⟨g_162, hF⟩ := ob_gd hF
    refine stI hx hb hK hP hD hS (at_19 _ _ _ _ _) (st_19 _ _ _ _ _ _ _) g_162 dX10_sew_162 (fun H locs hP hD hS => ?_)
    refine lv_aload_n hx hb dX10_sew_163 rfl (lv_at hl 0 rfl) ?_
    refine gM hx hb hts hin hown hK hP 20 (.ref (ad 20)) (by decide) mf_65 rfl dX10_sew_164 ?_
    refine lv_iload hx hb dX10_sew_167 (lv_at hl 2 rfl) ?_
    refine lv_iconst (v := (-1 : Int32)) hx hb dX10_sew_169 (by decide) ?_
    obtain ⟨g_170, hF⟩ := ob_gd hF
    refine stI hx hb hK hP hD hS (at_20 _ _ _ _ _) (st_20 _ _ _ _ _ _ _) g_170 dX10_sew_170 (fun H locs hP hD hS => ?_)
    refine lv_aload_n hx hb dX10_sew_171 rfl (lv_at hl 0 rfl) ?_
    refine gM hx hb hts hin hown hK hP 1 (.ref (ad 1)) (by decide) mf_7 rfl dX10_sew_172 ?_
    refine lv_iload_n hx hb dX10_sew_175 rfl (lv_at hl 1 rfl) ?_
    refine lv_iconst (v := (0 : Int32)) hx hb dX10_sew_176 (by decide) ?_
    obtain ⟨g_177, hF⟩ := ob_gd hF
    refine stZ (y := (0 : Int32)) hx hb hK hP hD hS (at_1 _ _ _ _ _) rfl (st_1 _ _ _ _ _ _ _) g_177 dX10_sew_177 (fun H locs hP hD hS => ?_)
    refine lv_aload_n hx hb dX10_sew_178 rfl (lv_at hl 0 rfl) ?_
    refine lv_dup hx hb dX10_sew_179 rfl ?_
    refine gM hx hb hts hin hown hK hP 6 (.int (σ_155.1 6)) (by decide) mf_145 rfl dX10_sew_180 ?_
    refine lv_iconst (v := (1 : Int32)) hx hb dX10_sew_183 (by decide) ?_
    refine lv_iadd hx hb dX10_sew_184 ?_
    refine pM (ty := .int) (v := ((σ_155.1 6) + (1 : Int32))) hx hb hts hin hown hK hP hD hS 6 (by decide) mf_145 rfl (by decide +kernel) rfl rfl (Nat.le_of_ble_eq_true rfl) (pu_6 _ _ _ _ _ _) dX10_sew_185 (fun H locs hP hD hS => ?_)
    refine lv_iload hx hb dX10_sew_188 (lv_at hl 2 rfl) ?_
    exact rwM hx hb hr hlocks hF hK hP hD hS dX10_sew_190
  have hl := lv_entry ([.ref h, .int p1, .int p2, .int p3]) (n := 7) (Nat.le_of_ble_eq_true rfl)
  rw [lg_entry_eq]
  generalize (lg_sl ([.ref h, .int p1, .int p2, .int p3]) ++ List.replicate (7 - (lg_sl ([.ref h, .int p1, .int p2, .int p3])).length) Slot.unset).toArray = ls at hl ⊢
  have hl : lv_has ls 7 [(0, .ref h), (1, .int p1), (2, .int p2), (3, .int p3)] := hl
  unfold FM_sew at hF
  refine lv_aload_n hx hb dX10_sew_0 rfl (lv_at hl 0 rfl) ?_
  refine lv_iload_n hx hb dX10_sew_1 rfl (lv_at hl 1 rfl) ?_
  refine lv_iload_n hx hb dX10_sew_2 rfl (lv_at hl 2 rfl) ?_
  refine lv_iload_n hx hb dX10_sew_3 rfl (lv_at hl 3 rfl) ?_
  obtain ⟨q_4, e_4, hF⟩ := ob_bd hF
  refine cwM (As := [.int p1, .int p2, .int p3]) (rest := []) ⟨hx, hb, hml, hown, hts⟩ (cM_bad l D cI cZ h ad A σ p1 p2 p3 _ e_4) (cw_bad hts ⟨Nat.le_of_ble_eq_true rfl, Nat.le_of_ble_eq_true rfl⟩) hK hP hD hS rfl hl.1 rfl (lv_room (Nat.le_of_ble_eq_true rfl)) dX10_sew_4 (fun H locs hP hD hS => ?_)
  refine lv_istore (lv' := [(4, .int q_4.1), (0, .ref h), (1, .int p1), (2, .int p2), (3, .int p3)]) hx hb dX10_sew_7 hl (by decide) rfl (fun ls hl => ?_)
  refine lv_iload hx hb dX10_sew_9 (lv_at hl 0 rfl) ?_
  refine lv_if_eq (tgt := 17) hx hb dX10_sew_11 (by decide) (fun c_11 => ?_) (fun c_11 => ?_)
  · have hF := ob_t c_11 hF
    refine lv_aload_n hx hb dX10_sew_17 rfl (lv_at hl 1 rfl) ?_
    refine gM hx hb hts hin hown hK hP 6 (.int (q_4.2.1 6)) (by decide) mf_145 rfl dX10_sew_18 ?_
    refine lv_bipush (v := (30 : Int32)) hx hb dX10_sew_21 (by decide) ?_
    refine lv_icmp_ne (tgt := 29) hx hb dX10_sew_23 (by decide) (fun c_23 => ?_) (fun c_23 => ?_)
    · have hF := ob_f c_23 hF
      refine lv_aload_n hx hb dX10_sew_29 rfl (lv_at hl 1 rfl) ?_
      refine gM hx hb hts hin hown hK hP 6 (.int (q_4.2.1 6)) (by decide) mf_145 rfl dX10_sew_30 ?_
      refine lv_istore (lv' := [(5, .int (q_4.2.1 6)), (4, .int q_4.1), (0, .ref h), (1, .int p1), (2, .int p2), (3, .int p3)]) hx hb dX10_sew_33 hl (by decide) rfl (fun ls hl => ?_)
      refine lv_aload_n hx hb dX10_sew_35 rfl (lv_at hl 2 rfl) ?_
      refine gM hx hb hts hin hown hK hP 7 (.ref (ad 7)) (by decide) mf_26 rfl dX10_sew_36 ?_
      refine lv_iload hx hb dX10_sew_39 (lv_at hl 0 rfl) ?_
      refine lv_iconst (v := (1 : Int32)) hx hb dX10_sew_41 (by decide) ?_
      obtain ⟨g_42, hF⟩ := ob_gd hF
      refine stZ (y := (1 : Int32)) hx hb hK hP hD hS (at_7 _ _ _ _ _) rfl (st_7 _ _ _ _ _ _ _) g_42 dX10_sew_42 (fun H locs hP hD hS => ?_)
      refine lv_aload_n hx hb dX10_sew_43 rfl (lv_at hl 2 rfl) ?_
      refine gM hx hb hts hin hown hK hP 8 (.ref (ad 8)) (by decide) mf_29 rfl dX10_sew_44 ?_
      refine lv_iload hx hb dX10_sew_47 (lv_at hl 0 rfl) ?_
      refine lv_aload_n hx hb dX10_sew_49 rfl (lv_at hl 2 rfl) ?_
      refine gM hx hb hts hin hown hK hP 3 (.ref (ad 3)) (by decide) mf_17 rfl dX10_sew_50 ?_
      refine lv_iload_n hx hb dX10_sew_53 rfl (lv_at hl 3 rfl) ?_
      obtain ⟨g_54, hF⟩ := ob_gd hF
      refine ldI hx hb hK hP (at_3 _ _ _ _ _) (q_4.2.2 3 p1.toNatClampNeg) g_54 rfl dX10_sew_54 ?_
      obtain ⟨g_55, hF⟩ := ob_gd hF
      refine stI hx hb hK hP hD hS (at_8 _ _ _ _ _) (st_8 _ _ _ _ _ _ _) g_55 dX10_sew_55 (fun H locs hP hD hS => ?_)
      refine lv_aload_n hx hb dX10_sew_56 rfl (lv_at hl 2 rfl) ?_
      refine gM hx hb hts hin hown hK hP 9 (.ref (ad 9)) (by decide) mf_32 rfl dX10_sew_57 ?_
      refine lv_iload hx hb dX10_sew_60 (lv_at hl 0 rfl) ?_
      refine lv_aload_n hx hb dX10_sew_62 rfl (lv_at hl 2 rfl) ?_
      refine gM hx hb hts hin hown hK hP 4 (.ref (ad 4)) (by decide) mf_20 rfl dX10_sew_63 ?_
      refine lv_iload_n hx hb dX10_sew_66 rfl (lv_at hl 3 rfl) ?_
      obtain ⟨g_67, hF⟩ := ob_gd hF
      refine ldI hx hb hK hP (at_4 _ _ _ _ _) (q_4.2.2 4 p1.toNatClampNeg) g_67 rfl dX10_sew_67 ?_
      obtain ⟨g_68, hF⟩ := ob_gd hF
      refine stI hx hb hK hP hD hS (at_9 _ _ _ _ _) (st_9 _ _ _ _ _ _ _) g_68 dX10_sew_68 (fun H locs hP hD hS => ?_)
      refine lv_aload_n hx hb dX10_sew_69 rfl (lv_at hl 2 rfl) ?_
      refine gM hx hb hts hin hown hK hP 10 (.ref (ad 10)) (by decide) mf_35 rfl dX10_sew_70 ?_
      refine lv_iload hx hb dX10_sew_73 (lv_at hl 0 rfl) ?_
      refine lv_aload_n hx hb dX10_sew_75 rfl (lv_at hl 2 rfl) ?_
      refine gM hx hb hts hin hown hK hP 21 (.int (q_4.2.1 21)) (by decide) mf_68 rfl dX10_sew_76 ?_
      obtain ⟨g_79, hF⟩ := ob_gd hF
      refine stI hx hb hK hP hD hS (at_10 _ _ _ _ _) (st_10 _ _ _ _ _ _ _) g_79 dX10_sew_79 (fun H locs hP hD hS => ?_)
      refine lv_aload_n hx hb dX10_sew_80 rfl (lv_at hl 2 rfl) ?_
      refine gM hx hb hts hin hown hK hP 11 (.ref (ad 11)) (by decide) mf_38 rfl dX10_sew_81 ?_
      refine lv_iload hx hb dX10_sew_84 (lv_at hl 0 rfl) ?_
      refine lv_aload_n hx hb dX10_sew_86 rfl (lv_at hl 2 rfl) ?_
      refine gM hx hb hts hin hown hK hP 22 (.int (q_4.2.1 22)) (by decide) mf_72 rfl dX10_sew_87 ?_
      obtain ⟨g_90, hF⟩ := ob_gd hF
      refine stI hx hb hK hP hD hS (at_11 _ _ _ _ _) (st_11 _ _ _ _ _ _ _) g_90 dX10_sew_90 (fun H locs hP hD hS => ?_)
      refine lv_aload_n hx hb dX10_sew_91 rfl (lv_at hl 2 rfl) ?_
      refine gM hx hb hts hin hown hK hP 12 (.ref (ad 12)) (by decide) mf_41 rfl dX10_sew_92 ?_
      refine lv_iload hx hb dX10_sew_95 (lv_at hl 0 rfl) ?_
      refine lv_aload_n hx hb dX10_sew_97 rfl (lv_at hl 2 rfl) ?_
      refine gM hx hb hts hin hown hK hP 23 (.int (q_4.2.1 23)) (by decide) mf_75 rfl dX10_sew_98 ?_
      obtain ⟨g_101, hF⟩ := ob_gd hF
      refine stI hx hb hK hP hD hS (at_12 _ _ _ _ _) (st_12 _ _ _ _ _ _ _) g_101 dX10_sew_101 (fun H locs hP hD hS => ?_)
      refine lv_aload_n hx hb dX10_sew_102 rfl (lv_at hl 2 rfl) ?_
      refine gM hx hb hts hin hown hK hP 13 (.ref (ad 13)) (by decide) mf_44 rfl dX10_sew_103 ?_
      refine lv_iload hx hb dX10_sew_106 (lv_at hl 0 rfl) ?_
      refine lv_aload_n hx hb dX10_sew_108 rfl (lv_at hl 2 rfl) ?_
      refine gM hx hb hts hin hown hK hP 32 (.ref (ad 32)) (by decide) mf_96 rfl dX10_sew_109 ?_
      refine lv_iconst (v := (2 : Int32)) hx hb dX10_sew_112 (by decide) ?_
      obtain ⟨g_113, hF⟩ := ob_gd hF
      refine ldI hx hb hK hP (at_32 _ _ _ _ _) (q_4.2.2 32 (2 : Int32).toNatClampNeg) g_113 rfl dX10_sew_113 ?_
      obtain ⟨g_114, hF⟩ := ob_gd hF
      refine stI hx hb hK hP hD hS (at_13 _ _ _ _ _) (st_13 _ _ _ _ _ _ _) g_114 dX10_sew_114 (fun H locs hP hD hS => ?_)
      refine lv_iconst (v := (0 : Int32)) hx hb dX10_sew_115 (by decide) ?_
      refine lv_istore (lv' := [(6, .int (0 : Int32)), (5, .int (q_4.2.1 6)), (4, .int q_4.1), (0, .ref h), (1, .int p1), (2, .int p2), (3, .int p3)]) hx hb dX10_sew_116 hl (by decide) rfl (fun ls hl => ?_)
      exact b_118 p1 (q_4.2.1 6) (fun σ_155 => FM_sew_155 p1 (q_4.2.1 6) σ_155) (fun σ_155 => b_155 p1 (q_4.2.1 6) σ_155) fu (0 : Int32) (sa (sa (sa (sa (sa (sa (sa q_4.2 7 (q_4.2.1 6) (1 : Int32)) 8 (q_4.2.1 6) (q_4.2.2 3 p1.toNatClampNeg)) 9 (q_4.2.1 6) (q_4.2.2 4 p1.toNatClampNeg)) 10 (q_4.2.1 6) (q_4.2.1 21)) 11 (q_4.2.1 6) (q_4.2.1 22)) 12 (q_4.2.1 6) (q_4.2.1 23)) 13 (q_4.2.1 6) (q_4.2.2 32 (2 : Int32).toNatClampNeg)) _ _ _ hF hP hD hS (lv_sub hl [3, 4, 1, 0] rfl)
    · have hF := ob_t c_23 hF
      refine lv_bipush (v := (-4 : Int32)) hx hb dX10_sew_26 (by decide) ?_
      exact rwM hx hb hr hlocks hF hK hP hD hS dX10_sew_28
  · have hF := ob_f c_11 hF
    refine lv_iload hx hb dX10_sew_14 (lv_at hl 0 rfl) ?_
    exact rwM hx hb hr hlocks hF hK hP hD hS dX10_sew_16
def FM_rowsOf (σ : MS) (p1 : Int32) : Option Int32 := (gd (inb p1 30) (gd (inb p1 30) (gd (inb p1 30) (gd (inb p1 30) (some (((((2 : Int32) * (σ.2 10 p1.toNatClampNeg)) + ((2 : Int32) * (σ.2 13 p1.toNatClampNeg))) + (σ.2 11 p1.toNatClampNeg)) + (σ.2 12 p1.toNatClampNeg)))))))
def wsM_rowsOf : List Cond := Cond.code yX10_rowsOf cX10_rowsOf 2 (some .int) :: wMa
theorem cw_rowsOf {R : Room} {s : State} {args : Array Value} {y : MethodName} {c : ByteArray} {n : Nat} {r : Option FieldType} (hts : ∀ w ∈ (Cond.code y c n r :: wMa), w.before args s = true) (hR : 0 + 1 ≤ R.frames ∧ 8 + (2 + 11) + 0 ≤ R.locals) : CallW R s args RX10 RX10 216 yX10_rowsOf cX10_rowsOf 2 (some .int) wsM_rowsOf { frames := 0, cells := 0, slots := 0, locals := 0 } 0 0 1 := cwV 1 hts (goodMV mm_216 mi_rowsOf ms_rowsOf m_ini mc_rowsOf) rfl rfl rfl (by decide +kernel) hR
set_option maxHeartbeats 4000000 in
set_option maxRecDepth 100000 in
theorem cM_rowsOf (l : Launch) (D : va_G) (cI cZ : ClassId) (h : Nat) (ad : Nat → Nat) (σ : MS) (p1 : Int32) (q : Int32) (hF : FM_rowsOf σ p1 = some q) : Met l yX10_rowsOf wsM_rowsOf { frames := 0, cells := 0, slots := 0, locals := 0 } (va_Pc [.ref h, .int p1] (preR D cI cZ h ad σ)) (vp_Si (fun x => x = q)) 0 0 (fun _ => False) := by
  refine Met.ofW (cc := cX10_rowsOf) (maxL := 2) (ret := (some .int)) (by decide) rfl ?_
  intro p e s m args below meth c s₁ B hml hv
  obtain ⟨rfl, hP, hK⟩ := hv
  have hx := B.exec
  have hb := B.bytes
  have hr := B.returns
  have hts : ∀ w ∈ (Cond.code yX10_rowsOf cX10_rowsOf 2 (some .int) :: wMa), w.before ([.ref h, .int p1] : List Value).toArray s = true := atoms_spec (ws := wsM_rowsOf) B.pre
  have hin : ∀ w ∈ wMa, w ∈ (Cond.code yX10_rowsOf cX10_rowsOf 2 (some .int) :: wMa) := fun w hw => List.mem_cons_of_mem _ hw
  have hown : s.vm.findClass RX10 = some m.cls := findClass_of_methodNamed B.named
  have hlocks := B.notSynchronized
  have hl := lv_entry ([.ref h, .int p1]) (n := 2) (Nat.le_of_ble_eq_true rfl)
  rw [lg_entry_eq]
  generalize (lg_sl ([.ref h, .int p1]) ++ List.replicate (2 - (lg_sl ([.ref h, .int p1])).length) Slot.unset).toArray = ls at hl ⊢
  have hl : lv_has ls 2 [(0, .ref h), (1, .int p1)] := hl
  unfold FM_rowsOf at hF
  refine lv_iconst (v := (2 : Int32)) hx hb dX10_rowsOf_0 (by decide) ?_
  refine lv_aload_n hx hb dX10_rowsOf_1 rfl (lv_at hl 0 rfl) ?_
  refine gM hx hb hts hin hown hK hP 10 (.ref (ad 10)) (by decide) mf_35 rfl dX10_rowsOf_2 ?_
  refine lv_iload_n hx hb dX10_rowsOf_5 rfl (lv_at hl 1 rfl) ?_
  obtain ⟨g_6, hF⟩ := ob_gd hF
  refine ldI hx hb hK hP (at_10 _ _ _ _ _) (σ.2 10 p1.toNatClampNeg) g_6 rfl dX10_rowsOf_6 ?_
  refine lv_imul hx hb dX10_rowsOf_7 ?_
  refine lv_iconst (v := (2 : Int32)) hx hb dX10_rowsOf_8 (by decide) ?_
  refine lv_aload_n hx hb dX10_rowsOf_9 rfl (lv_at hl 0 rfl) ?_
  refine gM hx hb hts hin hown hK hP 13 (.ref (ad 13)) (by decide) mf_44 rfl dX10_rowsOf_10 ?_
  refine lv_iload_n hx hb dX10_rowsOf_13 rfl (lv_at hl 1 rfl) ?_
  obtain ⟨g_14, hF⟩ := ob_gd hF
  refine ldI hx hb hK hP (at_13 _ _ _ _ _) (σ.2 13 p1.toNatClampNeg) g_14 rfl dX10_rowsOf_14 ?_
  refine lv_imul hx hb dX10_rowsOf_15 ?_
  refine lv_iadd hx hb dX10_rowsOf_16 ?_
  refine lv_aload_n hx hb dX10_rowsOf_17 rfl (lv_at hl 0 rfl) ?_
  refine gM hx hb hts hin hown hK hP 11 (.ref (ad 11)) (by decide) mf_38 rfl dX10_rowsOf_18 ?_
  refine lv_iload_n hx hb dX10_rowsOf_21 rfl (lv_at hl 1 rfl) ?_
  obtain ⟨g_22, hF⟩ := ob_gd hF
  refine ldI hx hb hK hP (at_11 _ _ _ _ _) (σ.2 11 p1.toNatClampNeg) g_22 rfl dX10_rowsOf_22 ?_
  refine lv_iadd hx hb dX10_rowsOf_23 ?_
  refine lv_aload_n hx hb dX10_rowsOf_24 rfl (lv_at hl 0 rfl) ?_
  refine gM hx hb hts hin hown hK hP 12 (.ref (ad 12)) (by decide) mf_41 rfl dX10_rowsOf_25 ?_
  refine lv_iload_n hx hb dX10_rowsOf_28 rfl (lv_at hl 1 rfl) ?_
  obtain ⟨g_29, hF⟩ := ob_gd hF
  refine ldI hx hb hK hP (at_12 _ _ _ _ _) (σ.2 12 p1.toNatClampNeg) g_29 rfl dX10_rowsOf_29 ?_
  refine lv_iadd hx hb dX10_rowsOf_30 ?_
  exact rrM hx hb hr hlocks hF dX10_rowsOf_31
def FM_looksAt_30 (x1_30 : Int32) : Nat → Int32 → MS → Option MS
  | 0, _, _ => none
  | n_30 + 1, x2_30, σ_30 => ((FM_rowsOf σ_30 x1_30).bind fun q_33 => (if q_33 ≤ x2_30 then (some σ_30) else (gd (inb (((120 : Int32) * x1_30) + x2_30) 3600) (gd (inb x2_30 120) (FM_looksAt_30  x1_30 n_30 (x2_30 + (1 : Int32)) (sa σ_30 34 x2_30 (σ_30.2 14 (((120 : Int32) * x1_30) + x2_30).toNatClampNeg)))))))
def FM_looksAt (σ : MS) (p1 : Int32) : Option MS := (gd (inb p1 30) (gd (inb p1 30) (gd (inb p1 30) (gd (inb p1 30) ((FM_lengths σ (σ.2 10 p1.toNatClampNeg) (σ.2 13 p1.toNatClampNeg) (σ.2 11 p1.toNatClampNeg) (σ.2 12 p1.toNatClampNeg)).bind fun q_25 => (FM_looksAt_30 p1 fu (0 : Int32) q_25))))))
def wsM_looksAt : List Cond := Cond.code yX10_looksAt cX10_looksAt 3 none :: wMa
theorem cw_looksAt {R : Room} {s : State} {args : Array Value} {y : MethodName} {c : ByteArray} {n : Nat} {r : Option FieldType} (hts : ∀ w ∈ (Cond.code y c n r :: wMa), w.before args s = true) (hR : 1 + 1 ≤ R.frames ∧ 8 + (3 + 11) + 26 ≤ R.locals) : CallW R s args RX10 RX10 222 yX10_looksAt cX10_looksAt 3 none wsM_looksAt { frames := 1, cells := 0, slots := 0, locals := 26 } 0 0 1 := cwV 1 hts (goodMV mm_222 mi_looksAt ms_looksAt m_ini mc_looksAt) rfl rfl rfl (by decide +kernel) hR
set_option maxHeartbeats 4000000 in
set_option maxRecDepth 100000 in
theorem cM_looksAt (l : Launch) (D : va_G) (cI cZ : ClassId) (h : Nat) (ad : Nat → Nat) (A : Nat → Prop) (σ : MS) (p1 : Int32) (q : MS) (hF : FM_looksAt σ p1 = some q) : Met l yX10_looksAt wsM_looksAt { frames := 1, cells := 0, slots := 0, locals := 26 } (va_Pc [.ref h, .int p1] (preM D cI cZ h ad A σ)) (va_Qv (fun u => u = q) (preM D cI cZ h ad A) A) 0 0 A := by
  refine Met.ofW (cc := cX10_looksAt) (maxL := 3) (ret := none) (by decide) rfl ?_
  intro p e s m args below meth c s₁ B hml hv
  obtain ⟨rfl, hP, hK, hD⟩ := hv
  have hx := B.exec
  have hb := B.bytes
  have hr := B.returns
  have hts : ∀ w ∈ (Cond.code yX10_looksAt cX10_looksAt 3 none :: wMa), w.before ([.ref h, .int p1] : List Value).toArray s = true := atoms_spec (ws := wsM_looksAt) B.pre
  have hin : ∀ w ∈ wMa, w ∈ (Cond.code yX10_looksAt cX10_looksAt 3 none :: wMa) := fun w hw => List.mem_cons_of_mem _ hw
  have hown : s.vm.findClass RX10 = some m.cls := findClass_of_methodNamed B.named
  have hlocks := B.notSynchronized
  have hS : va_S A s.heap s.heap [] := va_S.rf
  have b_30 : ∀ (x1_30 : Int32) (n_30 : Nat) (x2_30 : Int32) (σ_30 : MS) (H : Heap) (locs : List Loc) (ls : Array Slot), FM_looksAt_30 x1_30 n_30 x2_30 σ_30 = some q → va_P D vwCl (wM cI cZ h ad σ_30) H → va_D A (wM cI cZ h ad σ_30) → va_S A s.heap H locs → lv_has ls 3 [(0, .ref h), (1, .int x1_30), (2, .int x2_30)] → W p l e (headSpec wsM_looksAt { frames := 1, cells := 0, slots := 0, locals := 26 }).room s m ([.ref h, .int p1] : List Value).toArray below meth c H locs 0 0 (MQ below (va_Qv (fun u => u = q) (preM D cI cZ h ad A) A) ([.ref h, .int p1] : List Value).toArray s 0 0 A) (F0 m 30 ls []) := by
    intro x1_30
    intro n_30
    induction n_30 with
    | zero =>
      intro x2_30 σ_30 H locs ls hF hP hD hS hl
      exact absurd hF (by simp [FM_looksAt_30])
    | succ n_30 ih_30 =>
      intro x2_30 σ_30 H locs ls hF hP hD hS hl
      rw [FM_looksAt_30] at hF
      refine lv_iload_n hx hb dX10_looksAt_30 rfl (lv_at hl 2 rfl) ?_
      refine lv_aload_n hx hb dX10_looksAt_31 rfl (lv_at hl 0 rfl) ?_
      refine lv_iload_n hx hb dX10_looksAt_32 rfl (lv_at hl 1 rfl) ?_
      obtain ⟨q_33, e_33, hF⟩ := ob_bd hF
      refine crM (As := [.int x1_30]) (rest := [.int x2_30]) ⟨hx, hb, hml, hown, hts⟩ (cM_rowsOf l D cI cZ h ad σ_30 x1_30 _ e_33) (cw_rowsOf hts ⟨Nat.le_of_ble_eq_true rfl, Nat.le_of_ble_eq_true rfl⟩) hK hP rfl hl.1 rfl (lv_room (Nat.le_of_ble_eq_true rfl)) dX10_looksAt_33 ?_
      refine lv_icmp_ge (tgt := 62) hx hb dX10_looksAt_36 (by decide) (fun c_36 => ?_) (fun c_36 => ?_)
      · have hF := ob_t c_36 hF
        exact rvM hx hb hr hlocks hF hK hP hD hS dX10_looksAt_62
      · have hF := ob_f c_36 hF
        refine lv_aload_n hx hb dX10_looksAt_39 rfl (lv_at hl 0 rfl) ?_
        refine gM hx hb hts hin hown hK hP 34 (.ref (ad 34)) (by decide) mf_102 rfl dX10_looksAt_40 ?_
        refine lv_iload_n hx hb dX10_looksAt_43 rfl (lv_at hl 2 rfl) ?_
        refine lv_aload_n hx hb dX10_looksAt_44 rfl (lv_at hl 0 rfl) ?_
        refine gM hx hb hts hin hown hK hP 14 (.ref (ad 14)) (by decide) mf_47 rfl dX10_looksAt_45 ?_
        refine lv_bipush (v := (120 : Int32)) hx hb dX10_looksAt_48 (by decide) ?_
        refine lv_iload_n hx hb dX10_looksAt_50 rfl (lv_at hl 1 rfl) ?_
        refine lv_imul hx hb dX10_looksAt_51 ?_
        refine lv_iload_n hx hb dX10_looksAt_52 rfl (lv_at hl 2 rfl) ?_
        refine lv_iadd hx hb dX10_looksAt_53 ?_
        obtain ⟨g_54, hF⟩ := ob_gd hF
        refine ldI hx hb hK hP (at_14 _ _ _ _ _) (σ_30.2 14 (((120 : Int32) * x1_30) + x2_30).toNatClampNeg) g_54 rfl dX10_looksAt_54 ?_
        obtain ⟨g_55, hF⟩ := ob_gd hF
        refine stI hx hb hK hP hD hS (at_34 _ _ _ _ _) (st_34 _ _ _ _ _ _ _) g_55 dX10_looksAt_55 (fun H locs hP hD hS => ?_)
        refine lv_iinc (v := x2_30 + (1 : Int32)) (lv' := [(2, .int (x2_30 + (1 : Int32))), (0, .ref h), (1, .int x1_30)]) hx hb dX10_looksAt_56 hl (k := 2) rfl rfl (by decide) rfl (fun ls hl => ?_)
        refine lv_goto (tgt := 30) hx hb dX10_looksAt_59 (by decide) ?_
        exact ih_30 (x2_30 + (1 : Int32)) (sa σ_30 34 x2_30 (σ_30.2 14 (((120 : Int32) * x1_30) + x2_30).toNatClampNeg)) _ _ _ hF hP hD hS (lv_sub hl [1, 2, 0] rfl)
  have hl := lv_entry ([.ref h, .int p1]) (n := 3) (Nat.le_of_ble_eq_true rfl)
  rw [lg_entry_eq]
  generalize (lg_sl ([.ref h, .int p1]) ++ List.replicate (3 - (lg_sl ([.ref h, .int p1])).length) Slot.unset).toArray = ls at hl ⊢
  have hl : lv_has ls 3 [(0, .ref h), (1, .int p1)] := hl
  unfold FM_looksAt at hF
  refine lv_aload_n hx hb dX10_looksAt_0 rfl (lv_at hl 0 rfl) ?_
  refine lv_aload_n hx hb dX10_looksAt_1 rfl (lv_at hl 0 rfl) ?_
  refine gM hx hb hts hin hown hK hP 10 (.ref (ad 10)) (by decide) mf_35 rfl dX10_looksAt_2 ?_
  refine lv_iload_n hx hb dX10_looksAt_5 rfl (lv_at hl 1 rfl) ?_
  obtain ⟨g_6, hF⟩ := ob_gd hF
  refine ldI hx hb hK hP (at_10 _ _ _ _ _) (σ.2 10 p1.toNatClampNeg) g_6 rfl dX10_looksAt_6 ?_
  refine lv_aload_n hx hb dX10_looksAt_7 rfl (lv_at hl 0 rfl) ?_
  refine gM hx hb hts hin hown hK hP 13 (.ref (ad 13)) (by decide) mf_44 rfl dX10_looksAt_8 ?_
  refine lv_iload_n hx hb dX10_looksAt_11 rfl (lv_at hl 1 rfl) ?_
  obtain ⟨g_12, hF⟩ := ob_gd hF
  refine ldI hx hb hK hP (at_13 _ _ _ _ _) (σ.2 13 p1.toNatClampNeg) g_12 rfl dX10_looksAt_12 ?_
  refine lv_aload_n hx hb dX10_looksAt_13 rfl (lv_at hl 0 rfl) ?_
  refine gM hx hb hts hin hown hK hP 11 (.ref (ad 11)) (by decide) mf_38 rfl dX10_looksAt_14 ?_
  refine lv_iload_n hx hb dX10_looksAt_17 rfl (lv_at hl 1 rfl) ?_
  obtain ⟨g_18, hF⟩ := ob_gd hF
  refine ldI hx hb hK hP (at_11 _ _ _ _ _) (σ.2 11 p1.toNatClampNeg) g_18 rfl dX10_looksAt_18 ?_
  refine lv_aload_n hx hb dX10_looksAt_19 rfl (lv_at hl 0 rfl) ?_
  refine gM hx hb hts hin hown hK hP 12 (.ref (ad 12)) (by decide) mf_41 rfl dX10_looksAt_20 ?_
  refine lv_iload_n hx hb dX10_looksAt_23 rfl (lv_at hl 1 rfl) ?_
  obtain ⟨g_24, hF⟩ := ob_gd hF
  refine ldI hx hb hK hP (at_12 _ _ _ _ _) (σ.2 12 p1.toNatClampNeg) g_24 rfl dX10_looksAt_24 ?_
  obtain ⟨q_25, e_25, hF⟩ := ob_bd hF
  refine cvM (As := [.int (σ.2 10 p1.toNatClampNeg), .int (σ.2 13 p1.toNatClampNeg), .int (σ.2 11 p1.toNatClampNeg), .int (σ.2 12 p1.toNatClampNeg)]) (rest := []) ⟨hx, hb, hml, hown, hts⟩ (cM_lengths l D cI cZ h ad A σ (σ.2 10 p1.toNatClampNeg) (σ.2 13 p1.toNatClampNeg) (σ.2 11 p1.toNatClampNeg) (σ.2 12 p1.toNatClampNeg) _ e_25) (cw_lengths hts ⟨Nat.le_of_ble_eq_true rfl, Nat.le_of_ble_eq_true rfl⟩) hK hP hD hS rfl hl.1 rfl (lv_room (Nat.le_of_ble_eq_true rfl)) dX10_looksAt_25 (fun H locs hP hD hS => ?_)
  refine lv_iconst (v := (0 : Int32)) hx hb dX10_looksAt_28 (by decide) ?_
  refine lv_istore_n (lv' := [(2, .int (0 : Int32)), (0, .ref h), (1, .int p1)]) hx hb dX10_looksAt_29 rfl hl (by decide) rfl (fun ls hl => ?_)
  exact b_30 p1 fu (0 : Int32) q_25 _ _ _ hF hP hD hS (lv_sub hl [1, 2, 0] rfl)
def FM_robe (σ : MS) (p1 : Int32) (p2 : Int32) : Option (Int32 × MS) := ((FM_isMade σ p1).bind fun q_2 => (if q_2 = 0 then (some ((-1 : Int32), σ)) else (if p2 = (0 : Int32) then (gd (inb p1 30) (some ((σ.2 8 p1.toNatClampNeg), σ))) else (if p2 = (1 : Int32) then (gd (inb p1 30) (some ((σ.2 13 p1.toNatClampNeg), σ))) else (if p2 = (2 : Int32) then (gd (inb p1 30) (some ((σ.2 10 p1.toNatClampNeg), σ))) else (if p2 = (3 : Int32) then (gd (inb p1 30) (some ((σ.2 11 p1.toNatClampNeg), σ))) else (if p2 = (4 : Int32) then (gd (inb p1 30) (some ((σ.2 12 p1.toNatClampNeg), σ))) else (if p2 = (5 : Int32) then (gd (inb p1 30) (if (σ.2 15 p1.toNatClampNeg) = 0 then (some ((0 : Int32), σ)) else (some ((1 : Int32), σ)))) else (if p2 = (6 : Int32) then (gd (inb p1 30) (if (σ.2 15 p1.toNatClampNeg) = 0 then (some ((0 : Int32), σ)) else ((FM_rowsOf σ p1).bind fun q_125 => (some (q_125, σ))))) else (if p2 = (7 : Int32) then (gd (inb p1 30) (some ((σ.2 19 p1.toNatClampNeg), σ))) else (if p2 = (8 : Int32) then (gd (inb p1 30) (some ((σ.2 20 p1.toNatClampNeg), σ))) else (if p2 = (9 : Int32) then ((FM_looksAt σ p1).bind fun q_149 => ((FM_shown q_149).bind fun q_153 => (some (q_153, q_149)))) else (some ((-1 : Int32), σ))))))))))))))
def wsM_robe : List Cond := Cond.code yX10_robe cX10_robe 3 (some .int) :: wMa
set_option maxHeartbeats 4000000 in
set_option maxRecDepth 100000 in
theorem cM_robe (l : Launch) (D : va_G) (cI cZ : ClassId) (h : Nat) (ad : Nat → Nat) (A : Nat → Prop) (σ : MS) (p1 : Int32) (p2 : Int32) (q : Int32 × MS) (hF : FM_robe σ p1 p2 = some q) : Met l yX10_robe wsM_robe { frames := 2, cells := 0, slots := 0, locals := 48 } (va_Pc [.ref h, .int p1, .int p2] (preM D cI cZ h ad A σ)) (va_Qi (fun x u => x = q.1 ∧ u = q.2) (preM D cI cZ h ad A) A) 0 0 A := by
  refine Met.ofW (cc := cX10_robe) (maxL := 3) (ret := (some .int)) (by decide) rfl ?_
  intro p e s m args below meth c s₁ B hml hv
  obtain ⟨rfl, hP, hK, hD⟩ := hv
  have hx := B.exec
  have hb := B.bytes
  have hr := B.returns
  have hts : ∀ w ∈ (Cond.code yX10_robe cX10_robe 3 (some .int) :: wMa), w.before ([.ref h, .int p1, .int p2] : List Value).toArray s = true := atoms_spec (ws := wsM_robe) B.pre
  have hin : ∀ w ∈ wMa, w ∈ (Cond.code yX10_robe cX10_robe 3 (some .int) :: wMa) := fun w hw => List.mem_cons_of_mem _ hw
  have hown : s.vm.findClass RX10 = some m.cls := findClass_of_methodNamed B.named
  have hlocks := B.notSynchronized
  have hS : va_S A s.heap s.heap [] := va_S.rf
  have hl := lv_entry ([.ref h, .int p1, .int p2]) (n := 3) (Nat.le_of_ble_eq_true rfl)
  rw [lg_entry_eq]
  generalize (lg_sl ([.ref h, .int p1, .int p2]) ++ List.replicate (3 - (lg_sl ([.ref h, .int p1, .int p2])).length) Slot.unset).toArray = ls at hl ⊢
  have hl : lv_has ls 3 [(0, .ref h), (1, .int p1), (2, .int p2)] := hl
  unfold FM_robe at hF
  refine lv_aload_n hx hb dX10_robe_0 rfl (lv_at hl 0 rfl) ?_
  refine lv_iload_n hx hb dX10_robe_1 rfl (lv_at hl 1 rfl) ?_
  obtain ⟨q_2, e_2, hF⟩ := ob_bd hF
  refine crM (As := [.int p1]) (rest := []) ⟨hx, hb, hml, hown, hts⟩ (cM_isMade l D cI cZ h ad σ p1 _ e_2) (cw_isMade hts ⟨Nat.le_of_ble_eq_true rfl, Nat.le_of_ble_eq_true rfl⟩) hK hP rfl hl.1 rfl (lv_room (Nat.le_of_ble_eq_true rfl)) dX10_robe_2 ?_
  refine lv_if_ne (tgt := 10) hx hb dX10_robe_5 (by decide) (fun c_5 => ?_) (fun c_5 => ?_)
  · have hF := ob_f c_5 hF
    refine lv_iload_n hx hb dX10_robe_10 rfl (lv_at hl 2 rfl) ?_
    by_cases c_11_0 : p2 = (0 : Int32)
    · have hF := ob_t c_11_0 hF
      refine lv_tableIn (off := 53) (tgt := 64) hx hb dX10_robe_11 (by rw [c_11_0]; decide) (by rw [c_11_0]; decide) (by rw [c_11_0]; rfl) (by decide) ?_
      refine lv_aload_n hx hb dX10_robe_64 rfl (lv_at hl 0 rfl) ?_
      refine gM hx hb hts hin hown hK hP 8 (.ref (ad 8)) (by decide) mf_29 rfl dX10_robe_65 ?_
      refine lv_iload_n hx hb dX10_robe_68 rfl (lv_at hl 1 rfl) ?_
      obtain ⟨g_69, hF⟩ := ob_gd hF
      refine ldI hx hb hK hP (at_8 _ _ _ _ _) (σ.2 8 p1.toNatClampNeg) g_69 rfl dX10_robe_69 ?_
      exact rwM hx hb hr hlocks hF hK hP hD hS dX10_robe_70
    · have hF := ob_f c_11_0 hF
      by_cases c_11_1 : p2 = (1 : Int32)
      · have hF := ob_t c_11_1 hF
        refine lv_tableIn (off := 60) (tgt := 71) hx hb dX10_robe_11 (by rw [c_11_1]; decide) (by rw [c_11_1]; decide) (by rw [c_11_1]; rfl) (by decide) ?_
        refine lv_aload_n hx hb dX10_robe_71 rfl (lv_at hl 0 rfl) ?_
        refine gM hx hb hts hin hown hK hP 13 (.ref (ad 13)) (by decide) mf_44 rfl dX10_robe_72 ?_
        refine lv_iload_n hx hb dX10_robe_75 rfl (lv_at hl 1 rfl) ?_
        obtain ⟨g_76, hF⟩ := ob_gd hF
        refine ldI hx hb hK hP (at_13 _ _ _ _ _) (σ.2 13 p1.toNatClampNeg) g_76 rfl dX10_robe_76 ?_
        exact rwM hx hb hr hlocks hF hK hP hD hS dX10_robe_77
      · have hF := ob_f c_11_1 hF
        by_cases c_11_2 : p2 = (2 : Int32)
        · have hF := ob_t c_11_2 hF
          refine lv_tableIn (off := 67) (tgt := 78) hx hb dX10_robe_11 (by rw [c_11_2]; decide) (by rw [c_11_2]; decide) (by rw [c_11_2]; rfl) (by decide) ?_
          refine lv_aload_n hx hb dX10_robe_78 rfl (lv_at hl 0 rfl) ?_
          refine gM hx hb hts hin hown hK hP 10 (.ref (ad 10)) (by decide) mf_35 rfl dX10_robe_79 ?_
          refine lv_iload_n hx hb dX10_robe_82 rfl (lv_at hl 1 rfl) ?_
          obtain ⟨g_83, hF⟩ := ob_gd hF
          refine ldI hx hb hK hP (at_10 _ _ _ _ _) (σ.2 10 p1.toNatClampNeg) g_83 rfl dX10_robe_83 ?_
          exact rwM hx hb hr hlocks hF hK hP hD hS dX10_robe_84
        · have hF := ob_f c_11_2 hF
          by_cases c_11_3 : p2 = (3 : Int32)
          · have hF := ob_t c_11_3 hF
            refine lv_tableIn (off := 74) (tgt := 85) hx hb dX10_robe_11 (by rw [c_11_3]; decide) (by rw [c_11_3]; decide) (by rw [c_11_3]; rfl) (by decide) ?_
            refine lv_aload_n hx hb dX10_robe_85 rfl (lv_at hl 0 rfl) ?_
            refine gM hx hb hts hin hown hK hP 11 (.ref (ad 11)) (by decide) mf_38 rfl dX10_robe_86 ?_
            refine lv_iload_n hx hb dX10_robe_89 rfl (lv_at hl 1 rfl) ?_
            obtain ⟨g_90, hF⟩ := ob_gd hF
            refine ldI hx hb hK hP (at_11 _ _ _ _ _) (σ.2 11 p1.toNatClampNeg) g_90 rfl dX10_robe_90 ?_
            exact rwM hx hb hr hlocks hF hK hP hD hS dX10_robe_91
          · have hF := ob_f c_11_3 hF
            by_cases c_11_4 : p2 = (4 : Int32)
            · have hF := ob_t c_11_4 hF
              refine lv_tableIn (off := 81) (tgt := 92) hx hb dX10_robe_11 (by rw [c_11_4]; decide) (by rw [c_11_4]; decide) (by rw [c_11_4]; rfl) (by decide) ?_
              refine lv_aload_n hx hb dX10_robe_92 rfl (lv_at hl 0 rfl) ?_
              refine gM hx hb hts hin hown hK hP 12 (.ref (ad 12)) (by decide) mf_41 rfl dX10_robe_93 ?_
              refine lv_iload_n hx hb dX10_robe_96 rfl (lv_at hl 1 rfl) ?_
              obtain ⟨g_97, hF⟩ := ob_gd hF
              refine ldI hx hb hK hP (at_12 _ _ _ _ _) (σ.2 12 p1.toNatClampNeg) g_97 rfl dX10_robe_97 ?_
              exact rwM hx hb hr hlocks hF hK hP hD hS dX10_robe_98
            · have hF := ob_f c_11_4 hF
              by_cases c_11_5 : p2 = (5 : Int32)
              · have hF := ob_t c_11_5 hF
                refine lv_tableIn (off := 88) (tgt := 99) hx hb dX10_robe_11 (by rw [c_11_5]; decide) (by rw [c_11_5]; decide) (by rw [c_11_5]; rfl) (by decide) ?_
                refine lv_aload_n hx hb dX10_robe_99 rfl (lv_at hl 0 rfl) ?_
                refine gM hx hb hts hin hown hK hP 15 (.ref (ad 15)) (by decide) mf_50 rfl dX10_robe_100 ?_
                refine lv_iload_n hx hb dX10_robe_103 rfl (lv_at hl 1 rfl) ?_
                obtain ⟨g_104, hF⟩ := ob_gd hF
                refine ldZ hx hb hK hP (at_15 _ _ _ _ _) (σ.2 15 p1.toNatClampNeg) g_104 rfl dX10_robe_104 ?_
                refine lv_if_eq (tgt := 112) hx hb dX10_robe_105 (by decide) (fun c_105 => ?_) (fun c_105 => ?_)
                · have hF := ob_t c_105 hF
                  refine lv_iconst (v := (0 : Int32)) hx hb dX10_robe_112 (by decide) ?_
                  exact rwM hx hb hr hlocks hF hK hP hD hS dX10_robe_113
                · have hF := ob_f c_105 hF
                  refine lv_iconst (v := (1 : Int32)) hx hb dX10_robe_108 (by decide) ?_
                  refine lv_goto (tgt := 113) hx hb dX10_robe_109 (by decide) ?_
                  exact rwM hx hb hr hlocks hF hK hP hD hS dX10_robe_113
              · have hF := ob_f c_11_5 hF
                by_cases c_11_6 : p2 = (6 : Int32)
                · have hF := ob_t c_11_6 hF
                  refine lv_tableIn (off := 103) (tgt := 114) hx hb dX10_robe_11 (by rw [c_11_6]; decide) (by rw [c_11_6]; decide) (by rw [c_11_6]; rfl) (by decide) ?_
                  refine lv_aload_n hx hb dX10_robe_114 rfl (lv_at hl 0 rfl) ?_
                  refine gM hx hb hts hin hown hK hP 15 (.ref (ad 15)) (by decide) mf_50 rfl dX10_robe_115 ?_
                  refine lv_iload_n hx hb dX10_robe_118 rfl (lv_at hl 1 rfl) ?_
                  obtain ⟨g_119, hF⟩ := ob_gd hF
                  refine ldZ hx hb hK hP (at_15 _ _ _ _ _) (σ.2 15 p1.toNatClampNeg) g_119 rfl dX10_robe_119 ?_
                  refine lv_if_eq (tgt := 131) hx hb dX10_robe_120 (by decide) (fun c_120 => ?_) (fun c_120 => ?_)
                  · have hF := ob_t c_120 hF
                    refine lv_iconst (v := (0 : Int32)) hx hb dX10_robe_131 (by decide) ?_
                    exact rwM hx hb hr hlocks hF hK hP hD hS dX10_robe_132
                  · have hF := ob_f c_120 hF
                    refine lv_aload_n hx hb dX10_robe_123 rfl (lv_at hl 0 rfl) ?_
                    refine lv_iload_n hx hb dX10_robe_124 rfl (lv_at hl 1 rfl) ?_
                    obtain ⟨q_125, e_125, hF⟩ := ob_bd hF
                    refine crM (As := [.int p1]) (rest := []) ⟨hx, hb, hml, hown, hts⟩ (cM_rowsOf l D cI cZ h ad σ p1 _ e_125) (cw_rowsOf hts ⟨Nat.le_of_ble_eq_true rfl, Nat.le_of_ble_eq_true rfl⟩) hK hP rfl hl.1 rfl (lv_room (Nat.le_of_ble_eq_true rfl)) dX10_robe_125 ?_
                    refine lv_goto (tgt := 132) hx hb dX10_robe_128 (by decide) ?_
                    exact rwM hx hb hr hlocks hF hK hP hD hS dX10_robe_132
                · have hF := ob_f c_11_6 hF
                  by_cases c_11_7 : p2 = (7 : Int32)
                  · have hF := ob_t c_11_7 hF
                    refine lv_tableIn (off := 122) (tgt := 133) hx hb dX10_robe_11 (by rw [c_11_7]; decide) (by rw [c_11_7]; decide) (by rw [c_11_7]; rfl) (by decide) ?_
                    refine lv_aload_n hx hb dX10_robe_133 rfl (lv_at hl 0 rfl) ?_
                    refine gM hx hb hts hin hown hK hP 19 (.ref (ad 19)) (by decide) mf_62 rfl dX10_robe_134 ?_
                    refine lv_iload_n hx hb dX10_robe_137 rfl (lv_at hl 1 rfl) ?_
                    obtain ⟨g_138, hF⟩ := ob_gd hF
                    refine ldI hx hb hK hP (at_19 _ _ _ _ _) (σ.2 19 p1.toNatClampNeg) g_138 rfl dX10_robe_138 ?_
                    exact rwM hx hb hr hlocks hF hK hP hD hS dX10_robe_139
                  · have hF := ob_f c_11_7 hF
                    by_cases c_11_8 : p2 = (8 : Int32)
                    · have hF := ob_t c_11_8 hF
                      refine lv_tableIn (off := 129) (tgt := 140) hx hb dX10_robe_11 (by rw [c_11_8]; decide) (by rw [c_11_8]; decide) (by rw [c_11_8]; rfl) (by decide) ?_
                      refine lv_aload_n hx hb dX10_robe_140 rfl (lv_at hl 0 rfl) ?_
                      refine gM hx hb hts hin hown hK hP 20 (.ref (ad 20)) (by decide) mf_65 rfl dX10_robe_141 ?_
                      refine lv_iload_n hx hb dX10_robe_144 rfl (lv_at hl 1 rfl) ?_
                      obtain ⟨g_145, hF⟩ := ob_gd hF
                      refine ldI hx hb hK hP (at_20 _ _ _ _ _) (σ.2 20 p1.toNatClampNeg) g_145 rfl dX10_robe_145 ?_
                      exact rwM hx hb hr hlocks hF hK hP hD hS dX10_robe_146
                    · have hF := ob_f c_11_8 hF
                      by_cases c_11_9 : p2 = (9 : Int32)
                      · have hF := ob_t c_11_9 hF
                        refine lv_tableIn (off := 136) (tgt := 147) hx hb dX10_robe_11 (by rw [c_11_9]; decide) (by rw [c_11_9]; decide) (by rw [c_11_9]; rfl) (by decide) ?_
                        refine lv_aload_n hx hb dX10_robe_147 rfl (lv_at hl 0 rfl) ?_
                        refine lv_iload_n hx hb dX10_robe_148 rfl (lv_at hl 1 rfl) ?_
                        obtain ⟨q_149, e_149, hF⟩ := ob_bd hF
                        refine cvM (As := [.int p1]) (rest := []) ⟨hx, hb, hml, hown, hts⟩ (cM_looksAt l D cI cZ h ad A σ p1 _ e_149) (cw_looksAt hts ⟨Nat.le_of_ble_eq_true rfl, Nat.le_of_ble_eq_true rfl⟩) hK hP hD hS rfl hl.1 rfl (lv_room (Nat.le_of_ble_eq_true rfl)) dX10_robe_149 (fun H locs hP hD hS => ?_)
                        refine lv_aload_n hx hb dX10_robe_152 rfl (lv_at hl 0 rfl) ?_
                        obtain ⟨q_153, e_153, hF⟩ := ob_bd hF
                        refine crM (As := []) (rest := []) ⟨hx, hb, hml, hown, hts⟩ (cM_shown l D cI cZ h ad q_149 _ e_153) (cw_shown hts ⟨Nat.le_of_ble_eq_true rfl, Nat.le_of_ble_eq_true rfl⟩) hK hP rfl hl.1 rfl (lv_room (Nat.le_of_ble_eq_true rfl)) dX10_robe_153 ?_
                        exact rwM hx hb hr hlocks hF hK hP hD hS dX10_robe_156
                      · have hF := ob_f c_11_9 hF
                        refine lv_tableOut (tgt := 157) hx hb dX10_robe_11 (by have a0 : ¬ p2.toInt = 0 := ob_ti c_11_0; have a1 : ¬ p2.toInt = 1 := ob_ti c_11_1; have a2 : ¬ p2.toInt = 2 := ob_ti c_11_2; have a3 : ¬ p2.toInt = 3 := ob_ti c_11_3; have a4 : ¬ p2.toInt = 4 := ob_ti c_11_4; have a5 : ¬ p2.toInt = 5 := ob_ti c_11_5; have a6 : ¬ p2.toInt = 6 := ob_ti c_11_6; have a7 : ¬ p2.toInt = 7 := ob_ti c_11_7; have a8 : ¬ p2.toInt = 8 := ob_ti c_11_8; have a9 : ¬ p2.toInt = 9 := ob_ti c_11_9; omega) (by decide) ?_
                        refine lv_iconst (v := (-1 : Int32)) hx hb dX10_robe_157 (by decide) ?_
                        exact rwM hx hb hr hlocks hF hK hP hD hS dX10_robe_158
  · have hF := ob_t c_5 hF
    refine lv_iconst (v := (-1 : Int32)) hx hb dX10_robe_8 (by decide) ?_
    exact rwM hx hb hr hlocks hF hK hP hD hS dX10_robe_9
def FM_piece (σ : MS) (p1 : Int32) (p2 : Int32) (p3 : Int32) (p4 : Int32) : Option (Int32 × MS) := ((FM_isMade σ p1).bind fun q_2 => (if q_2 = 0 then (some ((-1 : Int32), σ)) else ((FM_in p2 (0 : Int32) (5 : Int32)).bind fun q_11 => (if q_11 = 0 then (some ((-1 : Int32), σ)) else ((FM_looksAt σ p1).bind fun q_21 => (gd (inb p2 6) ((FM_in p3 (0 : Int32) ((q_21.2 32 p2.toNatClampNeg) - (1 : Int32))).bind fun q_34 => (if q_34 = 0 then (some ((-1 : Int32), q_21)) else (gd (inb p2 6) (gd (inb ((q_21.2 33 p2.toNatClampNeg) + p3) 120) ((FM_told (q_21.2 34 ((q_21.2 33 p2.toNatClampNeg) + p3).toNatClampNeg) p4).bind fun q_55 => (some (q_55, q_21)))))))))))))
def wsM_piece : List Cond := Cond.code yX10_piece cX10_piece 5 (some .int) :: wMa
set_option maxHeartbeats 4000000 in
set_option maxRecDepth 100000 in
theorem cM_piece (l : Launch) (D : va_G) (cI cZ : ClassId) (h : Nat) (ad : Nat → Nat) (A : Nat → Prop) (σ : MS) (p1 : Int32) (p2 : Int32) (p3 : Int32) (p4 : Int32) (q : Int32 × MS) (hF : FM_piece σ p1 p2 p3 p4 = some q) : Met l yX10_piece wsM_piece { frames := 2, cells := 0, slots := 0, locals := 48 } (va_Pc [.ref h, .int p1, .int p2, .int p3, .int p4] (preM D cI cZ h ad A σ)) (va_Qi (fun x u => x = q.1 ∧ u = q.2) (preM D cI cZ h ad A) A) 0 0 A := by
  refine Met.ofW (cc := cX10_piece) (maxL := 5) (ret := (some .int)) (by decide) rfl ?_
  intro p e s m args below meth c s₁ B hml hv
  obtain ⟨rfl, hP, hK, hD⟩ := hv
  have hx := B.exec
  have hb := B.bytes
  have hr := B.returns
  have hts : ∀ w ∈ (Cond.code yX10_piece cX10_piece 5 (some .int) :: wMa), w.before ([.ref h, .int p1, .int p2, .int p3, .int p4] : List Value).toArray s = true := atoms_spec (ws := wsM_piece) B.pre
  have hin : ∀ w ∈ wMa, w ∈ (Cond.code yX10_piece cX10_piece 5 (some .int) :: wMa) := fun w hw => List.mem_cons_of_mem _ hw
  have hown : s.vm.findClass RX10 = some m.cls := findClass_of_methodNamed B.named
  have hlocks := B.notSynchronized
  have hS : va_S A s.heap s.heap [] := va_S.rf
  have hl := lv_entry ([.ref h, .int p1, .int p2, .int p3, .int p4]) (n := 5) (Nat.le_of_ble_eq_true rfl)
  rw [lg_entry_eq]
  generalize (lg_sl ([.ref h, .int p1, .int p2, .int p3, .int p4]) ++ List.replicate (5 - (lg_sl ([.ref h, .int p1, .int p2, .int p3, .int p4])).length) Slot.unset).toArray = ls at hl ⊢
  have hl : lv_has ls 5 [(0, .ref h), (1, .int p1), (2, .int p2), (3, .int p3), (4, .int p4)] := hl
  unfold FM_piece at hF
  refine lv_aload_n hx hb dX10_piece_0 rfl (lv_at hl 0 rfl) ?_
  refine lv_iload_n hx hb dX10_piece_1 rfl (lv_at hl 1 rfl) ?_
  obtain ⟨q_2, e_2, hF⟩ := ob_bd hF
  refine crM (As := [.int p1]) (rest := []) ⟨hx, hb, hml, hown, hts⟩ (cM_isMade l D cI cZ h ad σ p1 _ e_2) (cw_isMade hts ⟨Nat.le_of_ble_eq_true rfl, Nat.le_of_ble_eq_true rfl⟩) hK hP rfl hl.1 rfl (lv_room (Nat.le_of_ble_eq_true rfl)) dX10_piece_2 ?_
  refine lv_if_eq (tgt := 17) hx hb dX10_piece_5 (by decide) (fun c_5 => ?_) (fun c_5 => ?_)
  · have hF := ob_t c_5 hF
    refine lv_iconst (v := (-1 : Int32)) hx hb dX10_piece_17 (by decide) ?_
    exact rwM hx hb hr hlocks hF hK hP hD hS dX10_piece_18
  · have hF := ob_f c_5 hF
    refine lv_iload_n hx hb dX10_piece_8 rfl (lv_at hl 2 rfl) ?_
    refine lv_iconst (v := (0 : Int32)) hx hb dX10_piece_9 (by decide) ?_
    refine lv_iconst (v := (5 : Int32)) hx hb dX10_piece_10 (by decide) ?_
    obtain ⟨q_11, e_11, hF⟩ := ob_bd hF
    refine csM (As := [.int p2, .int (0 : Int32), .int (5 : Int32)]) (rest := []) ⟨hx, hb, hml, hown, hts⟩ (cM_in l p2 (0 : Int32) (5 : Int32) _ e_11) (cw_in hts ⟨Nat.le_of_ble_eq_true rfl, Nat.le_of_ble_eq_true rfl⟩) rfl hl.1 rfl (lv_room (Nat.le_of_ble_eq_true rfl)) dX10_piece_11 ?_
    refine lv_if_ne (tgt := 19) hx hb dX10_piece_14 (by decide) (fun c_14 => ?_) (fun c_14 => ?_)
    · have hF := ob_f c_14 hF
      refine lv_aload_n hx hb dX10_piece_19 rfl (lv_at hl 0 rfl) ?_
      refine lv_iload_n hx hb dX10_piece_20 rfl (lv_at hl 1 rfl) ?_
      obtain ⟨q_21, e_21, hF⟩ := ob_bd hF
      refine cvM (As := [.int p1]) (rest := []) ⟨hx, hb, hml, hown, hts⟩ (cM_looksAt l D cI cZ h ad A σ p1 _ e_21) (cw_looksAt hts ⟨Nat.le_of_ble_eq_true rfl, Nat.le_of_ble_eq_true rfl⟩) hK hP hD hS rfl hl.1 rfl (lv_room (Nat.le_of_ble_eq_true rfl)) dX10_piece_21 (fun H locs hP hD hS => ?_)
      refine lv_iload_n hx hb dX10_piece_24 rfl (lv_at hl 3 rfl) ?_
      refine lv_iconst (v := (0 : Int32)) hx hb dX10_piece_25 (by decide) ?_
      refine lv_aload_n hx hb dX10_piece_26 rfl (lv_at hl 0 rfl) ?_
      refine gM hx hb hts hin hown hK hP 32 (.ref (ad 32)) (by decide) mf_96 rfl dX10_piece_27 ?_
      refine lv_iload_n hx hb dX10_piece_30 rfl (lv_at hl 2 rfl) ?_
      obtain ⟨g_31, hF⟩ := ob_gd hF
      refine ldI hx hb hK hP (at_32 _ _ _ _ _) (q_21.2 32 p2.toNatClampNeg) g_31 rfl dX10_piece_31 ?_
      refine lv_iconst (v := (1 : Int32)) hx hb dX10_piece_32 (by decide) ?_
      refine lv_isub hx hb dX10_piece_33 ?_
      obtain ⟨q_34, e_34, hF⟩ := ob_bd hF
      refine csM (As := [.int p3, .int (0 : Int32), .int ((q_21.2 32 p2.toNatClampNeg) - (1 : Int32))]) (rest := []) ⟨hx, hb, hml, hown, hts⟩ (cM_in l p3 (0 : Int32) ((q_21.2 32 p2.toNatClampNeg) - (1 : Int32)) _ e_34) (cw_in hts ⟨Nat.le_of_ble_eq_true rfl, Nat.le_of_ble_eq_true rfl⟩) rfl hl.1 rfl (lv_room (Nat.le_of_ble_eq_true rfl)) dX10_piece_34 ?_
      refine lv_if_eq (tgt := 61) hx hb dX10_piece_37 (by decide) (fun c_37 => ?_) (fun c_37 => ?_)
      · have hF := ob_t c_37 hF
        refine lv_iconst (v := (-1 : Int32)) hx hb dX10_piece_61 (by decide) ?_
        exact rwM hx hb hr hlocks hF hK hP hD hS dX10_piece_62
      · have hF := ob_f c_37 hF
        refine lv_aload_n hx hb dX10_piece_40 rfl (lv_at hl 0 rfl) ?_
        refine gM hx hb hts hin hown hK hP 34 (.ref (ad 34)) (by decide) mf_102 rfl dX10_piece_41 ?_
        refine lv_aload_n hx hb dX10_piece_44 rfl (lv_at hl 0 rfl) ?_
        refine gM hx hb hts hin hown hK hP 33 (.ref (ad 33)) (by decide) mf_99 rfl dX10_piece_45 ?_
        refine lv_iload_n hx hb dX10_piece_48 rfl (lv_at hl 2 rfl) ?_
        obtain ⟨g_49, hF⟩ := ob_gd hF
        refine ldI hx hb hK hP (at_33 _ _ _ _ _) (q_21.2 33 p2.toNatClampNeg) g_49 rfl dX10_piece_49 ?_
        refine lv_iload_n hx hb dX10_piece_50 rfl (lv_at hl 3 rfl) ?_
        refine lv_iadd hx hb dX10_piece_51 ?_
        obtain ⟨g_52, hF⟩ := ob_gd hF
        refine ldI hx hb hK hP (at_34 _ _ _ _ _) (q_21.2 34 ((q_21.2 33 p2.toNatClampNeg) + p3).toNatClampNeg) g_52 rfl dX10_piece_52 ?_
        refine lv_iload hx hb dX10_piece_53 (lv_at hl 4 rfl) ?_
        obtain ⟨q_55, e_55, hF⟩ := ob_bd hF
        refine csM (As := [.int (q_21.2 34 ((q_21.2 33 p2.toNatClampNeg) + p3).toNatClampNeg), .int p4]) (rest := []) ⟨hx, hb, hml, hown, hts⟩ (cM_told l (q_21.2 34 ((q_21.2 33 p2.toNatClampNeg) + p3).toNatClampNeg) p4 _ e_55) (cw_told hts ⟨Nat.le_of_ble_eq_true rfl, Nat.le_of_ble_eq_true rfl⟩) rfl hl.1 rfl (lv_room (Nat.le_of_ble_eq_true rfl)) dX10_piece_55 ?_
        refine lv_goto (tgt := 62) hx hb dX10_piece_58 (by decide) ?_
        exact rwM hx hb hr hlocks hF hK hP hD hS dX10_piece_62
    · have hF := ob_t c_14 hF
      refine lv_iconst (v := (-1 : Int32)) hx hb dX10_piece_17 (by decide) ?_
      exact rwM hx hb hr hlocks hF hK hP hD hS dX10_piece_18
def FM_miss (σ : MS) (p1 : Int32) (p2 : Int32) : Option (Int32 × MS) := ((FM_isMade σ p1).bind fun q_2 => (if q_2 = 0 then (some ((-1 : Int32), σ)) else ((FM_in p2 (0 : Int32) (4 : Int32)).bind fun q_11 => (if q_11 = 0 then (some ((-1 : Int32), σ)) else ((FM_looksAt σ p1).bind fun q_21 => ((FM_seam q_21 p2).bind fun q_26 => (some (q_26, q_21))))))))
def wsM_miss : List Cond := Cond.code yX10_miss cX10_miss 3 (some .int) :: wMa
set_option maxHeartbeats 4000000 in
set_option maxRecDepth 100000 in
theorem cM_miss (l : Launch) (D : va_G) (cI cZ : ClassId) (h : Nat) (ad : Nat → Nat) (A : Nat → Prop) (σ : MS) (p1 : Int32) (p2 : Int32) (q : Int32 × MS) (hF : FM_miss σ p1 p2 = some q) : Met l yX10_miss wsM_miss { frames := 2, cells := 0, slots := 0, locals := 48 } (va_Pc [.ref h, .int p1, .int p2] (preM D cI cZ h ad A σ)) (va_Qi (fun x u => x = q.1 ∧ u = q.2) (preM D cI cZ h ad A) A) 0 0 A := by
  refine Met.ofW (cc := cX10_miss) (maxL := 3) (ret := (some .int)) (by decide) rfl ?_
  intro p e s m args below meth c s₁ B hml hv
  obtain ⟨rfl, hP, hK, hD⟩ := hv
  have hx := B.exec
  have hb := B.bytes
  have hr := B.returns
  have hts : ∀ w ∈ (Cond.code yX10_miss cX10_miss 3 (some .int) :: wMa), w.before ([.ref h, .int p1, .int p2] : List Value).toArray s = true := atoms_spec (ws := wsM_miss) B.pre
  have hin : ∀ w ∈ wMa, w ∈ (Cond.code yX10_miss cX10_miss 3 (some .int) :: wMa) := fun w hw => List.mem_cons_of_mem _ hw
  have hown : s.vm.findClass RX10 = some m.cls := findClass_of_methodNamed B.named
  have hlocks := B.notSynchronized
  have hS : va_S A s.heap s.heap [] := va_S.rf
  have hl := lv_entry ([.ref h, .int p1, .int p2]) (n := 3) (Nat.le_of_ble_eq_true rfl)
  rw [lg_entry_eq]
  generalize (lg_sl ([.ref h, .int p1, .int p2]) ++ List.replicate (3 - (lg_sl ([.ref h, .int p1, .int p2])).length) Slot.unset).toArray = ls at hl ⊢
  have hl : lv_has ls 3 [(0, .ref h), (1, .int p1), (2, .int p2)] := hl
  unfold FM_miss at hF
  refine lv_aload_n hx hb dX10_miss_0 rfl (lv_at hl 0 rfl) ?_
  refine lv_iload_n hx hb dX10_miss_1 rfl (lv_at hl 1 rfl) ?_
  obtain ⟨q_2, e_2, hF⟩ := ob_bd hF
  refine crM (As := [.int p1]) (rest := []) ⟨hx, hb, hml, hown, hts⟩ (cM_isMade l D cI cZ h ad σ p1 _ e_2) (cw_isMade hts ⟨Nat.le_of_ble_eq_true rfl, Nat.le_of_ble_eq_true rfl⟩) hK hP rfl hl.1 rfl (lv_room (Nat.le_of_ble_eq_true rfl)) dX10_miss_2 ?_
  refine lv_if_eq (tgt := 17) hx hb dX10_miss_5 (by decide) (fun c_5 => ?_) (fun c_5 => ?_)
  · have hF := ob_t c_5 hF
    refine lv_iconst (v := (-1 : Int32)) hx hb dX10_miss_17 (by decide) ?_
    exact rwM hx hb hr hlocks hF hK hP hD hS dX10_miss_18
  · have hF := ob_f c_5 hF
    refine lv_iload_n hx hb dX10_miss_8 rfl (lv_at hl 2 rfl) ?_
    refine lv_iconst (v := (0 : Int32)) hx hb dX10_miss_9 (by decide) ?_
    refine lv_iconst (v := (4 : Int32)) hx hb dX10_miss_10 (by decide) ?_
    obtain ⟨q_11, e_11, hF⟩ := ob_bd hF
    refine csM (As := [.int p2, .int (0 : Int32), .int (4 : Int32)]) (rest := []) ⟨hx, hb, hml, hown, hts⟩ (cM_in l p2 (0 : Int32) (4 : Int32) _ e_11) (cw_in hts ⟨Nat.le_of_ble_eq_true rfl, Nat.le_of_ble_eq_true rfl⟩) rfl hl.1 rfl (lv_room (Nat.le_of_ble_eq_true rfl)) dX10_miss_11 ?_
    refine lv_if_ne (tgt := 19) hx hb dX10_miss_14 (by decide) (fun c_14 => ?_) (fun c_14 => ?_)
    · have hF := ob_f c_14 hF
      refine lv_aload_n hx hb dX10_miss_19 rfl (lv_at hl 0 rfl) ?_
      refine lv_iload_n hx hb dX10_miss_20 rfl (lv_at hl 1 rfl) ?_
      obtain ⟨q_21, e_21, hF⟩ := ob_bd hF
      refine cvM (As := [.int p1]) (rest := []) ⟨hx, hb, hml, hown, hts⟩ (cM_looksAt l D cI cZ h ad A σ p1 _ e_21) (cw_looksAt hts ⟨Nat.le_of_ble_eq_true rfl, Nat.le_of_ble_eq_true rfl⟩) hK hP hD hS rfl hl.1 rfl (lv_room (Nat.le_of_ble_eq_true rfl)) dX10_miss_21 (fun H locs hP hD hS => ?_)
      refine lv_aload_n hx hb dX10_miss_24 rfl (lv_at hl 0 rfl) ?_
      refine lv_iload_n hx hb dX10_miss_25 rfl (lv_at hl 2 rfl) ?_
      obtain ⟨q_26, e_26, hF⟩ := ob_bd hF
      refine crM (As := [.int p2]) (rest := []) ⟨hx, hb, hml, hown, hts⟩ (cM_seam l D cI cZ h ad q_21 p2 _ e_26) (cw_seam hts ⟨Nat.le_of_ble_eq_true rfl, Nat.le_of_ble_eq_true rfl⟩) hK hP rfl hl.1 rfl (lv_room (Nat.le_of_ble_eq_true rfl)) dX10_miss_26 ?_
      exact rwM hx hb hr hlocks hF hK hP hD hS dX10_miss_29
    · have hF := ob_t c_14 hF
      refine lv_iconst (v := (-1 : Int32)) hx hb dX10_miss_17 (by decide) ?_
      exact rwM hx hb hr hlocks hF hK hP hD hS dX10_miss_18
def FM_wears (σ : MS) (p1 : Int32) (p2 : Int32) (p3 : Int32) : Option (Int32 × MS) := (gd (inb p2 6) (gd (inb ((((120 : Int32) * p1) + (σ.2 33 p2.toNatClampNeg)) + p3) 3600) (if (σ.2 14 ((((120 : Int32) * p1) + (σ.2 33 p2.toNatClampNeg)) + p3).toNatClampNeg) < (900 : Int32) then (gd (inb ((((120 : Int32) * p1) + (σ.2 33 p2.toNatClampNeg)) + p3) 3600) (gd (inb ((((120 : Int32) * p1) + (σ.2 33 p2.toNatClampNeg)) + p3) 3600) (some ((1 : Int32), (sa σ 14 ((((120 : Int32) * p1) + (σ.2 33 p2.toNatClampNeg)) + p3) ((σ.2 14 ((((120 : Int32) * p1) + (σ.2 33 p2.toNatClampNeg)) + p3).toNatClampNeg) + (100 : Int32))))))) else (some ((0 : Int32), σ)))))
def wsM_wears : List Cond := Cond.code yX10_wears cX10_wears 5 (some .int) :: wMa
theorem cw_wears {R : Room} {s : State} {args : Array Value} {y : MethodName} {c : ByteArray} {n : Nat} {r : Option FieldType} (hts : ∀ w ∈ (Cond.code y c n r :: wMa), w.before args s = true) (hR : 0 + 1 ≤ R.frames ∧ 8 + (5 + 11) + 0 ≤ R.locals) : CallW R s args RX10 RX10 226 yX10_wears cX10_wears 5 (some .int) wsM_wears { frames := 0, cells := 0, slots := 0, locals := 0 } 0 0 3 := cwV 3 hts (goodMV mm_226 mi_wears ms_wears m_ini mc_wears) rfl rfl rfl (by decide +kernel) hR
set_option maxHeartbeats 4000000 in
set_option maxRecDepth 100000 in
theorem cM_wears (l : Launch) (D : va_G) (cI cZ : ClassId) (h : Nat) (ad : Nat → Nat) (A : Nat → Prop) (σ : MS) (p1 : Int32) (p2 : Int32) (p3 : Int32) (q : Int32 × MS) (hF : FM_wears σ p1 p2 p3 = some q) : Met l yX10_wears wsM_wears { frames := 0, cells := 0, slots := 0, locals := 0 } (va_Pc [.ref h, .int p1, .int p2, .int p3] (preM D cI cZ h ad A σ)) (va_Qi (fun x u => x = q.1 ∧ u = q.2) (preM D cI cZ h ad A) A) 0 0 A := by
  refine Met.ofW (cc := cX10_wears) (maxL := 5) (ret := (some .int)) (by decide) rfl ?_
  intro p e s m args below meth c s₁ B hml hv
  obtain ⟨rfl, hP, hK, hD⟩ := hv
  have hx := B.exec
  have hb := B.bytes
  have hr := B.returns
  have hts : ∀ w ∈ (Cond.code yX10_wears cX10_wears 5 (some .int) :: wMa), w.before ([.ref h, .int p1, .int p2, .int p3] : List Value).toArray s = true := atoms_spec (ws := wsM_wears) B.pre
  have hin : ∀ w ∈ wMa, w ∈ (Cond.code yX10_wears cX10_wears 5 (some .int) :: wMa) := fun w hw => List.mem_cons_of_mem _ hw
  have hown : s.vm.findClass RX10 = some m.cls := findClass_of_methodNamed B.named
  have hlocks := B.notSynchronized
  have hS : va_S A s.heap s.heap [] := va_S.rf
  have hl := lv_entry ([.ref h, .int p1, .int p2, .int p3]) (n := 5) (Nat.le_of_ble_eq_true rfl)
  rw [lg_entry_eq]
  generalize (lg_sl ([.ref h, .int p1, .int p2, .int p3]) ++ List.replicate (5 - (lg_sl ([.ref h, .int p1, .int p2, .int p3])).length) Slot.unset).toArray = ls at hl ⊢
  have hl : lv_has ls 5 [(0, .ref h), (1, .int p1), (2, .int p2), (3, .int p3)] := hl
  unfold FM_wears at hF
  refine lv_bipush (v := (120 : Int32)) hx hb dX10_wears_0 (by decide) ?_
  refine lv_iload_n hx hb dX10_wears_2 rfl (lv_at hl 1 rfl) ?_
  refine lv_imul hx hb dX10_wears_3 ?_
  refine lv_aload_n hx hb dX10_wears_4 rfl (lv_at hl 0 rfl) ?_
  refine gM hx hb hts hin hown hK hP 33 (.ref (ad 33)) (by decide) mf_99 rfl dX10_wears_5 ?_
  refine lv_iload_n hx hb dX10_wears_8 rfl (lv_at hl 2 rfl) ?_
  obtain ⟨g_9, hF⟩ := ob_gd hF
  refine ldI hx hb hK hP (at_33 _ _ _ _ _) (σ.2 33 p2.toNatClampNeg) g_9 rfl dX10_wears_9 ?_
  refine lv_iadd hx hb dX10_wears_10 ?_
  refine lv_iload_n hx hb dX10_wears_11 rfl (lv_at hl 3 rfl) ?_
  refine lv_iadd hx hb dX10_wears_12 ?_
  refine lv_istore (lv' := [(4, .int ((((120 : Int32) * p1) + (σ.2 33 p2.toNatClampNeg)) + p3)), (0, .ref h), (1, .int p1), (2, .int p2), (3, .int p3)]) hx hb dX10_wears_13 hl (by decide) rfl (fun ls hl => ?_)
  refine lv_aload_n hx hb dX10_wears_15 rfl (lv_at hl 1 rfl) ?_
  refine gM hx hb hts hin hown hK hP 14 (.ref (ad 14)) (by decide) mf_47 rfl dX10_wears_16 ?_
  refine lv_iload hx hb dX10_wears_19 (lv_at hl 0 rfl) ?_
  obtain ⟨g_21, hF⟩ := ob_gd hF
  refine ldI hx hb hK hP (at_14 _ _ _ _ _) (σ.2 14 ((((120 : Int32) * p1) + (σ.2 33 p2.toNatClampNeg)) + p3).toNatClampNeg) g_21 rfl dX10_wears_21 ?_
  refine lv_sipush (v := (900 : Int32)) hx hb dX10_wears_22 (by decide) ?_
  refine lv_icmp_lt (tgt := 30) hx hb dX10_wears_25 (by decide) (fun c_25 => ?_) (fun c_25 => ?_)
  · have hF := ob_t c_25 hF
    refine lv_aload_n hx hb dX10_wears_30 rfl (lv_at hl 1 rfl) ?_
    refine gM hx hb hts hin hown hK hP 14 (.ref (ad 14)) (by decide) mf_47 rfl dX10_wears_31 ?_
    refine lv_iload hx hb dX10_wears_34 (lv_at hl 0 rfl) ?_
    refine lv_dup2_11 hx hb dX10_wears_36 rfl rfl ?_
    obtain ⟨g_37, hF⟩ := ob_gd hF
    refine ldI hx hb hK hP (at_14 _ _ _ _ _) (σ.2 14 ((((120 : Int32) * p1) + (σ.2 33 p2.toNatClampNeg)) + p3).toNatClampNeg) g_37 rfl dX10_wears_37 ?_
    refine lv_bipush (v := (100 : Int32)) hx hb dX10_wears_38 (by decide) ?_
    refine lv_iadd hx hb dX10_wears_40 ?_
    obtain ⟨g_41, hF⟩ := ob_gd hF
    refine stI hx hb hK hP hD hS (at_14 _ _ _ _ _) (st_14 _ _ _ _ _ _ _) g_41 dX10_wears_41 (fun H locs hP hD hS => ?_)
    refine lv_iconst (v := (1 : Int32)) hx hb dX10_wears_42 (by decide) ?_
    exact rwM hx hb hr hlocks hF hK hP hD hS dX10_wears_43
  · have hF := ob_f c_25 hF
    refine lv_iconst (v := (0 : Int32)) hx hb dX10_wears_28 (by decide) ?_
    exact rwM hx hb hr hlocks hF hK hP hD hS dX10_wears_29
def FM_wornOnce_9 (K_48 : Int32 → MS → Option (Int32 × MS)) (x1_9 : Int32) : Nat → Int32 → Int32 → MS → Option (Int32 × MS)
  | 0, _, _, _ => none
  | n_9 + 1, x2_9, x3_9, σ_9 => (if (3 : Int32) ≤ x3_9 then (K_48 x2_9 σ_9) else (gd (inb (2 : Int32) 6) (if (σ_9.2 32 (2 : Int32).toNatClampNeg) ≤ x3_9 then (K_48 x2_9 σ_9) else ((FM_wears σ_9 x1_9 (2 : Int32) x3_9).bind fun q_29 => ((FM_wears q_29.2 x1_9 (3 : Int32) x3_9).bind fun q_36 => (FM_wornOnce_9 K_48 x1_9 n_9 (x2_9 + (q_29.1 + q_36.1)) (x3_9 + (1 : Int32)) q_36.2))))))
def FM_wornOnce_50 (K_76 : Int32 → MS → Option (Int32 × MS)) (x1_50 : Int32) : Nat → Int32 → Int32 → MS → Option (Int32 × MS)
  | 0, _, _, _ => none
  | n_50 + 1, x2_50, x3_50, σ_50 => (gd (inb (5 : Int32) 6) (if (σ_50.2 32 (5 : Int32).toNatClampNeg) ≤ x3_50 then (K_76 x2_50 σ_50) else ((FM_wears σ_50 x1_50 (5 : Int32) x3_50).bind fun q_65 => (FM_wornOnce_50 K_76 x1_50 n_50 (x2_50 + q_65.1) (x3_50 + (1 : Int32)) q_65.2))))
def FM_wornOnce_76 (x1_76 : Int32) (x2_76 : Int32) (σ_76 : MS) : Option (Int32 × MS) := (gd (inb (0 : Int32) 6) ((FM_wears σ_76 x1_76 (0 : Int32) ((σ_76.2 32 (0 : Int32).toNatClampNeg) / (2 : Int32))).bind fun q_88 => (gd (inb (0 : Int32) 6) ((FM_wears q_88.2 x1_76 (1 : Int32) ((q_88.2.2 32 (0 : Int32).toNatClampNeg) / (2 : Int32))).bind fun q_103 => (some (((x2_76 + q_88.1) + q_103.1), q_103.2))))))
def FM_wornOnce_48 (x1_48 : Int32) (x2_48 : Int32) (σ_48 : MS) : Option (Int32 × MS) := (FM_wornOnce_50 (fun x2_76 σ_76 => FM_wornOnce_76 x1_48 x2_76 σ_76) x1_48 fu x2_48 (0 : Int32) σ_48)
def FM_wornOnce (σ : MS) (p1 : Int32) : Option (Int32 × MS) := ((FM_looksAt σ p1).bind fun q_2 => (FM_wornOnce_9 (fun x2_48 σ_48 => FM_wornOnce_48 p1 x2_48 σ_48) p1 fu (0 : Int32) (0 : Int32) q_2))
def wsM_wornOnce : List Cond := Cond.code yX10_wornOnce cX10_wornOnce 4 (some .int) :: wMa
theorem cw_wornOnce {R : Room} {s : State} {args : Array Value} {y : MethodName} {c : ByteArray} {n : Nat} {r : Option FieldType} (hts : ∀ w ∈ (Cond.code y c n r :: wMa), w.before args s = true) (hR : 2 + 1 ≤ R.frames ∧ 8 + (4 + 11) + 48 ≤ R.locals) : CallW R s args RX10 RX10 229 yX10_wornOnce cX10_wornOnce 4 (some .int) wsM_wornOnce { frames := 2, cells := 0, slots := 0, locals := 48 } 0 0 1 := cwV 1 hts (goodMV mm_229 mi_wornOnce ms_wornOnce m_ini mc_wornOnce) rfl rfl rfl (by decide +kernel) hR
set_option maxHeartbeats 4000000 in
set_option maxRecDepth 100000 in
theorem cM_wornOnce (l : Launch) (D : va_G) (cI cZ : ClassId) (h : Nat) (ad : Nat → Nat) (A : Nat → Prop) (σ : MS) (p1 : Int32) (q : Int32 × MS) (hF : FM_wornOnce σ p1 = some q) : Met l yX10_wornOnce wsM_wornOnce { frames := 2, cells := 0, slots := 0, locals := 48 } (va_Pc [.ref h, .int p1] (preM D cI cZ h ad A σ)) (va_Qi (fun x u => x = q.1 ∧ u = q.2) (preM D cI cZ h ad A) A) 0 0 A := by
  refine Met.ofW (cc := cX10_wornOnce) (maxL := 4) (ret := (some .int)) (by decide) rfl ?_
  intro p e s m args below meth c s₁ B hml hv
  obtain ⟨rfl, hP, hK, hD⟩ := hv
  have hx := B.exec
  have hb := B.bytes
  have hr := B.returns
  have hts : ∀ w ∈ (Cond.code yX10_wornOnce cX10_wornOnce 4 (some .int) :: wMa), w.before ([.ref h, .int p1] : List Value).toArray s = true := atoms_spec (ws := wsM_wornOnce) B.pre
  have hin : ∀ w ∈ wMa, w ∈ (Cond.code yX10_wornOnce cX10_wornOnce 4 (some .int) :: wMa) := fun w hw => List.mem_cons_of_mem _ hw
  have hown : s.vm.findClass RX10 = some m.cls := findClass_of_methodNamed B.named
  have hlocks := B.notSynchronized
  have hS : va_S A s.heap s.heap [] := va_S.rf
  have b_9 : ∀ (x1_9 : Int32) (K_48 : Int32 → MS → Option (Int32 × MS)) (k_48 : ∀ (x2_48 : Int32) (σ_48 : MS) (H : Heap) (locs : List Loc) (ls : Array Slot), K_48 x2_48 σ_48 = some q → va_P D vwCl (wM cI cZ h ad σ_48) H → va_D A (wM cI cZ h ad σ_48) → va_S A s.heap H locs → lv_has ls 4 [(0, .ref h), (1, .int x1_9), (2, .int x2_48)] → W p l e (headSpec wsM_wornOnce { frames := 2, cells := 0, slots := 0, locals := 48 }).room s m ([.ref h, .int p1] : List Value).toArray below meth c H locs 0 0 (MQ below (va_Qi (fun x u => x = q.1 ∧ u = q.2) (preM D cI cZ h ad A) A) ([.ref h, .int p1] : List Value).toArray s 0 0 A) (F0 m 48 ls [])) (n_9 : Nat) (x2_9 : Int32) (x3_9 : Int32) (σ_9 : MS) (H : Heap) (locs : List Loc) (ls : Array Slot), FM_wornOnce_9 K_48 x1_9 n_9 x2_9 x3_9 σ_9 = some q → va_P D vwCl (wM cI cZ h ad σ_9) H → va_D A (wM cI cZ h ad σ_9) → va_S A s.heap H locs → lv_has ls 4 [(0, .ref h), (1, .int x1_9), (2, .int x2_9), (3, .int x3_9)] → W p l e (headSpec wsM_wornOnce { frames := 2, cells := 0, slots := 0, locals := 48 }).room s m ([.ref h, .int p1] : List Value).toArray below meth c H locs 0 0 (MQ below (va_Qi (fun x u => x = q.1 ∧ u = q.2) (preM D cI cZ h ad A) A) ([.ref h, .int p1] : List Value).toArray s 0 0 A) (F0 m 9 ls []) := by
    intro x1_9 K_48 k_48
    intro n_9
    induction n_9 with
    | zero =>
      intro x2_9 x3_9 σ_9 H locs ls hF hP hD hS hl
      exact absurd hF (by simp [FM_wornOnce_9])
    | succ n_9 ih_9 =>
      intro x2_9 x3_9 σ_9 H locs ls hF hP hD hS hl
      rw [FM_wornOnce_9] at hF
      refine lv_iload_n hx hb dX10_wornOnce_9 rfl (lv_at hl 3 rfl) ?_
      refine lv_iconst (v := (3 : Int32)) hx hb dX10_wornOnce_10 (by decide) ?_
      refine lv_icmp_ge (tgt := 48) hx hb dX10_wornOnce_11 (by decide) (fun c_11 => ?_) (fun c_11 => ?_)
      · have hF := ob_t c_11 hF
        exact k_48 x2_9 σ_9 _ _ _ hF hP hD hS (lv_sub hl [0, 1, 2] rfl)
      · have hF := ob_f c_11 hF
        refine lv_iload_n hx hb dX10_wornOnce_14 rfl (lv_at hl 3 rfl) ?_
        refine lv_aload_n hx hb dX10_wornOnce_15 rfl (lv_at hl 0 rfl) ?_
        refine gM hx hb hts hin hown hK hP 32 (.ref (ad 32)) (by decide) mf_96 rfl dX10_wornOnce_16 ?_
        refine lv_iconst (v := (2 : Int32)) hx hb dX10_wornOnce_19 (by decide) ?_
        obtain ⟨g_20, hF⟩ := ob_gd hF
        refine ldI hx hb hK hP (at_32 _ _ _ _ _) (σ_9.2 32 (2 : Int32).toNatClampNeg) g_20 rfl dX10_wornOnce_20 ?_
        refine lv_icmp_ge (tgt := 48) hx hb dX10_wornOnce_21 (by decide) (fun c_21 => ?_) (fun c_21 => ?_)
        · have hF := ob_t c_21 hF
          exact k_48 x2_9 σ_9 _ _ _ hF hP hD hS (lv_sub hl [0, 1, 2] rfl)
        · have hF := ob_f c_21 hF
          refine lv_iload_n hx hb dX10_wornOnce_24 rfl (lv_at hl 2 rfl) ?_
          refine lv_aload_n hx hb dX10_wornOnce_25 rfl (lv_at hl 0 rfl) ?_
          refine lv_iload_n hx hb dX10_wornOnce_26 rfl (lv_at hl 1 rfl) ?_
          refine lv_iconst (v := (2 : Int32)) hx hb dX10_wornOnce_27 (by decide) ?_
          refine lv_iload_n hx hb dX10_wornOnce_28 rfl (lv_at hl 3 rfl) ?_
          obtain ⟨q_29, e_29, hF⟩ := ob_bd hF
          refine cwM (As := [.int x1_9, .int (2 : Int32), .int x3_9]) (rest := [.int x2_9]) ⟨hx, hb, hml, hown, hts⟩ (cM_wears l D cI cZ h ad A σ_9 x1_9 (2 : Int32) x3_9 _ e_29) (cw_wears hts ⟨Nat.le_of_ble_eq_true rfl, Nat.le_of_ble_eq_true rfl⟩) hK hP hD hS rfl hl.1 rfl (lv_room (Nat.le_of_ble_eq_true rfl)) dX10_wornOnce_29 (fun H locs hP hD hS => ?_)
          refine lv_aload_n hx hb dX10_wornOnce_32 rfl (lv_at hl 0 rfl) ?_
          refine lv_iload_n hx hb dX10_wornOnce_33 rfl (lv_at hl 1 rfl) ?_
          refine lv_iconst (v := (3 : Int32)) hx hb dX10_wornOnce_34 (by decide) ?_
          refine lv_iload_n hx hb dX10_wornOnce_35 rfl (lv_at hl 3 rfl) ?_
          obtain ⟨q_36, e_36, hF⟩ := ob_bd hF
          refine cwM (As := [.int x1_9, .int (3 : Int32), .int x3_9]) (rest := [.int q_29.1, .int x2_9]) ⟨hx, hb, hml, hown, hts⟩ (cM_wears l D cI cZ h ad A q_29.2 x1_9 (3 : Int32) x3_9 _ e_36) (cw_wears hts ⟨Nat.le_of_ble_eq_true rfl, Nat.le_of_ble_eq_true rfl⟩) hK hP hD hS rfl hl.1 rfl (lv_room (Nat.le_of_ble_eq_true rfl)) dX10_wornOnce_36 (fun H locs hP hD hS => ?_)
          refine lv_iadd hx hb dX10_wornOnce_39 ?_
          refine lv_iadd hx hb dX10_wornOnce_40 ?_
          refine lv_istore_n (lv' := [(2, .int (x2_9 + (q_29.1 + q_36.1))), (0, .ref h), (1, .int x1_9), (3, .int x3_9)]) hx hb dX10_wornOnce_41 rfl hl (by decide) rfl (fun ls hl => ?_)
          refine lv_iinc (v := x3_9 + (1 : Int32)) (lv' := [(3, .int (x3_9 + (1 : Int32))), (2, .int (x2_9 + (q_29.1 + q_36.1))), (0, .ref h), (1, .int x1_9)]) hx hb dX10_wornOnce_42 hl (k := 3) rfl rfl (by decide) rfl (fun ls hl => ?_)
          refine lv_goto (tgt := 9) hx hb dX10_wornOnce_45 (by decide) ?_
          exact ih_9 (x2_9 + (q_29.1 + q_36.1)) (x3_9 + (1 : Int32)) q_36.2 _ _ _ hF hP hD hS (lv_sub hl [2, 3, 1, 0] rfl)
  have b_50 : ∀ (x1_50 : Int32) (K_76 : Int32 → MS → Option (Int32 × MS)) (k_76 : ∀ (x2_76 : Int32) (σ_76 : MS) (H : Heap) (locs : List Loc) (ls : Array Slot), K_76 x2_76 σ_76 = some q → va_P D vwCl (wM cI cZ h ad σ_76) H → va_D A (wM cI cZ h ad σ_76) → va_S A s.heap H locs → lv_has ls 4 [(0, .ref h), (1, .int x1_50), (2, .int x2_76)] → W p l e (headSpec wsM_wornOnce { frames := 2, cells := 0, slots := 0, locals := 48 }).room s m ([.ref h, .int p1] : List Value).toArray below meth c H locs 0 0 (MQ below (va_Qi (fun x u => x = q.1 ∧ u = q.2) (preM D cI cZ h ad A) A) ([.ref h, .int p1] : List Value).toArray s 0 0 A) (F0 m 76 ls [])) (n_50 : Nat) (x2_50 : Int32) (x3_50 : Int32) (σ_50 : MS) (H : Heap) (locs : List Loc) (ls : Array Slot), FM_wornOnce_50 K_76 x1_50 n_50 x2_50 x3_50 σ_50 = some q → va_P D vwCl (wM cI cZ h ad σ_50) H → va_D A (wM cI cZ h ad σ_50) → va_S A s.heap H locs → lv_has ls 4 [(0, .ref h), (1, .int x1_50), (2, .int x2_50), (3, .int x3_50)] → W p l e (headSpec wsM_wornOnce { frames := 2, cells := 0, slots := 0, locals := 48 }).room s m ([.ref h, .int p1] : List Value).toArray below meth c H locs 0 0 (MQ below (va_Qi (fun x u => x = q.1 ∧ u = q.2) (preM D cI cZ h ad A) A) ([.ref h, .int p1] : List Value).toArray s 0 0 A) (F0 m 50 ls []) := by
    intro x1_50 K_76 k_76
    intro n_50
    induction n_50 with
    | zero =>
      intro x2_50 x3_50 σ_50 H locs ls hF hP hD hS hl
      exact absurd hF (by simp [FM_wornOnce_50])
    | succ n_50 ih_50 =>
      intro x2_50 x3_50 σ_50 H locs ls hF hP hD hS hl
      rw [FM_wornOnce_50] at hF
      refine lv_iload_n hx hb dX10_wornOnce_50 rfl (lv_at hl 3 rfl) ?_
      refine lv_aload_n hx hb dX10_wornOnce_51 rfl (lv_at hl 0 rfl) ?_
      refine gM hx hb hts hin hown hK hP 32 (.ref (ad 32)) (by decide) mf_96 rfl dX10_wornOnce_52 ?_
      refine lv_iconst (v := (5 : Int32)) hx hb dX10_wornOnce_55 (by decide) ?_
      obtain ⟨g_56, hF⟩ := ob_gd hF
      refine ldI hx hb hK hP (at_32 _ _ _ _ _) (σ_50.2 32 (5 : Int32).toNatClampNeg) g_56 rfl dX10_wornOnce_56 ?_
      refine lv_icmp_ge (tgt := 76) hx hb dX10_wornOnce_57 (by decide) (fun c_57 => ?_) (fun c_57 => ?_)
      · have hF := ob_t c_57 hF
        exact k_76 x2_50 σ_50 _ _ _ hF hP hD hS (lv_sub hl [0, 1, 2] rfl)
      · have hF := ob_f c_57 hF
        refine lv_iload_n hx hb dX10_wornOnce_60 rfl (lv_at hl 2 rfl) ?_
        refine lv_aload_n hx hb dX10_wornOnce_61 rfl (lv_at hl 0 rfl) ?_
        refine lv_iload_n hx hb dX10_wornOnce_62 rfl (lv_at hl 1 rfl) ?_
        refine lv_iconst (v := (5 : Int32)) hx hb dX10_wornOnce_63 (by decide) ?_
        refine lv_iload_n hx hb dX10_wornOnce_64 rfl (lv_at hl 3 rfl) ?_
        obtain ⟨q_65, e_65, hF⟩ := ob_bd hF
        refine cwM (As := [.int x1_50, .int (5 : Int32), .int x3_50]) (rest := [.int x2_50]) ⟨hx, hb, hml, hown, hts⟩ (cM_wears l D cI cZ h ad A σ_50 x1_50 (5 : Int32) x3_50 _ e_65) (cw_wears hts ⟨Nat.le_of_ble_eq_true rfl, Nat.le_of_ble_eq_true rfl⟩) hK hP hD hS rfl hl.1 rfl (lv_room (Nat.le_of_ble_eq_true rfl)) dX10_wornOnce_65 (fun H locs hP hD hS => ?_)
        refine lv_iadd hx hb dX10_wornOnce_68 ?_
        refine lv_istore_n (lv' := [(2, .int (x2_50 + q_65.1)), (0, .ref h), (1, .int x1_50), (3, .int x3_50)]) hx hb dX10_wornOnce_69 rfl hl (by decide) rfl (fun ls hl => ?_)
        refine lv_iinc (v := x3_50 + (1 : Int32)) (lv' := [(3, .int (x3_50 + (1 : Int32))), (2, .int (x2_50 + q_65.1)), (0, .ref h), (1, .int x1_50)]) hx hb dX10_wornOnce_70 hl (k := 3) rfl rfl (by decide) rfl (fun ls hl => ?_)
        refine lv_goto (tgt := 50) hx hb dX10_wornOnce_73 (by decide) ?_
        exact ih_50 (x2_50 + q_65.1) (x3_50 + (1 : Int32)) q_65.2 _ _ _ hF hP hD hS (lv_sub hl [2, 3, 1, 0] rfl)
  have b_76 : ∀ (x1_76 : Int32) (x2_76 : Int32) (σ_76 : MS) (H : Heap) (locs : List Loc) (ls : Array Slot), FM_wornOnce_76 x1_76 x2_76 σ_76 = some q → va_P D vwCl (wM cI cZ h ad σ_76) H → va_D A (wM cI cZ h ad σ_76) → va_S A s.heap H locs → lv_has ls 4 [(0, .ref h), (1, .int x1_76), (2, .int x2_76)] → W p l e (headSpec wsM_wornOnce { frames := 2, cells := 0, slots := 0, locals := 48 }).room s m ([.ref h, .int p1] : List Value).toArray below meth c H locs 0 0 (MQ below (va_Qi (fun x u => x = q.1 ∧ u = q.2) (preM D cI cZ h ad A) A) ([.ref h, .int p1] : List Value).toArray s 0 0 A) (F0 m 76 ls []) := by
    intro x1_76 x2_76 σ_76 H locs ls hF hP hD hS hl
    unfold FM_wornOnce_76 at hF
    refine lv_iload_n hx hb dX10_wornOnce_76 rfl (lv_at hl 2 rfl) ?_
    refine lv_aload_n hx hb dX10_wornOnce_77 rfl (lv_at hl 0 rfl) ?_
    refine lv_iload_n hx hb dX10_wornOnce_78 rfl (lv_at hl 1 rfl) ?_
    refine lv_iconst (v := (0 : Int32)) hx hb dX10_wornOnce_79 (by decide) ?_
    refine lv_aload_n hx hb dX10_wornOnce_80 rfl (lv_at hl 0 rfl) ?_
    refine gM hx hb hts hin hown hK hP 32 (.ref (ad 32)) (by decide) mf_96 rfl dX10_wornOnce_81 ?_
    refine lv_iconst (v := (0 : Int32)) hx hb dX10_wornOnce_84 (by decide) ?_
    obtain ⟨g_85, hF⟩ := ob_gd hF
    refine ldI hx hb hK hP (at_32 _ _ _ _ _) (σ_76.2 32 (0 : Int32).toNatClampNeg) g_85 rfl dX10_wornOnce_85 ?_
    refine lv_iconst (v := (2 : Int32)) hx hb dX10_wornOnce_86 (by decide) ?_
    refine lv_idiv hx hb dX10_wornOnce_87 (by decide) ?_
    obtain ⟨q_88, e_88, hF⟩ := ob_bd hF
    refine cwM (As := [.int x1_76, .int (0 : Int32), .int ((σ_76.2 32 (0 : Int32).toNatClampNeg) / (2 : Int32))]) (rest := [.int x2_76]) ⟨hx, hb, hml, hown, hts⟩ (cM_wears l D cI cZ h ad A σ_76 x1_76 (0 : Int32) ((σ_76.2 32 (0 : Int32).toNatClampNeg) / (2 : Int32)) _ e_88) (cw_wears hts ⟨Nat.le_of_ble_eq_true rfl, Nat.le_of_ble_eq_true rfl⟩) hK hP hD hS rfl hl.1 rfl (lv_room (Nat.le_of_ble_eq_true rfl)) dX10_wornOnce_88 (fun H locs hP hD hS => ?_)
    refine lv_iadd hx hb dX10_wornOnce_91 ?_
    refine lv_aload_n hx hb dX10_wornOnce_92 rfl (lv_at hl 0 rfl) ?_
    refine lv_iload_n hx hb dX10_wornOnce_93 rfl (lv_at hl 1 rfl) ?_
    refine lv_iconst (v := (1 : Int32)) hx hb dX10_wornOnce_94 (by decide) ?_
    refine lv_aload_n hx hb dX10_wornOnce_95 rfl (lv_at hl 0 rfl) ?_
    refine gM hx hb hts hin hown hK hP 32 (.ref (ad 32)) (by decide) mf_96 rfl dX10_wornOnce_96 ?_
    refine lv_iconst (v := (0 : Int32)) hx hb dX10_wornOnce_99 (by decide) ?_
    obtain ⟨g_100, hF⟩ := ob_gd hF
    refine ldI hx hb hK hP (at_32 _ _ _ _ _) (q_88.2.2 32 (0 : Int32).toNatClampNeg) g_100 rfl dX10_wornOnce_100 ?_
    refine lv_iconst (v := (2 : Int32)) hx hb dX10_wornOnce_101 (by decide) ?_
    refine lv_idiv hx hb dX10_wornOnce_102 (by decide) ?_
    obtain ⟨q_103, e_103, hF⟩ := ob_bd hF
    refine cwM (As := [.int x1_76, .int (1 : Int32), .int ((q_88.2.2 32 (0 : Int32).toNatClampNeg) / (2 : Int32))]) (rest := [.int (x2_76 + q_88.1)]) ⟨hx, hb, hml, hown, hts⟩ (cM_wears l D cI cZ h ad A q_88.2 x1_76 (1 : Int32) ((q_88.2.2 32 (0 : Int32).toNatClampNeg) / (2 : Int32)) _ e_103) (cw_wears hts ⟨Nat.le_of_ble_eq_true rfl, Nat.le_of_ble_eq_true rfl⟩) hK hP hD hS rfl hl.1 rfl (lv_room (Nat.le_of_ble_eq_true rfl)) dX10_wornOnce_103 (fun H locs hP hD hS => ?_)
    refine lv_iadd hx hb dX10_wornOnce_106 ?_
    exact rwM hx hb hr hlocks hF hK hP hD hS dX10_wornOnce_107
  have b_48 : ∀ (x1_48 : Int32) (x2_48 : Int32) (σ_48 : MS) (H : Heap) (locs : List Loc) (ls : Array Slot), FM_wornOnce_48 x1_48 x2_48 σ_48 = some q → va_P D vwCl (wM cI cZ h ad σ_48) H → va_D A (wM cI cZ h ad σ_48) → va_S A s.heap H locs → lv_has ls 4 [(0, .ref h), (1, .int x1_48), (2, .int x2_48)] → W p l e (headSpec wsM_wornOnce { frames := 2, cells := 0, slots := 0, locals := 48 }).room s m ([.ref h, .int p1] : List Value).toArray below meth c H locs 0 0 (MQ below (va_Qi (fun x u => x = q.1 ∧ u = q.2) (preM D cI cZ h ad A) A) ([.ref h, .int p1] : List Value).toArray s 0 0 A) (F0 m 48 ls []) := by
    intro x1_48 x2_48 σ_48 H locs ls hF hP hD hS hl
    unfold FM_wornOnce_48 at hF
    refine lv_iconst (v := (0 : Int32)) hx hb dX10_wornOnce_48 (by decide) ?_
    refine lv_istore_n (lv' := [(3, .int (0 : Int32)), (0, .ref h), (1, .int x1_48), (2, .int x2_48)]) hx hb dX10_wornOnce_49 rfl hl (by decide) rfl (fun ls hl => ?_)
    exact b_50 x1_48 (fun x2_76 σ_76 => FM_wornOnce_76 x1_48 x2_76 σ_76) (fun x2_76 σ_76 => b_76 x1_48 x2_76 σ_76) fu x2_48 (0 : Int32) σ_48 _ _ _ hF hP hD hS (lv_sub hl [1, 2, 3, 0] rfl)
  have hl := lv_entry ([.ref h, .int p1]) (n := 4) (Nat.le_of_ble_eq_true rfl)
  rw [lg_entry_eq]
  generalize (lg_sl ([.ref h, .int p1]) ++ List.replicate (4 - (lg_sl ([.ref h, .int p1])).length) Slot.unset).toArray = ls at hl ⊢
  have hl : lv_has ls 4 [(0, .ref h), (1, .int p1)] := hl
  unfold FM_wornOnce at hF
  refine lv_aload_n hx hb dX10_wornOnce_0 rfl (lv_at hl 0 rfl) ?_
  refine lv_iload_n hx hb dX10_wornOnce_1 rfl (lv_at hl 1 rfl) ?_
  obtain ⟨q_2, e_2, hF⟩ := ob_bd hF
  refine cvM (As := [.int p1]) (rest := []) ⟨hx, hb, hml, hown, hts⟩ (cM_looksAt l D cI cZ h ad A σ p1 _ e_2) (cw_looksAt hts ⟨Nat.le_of_ble_eq_true rfl, Nat.le_of_ble_eq_true rfl⟩) hK hP hD hS rfl hl.1 rfl (lv_room (Nat.le_of_ble_eq_true rfl)) dX10_wornOnce_2 (fun H locs hP hD hS => ?_)
  refine lv_iconst (v := (0 : Int32)) hx hb dX10_wornOnce_5 (by decide) ?_
  refine lv_istore_n (lv' := [(2, .int (0 : Int32)), (0, .ref h), (1, .int p1)]) hx hb dX10_wornOnce_6 rfl hl (by decide) rfl (fun ls hl => ?_)
  refine lv_iconst (v := (0 : Int32)) hx hb dX10_wornOnce_7 (by decide) ?_
  refine lv_istore_n (lv' := [(3, .int (0 : Int32)), (2, .int (0 : Int32)), (0, .ref h), (1, .int p1)]) hx hb dX10_wornOnce_8 rfl hl (by decide) rfl (fun ls hl => ?_)
  exact b_9 p1 (fun x2_48 σ_48 => FM_wornOnce_48 p1 x2_48 σ_48) (fun x2_48 σ_48 => b_48 p1 x2_48 σ_48) fu (0 : Int32) (0 : Int32) q_2 _ _ _ hF hP hD hS (lv_sub hl [2, 3, 1, 0] rfl)
def FM_wear (σ : MS) (p1 : Int32) : Option (Int32 × MS) := ((FM_isMade σ p1).bind fun q_2 => (if q_2 = 0 then (some ((-1 : Int32), σ)) else ((FM_wornOnce σ p1).bind fun q_10 => (some (q_10.1, q_10.2)))))
def wsM_wear : List Cond := Cond.code yX10_wear cX10_wear 2 (some .int) :: wMa
set_option maxHeartbeats 4000000 in
set_option maxRecDepth 100000 in
theorem cM_wear (l : Launch) (D : va_G) (cI cZ : ClassId) (h : Nat) (ad : Nat → Nat) (A : Nat → Prop) (σ : MS) (p1 : Int32) (q : Int32 × MS) (hF : FM_wear σ p1 = some q) : Met l yX10_wear wsM_wear { frames := 3, cells := 0, slots := 0, locals := 71 } (va_Pc [.ref h, .int p1] (preM D cI cZ h ad A σ)) (va_Qi (fun x u => x = q.1 ∧ u = q.2) (preM D cI cZ h ad A) A) 0 0 A := by
  refine Met.ofW (cc := cX10_wear) (maxL := 2) (ret := (some .int)) (by decide) rfl ?_
  intro p e s m args below meth c s₁ B hml hv
  obtain ⟨rfl, hP, hK, hD⟩ := hv
  have hx := B.exec
  have hb := B.bytes
  have hr := B.returns
  have hts : ∀ w ∈ (Cond.code yX10_wear cX10_wear 2 (some .int) :: wMa), w.before ([.ref h, .int p1] : List Value).toArray s = true := atoms_spec (ws := wsM_wear) B.pre
  have hin : ∀ w ∈ wMa, w ∈ (Cond.code yX10_wear cX10_wear 2 (some .int) :: wMa) := fun w hw => List.mem_cons_of_mem _ hw
  have hown : s.vm.findClass RX10 = some m.cls := findClass_of_methodNamed B.named
  have hlocks := B.notSynchronized
  have hS : va_S A s.heap s.heap [] := va_S.rf
  have hl := lv_entry ([.ref h, .int p1]) (n := 2) (Nat.le_of_ble_eq_true rfl)
  rw [lg_entry_eq]
  generalize (lg_sl ([.ref h, .int p1]) ++ List.replicate (2 - (lg_sl ([.ref h, .int p1])).length) Slot.unset).toArray = ls at hl ⊢
  have hl : lv_has ls 2 [(0, .ref h), (1, .int p1)] := hl
  unfold FM_wear at hF
  refine lv_aload_n hx hb dX10_wear_0 rfl (lv_at hl 0 rfl) ?_
  refine lv_iload_n hx hb dX10_wear_1 rfl (lv_at hl 1 rfl) ?_
  obtain ⟨q_2, e_2, hF⟩ := ob_bd hF
  refine crM (As := [.int p1]) (rest := []) ⟨hx, hb, hml, hown, hts⟩ (cM_isMade l D cI cZ h ad σ p1 _ e_2) (cw_isMade hts ⟨Nat.le_of_ble_eq_true rfl, Nat.le_of_ble_eq_true rfl⟩) hK hP rfl hl.1 rfl (lv_room (Nat.le_of_ble_eq_true rfl)) dX10_wear_2 ?_
  refine lv_if_eq (tgt := 16) hx hb dX10_wear_5 (by decide) (fun c_5 => ?_) (fun c_5 => ?_)
  · have hF := ob_t c_5 hF
    refine lv_iconst (v := (-1 : Int32)) hx hb dX10_wear_16 (by decide) ?_
    exact rwM hx hb hr hlocks hF hK hP hD hS dX10_wear_17
  · have hF := ob_f c_5 hF
    refine lv_aload_n hx hb dX10_wear_8 rfl (lv_at hl 0 rfl) ?_
    refine lv_iload_n hx hb dX10_wear_9 rfl (lv_at hl 1 rfl) ?_
    obtain ⟨q_10, e_10, hF⟩ := ob_bd hF
    refine cwM (As := [.int p1]) (rest := []) ⟨hx, hb, hml, hown, hts⟩ (cM_wornOnce l D cI cZ h ad A σ p1 _ e_10) (cw_wornOnce hts ⟨Nat.le_of_ble_eq_true rfl, Nat.le_of_ble_eq_true rfl⟩) hK hP hD hS rfl hl.1 rfl (lv_room (Nat.le_of_ble_eq_true rfl)) dX10_wear_10 (fun H locs hP hD hS => ?_)
    refine lv_goto (tgt := 17) hx hb dX10_wear_13 (by decide) ?_
    exact rwM hx hb hr hlocks hF hK hP hD hS dX10_wear_17
def FM_unpick_142 (K_107 : Int32 → MS → Option (Int32 × MS)) (x1_142 : Int32) (x3_142 : Int32) (x4_142 : Int32) (x5_142 : Int32) (x6_142 : Int32) (x7_142 : Int32) (x8_142 : Int32) (t1_142 : Int32) (t2_142 : Int32) (σ_142 : MS) : Option (Int32 × MS) := (gd (inb x6_142 6) (gd (inb ((σ_142.2 33 x6_142.toNatClampNeg) + x8_142) 120) (gd (inb (t1_142 + t2_142) 4800) (K_107 (x8_142 + (1 : Int32)) (sa σ_142 5 (t1_142 + t2_142) (σ_142.2 34 ((σ_142.2 33 x6_142.toNatClampNeg) + x8_142).toNatClampNeg))))))
def FM_unpick_107 (K_165 : MS → Option (Int32 × MS)) (x1_107 : Int32) (x3_107 : Int32) (x4_107 : Int32) (x5_107 : Int32) (x6_107 : Int32) (x7_107 : Int32) : Nat → Int32 → MS → Option (Int32 × MS)
  | 0, _, _ => none
  | n_107 + 1, x8_107, σ_107 => (if x7_107 ≤ x8_107 then (K_165 σ_107) else (if ((x3_107 >>> (x6_107 &&& 31)) &&& (1 : Int32)) = (1 : Int32) then (FM_unpick_142 (fun x8_107 σ_107 => FM_unpick_107 K_165 x1_107 x3_107 x4_107 x5_107 x6_107 x7_107 n_107 x8_107 σ_107) x1_107 x3_107 x4_107 x5_107 x6_107 x7_107 x8_107 x4_107 ((x7_107 - (1 : Int32)) - x8_107) σ_107) else (FM_unpick_142 (fun x8_107 σ_107 => FM_unpick_107 K_165 x1_107 x3_107 x4_107 x5_107 x6_107 x7_107 n_107 x8_107 σ_107) x1_107 x3_107 x4_107 x5_107 x6_107 x7_107 x8_107 x4_107 x8_107 σ_107)))
def FM_unpick_165 (K_79 : Int32 → Int32 → MS → Option (Int32 × MS)) (x1_165 : Int32) (x3_165 : Int32) (x4_165 : Int32) (x5_165 : Int32) (x7_165 : Int32) (σ_165 : MS) : Option (Int32 × MS) := (K_79 (x4_165 + x7_165) (x5_165 + (1 : Int32)) σ_165)
def FM_unpick_79 (K_178 : MS → Option (Int32 × MS)) (x1_79 : Int32) (x3_79 : Int32) : Nat → Int32 → Int32 → MS → Option (Int32 × MS)
  | 0, _, _, _ => none
  | n_79 + 1, x4_79, x5_79, σ_79 => (if (6 : Int32) ≤ x5_79 then (K_178 σ_79) else (gd (inb x5_79 6) (gd (inb (σ_79.2 35 x5_79.toNatClampNeg) 6) (FM_unpick_107 (fun σ_165 => FM_unpick_165 (fun x4_79 x5_79 σ_79 => FM_unpick_79 K_178 x1_79 x3_79 n_79 x4_79 x5_79 σ_79) x1_79 x3_79 x4_79 x5_79 (σ_79.2 32 (σ_79.2 35 x5_79.toNatClampNeg).toNatClampNeg) σ_165) x1_79 x3_79 x4_79 x5_79 (σ_79.2 35 x5_79.toNatClampNeg) (σ_79.2 32 (σ_79.2 35 x5_79.toNatClampNeg).toNatClampNeg) fu (0 : Int32) σ_79))))
def FM_unpick_178 (x1_178 : Int32) (σ_178 : MS) : Option (Int32 × MS) := (gd (inb x1_178 30) ((FM_rowsOf (sa σ_178 7 x1_178 (0 : Int32)) x1_178).bind fun q_188 => (gd (inb x1_178 30) (gd (inb x1_178 30) ((FM_comes (sa σ_178 7 x1_178 (0 : Int32)) q_188 (σ_178.2 8 x1_178.toNatClampNeg) (σ_178.2 9 x1_178.toNatClampNeg)).bind fun q_203 => (some (q_203.1, q_203.2)))))))
def FM_unpick (σ : MS) (p1 : Int32) (p2 : Int32) (p3 : Int32) : Option (Int32 × MS) := ((FM_isMade σ p1).bind fun q_2 => (if q_2 = 0 then (some ((-1 : Int32), σ)) else (gd (inb p1 30) ((FM_isLaying σ p2 p3 (σ.2 9 p1.toNatClampNeg)).bind fun q_19 => (if q_19.1 = 0 then (some ((-2 : Int32), q_19.2)) else (gd (inb p1 30) (if (q_19.2.2 20 p1.toNatClampNeg) = (-1 : Int32) then (gd (inb p1 30) (if (q_19.2.2 15 p1.toNatClampNeg) = 0 then (if (q_19.2.1 0) = (40 : Int32) then (some ((-4 : Int32), q_19.2)) else ((FM_looksAt q_19.2 p1).bind fun q_64 => (FM_unpick_79 (fun σ_178 => FM_unpick_178 p1 σ_178) p1 p3 fu ((120 : Int32) * (q_64.1 0)) (0 : Int32) q_64))) else (some ((-3 : Int32), q_19.2)))) else (some ((-3 : Int32), q_19.2)))))))))
def wsM_unpick : List Cond := Cond.code yX10_unpick cX10_unpick 9 (some .int) :: wMa
set_option maxHeartbeats 4000000 in
set_option maxRecDepth 100000 in
theorem cM_unpick (l : Launch) (D : va_G) (cI cZ : ClassId) (h : Nat) (ad : Nat → Nat) (A : Nat → Prop) (σ : MS) (p1 : Int32) (p2 : Int32) (p3 : Int32) (q : Int32 × MS) (hF : FM_unpick σ p1 p2 p3 = some q) : Met l yX10_unpick wsM_unpick { frames := 2, cells := 0, slots := 0, locals := 48 } (va_Pc [.ref h, .int p1, .int p2, .int p3] (preM D cI cZ h ad A σ)) (va_Qi (fun x u => x = q.1 ∧ u = q.2) (preM D cI cZ h ad A) A) 0 0 A := by
  refine Met.ofW (cc := cX10_unpick) (maxL := 9) (ret := (some .int)) (by decide) rfl ?_
  intro p e s m args below meth c s₁ B hml hv
  obtain ⟨rfl, hP, hK, hD⟩ := hv
  have hx := B.exec
  have hb := B.bytes
  have hr := B.returns
  have hts : ∀ w ∈ (Cond.code yX10_unpick cX10_unpick 9 (some .int) :: wMa), w.before ([.ref h, .int p1, .int p2, .int p3] : List Value).toArray s = true := atoms_spec (ws := wsM_unpick) B.pre
  have hin : ∀ w ∈ wMa, w ∈ (Cond.code yX10_unpick cX10_unpick 9 (some .int) :: wMa) := fun w hw => List.mem_cons_of_mem _ hw
  have hown : s.vm.findClass RX10 = some m.cls := findClass_of_methodNamed B.named
  have hlocks := B.notSynchronized
  have hS : va_S A s.heap s.heap [] := va_S.rf
  have b_142 : ∀ (x1_142 : Int32) (x3_142 : Int32) (x4_142 : Int32) (x5_142 : Int32) (x6_142 : Int32) (x7_142 : Int32) (x8_142 : Int32) (K_107 : Int32 → MS → Option (Int32 × MS)) (k_107 : ∀ (x8_107 : Int32) (σ_107 : MS) (H : Heap) (locs : List Loc) (ls : Array Slot), K_107 x8_107 σ_107 = some q → va_P D vwCl (wM cI cZ h ad σ_107) H → va_D A (wM cI cZ h ad σ_107) → va_S A s.heap H locs → lv_has ls 9 [(0, .ref h), (1, .int x1_142), (3, .int x3_142), (4, .int x4_142), (5, .int x5_142), (6, .int x6_142), (7, .int x7_142), (8, .int x8_107)] → W p l e (headSpec wsM_unpick { frames := 2, cells := 0, slots := 0, locals := 48 }).room s m ([.ref h, .int p1, .int p2, .int p3] : List Value).toArray below meth c H locs 0 0 (MQ below (va_Qi (fun x u => x = q.1 ∧ u = q.2) (preM D cI cZ h ad A) A) ([.ref h, .int p1, .int p2, .int p3] : List Value).toArray s 0 0 A) (F0 m 107 ls [])) (t1_142 : Int32) (t2_142 : Int32) (σ_142 : MS) (H : Heap) (locs : List Loc) (ls : Array Slot), FM_unpick_142 K_107 x1_142 x3_142 x4_142 x5_142 x6_142 x7_142 x8_142 t1_142 t2_142 σ_142 = some q → va_P D vwCl (wM cI cZ h ad σ_142) H → va_D A (wM cI cZ h ad σ_142) → va_S A s.heap H locs → lv_has ls 9 [(0, .ref h), (1, .int x1_142), (3, .int x3_142), (4, .int x4_142), (5, .int x5_142), (6, .int x6_142), (7, .int x7_142), (8, .int x8_142)] → W p l e (headSpec wsM_unpick { frames := 2, cells := 0, slots := 0, locals := 48 }).room s m ([.ref h, .int p1, .int p2, .int p3] : List Value).toArray below meth c H locs 0 0 (MQ below (va_Qi (fun x u => x = q.1 ∧ u = q.2) (preM D cI cZ h ad A) A) ([.ref h, .int p1, .int p2, .int p3] : List Value).toArray s 0 0 A) (F0 m 142 ls [.int t2_142, .int t1_142, .ref (ad 5)]) := by
    intro x1_142 x3_142 x4_142 x5_142 x6_142 x7_142 x8_142 K_107 k_107 t1_142 t2_142 σ_142 H locs ls hF hP hD hS hl
    unfold FM_unpick_142 at hF
    refine lv_iadd hx hb dX10_unpick_142 ?_
    refine lv_aload_n hx hb dX10_unpick_143 rfl (lv_at hl 0 rfl) ?_
    refine gM hx hb hts hin hown hK hP 34 (.ref (ad 34)) (by decide) mf_102 rfl dX10_unpick_144 ?_
    refine lv_aload_n hx hb dX10_unpick_147 rfl (lv_at hl 0 rfl) ?_
    refine gM hx hb hts hin hown hK hP 33 (.ref (ad 33)) (by decide) mf_99 rfl dX10_unpick_148 ?_
    refine lv_iload hx hb dX10_unpick_151 (lv_at hl 5 rfl) ?_
    obtain ⟨g_153, hF⟩ := ob_gd hF
    refine ldI hx hb hK hP (at_33 _ _ _ _ _) (σ_142.2 33 x6_142.toNatClampNeg) g_153 rfl dX10_unpick_153 ?_
    refine lv_iload hx hb dX10_unpick_154 (lv_at hl 7 rfl) ?_
    refine lv_iadd hx hb dX10_unpick_156 ?_
    obtain ⟨g_157, hF⟩ := ob_gd hF
    refine ldI hx hb hK hP (at_34 _ _ _ _ _) (σ_142.2 34 ((σ_142.2 33 x6_142.toNatClampNeg) + x8_142).toNatClampNeg) g_157 rfl dX10_unpick_157 ?_
    obtain ⟨g_158, hF⟩ := ob_gd hF
    refine stI hx hb hK hP hD hS (at_5 _ _ _ _ _) (st_5 _ _ _ _ _ _ _) g_158 dX10_unpick_158 (fun H locs hP hD hS => ?_)
    refine lv_iinc (v := x8_142 + (1 : Int32)) (lv' := [(8, .int (x8_142 + (1 : Int32))), (0, .ref h), (1, .int x1_142), (3, .int x3_142), (4, .int x4_142), (5, .int x5_142), (6, .int x6_142), (7, .int x7_142)]) hx hb dX10_unpick_159 hl (k := 7) rfl rfl (by decide) rfl (fun ls hl => ?_)
    refine lv_goto (tgt := 107) hx hb dX10_unpick_162 (by decide) ?_
    exact k_107 (x8_142 + (1 : Int32)) (sa σ_142 5 (t1_142 + t2_142) (σ_142.2 34 ((σ_142.2 33 x6_142.toNatClampNeg) + x8_142).toNatClampNeg)) _ _ _ hF hP hD hS (lv_sub hl [1, 2, 3, 4, 5, 6, 7, 0] rfl)
  have b_107 : ∀ (x1_107 : Int32) (x3_107 : Int32) (x4_107 : Int32) (x5_107 : Int32) (x6_107 : Int32) (x7_107 : Int32) (K_165 : MS → Option (Int32 × MS)) (k_165 : ∀ (σ_165 : MS) (H : Heap) (locs : List Loc) (ls : Array Slot), K_165 σ_165 = some q → va_P D vwCl (wM cI cZ h ad σ_165) H → va_D A (wM cI cZ h ad σ_165) → va_S A s.heap H locs → lv_has ls 9 [(0, .ref h), (1, .int x1_107), (3, .int x3_107), (4, .int x4_107), (5, .int x5_107), (7, .int x7_107)] → W p l e (headSpec wsM_unpick { frames := 2, cells := 0, slots := 0, locals := 48 }).room s m ([.ref h, .int p1, .int p2, .int p3] : List Value).toArray below meth c H locs 0 0 (MQ below (va_Qi (fun x u => x = q.1 ∧ u = q.2) (preM D cI cZ h ad A) A) ([.ref h, .int p1, .int p2, .int p3] : List Value).toArray s 0 0 A) (F0 m 165 ls [])) (n_107 : Nat) (x8_107 : Int32) (σ_107 : MS) (H : Heap) (locs : List Loc) (ls : Array Slot), FM_unpick_107 K_165 x1_107 x3_107 x4_107 x5_107 x6_107 x7_107 n_107 x8_107 σ_107 = some q → va_P D vwCl (wM cI cZ h ad σ_107) H → va_D A (wM cI cZ h ad σ_107) → va_S A s.heap H locs → lv_has ls 9 [(0, .ref h), (1, .int x1_107), (3, .int x3_107), (4, .int x4_107), (5, .int x5_107), (6, .int x6_107), (7, .int x7_107), (8, .int x8_107)] → W p l e (headSpec wsM_unpick { frames := 2, cells := 0, slots := 0, locals := 48 }).room s m ([.ref h, .int p1, .int p2, .int p3] : List Value).toArray below meth c H locs 0 0 (MQ below (va_Qi (fun x u => x = q.1 ∧ u = q.2) (preM D cI cZ h ad A) A) ([.ref h, .int p1, .int p2, .int p3] : List Value).toArray s 0 0 A) (F0 m 107 ls []) := by
    intro x1_107 x3_107 x4_107 x5_107 x6_107 x7_107 K_165 k_165
    intro n_107
    induction n_107 with
    | zero =>
      intro x8_107 σ_107 H locs ls hF hP hD hS hl
      exact absurd hF (by simp [FM_unpick_107])
    | succ n_107 ih_107 =>
      intro x8_107 σ_107 H locs ls hF hP hD hS hl
      rw [FM_unpick_107] at hF
      refine lv_iload hx hb dX10_unpick_107 (lv_at hl 7 rfl) ?_
      refine lv_iload hx hb dX10_unpick_109 (lv_at hl 6 rfl) ?_
      refine lv_icmp_ge (tgt := 165) hx hb dX10_unpick_111 (by decide) (fun c_111 => ?_) (fun c_111 => ?_)
      · have hF := ob_t c_111 hF
        exact k_165 σ_107 _ _ _ hF hP hD hS (lv_sub hl [0, 1, 2, 3, 4, 6] rfl)
      · have hF := ob_f c_111 hF
        refine lv_aload_n hx hb dX10_unpick_114 rfl (lv_at hl 0 rfl) ?_
        refine gM hx hb hts hin hown hK hP 5 (.ref (ad 5)) (by decide) mf_23 rfl dX10_unpick_115 ?_
        refine lv_iload hx hb dX10_unpick_118 (lv_at hl 3 rfl) ?_
        refine lv_iload_n hx hb dX10_unpick_120 rfl (lv_at hl 2 rfl) ?_
        refine lv_iload hx hb dX10_unpick_121 (lv_at hl 5 rfl) ?_
        refine lv_ishr hx hb dX10_unpick_123 ?_
        refine lv_iconst (v := (1 : Int32)) hx hb dX10_unpick_124 (by decide) ?_
        refine lv_iand hx hb dX10_unpick_125 ?_
        refine lv_iconst (v := (1 : Int32)) hx hb dX10_unpick_126 (by decide) ?_
        refine lv_icmp_ne (tgt := 140) hx hb dX10_unpick_127 (by decide) (fun c_127 => ?_) (fun c_127 => ?_)
        · have hF := ob_f c_127 hF
          refine lv_iload hx hb dX10_unpick_140 (lv_at hl 7 rfl) ?_
          exact b_142 x1_107 x3_107 x4_107 x5_107 x6_107 x7_107 x8_107 (fun x8_107 σ_107 => FM_unpick_107 K_165 x1_107 x3_107 x4_107 x5_107 x6_107 x7_107 n_107 x8_107 σ_107) ih_107 x4_107 x8_107 σ_107 _ _ _ hF hP hD hS hl
        · have hF := ob_t c_127 hF
          refine lv_iload hx hb dX10_unpick_130 (lv_at hl 6 rfl) ?_
          refine lv_iconst (v := (1 : Int32)) hx hb dX10_unpick_132 (by decide) ?_
          refine lv_isub hx hb dX10_unpick_133 ?_
          refine lv_iload hx hb dX10_unpick_134 (lv_at hl 7 rfl) ?_
          refine lv_isub hx hb dX10_unpick_136 ?_
          refine lv_goto (tgt := 142) hx hb dX10_unpick_137 (by decide) ?_
          exact b_142 x1_107 x3_107 x4_107 x5_107 x6_107 x7_107 x8_107 (fun x8_107 σ_107 => FM_unpick_107 K_165 x1_107 x3_107 x4_107 x5_107 x6_107 x7_107 n_107 x8_107 σ_107) ih_107 x4_107 ((x7_107 - (1 : Int32)) - x8_107) σ_107 _ _ _ hF hP hD hS hl
  have b_165 : ∀ (x1_165 : Int32) (x3_165 : Int32) (x4_165 : Int32) (x5_165 : Int32) (x7_165 : Int32) (K_79 : Int32 → Int32 → MS → Option (Int32 × MS)) (k_79 : ∀ (x4_79 : Int32) (x5_79 : Int32) (σ_79 : MS) (H : Heap) (locs : List Loc) (ls : Array Slot), K_79 x4_79 x5_79 σ_79 = some q → va_P D vwCl (wM cI cZ h ad σ_79) H → va_D A (wM cI cZ h ad σ_79) → va_S A s.heap H locs → lv_has ls 9 [(0, .ref h), (1, .int x1_165), (3, .int x3_165), (4, .int x4_79), (5, .int x5_79)] → W p l e (headSpec wsM_unpick { frames := 2, cells := 0, slots := 0, locals := 48 }).room s m ([.ref h, .int p1, .int p2, .int p3] : List Value).toArray below meth c H locs 0 0 (MQ below (va_Qi (fun x u => x = q.1 ∧ u = q.2) (preM D cI cZ h ad A) A) ([.ref h, .int p1, .int p2, .int p3] : List Value).toArray s 0 0 A) (F0 m 79 ls [])) (σ_165 : MS) (H : Heap) (locs : List Loc) (ls : Array Slot), FM_unpick_165 K_79 x1_165 x3_165 x4_165 x5_165 x7_165 σ_165 = some q → va_P D vwCl (wM cI cZ h ad σ_165) H → va_D A (wM cI cZ h ad σ_165) → va_S A s.heap H locs → lv_has ls 9 [(0, .ref h), (1, .int x1_165), (3, .int x3_165), (4, .int x4_165), (5, .int x5_165), (7, .int x7_165)] → W p l e (headSpec wsM_unpick { frames := 2, cells := 0, slots := 0, locals := 48 }).room s m ([.ref h, .int p1, .int p2, .int p3] : List Value).toArray below meth c H locs 0 0 (MQ below (va_Qi (fun x u => x = q.1 ∧ u = q.2) (preM D cI cZ h ad A) A) ([.ref h, .int p1, .int p2, .int p3] : List Value).toArray s 0 0 A) (F0 m 165 ls []) := by
    intro x1_165 x3_165 x4_165 x5_165 x7_165 K_79 k_79 σ_165 H locs ls hF hP hD hS hl
    unfold FM_unpick_165 at hF
    refine lv_iload hx hb dX10_unpick_165 (lv_at hl 3 rfl) ?_
    refine lv_iload hx hb dX10_unpick_167 (lv_at hl 5 rfl) ?_
    refine lv_iadd hx hb dX10_unpick_169 ?_
    refine lv_istore (lv' := [(4, .int (x4_165 + x7_165)), (0, .ref h), (1, .int x1_165), (3, .int x3_165), (5, .int x5_165), (7, .int x7_165)]) hx hb dX10_unpick_170 hl (by decide) rfl (fun ls hl => ?_)
    refine lv_iinc (v := x5_165 + (1 : Int32)) (lv' := [(5, .int (x5_165 + (1 : Int32))), (4, .int (x4_165 + x7_165)), (0, .ref h), (1, .int x1_165), (3, .int x3_165), (7, .int x7_165)]) hx hb dX10_unpick_172 hl (k := 4) rfl rfl (by decide) rfl (fun ls hl => ?_)
    refine lv_goto (tgt := 79) hx hb dX10_unpick_175 (by decide) ?_
    exact k_79 (x4_165 + x7_165) (x5_165 + (1 : Int32)) σ_165 _ _ _ hF hP hD hS (lv_sub hl [2, 3, 4, 1, 0] rfl)
  have b_79 : ∀ (x1_79 : Int32) (x3_79 : Int32) (K_178 : MS → Option (Int32 × MS)) (k_178 : ∀ (σ_178 : MS) (H : Heap) (locs : List Loc) (ls : Array Slot), K_178 σ_178 = some q → va_P D vwCl (wM cI cZ h ad σ_178) H → va_D A (wM cI cZ h ad σ_178) → va_S A s.heap H locs → lv_has ls 9 [(0, .ref h), (1, .int x1_79)] → W p l e (headSpec wsM_unpick { frames := 2, cells := 0, slots := 0, locals := 48 }).room s m ([.ref h, .int p1, .int p2, .int p3] : List Value).toArray below meth c H locs 0 0 (MQ below (va_Qi (fun x u => x = q.1 ∧ u = q.2) (preM D cI cZ h ad A) A) ([.ref h, .int p1, .int p2, .int p3] : List Value).toArray s 0 0 A) (F0 m 178 ls [])) (n_79 : Nat) (x4_79 : Int32) (x5_79 : Int32) (σ_79 : MS) (H : Heap) (locs : List Loc) (ls : Array Slot), FM_unpick_79 K_178 x1_79 x3_79 n_79 x4_79 x5_79 σ_79 = some q → va_P D vwCl (wM cI cZ h ad σ_79) H → va_D A (wM cI cZ h ad σ_79) → va_S A s.heap H locs → lv_has ls 9 [(0, .ref h), (1, .int x1_79), (3, .int x3_79), (4, .int x4_79), (5, .int x5_79)] → W p l e (headSpec wsM_unpick { frames := 2, cells := 0, slots := 0, locals := 48 }).room s m ([.ref h, .int p1, .int p2, .int p3] : List Value).toArray below meth c H locs 0 0 (MQ below (va_Qi (fun x u => x = q.1 ∧ u = q.2) (preM D cI cZ h ad A) A) ([.ref h, .int p1, .int p2, .int p3] : List Value).toArray s 0 0 A) (F0 m 79 ls []) := by
    intro x1_79 x3_79 K_178 k_178
    intro n_79
    induction n_79 with
    | zero =>
      intro x4_79 x5_79 σ_79 H locs ls hF hP hD hS hl
      exact absurd hF (by simp [FM_unpick_79])
    | succ n_79 ih_79 =>
      intro x4_79 x5_79 σ_79 H locs ls hF hP hD hS hl
      rw [FM_unpick_79] at hF
      refine lv_iload hx hb dX10_unpick_79 (lv_at hl 4 rfl) ?_
      refine lv_bipush (v := (6 : Int32)) hx hb dX10_unpick_81 (by decide) ?_
      refine lv_icmp_ge (tgt := 178) hx hb dX10_unpick_83 (by decide) (fun c_83 => ?_) (fun c_83 => ?_)
      · have hF := ob_t c_83 hF
        exact k_178 σ_79 _ _ _ hF hP hD hS (lv_sub hl [0, 1] rfl)
      · have hF := ob_f c_83 hF
        refine lv_aload_n hx hb dX10_unpick_86 rfl (lv_at hl 0 rfl) ?_
        refine gM hx hb hts hin hown hK hP 35 (.ref (ad 35)) (by decide) mf_105 rfl dX10_unpick_87 ?_
        refine lv_iload hx hb dX10_unpick_90 (lv_at hl 4 rfl) ?_
        obtain ⟨g_92, hF⟩ := ob_gd hF
        refine ldI hx hb hK hP (at_35 _ _ _ _ _) (σ_79.2 35 x5_79.toNatClampNeg) g_92 rfl dX10_unpick_92 ?_
        refine lv_istore (lv' := [(6, .int (σ_79.2 35 x5_79.toNatClampNeg)), (0, .ref h), (1, .int x1_79), (3, .int x3_79), (4, .int x4_79), (5, .int x5_79)]) hx hb dX10_unpick_93 hl (by decide) rfl (fun ls hl => ?_)
        refine lv_aload_n hx hb dX10_unpick_95 rfl (lv_at hl 1 rfl) ?_
        refine gM hx hb hts hin hown hK hP 32 (.ref (ad 32)) (by decide) mf_96 rfl dX10_unpick_96 ?_
        refine lv_iload hx hb dX10_unpick_99 (lv_at hl 0 rfl) ?_
        obtain ⟨g_101, hF⟩ := ob_gd hF
        refine ldI hx hb hK hP (at_32 _ _ _ _ _) (σ_79.2 32 (σ_79.2 35 x5_79.toNatClampNeg).toNatClampNeg) g_101 rfl dX10_unpick_101 ?_
        refine lv_istore (lv' := [(7, .int (σ_79.2 32 (σ_79.2 35 x5_79.toNatClampNeg).toNatClampNeg)), (6, .int (σ_79.2 35 x5_79.toNatClampNeg)), (0, .ref h), (1, .int x1_79), (3, .int x3_79), (4, .int x4_79), (5, .int x5_79)]) hx hb dX10_unpick_102 hl (by decide) rfl (fun ls hl => ?_)
        refine lv_iconst (v := (0 : Int32)) hx hb dX10_unpick_104 (by decide) ?_
        refine lv_istore (lv' := [(8, .int (0 : Int32)), (7, .int (σ_79.2 32 (σ_79.2 35 x5_79.toNatClampNeg).toNatClampNeg)), (6, .int (σ_79.2 35 x5_79.toNatClampNeg)), (0, .ref h), (1, .int x1_79), (3, .int x3_79), (4, .int x4_79), (5, .int x5_79)]) hx hb dX10_unpick_105 hl (by decide) rfl (fun ls hl => ?_)
        exact b_107 x1_79 x3_79 x4_79 x5_79 (σ_79.2 35 x5_79.toNatClampNeg) (σ_79.2 32 (σ_79.2 35 x5_79.toNatClampNeg).toNatClampNeg) (fun σ_165 => FM_unpick_165 (fun x4_79 x5_79 σ_79 => FM_unpick_79 K_178 x1_79 x3_79 n_79 x4_79 x5_79 σ_79) x1_79 x3_79 x4_79 x5_79 (σ_79.2 32 (σ_79.2 35 x5_79.toNatClampNeg).toNatClampNeg) σ_165) (fun σ_165 => b_165 x1_79 x3_79 x4_79 x5_79 (σ_79.2 32 (σ_79.2 35 x5_79.toNatClampNeg).toNatClampNeg) (fun x4_79 x5_79 σ_79 => FM_unpick_79 K_178 x1_79 x3_79 n_79 x4_79 x5_79 σ_79) ih_79 σ_165) fu (0 : Int32) σ_79 _ _ _ hF hP hD hS (lv_sub hl [3, 4, 5, 6, 7, 2, 1, 0] rfl)
  have b_178 : ∀ (x1_178 : Int32) (σ_178 : MS) (H : Heap) (locs : List Loc) (ls : Array Slot), FM_unpick_178 x1_178 σ_178 = some q → va_P D vwCl (wM cI cZ h ad σ_178) H → va_D A (wM cI cZ h ad σ_178) → va_S A s.heap H locs → lv_has ls 9 [(0, .ref h), (1, .int x1_178)] → W p l e (headSpec wsM_unpick { frames := 2, cells := 0, slots := 0, locals := 48 }).room s m ([.ref h, .int p1, .int p2, .int p3] : List Value).toArray below meth c H locs 0 0 (MQ below (va_Qi (fun x u => x = q.1 ∧ u = q.2) (preM D cI cZ h ad A) A) ([.ref h, .int p1, .int p2, .int p3] : List Value).toArray s 0 0 A) (F0 m 178 ls []) := by
    intro x1_178 σ_178 H locs ls hF hP hD hS hl
    unfold FM_unpick_178 at hF
    refine lv_aload_n hx hb dX10_unpick_178 rfl (lv_at hl 0 rfl) ?_
    refine gM hx hb hts hin hown hK hP 7 (.ref (ad 7)) (by decide) mf_26 rfl dX10_unpick_179 ?_
    refine lv_iload_n hx hb dX10_unpick_182 rfl (lv_at hl 1 rfl) ?_
    refine lv_iconst (v := (0 : Int32)) hx hb dX10_unpick_183 (by decide) ?_
    obtain ⟨g_184, hF⟩ := ob_gd hF
    refine stZ (y := (0 : Int32)) hx hb hK hP hD hS (at_7 _ _ _ _ _) rfl (st_7 _ _ _ _ _ _ _) g_184 dX10_unpick_184 (fun H locs hP hD hS => ?_)
    refine lv_aload_n hx hb dX10_unpick_185 rfl (lv_at hl 0 rfl) ?_
    refine lv_aload_n hx hb dX10_unpick_186 rfl (lv_at hl 0 rfl) ?_
    refine lv_iload_n hx hb dX10_unpick_187 rfl (lv_at hl 1 rfl) ?_
    obtain ⟨q_188, e_188, hF⟩ := ob_bd hF
    refine crM (As := [.int x1_178]) (rest := [.ref h]) ⟨hx, hb, hml, hown, hts⟩ (cM_rowsOf l D cI cZ h ad (sa σ_178 7 x1_178 (0 : Int32)) x1_178 _ e_188) (cw_rowsOf hts ⟨Nat.le_of_ble_eq_true rfl, Nat.le_of_ble_eq_true rfl⟩) hK hP rfl hl.1 rfl (lv_room (Nat.le_of_ble_eq_true rfl)) dX10_unpick_188 ?_
    refine lv_aload_n hx hb dX10_unpick_191 rfl (lv_at hl 0 rfl) ?_
    refine gM hx hb hts hin hown hK hP 8 (.ref (ad 8)) (by decide) mf_29 rfl dX10_unpick_192 ?_
    refine lv_iload_n hx hb dX10_unpick_195 rfl (lv_at hl 1 rfl) ?_
    obtain ⟨g_196, hF⟩ := ob_gd hF
    refine ldI hx hb hK hP (at_8 _ _ _ _ _) (σ_178.2 8 x1_178.toNatClampNeg) g_196 rfl dX10_unpick_196 ?_
    refine lv_aload_n hx hb dX10_unpick_197 rfl (lv_at hl 0 rfl) ?_
    refine gM hx hb hts hin hown hK hP 9 (.ref (ad 9)) (by decide) mf_32 rfl dX10_unpick_198 ?_
    refine lv_iload_n hx hb dX10_unpick_201 rfl (lv_at hl 1 rfl) ?_
    obtain ⟨g_202, hF⟩ := ob_gd hF
    refine ldI hx hb hK hP (at_9 _ _ _ _ _) (σ_178.2 9 x1_178.toNatClampNeg) g_202 rfl dX10_unpick_202 ?_
    obtain ⟨q_203, e_203, hF⟩ := ob_bd hF
    refine cwM (As := [.int q_188, .int (σ_178.2 8 x1_178.toNatClampNeg), .int (σ_178.2 9 x1_178.toNatClampNeg)]) (rest := []) ⟨hx, hb, hml, hown, hts⟩ (cM_comes l D cI cZ h ad A (sa σ_178 7 x1_178 (0 : Int32)) q_188 (σ_178.2 8 x1_178.toNatClampNeg) (σ_178.2 9 x1_178.toNatClampNeg) _ e_203) (cw_comes hts ⟨Nat.le_of_ble_eq_true rfl, Nat.le_of_ble_eq_true rfl⟩) hK hP hD hS rfl hl.1 rfl (lv_room (Nat.le_of_ble_eq_true rfl)) dX10_unpick_203 (fun H locs hP hD hS => ?_)
    exact rwM hx hb hr hlocks hF hK hP hD hS dX10_unpick_206
  have hl := lv_entry ([.ref h, .int p1, .int p2, .int p3]) (n := 9) (Nat.le_of_ble_eq_true rfl)
  rw [lg_entry_eq]
  generalize (lg_sl ([.ref h, .int p1, .int p2, .int p3]) ++ List.replicate (9 - (lg_sl ([.ref h, .int p1, .int p2, .int p3])).length) Slot.unset).toArray = ls at hl ⊢
  have hl : lv_has ls 9 [(0, .ref h), (1, .int p1), (2, .int p2), (3, .int p3)] := hl
  unfold FM_unpick at hF
  refine lv_aload_n hx hb dX10_unpick_0 rfl (lv_at hl 0 rfl) ?_
  refine lv_iload_n hx hb dX10_unpick_1 rfl (lv_at hl 1 rfl) ?_
  obtain ⟨q_2, e_2, hF⟩ := ob_bd hF
  refine crM (As := [.int p1]) (rest := []) ⟨hx, hb, hml, hown, hts⟩ (cM_isMade l D cI cZ h ad σ p1 _ e_2) (cw_isMade hts ⟨Nat.le_of_ble_eq_true rfl, Nat.le_of_ble_eq_true rfl⟩) hK hP rfl hl.1 rfl (lv_room (Nat.le_of_ble_eq_true rfl)) dX10_unpick_2 ?_
  refine lv_if_ne (tgt := 10) hx hb dX10_unpick_5 (by decide) (fun c_5 => ?_) (fun c_5 => ?_)
  · have hF := ob_f c_5 hF
    refine lv_aload_n hx hb dX10_unpick_10 rfl (lv_at hl 0 rfl) ?_
    refine lv_iload_n hx hb dX10_unpick_11 rfl (lv_at hl 2 rfl) ?_
    refine lv_iload_n hx hb dX10_unpick_12 rfl (lv_at hl 3 rfl) ?_
    refine lv_aload_n hx hb dX10_unpick_13 rfl (lv_at hl 0 rfl) ?_
    refine gM hx hb hts hin hown hK hP 9 (.ref (ad 9)) (by decide) mf_32 rfl dX10_unpick_14 ?_
    refine lv_iload_n hx hb dX10_unpick_17 rfl (lv_at hl 1 rfl) ?_
    obtain ⟨g_18, hF⟩ := ob_gd hF
    refine ldI hx hb hK hP (at_9 _ _ _ _ _) (σ.2 9 p1.toNatClampNeg) g_18 rfl dX10_unpick_18 ?_
    obtain ⟨q_19, e_19, hF⟩ := ob_bd hF
    refine cwM (As := [.int p2, .int p3, .int (σ.2 9 p1.toNatClampNeg)]) (rest := []) ⟨hx, hb, hml, hown, hts⟩ (cM_isLaying l D cI cZ h ad A σ p2 p3 (σ.2 9 p1.toNatClampNeg) _ e_19) (cw_isLaying hts ⟨Nat.le_of_ble_eq_true rfl, Nat.le_of_ble_eq_true rfl⟩) hK hP hD hS rfl hl.1 rfl (lv_room (Nat.le_of_ble_eq_true rfl)) dX10_unpick_19 (fun H locs hP hD hS => ?_)
    refine lv_if_ne (tgt := 28) hx hb dX10_unpick_22 (by decide) (fun c_22 => ?_) (fun c_22 => ?_)
    · have hF := ob_f c_22 hF
      refine lv_aload_n hx hb dX10_unpick_28 rfl (lv_at hl 0 rfl) ?_
      refine gM hx hb hts hin hown hK hP 20 (.ref (ad 20)) (by decide) mf_65 rfl dX10_unpick_29 ?_
      refine lv_iload_n hx hb dX10_unpick_32 rfl (lv_at hl 1 rfl) ?_
      obtain ⟨g_33, hF⟩ := ob_gd hF
      refine ldI hx hb hK hP (at_20 _ _ _ _ _) (q_19.2.2 20 p1.toNatClampNeg) g_33 rfl dX10_unpick_33 ?_
      refine lv_iconst (v := (-1 : Int32)) hx hb dX10_unpick_34 (by decide) ?_
      refine lv_icmp_ne (tgt := 47) hx hb dX10_unpick_35 (by decide) (fun c_35 => ?_) (fun c_35 => ?_)
      · have hF := ob_f c_35 hF
        refine lv_bipush (v := (-3 : Int32)) hx hb dX10_unpick_47 (by decide) ?_
        exact rwM hx hb hr hlocks hF hK hP hD hS dX10_unpick_49
      · have hF := ob_t c_35 hF
        refine lv_aload_n hx hb dX10_unpick_38 rfl (lv_at hl 0 rfl) ?_
        refine gM hx hb hts hin hown hK hP 15 (.ref (ad 15)) (by decide) mf_50 rfl dX10_unpick_39 ?_
        refine lv_iload_n hx hb dX10_unpick_42 rfl (lv_at hl 1 rfl) ?_
        obtain ⟨g_43, hF⟩ := ob_gd hF
        refine ldZ hx hb hK hP (at_15 _ _ _ _ _) (q_19.2.2 15 p1.toNatClampNeg) g_43 rfl dX10_unpick_43 ?_
        refine lv_if_eq (tgt := 50) hx hb dX10_unpick_44 (by decide) (fun c_44 => ?_) (fun c_44 => ?_)
        · have hF := ob_t c_44 hF
          refine lv_aload_n hx hb dX10_unpick_50 rfl (lv_at hl 0 rfl) ?_
          refine gM hx hb hts hin hown hK hP 0 (.int (q_19.2.1 0)) (by decide) mf_138 rfl dX10_unpick_51 ?_
          refine lv_bipush (v := (40 : Int32)) hx hb dX10_unpick_54 (by decide) ?_
          refine lv_icmp_ne (tgt := 62) hx hb dX10_unpick_56 (by decide) (fun c_56 => ?_) (fun c_56 => ?_)
          · have hF := ob_f c_56 hF
            refine lv_aload_n hx hb dX10_unpick_62 rfl (lv_at hl 0 rfl) ?_
            refine lv_iload_n hx hb dX10_unpick_63 rfl (lv_at hl 1 rfl) ?_
            obtain ⟨q_64, e_64, hF⟩ := ob_bd hF
            refine cvM (As := [.int p1]) (rest := []) ⟨hx, hb, hml, hown, hts⟩ (cM_looksAt l D cI cZ h ad A q_19.2 p1 _ e_64) (cw_looksAt hts ⟨Nat.le_of_ble_eq_true rfl, Nat.le_of_ble_eq_true rfl⟩) hK hP hD hS rfl hl.1 rfl (lv_room (Nat.le_of_ble_eq_true rfl)) dX10_unpick_64 (fun H locs hP hD hS => ?_)
            refine lv_bipush (v := (120 : Int32)) hx hb dX10_unpick_67 (by decide) ?_
            refine lv_aload_n hx hb dX10_unpick_69 rfl (lv_at hl 0 rfl) ?_
            refine gM hx hb hts hin hown hK hP 0 (.int (q_64.1 0)) (by decide) mf_138 rfl dX10_unpick_70 ?_
            refine lv_imul hx hb dX10_unpick_73 ?_
            refine lv_istore (lv' := [(4, .int ((120 : Int32) * (q_64.1 0))), (0, .ref h), (1, .int p1), (2, .int p2), (3, .int p3)]) hx hb dX10_unpick_74 hl (by decide) rfl (fun ls hl => ?_)
            refine lv_iconst (v := (0 : Int32)) hx hb dX10_unpick_76 (by decide) ?_
            refine lv_istore (lv' := [(5, .int (0 : Int32)), (4, .int ((120 : Int32) * (q_64.1 0))), (0, .ref h), (1, .int p1), (2, .int p2), (3, .int p3)]) hx hb dX10_unpick_77 hl (by decide) rfl (fun ls hl => ?_)
            exact b_79 p1 p3 (fun σ_178 => FM_unpick_178 p1 σ_178) (fun σ_178 => b_178 p1 σ_178) fu ((120 : Int32) * (q_64.1 0)) (0 : Int32) q_64 _ _ _ hF hP hD hS (lv_sub hl [2, 3, 5, 1, 0] rfl)
          · have hF := ob_t c_56 hF
            refine lv_bipush (v := (-4 : Int32)) hx hb dX10_unpick_59 (by decide) ?_
            exact rwM hx hb hr hlocks hF hK hP hD hS dX10_unpick_61
        · have hF := ob_f c_44 hF
          refine lv_bipush (v := (-3 : Int32)) hx hb dX10_unpick_47 (by decide) ?_
          exact rwM hx hb hr hlocks hF hK hP hD hS dX10_unpick_49
    · have hF := ob_t c_22 hF
      refine lv_bipush (v := (-2 : Int32)) hx hb dX10_unpick_25 (by decide) ?_
      exact rwM hx hb hr hlocks hF hK hP hD hS dX10_unpick_27
  · have hF := ob_t c_5 hF
    refine lv_iconst (v := (-1 : Int32)) hx hb dX10_unpick_8 (by decide) ?_
    exact rwM hx hb hr hlocks hF hK hP hD hS dX10_unpick_9
def FM_line_80 (K_116 : MS → Option (Int32 × MS)) (x1_80 : Int32) (x2_80 : Int32) (x3_80 : Int32) : Nat → Int32 → MS → Option (Int32 × MS)
  | 0, _, _ => none
  | n_80 + 1, x4_80, σ_80 => (if x3_80 ≤ x4_80 then (K_116 σ_80) else (gd (inb (((120 : Int32) * x2_80) + x4_80) 4800) (gd (inb (((120 : Int32) * x1_80) + x4_80) 3600) (FM_line_80 K_116 x1_80 x2_80 x3_80 n_80 (x4_80 + (1 : Int32)) (sa σ_80 18 (((120 : Int32) * x1_80) + x4_80) (σ_80.2 5 (((120 : Int32) * x2_80) + x4_80).toNatClampNeg))))))
def FM_line_129 (K_172 : MS → Option (Int32 × MS)) (x2_129 : Int32) (x3_129 : Int32) : Nat → Int32 → MS → Option (Int32 × MS)
  | 0, _, _ => none
  | n_129 + 1, x4_129, σ_129 => (gd (inb x2_129 40) (if (σ_129.2 2 x2_129.toNatClampNeg) ≤ x4_129 then (K_172 σ_129) else (gd (inb ((((120 : Int32) * x2_129) + x3_129) + x4_129) 4800) (gd (inb (((120 : Int32) * x2_129) + x4_129) 4800) (FM_line_129 K_172 x2_129 x3_129 n_129 (x4_129 + (1 : Int32)) (sa σ_129 5 (((120 : Int32) * x2_129) + x4_129) (σ_129.2 5 ((((120 : Int32) * x2_129) + x3_129) + x4_129).toNatClampNeg)))))))
def FM_line_191 (x2_191 : Int32) (t1_191 : Int32) (t2_191 : Int32) (σ_191 : MS) : Option (Int32 × MS) := (gd (inb t1_191 40) (gd (inb x2_191 40) (some ((σ_191.2 2 x2_191.toNatClampNeg), (sa σ_191 1 t1_191 (vp_nar .boolean t2_191))))))
def FM_line_172 (x2_172 : Int32) (σ_172 : MS) : Option (Int32 × MS) := (gd (inb x2_172 40) (if (σ_172.2 2 x2_172.toNatClampNeg) ≤ 0 then (FM_line_191 x2_172 x2_172 (0 : Int32) σ_172) else (FM_line_191 x2_172 x2_172 (1 : Int32) σ_172)))
def FM_line_116 (x2_116 : Int32) (x3_116 : Int32) (σ_116 : MS) : Option (Int32 × MS) := (gd (inb x2_116 40) (gd (inb x2_116 40) (FM_line_129 (fun σ_172 => FM_line_172 x2_116 σ_172) x2_116 x3_116 fu (0 : Int32) (sa σ_116 2 x2_116 ((σ_116.2 2 x2_116.toNatClampNeg) - x3_116)))))
def FM_line (σ : MS) (p1 : Int32) (p2 : Int32) : Option (Int32 × MS) := ((FM_isMade σ p1).bind fun q_2 => (if q_2 = 0 then (some ((-1 : Int32), σ)) else ((FM_isThere σ p2).bind fun q_10 => (if q_10 = 0 then (some ((-1 : Int32), σ)) else ((FM_rowsOf σ p1).bind fun q_20 => (gd (inb p1 30) (if (σ.2 15 p1.toNatClampNeg) = 0 then (gd (inb p2 40) (if q_20 ≤ (σ.2 2 p2.toNatClampNeg) then (gd (inb p1 30) (gd (inb p2 40) (gd (inb p1 30) (gd (inb p2 40) (gd (inb p1 30) (FM_line_80 (fun σ_116 => FM_line_116 p2 q_20 σ_116) p1 p2 q_20 fu (0 : Int32) (sa (sa (sa σ 15 p1 (1 : Int32)) 16 p1 (σ.2 3 p2.toNatClampNeg)) 17 p1 (σ.2 4 p2.toNatClampNeg)))))))) else (some ((-3 : Int32), σ)))) else (some ((-3 : Int32), σ)))))))))
def wsM_line : List Cond := Cond.code yX10_line cX10_line 5 (some .int) :: wMa
set_option maxHeartbeats 4000000 in
set_option maxRecDepth 100000 in
theorem cM_line (l : Launch) (D : va_G) (cI cZ : ClassId) (h : Nat) (ad : Nat → Nat) (A : Nat → Prop) (σ : MS) (p1 : Int32) (p2 : Int32) (q : Int32 × MS) (hF : FM_line σ p1 p2 = some q) : Met l yX10_line wsM_line { frames := 2, cells := 0, slots := 0, locals := 43 } (va_Pc [.ref h, .int p1, .int p2] (preM D cI cZ h ad A σ)) (va_Qi (fun x u => x = q.1 ∧ u = q.2) (preM D cI cZ h ad A) A) 0 0 A := by
  refine Met.ofW (cc := cX10_line) (maxL := 5) (ret := (some .int)) (by decide) rfl ?_
  intro p e s m args below meth c s₁ B hml hv
  obtain ⟨rfl, hP, hK, hD⟩ := hv
  have hx := B.exec
  have hb := B.bytes
  have hr := B.returns
  have hts : ∀ w ∈ (Cond.code yX10_line cX10_line 5 (some .int) :: wMa), w.before ([.ref h, .int p1, .int p2] : List Value).toArray s = true := atoms_spec (ws := wsM_line) B.pre
  have hin : ∀ w ∈ wMa, w ∈ (Cond.code yX10_line cX10_line 5 (some .int) :: wMa) := fun w hw => List.mem_cons_of_mem _ hw
  have hown : s.vm.findClass RX10 = some m.cls := findClass_of_methodNamed B.named
  have hlocks := B.notSynchronized
  have hS : va_S A s.heap s.heap [] := va_S.rf
  have b_80 : ∀ (x1_80 : Int32) (x2_80 : Int32) (x3_80 : Int32) (K_116 : MS → Option (Int32 × MS)) (k_116 : ∀ (σ_116 : MS) (H : Heap) (locs : List Loc) (ls : Array Slot), K_116 σ_116 = some q → va_P D vwCl (wM cI cZ h ad σ_116) H → va_D A (wM cI cZ h ad σ_116) → va_S A s.heap H locs → lv_has ls 5 [(0, .ref h), (2, .int x2_80), (3, .int x3_80)] → W p l e (headSpec wsM_line { frames := 2, cells := 0, slots := 0, locals := 43 }).room s m ([.ref h, .int p1, .int p2] : List Value).toArray below meth c H locs 0 0 (MQ below (va_Qi (fun x u => x = q.1 ∧ u = q.2) (preM D cI cZ h ad A) A) ([.ref h, .int p1, .int p2] : List Value).toArray s 0 0 A) (F0 m 116 ls [])) (n_80 : Nat) (x4_80 : Int32) (σ_80 : MS) (H : Heap) (locs : List Loc) (ls : Array Slot), FM_line_80 K_116 x1_80 x2_80 x3_80 n_80 x4_80 σ_80 = some q → va_P D vwCl (wM cI cZ h ad σ_80) H → va_D A (wM cI cZ h ad σ_80) → va_S A s.heap H locs → lv_has ls 5 [(0, .ref h), (1, .int x1_80), (2, .int x2_80), (3, .int x3_80), (4, .int x4_80)] → W p l e (headSpec wsM_line { frames := 2, cells := 0, slots := 0, locals := 43 }).room s m ([.ref h, .int p1, .int p2] : List Value).toArray below meth c H locs 0 0 (MQ below (va_Qi (fun x u => x = q.1 ∧ u = q.2) (preM D cI cZ h ad A) A) ([.ref h, .int p1, .int p2] : List Value).toArray s 0 0 A) (F0 m 80 ls []) := by
    intro x1_80 x2_80 x3_80 K_116 k_116
    intro n_80
    induction n_80 with
    | zero =>
      intro x4_80 σ_80 H locs ls hF hP hD hS hl
      exact absurd hF (by simp [FM_line_80])
    | succ n_80 ih_80 =>
      intro x4_80 σ_80 H locs ls hF hP hD hS hl
      rw [FM_line_80] at hF
      refine lv_iload hx hb dX10_line_80 (lv_at hl 4 rfl) ?_
      refine lv_iload_n hx hb dX10_line_82 rfl (lv_at hl 3 rfl) ?_
      refine lv_icmp_ge (tgt := 116) hx hb dX10_line_83 (by decide) (fun c_83 => ?_) (fun c_83 => ?_)
      · have hF := ob_t c_83 hF
        exact k_116 σ_80 _ _ _ hF hP hD hS (lv_sub hl [0, 2, 3] rfl)
      · have hF := ob_f c_83 hF
        refine lv_aload_n hx hb dX10_line_86 rfl (lv_at hl 0 rfl) ?_
        refine gM hx hb hts hin hown hK hP 18 (.ref (ad 18)) (by decide) mf_59 rfl dX10_line_87 ?_
        refine lv_bipush (v := (120 : Int32)) hx hb dX10_line_90 (by decide) ?_
        refine lv_iload_n hx hb dX10_line_92 rfl (lv_at hl 1 rfl) ?_
        refine lv_imul hx hb dX10_line_93 ?_
        refine lv_iload hx hb dX10_line_94 (lv_at hl 4 rfl) ?_
        refine lv_iadd hx hb dX10_line_96 ?_
        refine lv_aload_n hx hb dX10_line_97 rfl (lv_at hl 0 rfl) ?_
        refine gM hx hb hts hin hown hK hP 5 (.ref (ad 5)) (by decide) mf_23 rfl dX10_line_98 ?_
        refine lv_bipush (v := (120 : Int32)) hx hb dX10_line_101 (by decide) ?_
        refine lv_iload_n hx hb dX10_line_103 rfl (lv_at hl 2 rfl) ?_
        refine lv_imul hx hb dX10_line_104 ?_
        refine lv_iload hx hb dX10_line_105 (lv_at hl 4 rfl) ?_
        refine lv_iadd hx hb dX10_line_107 ?_
        obtain ⟨g_108, hF⟩ := ob_gd hF
        refine ldI hx hb hK hP (at_5 _ _ _ _ _) (σ_80.2 5 (((120 : Int32) * x2_80) + x4_80).toNatClampNeg) g_108 rfl dX10_line_108 ?_
        obtain ⟨g_109, hF⟩ := ob_gd hF
        refine stI hx hb hK hP hD hS (at_18 _ _ _ _ _) (st_18 _ _ _ _ _ _ _) g_109 dX10_line_109 (fun H locs hP hD hS => ?_)
        refine lv_iinc (v := x4_80 + (1 : Int32)) (lv' := [(4, .int (x4_80 + (1 : Int32))), (0, .ref h), (1, .int x1_80), (2, .int x2_80), (3, .int x3_80)]) hx hb dX10_line_110 hl (k := 4) rfl rfl (by decide) rfl (fun ls hl => ?_)
        refine lv_goto (tgt := 80) hx hb dX10_line_113 (by decide) ?_
        exact ih_80 (x4_80 + (1 : Int32)) (sa σ_80 18 (((120 : Int32) * x1_80) + x4_80) (σ_80.2 5 (((120 : Int32) * x2_80) + x4_80).toNatClampNeg)) _ _ _ hF hP hD hS (lv_sub hl [1, 2, 3, 4, 0] rfl)
  have b_129 : ∀ (x2_129 : Int32) (x3_129 : Int32) (K_172 : MS → Option (Int32 × MS)) (k_172 : ∀ (σ_172 : MS) (H : Heap) (locs : List Loc) (ls : Array Slot), K_172 σ_172 = some q → va_P D vwCl (wM cI cZ h ad σ_172) H → va_D A (wM cI cZ h ad σ_172) → va_S A s.heap H locs → lv_has ls 5 [(0, .ref h), (2, .int x2_129)] → W p l e (headSpec wsM_line { frames := 2, cells := 0, slots := 0, locals := 43 }).room s m ([.ref h, .int p1, .int p2] : List Value).toArray below meth c H locs 0 0 (MQ below (va_Qi (fun x u => x = q.1 ∧ u = q.2) (preM D cI cZ h ad A) A) ([.ref h, .int p1, .int p2] : List Value).toArray s 0 0 A) (F0 m 172 ls [])) (n_129 : Nat) (x4_129 : Int32) (σ_129 : MS) (H : Heap) (locs : List Loc) (ls : Array Slot), FM_line_129 K_172 x2_129 x3_129 n_129 x4_129 σ_129 = some q → va_P D vwCl (wM cI cZ h ad σ_129) H → va_D A (wM cI cZ h ad σ_129) → va_S A s.heap H locs → lv_has ls 5 [(0, .ref h), (2, .int x2_129), (3, .int x3_129), (4, .int x4_129)] → W p l e (headSpec wsM_line { frames := 2, cells := 0, slots := 0, locals := 43 }).room s m ([.ref h, .int p1, .int p2] : List Value).toArray below meth c H locs 0 0 (MQ below (va_Qi (fun x u => x = q.1 ∧ u = q.2) (preM D cI cZ h ad A) A) ([.ref h, .int p1, .int p2] : List Value).toArray s 0 0 A) (F0 m 129 ls []) := by
    intro x2_129 x3_129 K_172 k_172
    intro n_129
    induction n_129 with
    | zero =>
      intro x4_129 σ_129 H locs ls hF hP hD hS hl
      exact absurd hF (by simp [FM_line_129])
    | succ n_129 ih_129 =>
      intro x4_129 σ_129 H locs ls hF hP hD hS hl
      rw [FM_line_129] at hF
      refine lv_iload hx hb dX10_line_129 (lv_at hl 3 rfl) ?_
      refine lv_aload_n hx hb dX10_line_131 rfl (lv_at hl 0 rfl) ?_
      refine gM hx hb hts hin hown hK hP 2 (.ref (ad 2)) (by decide) mf_13 rfl dX10_line_132 ?_
      refine lv_iload_n hx hb dX10_line_135 rfl (lv_at hl 1 rfl) ?_
      obtain ⟨g_136, hF⟩ := ob_gd hF
      refine ldI hx hb hK hP (at_2 _ _ _ _ _) (σ_129.2 2 x2_129.toNatClampNeg) g_136 rfl dX10_line_136 ?_
      refine lv_icmp_ge (tgt := 172) hx hb dX10_line_137 (by decide) (fun c_137 => ?_) (fun c_137 => ?_)
      · have hF := ob_t c_137 hF
        exact k_172 σ_129 _ _ _ hF hP hD hS (lv_sub hl [0, 1] rfl)
      · have hF := ob_f c_137 hF
        refine lv_aload_n hx hb dX10_line_140 rfl (lv_at hl 0 rfl) ?_
        refine gM hx hb hts hin hown hK hP 5 (.ref (ad 5)) (by decide) mf_23 rfl dX10_line_141 ?_
        refine lv_bipush (v := (120 : Int32)) hx hb dX10_line_144 (by decide) ?_
        refine lv_iload_n hx hb dX10_line_146 rfl (lv_at hl 1 rfl) ?_
        refine lv_imul hx hb dX10_line_147 ?_
        refine lv_iload hx hb dX10_line_148 (lv_at hl 3 rfl) ?_
        refine lv_iadd hx hb dX10_line_150 ?_
        refine lv_aload_n hx hb dX10_line_151 rfl (lv_at hl 0 rfl) ?_
        refine gM hx hb hts hin hown hK hP 5 (.ref (ad 5)) (by decide) mf_23 rfl dX10_line_152 ?_
        refine lv_bipush (v := (120 : Int32)) hx hb dX10_line_155 (by decide) ?_
        refine lv_iload_n hx hb dX10_line_157 rfl (lv_at hl 1 rfl) ?_
        refine lv_imul hx hb dX10_line_158 ?_
        refine lv_iload_n hx hb dX10_line_159 rfl (lv_at hl 2 rfl) ?_
        refine lv_iadd hx hb dX10_line_160 ?_
        refine lv_iload hx hb dX10_line_161 (lv_at hl 3 rfl) ?_
        refine lv_iadd hx hb dX10_line_163 ?_
        obtain ⟨g_164, hF⟩ := ob_gd hF
        refine ldI hx hb hK hP (at_5 _ _ _ _ _) (σ_129.2 5 ((((120 : Int32) * x2_129) + x3_129) + x4_129).toNatClampNeg) g_164 rfl dX10_line_164 ?_
        obtain ⟨g_165, hF⟩ := ob_gd hF
        refine stI hx hb hK hP hD hS (at_5 _ _ _ _ _) (st_5 _ _ _ _ _ _ _) g_165 dX10_line_165 (fun H locs hP hD hS => ?_)
        refine lv_iinc (v := x4_129 + (1 : Int32)) (lv' := [(4, .int (x4_129 + (1 : Int32))), (0, .ref h), (2, .int x2_129), (3, .int x3_129)]) hx hb dX10_line_166 hl (k := 3) rfl rfl (by decide) rfl (fun ls hl => ?_)
        refine lv_goto (tgt := 129) hx hb dX10_line_169 (by decide) ?_
        exact ih_129 (x4_129 + (1 : Int32)) (sa σ_129 5 (((120 : Int32) * x2_129) + x4_129) (σ_129.2 5 ((((120 : Int32) * x2_129) + x3_129) + x4_129).toNatClampNeg)) _ _ _ hF hP hD hS (lv_sub hl [1, 2, 3, 0] rfl)
  have b_191 : ∀ (x2_191 : Int32) (t1_191 : Int32) (t2_191 : Int32) (σ_191 : MS) (H : Heap) (locs : List Loc) (ls : Array Slot), FM_line_191 x2_191 t1_191 t2_191 σ_191 = some q → va_P D vwCl (wM cI cZ h ad σ_191) H → va_D A (wM cI cZ h ad σ_191) → va_S A s.heap H locs → lv_has ls 5 [(0, .ref h), (2, .int x2_191)] → W p l e (headSpec wsM_line { frames := 2, cells := 0, slots := 0, locals := 43 }).room s m ([.ref h, .int p1, .int p2] : List Value).toArray below meth c H locs 0 0 (MQ below (va_Qi (fun x u => x = q.1 ∧ u = q.2) (preM D cI cZ h ad A) A) ([.ref h, .int p1, .int p2] : List Value).toArray s 0 0 A) (F0 m 191 ls [.int t2_191, .int t1_191, .ref (ad 1)]) := by
    intro x2_191 t1_191 t2_191 σ_191 H locs ls hF hP hD hS hl
    unfold FM_line_191 at hF
    obtain ⟨g_191, hF⟩ := ob_gd hF
    refine stZ (y := (vp_nar .boolean t2_191)) hx hb hK hP hD hS (at_1 _ _ _ _ _) rfl (st_1 _ _ _ _ _ _ _) g_191 dX10_line_191 (fun H locs hP hD hS => ?_)
    refine lv_aload_n hx hb dX10_line_192 rfl (lv_at hl 0 rfl) ?_
    refine gM hx hb hts hin hown hK hP 2 (.ref (ad 2)) (by decide) mf_13 rfl dX10_line_193 ?_
    refine lv_iload_n hx hb dX10_line_196 rfl (lv_at hl 1 rfl) ?_
    obtain ⟨g_197, hF⟩ := ob_gd hF
    refine ldI hx hb hK hP (at_2 _ _ _ _ _) (σ_191.2 2 x2_191.toNatClampNeg) g_197 rfl dX10_line_197 ?_
    exact rwM hx hb hr hlocks hF hK hP hD hS dX10_line_198
  have b_172 : ∀ (x2_172 : Int32) (σ_172 : MS) (H : Heap) (locs : List Loc) (ls : Array Slot), FM_line_172 x2_172 σ_172 = some q → va_P D vwCl (wM cI cZ h ad σ_172) H → va_D A (wM cI cZ h ad σ_172) → va_S A s.heap H locs → lv_has ls 5 [(0, .ref h), (2, .int x2_172)] → W p l e (headSpec wsM_line { frames := 2, cells := 0, slots := 0, locals := 43 }).room s m ([.ref h, .int p1, .int p2] : List Value).toArray below meth c H locs 0 0 (MQ below (va_Qi (fun x u => x = q.1 ∧ u = q.2) (preM D cI cZ h ad A) A) ([.ref h, .int p1, .int p2] : List Value).toArray s 0 0 A) (F0 m 172 ls []) := by
    intro x2_172 σ_172 H locs ls hF hP hD hS hl
    unfold FM_line_172 at hF
    refine lv_aload_n hx hb dX10_line_172 rfl (lv_at hl 0 rfl) ?_
    refine gM hx hb hts hin hown hK hP 1 (.ref (ad 1)) (by decide) mf_7 rfl dX10_line_173 ?_
    refine lv_iload_n hx hb dX10_line_176 rfl (lv_at hl 1 rfl) ?_
    refine lv_aload_n hx hb dX10_line_177 rfl (lv_at hl 0 rfl) ?_
    refine gM hx hb hts hin hown hK hP 2 (.ref (ad 2)) (by decide) mf_13 rfl dX10_line_178 ?_
    refine lv_iload_n hx hb dX10_line_181 rfl (lv_at hl 1 rfl) ?_
    obtain ⟨g_182, hF⟩ := ob_gd hF
    refine ldI hx hb hK hP (at_2 _ _ _ _ _) (σ_172.2 2 x2_172.toNatClampNeg) g_182 rfl dX10_line_182 ?_
    refine lv_if_le (tgt := 190) hx hb dX10_line_183 (by decide) (fun c_183 => ?_) (fun c_183 => ?_)
    · have hF := ob_t c_183 hF
      refine lv_iconst (v := (0 : Int32)) hx hb dX10_line_190 (by decide) ?_
      exact b_191 x2_172 x2_172 (0 : Int32) σ_172 _ _ _ hF hP hD hS hl
    · have hF := ob_f c_183 hF
      refine lv_iconst (v := (1 : Int32)) hx hb dX10_line_186 (by decide) ?_
      refine lv_goto (tgt := 191) hx hb dX10_line_187 (by decide) ?_
      exact b_191 x2_172 x2_172 (1 : Int32) σ_172 _ _ _ hF hP hD hS hl
  have b_116 : ∀ (x2_116 : Int32) (x3_116 : Int32) (σ_116 : MS) (H : Heap) (locs : List Loc) (ls : Array Slot), FM_line_116 x2_116 x3_116 σ_116 = some q → va_P D vwCl (wM cI cZ h ad σ_116) H → va_D A (wM cI cZ h ad σ_116) → va_S A s.heap H locs → lv_has ls 5 [(0, .ref h), (2, .int x2_116), (3, .int x3_116)] → W p l e (headSpec wsM_line { frames := 2, cells := 0, slots := 0, locals := 43 }).room s m ([.ref h, .int p1, .int p2] : List Value).toArray below meth c H locs 0 0 (MQ below (va_Qi (fun x u => x = q.1 ∧ u = q.2) (preM D cI cZ h ad A) A) ([.ref h, .int p1, .int p2] : List Value).toArray s 0 0 A) (F0 m 116 ls []) := by
    intro x2_116 x3_116 σ_116 H locs ls hF hP hD hS hl
    unfold FM_line_116 at hF
    refine lv_aload_n hx hb dX10_line_116 rfl (lv_at hl 0 rfl) ?_
    refine gM hx hb hts hin hown hK hP 2 (.ref (ad 2)) (by decide) mf_13 rfl dX10_line_117 ?_
    refine lv_iload_n hx hb dX10_line_120 rfl (lv_at hl 1 rfl) ?_
    refine lv_dup2_11 hx hb dX10_line_121 rfl rfl ?_
    obtain ⟨g_122, hF⟩ := ob_gd hF
    refine ldI hx hb hK hP (at_2 _ _ _ _ _) (σ_116.2 2 x2_116.toNatClampNeg) g_122 rfl dX10_line_122 ?_
    refine lv_iload_n hx hb dX10_line_123 rfl (lv_at hl 2 rfl) ?_
    refine lv_isub hx hb dX10_line_124 ?_
    obtain ⟨g_125, hF⟩ := ob_gd hF
    refine stI hx hb hK hP hD hS (at_2 _ _ _ _ _) (st_2 _ _ _ _ _ _ _) g_125 dX10_line_125 (fun H locs hP hD hS => ?_)
    refine lv_iconst (v := (0 : Int32)) hx hb dX10_line_126 (by decide) ?_
    refine lv_istore (lv' := [(4, .int (0 : Int32)), (0, .ref h), (2, .int x2_116), (3, .int x3_116)]) hx hb dX10_line_127 hl (by decide) rfl (fun ls hl => ?_)
    exact b_129 x2_116 x3_116 (fun σ_172 => FM_line_172 x2_116 σ_172) (fun σ_172 => b_172 x2_116 σ_172) fu (0 : Int32) (sa σ_116 2 x2_116 ((σ_116.2 2 x2_116.toNatClampNeg) - x3_116)) _ _ _ hF hP hD hS (lv_sub hl [1, 2, 3, 0] rfl)
  have hl := lv_entry ([.ref h, .int p1, .int p2]) (n := 5) (Nat.le_of_ble_eq_true rfl)
  rw [lg_entry_eq]
  generalize (lg_sl ([.ref h, .int p1, .int p2]) ++ List.replicate (5 - (lg_sl ([.ref h, .int p1, .int p2])).length) Slot.unset).toArray = ls at hl ⊢
  have hl : lv_has ls 5 [(0, .ref h), (1, .int p1), (2, .int p2)] := hl
  unfold FM_line at hF
  refine lv_aload_n hx hb dX10_line_0 rfl (lv_at hl 0 rfl) ?_
  refine lv_iload_n hx hb dX10_line_1 rfl (lv_at hl 1 rfl) ?_
  obtain ⟨q_2, e_2, hF⟩ := ob_bd hF
  refine crM (As := [.int p1]) (rest := []) ⟨hx, hb, hml, hown, hts⟩ (cM_isMade l D cI cZ h ad σ p1 _ e_2) (cw_isMade hts ⟨Nat.le_of_ble_eq_true rfl, Nat.le_of_ble_eq_true rfl⟩) hK hP rfl hl.1 rfl (lv_room (Nat.le_of_ble_eq_true rfl)) dX10_line_2 ?_
  refine lv_if_eq (tgt := 16) hx hb dX10_line_5 (by decide) (fun c_5 => ?_) (fun c_5 => ?_)
  · have hF := ob_t c_5 hF
    refine lv_iconst (v := (-1 : Int32)) hx hb dX10_line_16 (by decide) ?_
    exact rwM hx hb hr hlocks hF hK hP hD hS dX10_line_17
  · have hF := ob_f c_5 hF
    refine lv_aload_n hx hb dX10_line_8 rfl (lv_at hl 0 rfl) ?_
    refine lv_iload_n hx hb dX10_line_9 rfl (lv_at hl 2 rfl) ?_
    obtain ⟨q_10, e_10, hF⟩ := ob_bd hF
    refine crM (As := [.int p2]) (rest := []) ⟨hx, hb, hml, hown, hts⟩ (cM_isThere l D cI cZ h ad σ p2 _ e_10) (cw_isThere hts ⟨Nat.le_of_ble_eq_true rfl, Nat.le_of_ble_eq_true rfl⟩) hK hP rfl hl.1 rfl (lv_room (Nat.le_of_ble_eq_true rfl)) dX10_line_10 ?_
    refine lv_if_ne (tgt := 18) hx hb dX10_line_13 (by decide) (fun c_13 => ?_) (fun c_13 => ?_)
    · have hF := ob_f c_13 hF
      refine lv_aload_n hx hb dX10_line_18 rfl (lv_at hl 0 rfl) ?_
      refine lv_iload_n hx hb dX10_line_19 rfl (lv_at hl 1 rfl) ?_
      obtain ⟨q_20, e_20, hF⟩ := ob_bd hF
      refine crM (As := [.int p1]) (rest := []) ⟨hx, hb, hml, hown, hts⟩ (cM_rowsOf l D cI cZ h ad σ p1 _ e_20) (cw_rowsOf hts ⟨Nat.le_of_ble_eq_true rfl, Nat.le_of_ble_eq_true rfl⟩) hK hP rfl hl.1 rfl (lv_room (Nat.le_of_ble_eq_true rfl)) dX10_line_20 ?_
      refine lv_istore_n (lv' := [(3, .int q_20), (0, .ref h), (1, .int p1), (2, .int p2)]) hx hb dX10_line_23 rfl hl (by decide) rfl (fun ls hl => ?_)
      refine lv_aload_n hx hb dX10_line_24 rfl (lv_at hl 1 rfl) ?_
      refine gM hx hb hts hin hown hK hP 15 (.ref (ad 15)) (by decide) mf_50 rfl dX10_line_25 ?_
      refine lv_iload_n hx hb dX10_line_28 rfl (lv_at hl 2 rfl) ?_
      obtain ⟨g_29, hF⟩ := ob_gd hF
      refine ldZ hx hb hK hP (at_15 _ _ _ _ _) (σ.2 15 p1.toNatClampNeg) g_29 rfl dX10_line_29 ?_
      refine lv_if_ne (tgt := 43) hx hb dX10_line_30 (by decide) (fun c_30 => ?_) (fun c_30 => ?_)
      · have hF := ob_f c_30 hF
        refine lv_bipush (v := (-3 : Int32)) hx hb dX10_line_43 (by decide) ?_
        exact rwM hx hb hr hlocks hF hK hP hD hS dX10_line_45
      · have hF := ob_t c_30 hF
        refine lv_aload_n hx hb dX10_line_33 rfl (lv_at hl 1 rfl) ?_
        refine gM hx hb hts hin hown hK hP 2 (.ref (ad 2)) (by decide) mf_13 rfl dX10_line_34 ?_
        refine lv_iload_n hx hb dX10_line_37 rfl (lv_at hl 3 rfl) ?_
        obtain ⟨g_38, hF⟩ := ob_gd hF
        refine ldI hx hb hK hP (at_2 _ _ _ _ _) (σ.2 2 p2.toNatClampNeg) g_38 rfl dX10_line_38 ?_
        refine lv_iload_n hx hb dX10_line_39 rfl (lv_at hl 0 rfl) ?_
        refine lv_icmp_ge (tgt := 46) hx hb dX10_line_40 (by decide) (fun c_40 => ?_) (fun c_40 => ?_)
        · have hF := ob_t c_40 hF
          refine lv_aload_n hx hb dX10_line_46 rfl (lv_at hl 1 rfl) ?_
          refine gM hx hb hts hin hown hK hP 15 (.ref (ad 15)) (by decide) mf_50 rfl dX10_line_47 ?_
          refine lv_iload_n hx hb dX10_line_50 rfl (lv_at hl 2 rfl) ?_
          refine lv_iconst (v := (1 : Int32)) hx hb dX10_line_51 (by decide) ?_
          obtain ⟨g_52, hF⟩ := ob_gd hF
          refine stZ (y := (1 : Int32)) hx hb hK hP hD hS (at_15 _ _ _ _ _) rfl (st_15 _ _ _ _ _ _ _) g_52 dX10_line_52 (fun H locs hP hD hS => ?_)
          refine lv_aload_n hx hb dX10_line_53 rfl (lv_at hl 1 rfl) ?_
          refine gM hx hb hts hin hown hK hP 16 (.ref (ad 16)) (by decide) mf_53 rfl dX10_line_54 ?_
          refine lv_iload_n hx hb dX10_line_57 rfl (lv_at hl 2 rfl) ?_
          refine lv_aload_n hx hb dX10_line_58 rfl (lv_at hl 1 rfl) ?_
          refine gM hx hb hts hin hown hK hP 3 (.ref (ad 3)) (by decide) mf_17 rfl dX10_line_59 ?_
          refine lv_iload_n hx hb dX10_line_62 rfl (lv_at hl 3 rfl) ?_
          obtain ⟨g_63, hF⟩ := ob_gd hF
          refine ldI hx hb hK hP (at_3 _ _ _ _ _) (σ.2 3 p2.toNatClampNeg) g_63 rfl dX10_line_63 ?_
          obtain ⟨g_64, hF⟩ := ob_gd hF
          refine stI hx hb hK hP hD hS (at_16 _ _ _ _ _) (st_16 _ _ _ _ _ _ _) g_64 dX10_line_64 (fun H locs hP hD hS => ?_)
          refine lv_aload_n hx hb dX10_line_65 rfl (lv_at hl 1 rfl) ?_
          refine gM hx hb hts hin hown hK hP 17 (.ref (ad 17)) (by decide) mf_56 rfl dX10_line_66 ?_
          refine lv_iload_n hx hb dX10_line_69 rfl (lv_at hl 2 rfl) ?_
          refine lv_aload_n hx hb dX10_line_70 rfl (lv_at hl 1 rfl) ?_
          refine gM hx hb hts hin hown hK hP 4 (.ref (ad 4)) (by decide) mf_20 rfl dX10_line_71 ?_
          refine lv_iload_n hx hb dX10_line_74 rfl (lv_at hl 3 rfl) ?_
          obtain ⟨g_75, hF⟩ := ob_gd hF
          refine ldI hx hb hK hP (at_4 _ _ _ _ _) (σ.2 4 p2.toNatClampNeg) g_75 rfl dX10_line_75 ?_
          obtain ⟨g_76, hF⟩ := ob_gd hF
          refine stI hx hb hK hP hD hS (at_17 _ _ _ _ _) (st_17 _ _ _ _ _ _ _) g_76 dX10_line_76 (fun H locs hP hD hS => ?_)
          refine lv_iconst (v := (0 : Int32)) hx hb dX10_line_77 (by decide) ?_
          refine lv_istore (lv' := [(4, .int (0 : Int32)), (3, .int q_20), (0, .ref h), (1, .int p1), (2, .int p2)]) hx hb dX10_line_78 hl (by decide) rfl (fun ls hl => ?_)
          exact b_80 p1 p2 q_20 (fun σ_116 => FM_line_116 p2 q_20 σ_116) (fun σ_116 => b_116 p2 q_20 σ_116) fu (0 : Int32) (sa (sa (sa σ 15 p1 (1 : Int32)) 16 p1 (σ.2 3 p2.toNatClampNeg)) 17 p1 (σ.2 4 p2.toNatClampNeg)) _ _ _ hF hP hD hS (lv_sub hl [2, 3, 4, 1, 0] rfl)
        · have hF := ob_f c_40 hF
          refine lv_bipush (v := (-3 : Int32)) hx hb dX10_line_43 (by decide) ?_
          exact rwM hx hb hr hlocks hF hK hP hD hS dX10_line_45
    · have hF := ob_t c_13 hF
      refine lv_iconst (v := (-1 : Int32)) hx hb dX10_line_16 (by decide) ?_
      exact rwM hx hb hr hlocks hF hK hP hD hS dX10_line_17
def FM_unline_42 (K_78 : MS → Option (Int32 × MS)) (x1_42 : Int32) (x2_42 : Int32) : Nat → Int32 → MS → Option (Int32 × MS)
  | 0, _, _ => none
  | n_42 + 1, x3_42, σ_42 => (if x2_42 ≤ x3_42 then (K_78 σ_42) else (gd (inb (((120 : Int32) * x1_42) + x3_42) 3600) (gd (inb (((120 : Int32) * (σ_42.1 0)) + x3_42) 4800) (FM_unline_42 K_78 x1_42 x2_42 n_42 (x3_42 + (1 : Int32)) (sa σ_42 5 (((120 : Int32) * (σ_42.1 0)) + x3_42) (σ_42.2 18 (((120 : Int32) * x1_42) + x3_42).toNatClampNeg))))))
def FM_unline_78 (x1_78 : Int32) (x2_78 : Int32) (σ_78 : MS) : Option (Int32 × MS) := (gd (inb x1_78 30) (gd (inb x1_78 30) (gd (inb x1_78 30) ((FM_comes (sa σ_78 15 x1_78 (0 : Int32)) x2_78 (σ_78.2 16 x1_78.toNatClampNeg) (σ_78.2 17 x1_78.toNatClampNeg)).bind fun q_99 => (some (q_99.1, q_99.2))))))
def FM_unline (σ : MS) (p1 : Int32) : Option (Int32 × MS) := ((FM_isMade σ p1).bind fun q_2 => (if q_2 = 0 then (some ((-1 : Int32), σ)) else (gd (inb p1 30) (if (σ.2 15 p1.toNatClampNeg) = 0 then (some ((-3 : Int32), σ)) else (if (σ.1 0) = (40 : Int32) then (some ((-4 : Int32), σ)) else ((FM_rowsOf σ p1).bind fun q_36 => (FM_unline_42 (fun σ_78 => FM_unline_78 p1 q_36 σ_78) p1 q_36 fu (0 : Int32) σ)))))))
def wsM_unline : List Cond := Cond.code yX10_unline cX10_unline 4 (some .int) :: wMa
set_option maxHeartbeats 4000000 in
set_option maxRecDepth 100000 in
theorem cM_unline (l : Launch) (D : va_G) (cI cZ : ClassId) (h : Nat) (ad : Nat → Nat) (A : Nat → Prop) (σ : MS) (p1 : Int32) (q : Int32 × MS) (hF : FM_unline σ p1 = some q) : Met l yX10_unline wsM_unline { frames := 2, cells := 0, slots := 0, locals := 43 } (va_Pc [.ref h, .int p1] (preM D cI cZ h ad A σ)) (va_Qi (fun x u => x = q.1 ∧ u = q.2) (preM D cI cZ h ad A) A) 0 0 A := by
  refine Met.ofW (cc := cX10_unline) (maxL := 4) (ret := (some .int)) (by decide) rfl ?_
  intro p e s m args below meth c s₁ B hml hv
  obtain ⟨rfl, hP, hK, hD⟩ := hv
  have hx := B.exec
  have hb := B.bytes
  have hr := B.returns
  have hts : ∀ w ∈ (Cond.code yX10_unline cX10_unline 4 (some .int) :: wMa), w.before ([.ref h, .int p1] : List Value).toArray s = true := atoms_spec (ws := wsM_unline) B.pre
  have hin : ∀ w ∈ wMa, w ∈ (Cond.code yX10_unline cX10_unline 4 (some .int) :: wMa) := fun w hw => List.mem_cons_of_mem _ hw
  have hown : s.vm.findClass RX10 = some m.cls := findClass_of_methodNamed B.named
  have hlocks := B.notSynchronized
  have hS : va_S A s.heap s.heap [] := va_S.rf
  have b_42 : ∀ (x1_42 : Int32) (x2_42 : Int32) (K_78 : MS → Option (Int32 × MS)) (k_78 : ∀ (σ_78 : MS) (H : Heap) (locs : List Loc) (ls : Array Slot), K_78 σ_78 = some q → va_P D vwCl (wM cI cZ h ad σ_78) H → va_D A (wM cI cZ h ad σ_78) → va_S A s.heap H locs → lv_has ls 4 [(0, .ref h), (1, .int x1_42), (2, .int x2_42)] → W p l e (headSpec wsM_unline { frames := 2, cells := 0, slots := 0, locals := 43 }).room s m ([.ref h, .int p1] : List Value).toArray below meth c H locs 0 0 (MQ below (va_Qi (fun x u => x = q.1 ∧ u = q.2) (preM D cI cZ h ad A) A) ([.ref h, .int p1] : List Value).toArray s 0 0 A) (F0 m 78 ls [])) (n_42 : Nat) (x3_42 : Int32) (σ_42 : MS) (H : Heap) (locs : List Loc) (ls : Array Slot), FM_unline_42 K_78 x1_42 x2_42 n_42 x3_42 σ_42 = some q → va_P D vwCl (wM cI cZ h ad σ_42) H → va_D A (wM cI cZ h ad σ_42) → va_S A s.heap H locs → lv_has ls 4 [(0, .ref h), (1, .int x1_42), (2, .int x2_42), (3, .int x3_42)] → W p l e (headSpec wsM_unline { frames := 2, cells := 0, slots := 0, locals := 43 }).room s m ([.ref h, .int p1] : List Value).toArray below meth c H locs 0 0 (MQ below (va_Qi (fun x u => x = q.1 ∧ u = q.2) (preM D cI cZ h ad A) A) ([.ref h, .int p1] : List Value).toArray s 0 0 A) (F0 m 42 ls []) := by
    intro x1_42 x2_42 K_78 k_78
    intro n_42
    induction n_42 with
    | zero =>
      intro x3_42 σ_42 H locs ls hF hP hD hS hl
      exact absurd hF (by simp [FM_unline_42])
    | succ n_42 ih_42 =>
      intro x3_42 σ_42 H locs ls hF hP hD hS hl
      rw [FM_unline_42] at hF
      refine lv_iload_n hx hb dX10_unline_42 rfl (lv_at hl 3 rfl) ?_
      refine lv_iload_n hx hb dX10_unline_43 rfl (lv_at hl 2 rfl) ?_
      refine lv_icmp_ge (tgt := 78) hx hb dX10_unline_44 (by decide) (fun c_44 => ?_) (fun c_44 => ?_)
      · have hF := ob_t c_44 hF
        exact k_78 σ_42 _ _ _ hF hP hD hS (lv_sub hl [0, 1, 2] rfl)
      · have hF := ob_f c_44 hF
        refine lv_aload_n hx hb dX10_unline_47 rfl (lv_at hl 0 rfl) ?_
        refine gM hx hb hts hin hown hK hP 5 (.ref (ad 5)) (by decide) mf_23 rfl dX10_unline_48 ?_
        refine lv_bipush (v := (120 : Int32)) hx hb dX10_unline_51 (by decide) ?_
        refine lv_aload_n hx hb dX10_unline_53 rfl (lv_at hl 0 rfl) ?_
        refine gM hx hb hts hin hown hK hP 0 (.int (σ_42.1 0)) (by decide) mf_138 rfl dX10_unline_54 ?_
        refine lv_imul hx hb dX10_unline_57 ?_
        refine lv_iload_n hx hb dX10_unline_58 rfl (lv_at hl 3 rfl) ?_
        refine lv_iadd hx hb dX10_unline_59 ?_
        refine lv_aload_n hx hb dX10_unline_60 rfl (lv_at hl 0 rfl) ?_
        refine gM hx hb hts hin hown hK hP 18 (.ref (ad 18)) (by decide) mf_59 rfl dX10_unline_61 ?_
        refine lv_bipush (v := (120 : Int32)) hx hb dX10_unline_64 (by decide) ?_
        refine lv_iload_n hx hb dX10_unline_66 rfl (lv_at hl 1 rfl) ?_
        refine lv_imul hx hb dX10_unline_67 ?_
        refine lv_iload_n hx hb dX10_unline_68 rfl (lv_at hl 3 rfl) ?_
        refine lv_iadd hx hb dX10_unline_69 ?_
        obtain ⟨g_70, hF⟩ := ob_gd hF
        refine ldI hx hb hK hP (at_18 _ _ _ _ _) (σ_42.2 18 (((120 : Int32) * x1_42) + x3_42).toNatClampNeg) g_70 rfl dX10_unline_70 ?_
        obtain ⟨g_71, hF⟩ := ob_gd hF
        refine stI hx hb hK hP hD hS (at_5 _ _ _ _ _) (st_5 _ _ _ _ _ _ _) g_71 dX10_unline_71 (fun H locs hP hD hS => ?_)
        refine lv_iinc (v := x3_42 + (1 : Int32)) (lv' := [(3, .int (x3_42 + (1 : Int32))), (0, .ref h), (1, .int x1_42), (2, .int x2_42)]) hx hb dX10_unline_72 hl (k := 3) rfl rfl (by decide) rfl (fun ls hl => ?_)
        refine lv_goto (tgt := 42) hx hb dX10_unline_75 (by decide) ?_
        exact ih_42 (x3_42 + (1 : Int32)) (sa σ_42 5 (((120 : Int32) * (σ_42.1 0)) + x3_42) (σ_42.2 18 (((120 : Int32) * x1_42) + x3_42).toNatClampNeg)) _ _ _ hF hP hD hS (lv_sub hl [1, 2, 3, 0] rfl)
  have b_78 : ∀ (x1_78 : Int32) (x2_78 : Int32) (σ_78 : MS) (H : Heap) (locs : List Loc) (ls : Array Slot), FM_unline_78 x1_78 x2_78 σ_78 = some q → va_P D vwCl (wM cI cZ h ad σ_78) H → va_D A (wM cI cZ h ad σ_78) → va_S A s.heap H locs → lv_has ls 4 [(0, .ref h), (1, .int x1_78), (2, .int x2_78)] → W p l e (headSpec wsM_unline { frames := 2, cells := 0, slots := 0, locals := 43 }).room s m ([.ref h, .int p1] : List Value).toArray below meth c H locs 0 0 (MQ below (va_Qi (fun x u => x = q.1 ∧ u = q.2) (preM D cI cZ h ad A) A) ([.ref h, .int p1] : List Value).toArray s 0 0 A) (F0 m 78 ls []) := by
    intro x1_78 x2_78 σ_78 H locs ls hF hP hD hS hl
    unfold FM_unline_78 at hF
    refine lv_aload_n hx hb dX10_unline_78 rfl (lv_at hl 0 rfl) ?_
    refine gM hx hb hts hin hown hK hP 15 (.ref (ad 15)) (by decide) mf_50 rfl dX10_unline_79 ?_
    refine lv_iload_n hx hb dX10_unline_82 rfl (lv_at hl 1 rfl) ?_
    refine lv_iconst (v := (0 : Int32)) hx hb dX10_unline_83 (by decide) ?_
    obtain ⟨g_84, hF⟩ := ob_gd hF
    refine stZ (y := (0 : Int32)) hx hb hK hP hD hS (at_15 _ _ _ _ _) rfl (st_15 _ _ _ _ _ _ _) g_84 dX10_unline_84 (fun H locs hP hD hS => ?_)
    refine lv_aload_n hx hb dX10_unline_85 rfl (lv_at hl 0 rfl) ?_
    refine lv_iload_n hx hb dX10_unline_86 rfl (lv_at hl 2 rfl) ?_
    refine lv_aload_n hx hb dX10_unline_87 rfl (lv_at hl 0 rfl) ?_
    refine gM hx hb hts hin hown hK hP 16 (.ref (ad 16)) (by decide) mf_53 rfl dX10_unline_88 ?_
    refine lv_iload_n hx hb dX10_unline_91 rfl (lv_at hl 1 rfl) ?_
    obtain ⟨g_92, hF⟩ := ob_gd hF
    refine ldI hx hb hK hP (at_16 _ _ _ _ _) (σ_78.2 16 x1_78.toNatClampNeg) g_92 rfl dX10_unline_92 ?_
    refine lv_aload_n hx hb dX10_unline_93 rfl (lv_at hl 0 rfl) ?_
    refine gM hx hb hts hin hown hK hP 17 (.ref (ad 17)) (by decide) mf_56 rfl dX10_unline_94 ?_
    refine lv_iload_n hx hb dX10_unline_97 rfl (lv_at hl 1 rfl) ?_
    obtain ⟨g_98, hF⟩ := ob_gd hF
    refine ldI hx hb hK hP (at_17 _ _ _ _ _) (σ_78.2 17 x1_78.toNatClampNeg) g_98 rfl dX10_unline_98 ?_
    obtain ⟨q_99, e_99, hF⟩ := ob_bd hF
    refine cwM (As := [.int x2_78, .int (σ_78.2 16 x1_78.toNatClampNeg), .int (σ_78.2 17 x1_78.toNatClampNeg)]) (rest := []) ⟨hx, hb, hml, hown, hts⟩ (cM_comes l D cI cZ h ad A (sa σ_78 15 x1_78 (0 : Int32)) x2_78 (σ_78.2 16 x1_78.toNatClampNeg) (σ_78.2 17 x1_78.toNatClampNeg) _ e_99) (cw_comes hts ⟨Nat.le_of_ble_eq_true rfl, Nat.le_of_ble_eq_true rfl⟩) hK hP hD hS rfl hl.1 rfl (lv_room (Nat.le_of_ble_eq_true rfl)) dX10_unline_99 (fun H locs hP hD hS => ?_)
    exact rwM hx hb hr hlocks hF hK hP hD hS dX10_unline_102
  have hl := lv_entry ([.ref h, .int p1]) (n := 4) (Nat.le_of_ble_eq_true rfl)
  rw [lg_entry_eq]
  generalize (lg_sl ([.ref h, .int p1]) ++ List.replicate (4 - (lg_sl ([.ref h, .int p1])).length) Slot.unset).toArray = ls at hl ⊢
  have hl : lv_has ls 4 [(0, .ref h), (1, .int p1)] := hl
  unfold FM_unline at hF
  refine lv_aload_n hx hb dX10_unline_0 rfl (lv_at hl 0 rfl) ?_
  refine lv_iload_n hx hb dX10_unline_1 rfl (lv_at hl 1 rfl) ?_
  obtain ⟨q_2, e_2, hF⟩ := ob_bd hF
  refine crM (As := [.int p1]) (rest := []) ⟨hx, hb, hml, hown, hts⟩ (cM_isMade l D cI cZ h ad σ p1 _ e_2) (cw_isMade hts ⟨Nat.le_of_ble_eq_true rfl, Nat.le_of_ble_eq_true rfl⟩) hK hP rfl hl.1 rfl (lv_room (Nat.le_of_ble_eq_true rfl)) dX10_unline_2 ?_
  refine lv_if_ne (tgt := 10) hx hb dX10_unline_5 (by decide) (fun c_5 => ?_) (fun c_5 => ?_)
  · have hF := ob_f c_5 hF
    refine lv_aload_n hx hb dX10_unline_10 rfl (lv_at hl 0 rfl) ?_
    refine gM hx hb hts hin hown hK hP 15 (.ref (ad 15)) (by decide) mf_50 rfl dX10_unline_11 ?_
    refine lv_iload_n hx hb dX10_unline_14 rfl (lv_at hl 1 rfl) ?_
    obtain ⟨g_15, hF⟩ := ob_gd hF
    refine ldZ hx hb hK hP (at_15 _ _ _ _ _) (σ.2 15 p1.toNatClampNeg) g_15 rfl dX10_unline_15 ?_
    refine lv_if_ne (tgt := 22) hx hb dX10_unline_16 (by decide) (fun c_16 => ?_) (fun c_16 => ?_)
    · have hF := ob_f c_16 hF
      refine lv_aload_n hx hb dX10_unline_22 rfl (lv_at hl 0 rfl) ?_
      refine gM hx hb hts hin hown hK hP 0 (.int (σ.1 0)) (by decide) mf_138 rfl dX10_unline_23 ?_
      refine lv_bipush (v := (40 : Int32)) hx hb dX10_unline_26 (by decide) ?_
      refine lv_icmp_ne (tgt := 34) hx hb dX10_unline_28 (by decide) (fun c_28 => ?_) (fun c_28 => ?_)
      · have hF := ob_f c_28 hF
        refine lv_aload_n hx hb dX10_unline_34 rfl (lv_at hl 0 rfl) ?_
        refine lv_iload_n hx hb dX10_unline_35 rfl (lv_at hl 1 rfl) ?_
        obtain ⟨q_36, e_36, hF⟩ := ob_bd hF
        refine crM (As := [.int p1]) (rest := []) ⟨hx, hb, hml, hown, hts⟩ (cM_rowsOf l D cI cZ h ad σ p1 _ e_36) (cw_rowsOf hts ⟨Nat.le_of_ble_eq_true rfl, Nat.le_of_ble_eq_true rfl⟩) hK hP rfl hl.1 rfl (lv_room (Nat.le_of_ble_eq_true rfl)) dX10_unline_36 ?_
        refine lv_istore_n (lv' := [(2, .int q_36), (0, .ref h), (1, .int p1)]) hx hb dX10_unline_39 rfl hl (by decide) rfl (fun ls hl => ?_)
        refine lv_iconst (v := (0 : Int32)) hx hb dX10_unline_40 (by decide) ?_
        refine lv_istore_n (lv' := [(3, .int (0 : Int32)), (2, .int q_36), (0, .ref h), (1, .int p1)]) hx hb dX10_unline_41 rfl hl (by decide) rfl (fun ls hl => ?_)
        exact b_42 p1 q_36 (fun σ_78 => FM_unline_78 p1 q_36 σ_78) (fun σ_78 => b_78 p1 q_36 σ_78) fu (0 : Int32) σ _ _ _ hF hP hD hS (lv_sub hl [2, 3, 1, 0] rfl)
      · have hF := ob_t c_28 hF
        refine lv_bipush (v := (-4 : Int32)) hx hb dX10_unline_31 (by decide) ?_
        exact rwM hx hb hr hlocks hF hK hP hD hS dX10_unline_33
    · have hF := ob_t c_16 hF
      refine lv_bipush (v := (-3 : Int32)) hx hb dX10_unline_19 (by decide) ?_
      exact rwM hx hb hr hlocks hF hK hP hD hS dX10_unline_21
  · have hF := ob_t c_5 hF
    refine lv_iconst (v := (-1 : Int32)) hx hb dX10_unline_8 (by decide) ?_
    exact rwM hx hb hr hlocks hF hK hP hD hS dX10_unline_9
