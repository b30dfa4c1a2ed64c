def FM_gives_54 (K_5 : Int32 → Int32 → MS → Option MS) (x1_54 : Int32) (x6_54 : Int32) (t0_54 : Int32) (σ_54 : MS) : Option MS := (K_5 x6_54 t0_54 σ_54)
def FM_gives_5 (x1_5 : Int32) : Nat → Int32 → Int32 → MS → Option MS
  | 0, _, _, _ => none
  | n_5 + 1, x3_5, x4_5, σ_5 => (if x4_5 = 0 then (some σ_5) else (gd (inb x3_5 30) (gd (inb (σ_5.2 44 x3_5.toNatClampNeg) 10) (gd (inb x3_5 30) (gd (inb (σ_5.2 44 x3_5.toNatClampNeg) 10) (if (σ_5.2 44 x3_5.toNatClampNeg) = x1_5 then (FM_gives_54 (fun x3_5 x4_5 σ_5 => FM_gives_5  x1_5 n_5 x3_5 x4_5 σ_5) x1_5 (σ_5.2 47 (σ_5.2 44 x3_5.toNatClampNeg).toNatClampNeg) (0 : Int32) (sa (sa σ_5 42 x3_5 (σ_5.2 44 x3_5.toNatClampNeg)) 47 (σ_5.2 44 x3_5.toNatClampNeg) x3_5)) else (FM_gives_54 (fun x3_5 x4_5 σ_5 => FM_gives_5  x1_5 n_5 x3_5 x4_5 σ_5) x1_5 (σ_5.2 47 (σ_5.2 44 x3_5.toNatClampNeg).toNatClampNeg) (1 : Int32) (sa (sa σ_5 42 x3_5 (σ_5.2 44 x3_5.toNatClampNeg)) 47 (σ_5.2 44 x3_5.toNatClampNeg) x3_5))))))))
def FM_gives (σ : MS) (p1 : Int32) (p2 : Int32) : Option MS := (FM_gives_5 p1 fu p2 (1 : Int32) σ)
def wsM_gives : List Cond := Cond.code yX10_gives cX10_gives 7 none :: wMa
theorem cw_gives {R : Room} {s : State} {args : Array Value} {y : MethodName} {c : ByteArray} {n : Nat} {r : Option FieldType} (hts : ∀ w ∈ (Cond.code y c n r :: wMa), w.before args s = true) (hR : 0 + 1 ≤ R.frames ∧ 8 + (7 + 11) + 0 ≤ R.locals) : CallW R s args RX10 RX10 267 yX10_gives cX10_gives 7 none wsM_gives { frames := 0, cells := 0, slots := 0, locals := 0 } 0 0 2 := cwV 2 hts (goodMV mm_267 mi_gives ms_gives m_ini mc_gives) rfl rfl rfl (by decide +kernel) hR
set_option maxHeartbeats 4000000 in
set_option maxRecDepth 100000 in
theorem cM_gives (l : Launch) (D : va_G) (cI cZ : ClassId) (h : Nat) (ad : Nat → Nat) (A : Nat → Prop) (σ : MS) (p1 : Int32) (p2 : Int32) (q : MS) (hF : FM_gives σ p1 p2 = some q) : Met l yX10_gives wsM_gives { frames := 0, cells := 0, slots := 0, locals := 0 } (va_Pc [.ref h, .int p1, .int p2] (preM D cI cZ h ad A σ)) (va_Qv (fun u => u = q) (preM D cI cZ h ad A) A) 0 0 A := by
  refine Met.ofW (cc := cX10_gives) (maxL := 7) (ret := none) (by decide) rfl ?_
  intro p e s m args below meth c s₁ B hml hv
  obtain ⟨rfl, hP, hK, hD⟩ := hv
  have hx := B.exec
  have hb := B.bytes
  have hr := B.returns
  have hts : ∀ w ∈ (Cond.code yX10_gives cX10_gives 7 none :: wMa), w.before ([.ref h, .int p1, .int p2] : List Value).toArray s = true := atoms_spec (ws := wsM_gives) B.pre
  have hin : ∀ w ∈ wMa, w ∈ (Cond.code yX10_gives cX10_gives 7 none :: wMa) := fun w hw => List.mem_cons_of_mem _ hw
  have hown : s.vm.findClass RX10 = some m.cls := findClass_of_methodNamed B.named
  have hlocks := B.notSynchronized
  have hS : va_S A s.heap s.heap [] := va_S.rf
  have b_54 : ∀ (x1_54 : Int32) (x6_54 : Int32) (K_5 : Int32 → Int32 → MS → Option MS) (k_5 : ∀ (x3_5 : Int32) (x4_5 : Int32) (σ_5 : MS) (H : Heap) (locs : List Loc) (ls : Array Slot), K_5 x3_5 x4_5 σ_5 = some q → va_P D vwCl (wM cI cZ h ad σ_5) H → va_D A (wM cI cZ h ad σ_5) → va_S A s.heap H locs → lv_has ls 7 [(0, .ref h), (1, .int x1_54), (3, .int x3_5), (4, .int x4_5)] → W p l e (headSpec wsM_gives { frames := 0, cells := 0, slots := 0, locals := 0 }).room s m ([.ref h, .int p1, .int p2] : List Value).toArray below meth c H locs 0 0 (MQ below (va_Qv (fun u => u = q) (preM D cI cZ h ad A) A) ([.ref h, .int p1, .int p2] : List Value).toArray s 0 0 A) (F0 m 5 ls [])) (t0_54 : Int32) (σ_54 : MS) (H : Heap) (locs : List Loc) (ls : Array Slot), FM_gives_54 K_5 x1_54 x6_54 t0_54 σ_54 = some q → va_P D vwCl (wM cI cZ h ad σ_54) H → va_D A (wM cI cZ h ad σ_54) → va_S A s.heap H locs → lv_has ls 7 [(0, .ref h), (1, .int x1_54), (6, .int x6_54)] → W p l e (headSpec wsM_gives { frames := 0, cells := 0, slots := 0, locals := 0 }).room s m ([.ref h, .int p1, .int p2] : List Value).toArray below meth c H locs 0 0 (MQ below (va_Qv (fun u => u = q) (preM D cI cZ h ad A) A) ([.ref h, .int p1, .int p2] : List Value).toArray s 0 0 A) (F0 m 54 ls [.int t0_54]) := by
    intro x1_54 x6_54 K_5 k_5 t0_54 σ_54 H locs ls hF hP hD hS hl
    unfold FM_gives_54 at hF
    refine lv_istore (lv' := [(4, .int t0_54), (0, .ref h), (1, .int x1_54), (6, .int x6_54)]) hx hb dX10_gives_54 hl (by decide) rfl (fun ls hl => ?_)
    refine lv_iload hx hb dX10_gives_56 (lv_at hl 3 rfl) ?_
    refine lv_istore_n (lv' := [(3, .int x6_54), (4, .int t0_54), (0, .ref h), (1, .int x1_54), (6, .int x6_54)]) hx hb dX10_gives_58 rfl hl (by decide) rfl (fun ls hl => ?_)
    refine lv_goto (tgt := 5) hx hb dX10_gives_59 (by decide) ?_
    exact k_5 x6_54 t0_54 σ_54 _ _ _ hF hP hD hS (lv_sub hl [2, 3, 0, 1] rfl)
  have b_5 : ∀ (x1_5 : Int32) (n_5 : Nat) (x3_5 : Int32) (x4_5 : Int32) (σ_5 : MS) (H : Heap) (locs : List Loc) (ls : Array Slot), FM_gives_5 x1_5 n_5 x3_5 x4_5 σ_5 = some q → va_P D vwCl (wM cI cZ h ad σ_5) H → va_D A (wM cI cZ h ad σ_5) → va_S A s.heap H locs → lv_has ls 7 [(0, .ref h), (1, .int x1_5), (3, .int x3_5), (4, .int x4_5)] → W p l e (headSpec wsM_gives { frames := 0, cells := 0, slots := 0, locals := 0 }).room s m ([.ref h, .int p1, .int p2] : List Value).toArray below meth c H locs 0 0 (MQ below (va_Qv (fun u => u = q) (preM D cI cZ h ad A) A) ([.ref h, .int p1, .int p2] : List Value).toArray s 0 0 A) (F0 m 5 ls []) := by
    intro x1_5
    intro n_5
    induction n_5 with
    | zero =>
      intro x3_5 x4_5 σ_5 H locs ls hF hP hD hS hl
      exact absurd hF (by simp [FM_gives_5])
    | succ n_5 ih_5 =>
      intro x3_5 x4_5 σ_5 H locs ls hF hP hD hS hl
      rw [FM_gives_5] at hF
      refine lv_iload hx hb dX10_gives_5 (lv_at hl 3 rfl) ?_
      refine lv_if_eq (tgt := 62) hx hb dX10_gives_7 (by decide) (fun c_7 => ?_) (fun c_7 => ?_)
      · have hF := ob_t c_7 hF
        exact rvM hx hb hr hlocks hF hK hP hD hS dX10_gives_62
      · have hF := ob_f c_7 hF
        refine lv_aload_n hx hb dX10_gives_10 rfl (lv_at hl 0 rfl) ?_
        refine gM hx hb hts hin hown hK hP 44 (.ref (ad 44)) (by decide) mf_123 rfl dX10_gives_11 ?_
        refine lv_iload_n hx hb dX10_gives_14 rfl (lv_at hl 2 rfl) ?_
        obtain ⟨g_15, hF⟩ := ob_gd hF
        refine ldI hx hb hK hP (at_44 _ _ _ _ _) (σ_5.2 44 x3_5.toNatClampNeg) g_15 rfl dX10_gives_15 ?_
        refine lv_istore (lv' := [(5, .int (σ_5.2 44 x3_5.toNatClampNeg)), (0, .ref h), (1, .int x1_5), (3, .int x3_5), (4, .int x4_5)]) hx hb dX10_gives_16 hl (by decide) rfl (fun ls hl => ?_)
        refine lv_aload_n hx hb dX10_gives_18 rfl (lv_at hl 1 rfl) ?_
        refine gM hx hb hts hin hown hK hP 47 (.ref (ad 47)) (by decide) mf_132 rfl dX10_gives_19 ?_
        refine lv_iload hx hb dX10_gives_22 (lv_at hl 0 rfl) ?_
        obtain ⟨g_24, hF⟩ := ob_gd hF
        refine ldI hx hb hK hP (at_47 _ _ _ _ _) (σ_5.2 47 (σ_5.2 44 x3_5.toNatClampNeg).toNatClampNeg) g_24 rfl dX10_gives_24 ?_
        refine lv_istore (lv' := [(6, .int (σ_5.2 47 (σ_5.2 44 x3_5.toNatClampNeg).toNatClampNeg)), (5, .int (σ_5.2 44 x3_5.toNatClampNeg)), (0, .ref h), (1, .int x1_5), (3, .int x3_5), (4, .int x4_5)]) hx hb dX10_gives_25 hl (by decide) rfl (fun ls hl => ?_)
        refine lv_aload_n hx hb dX10_gives_27 rfl (lv_at hl 2 rfl) ?_
        refine gM hx hb hts hin hown hK hP 42 (.ref (ad 42)) (by decide) mf_117 rfl dX10_gives_28 ?_
        refine lv_iload_n hx hb dX10_gives_31 rfl (lv_at hl 4 rfl) ?_
        refine lv_iload hx hb dX10_gives_32 (lv_at hl 1 rfl) ?_
        obtain ⟨g_34, hF⟩ := ob_gd hF
        refine stI hx hb hK hP hD hS (at_42 _ _ _ _ _) (st_42 _ _ _ _ _ _ _) g_34 dX10_gives_34 (fun H locs hP hD hS => ?_)
        refine lv_aload_n hx hb dX10_gives_35 rfl (lv_at hl 2 rfl) ?_
        refine gM hx hb hts hin hown hK hP 47 (.ref (ad 47)) (by decide) mf_132 rfl dX10_gives_36 ?_
        refine lv_iload hx hb dX10_gives_39 (lv_at hl 1 rfl) ?_
        refine lv_iload_n hx hb dX10_gives_41 rfl (lv_at hl 4 rfl) ?_
        obtain ⟨g_42, hF⟩ := ob_gd hF
        refine stI hx hb hK hP hD hS (at_47 _ _ _ _ _) (st_47 _ _ _ _ _ _ _) g_42 dX10_gives_42 (fun H locs hP hD hS => ?_)
        refine lv_iload hx hb dX10_gives_43 (lv_at hl 1 rfl) ?_
        refine lv_iload_n hx hb dX10_gives_45 rfl (lv_at hl 3 rfl) ?_
        refine lv_icmp_eq (tgt := 53) hx hb dX10_gives_46 (by decide) (fun c_46 => ?_) (fun c_46 => ?_)
        · have hF := ob_t c_46 hF
          refine lv_iconst (v := (0 : Int32)) hx hb dX10_gives_53 (by decide) ?_
          exact b_54 x1_5 (σ_5.2 47 (σ_5.2 44 x3_5.toNatClampNeg).toNatClampNeg) (fun x3_5 x4_5 σ_5 => FM_gives_5  x1_5 n_5 x3_5 x4_5 σ_5) ih_5 (0 : Int32) (sa (sa σ_5 42 x3_5 (σ_5.2 44 x3_5.toNatClampNeg)) 47 (σ_5.2 44 x3_5.toNatClampNeg) x3_5) _ _ _ hF hP hD hS (lv_sub hl [2, 3, 0] rfl)
        · have hF := ob_f c_46 hF
          refine lv_iconst (v := (1 : Int32)) hx hb dX10_gives_49 (by decide) ?_
          refine lv_goto (tgt := 54) hx hb dX10_gives_50 (by decide) ?_
          exact b_54 x1_5 (σ_5.2 47 (σ_5.2 44 x3_5.toNatClampNeg).toNatClampNeg) (fun x3_5 x4_5 σ_5 => FM_gives_5  x1_5 n_5 x3_5 x4_5 σ_5) ih_5 (1 : Int32) (sa (sa σ_5 42 x3_5 (σ_5.2 44 x3_5.toNatClampNeg)) 47 (σ_5.2 44 x3_5.toNatClampNeg) x3_5) _ _ _ hF hP hD hS (lv_sub hl [2, 3, 0] rfl)
  have hl := lv_entry ([.ref h, .int p1, .int p2]) (n := 7) (Nat.le_of_ble_eq_true rfl)
  rw [lg_entry_eq]
  generalize (lg_sl ([.ref h, .int p1, .int p2]) ++ List.replicate (7 - (lg_sl ([.ref h, .int p1, .int p2])).length) Slot.unset).toArray = ls at hl ⊢
  have hl : lv_has ls 7 [(0, .ref h), (1, .int p1), (2, .int p2)] := hl
  unfold FM_gives at hF
  refine lv_iload_n hx hb dX10_gives_0 rfl (lv_at hl 2 rfl) ?_
  refine lv_istore_n (lv' := [(3, .int p2), (0, .ref h), (1, .int p1), (2, .int p2)]) hx hb dX10_gives_1 rfl hl (by decide) rfl (fun ls hl => ?_)
  refine lv_iconst (v := (1 : Int32)) hx hb dX10_gives_2 (by decide) ?_
  refine lv_istore (lv' := [(4, .int (1 : Int32)), (3, .int p2), (0, .ref h), (1, .int p1), (2, .int p2)]) hx hb dX10_gives_3 hl (by decide) rfl (fun ls hl => ?_)
  exact b_5 p1 fu p2 (1 : Int32) σ _ _ _ hF hP hD hS (lv_sub hl [2, 3, 1, 0] rfl)
def FM_goesTo_2 (K_23 : MS → Option (Int32 × MS)) (x1_2 : Int32) : Nat → Int32 → MS → Option (Int32 × MS)
  | 0, _, _ => none
  | n_2 + 1, x2_2, σ_2 => (if (σ_2.1 6) ≤ x2_2 then (K_23 σ_2) else (gd (inb x2_2 30) (FM_goesTo_2 K_23 x1_2 n_2 (x2_2 + (1 : Int32)) (sa σ_2 46 x2_2 (0 : Int32)))))
def FM_goesTo_53 (K_147 : Int32 → MS → Option (Int32 × MS)) (K_116 : Int32 → MS → Option (Int32 × MS)) (x1_53 : Int32) (x2_53 : Int32) (x4_53 : Int32) : Nat → Int32 → Int32 → MS → Option (Int32 × MS)
  | 0, _, _, _ => none
  | n_53 + 1, x3_53, x5_53, σ_53 => (if (σ_53.1 6) ≤ x5_53 then (K_147 x3_53 σ_53) else (gd (inb x4_53 10) (if (((σ_53.2 41 x4_53.toNatClampNeg) >>> (x5_53 &&& 31)) &&& (1 : Int32)) = (1 : Int32) then (gd (inb x5_53 30) (if (σ_53.2 46 x5_53.toNatClampNeg) = 0 then (gd (inb x5_53 30) (gd (inb x5_53 30) (gd (inb x5_53 30) (if (σ_53.2 42 x5_53.toNatClampNeg) = (-1 : Int32) then (K_116 x5_53 (sa (sa σ_53 46 x5_53 (1 : Int32)) 44 x5_53 x4_53)) else (gd (inb x5_53 30) (gd (inb x3_53 11) (FM_goesTo_53 K_147 K_116 x1_53 x2_53 x4_53 n_53 (x3_53 + (1 : Int32)) (x5_53 + (1 : Int32)) (sa (sa (sa σ_53 46 x5_53 (1 : Int32)) 44 x5_53 x4_53) 45 x3_53 (σ_53.2 42 x5_53.toNatClampNeg))))))))) else (FM_goesTo_53 K_147 K_116 x1_53 x2_53 x4_53 n_53 x3_53 (x5_53 + (1 : Int32)) σ_53))) else (FM_goesTo_53 K_147 K_116 x1_53 x2_53 x4_53 n_53 x3_53 (x5_53 + (1 : Int32)) σ_53))))
def FM_goesTo_147 (K_34 : Int32 → Int32 → MS → Option (Int32 × MS)) (x1_147 : Int32) (x2_147 : Int32) (x3_147 : Int32) (σ_147 : MS) : Option (Int32 × MS) := (K_34 x2_147 x3_147 σ_147)
def FM_goesTo_34 (K_116 : Int32 → MS → Option (Int32 × MS)) (x1_34 : Int32) : Nat → Int32 → Int32 → MS → Option (Int32 × MS)
  | 0, _, _, _ => none
  | n_34 + 1, x2_34, x3_34, σ_34 => (if x3_34 ≤ x2_34 then (some ((0 : Int32), σ_34)) else (gd (inb x2_34 11) (FM_goesTo_53 (fun x3_147 σ_147 => FM_goesTo_147 (fun x2_34 x3_34 σ_34 => FM_goesTo_34 K_116 x1_34 n_34 x2_34 x3_34 σ_34) x1_34 (x2_34 + (1 : Int32)) x3_147 σ_147) K_116 x1_34 (x2_34 + (1 : Int32)) (σ_34.2 45 x2_34.toNatClampNeg) fu x3_34 (0 : Int32) σ_34)))
def FM_goesTo_116 (x1_116 : Int32) (x5_116 : Int32) (σ_116 : MS) : Option (Int32 × MS) := ((FM_gives σ_116 x1_116 x5_116).bind fun q_120 => (some ((1 : Int32), q_120)))
def FM_goesTo_23 (x1_23 : Int32) (σ_23 : MS) : Option (Int32 × MS) := (gd (inb (0 : Int32) 11) (FM_goesTo_34 (fun x5_116 σ_116 => FM_goesTo_116 x1_23 x5_116 σ_116) x1_23 fu (0 : Int32) (1 : Int32) (sa σ_23 45 (0 : Int32) x1_23)))
def FM_goesTo (σ : MS) (p1 : Int32) : Option (Int32 × MS) := (FM_goesTo_2 (fun σ_23 => FM_goesTo_23 p1 σ_23) p1 fu (0 : Int32) σ)
def wsM_goesTo : List Cond := Cond.code yX10_goesTo cX10_goesTo 6 (some .boolean) :: wMa
theorem cw_goesTo {R : Room} {s : State} {args : Array Value} {y : MethodName} {c : ByteArray} {n : Nat} {r : Option FieldType} (hts : ∀ w ∈ (Cond.code y c n r :: wMa), w.before args s = true) (hR : 1 + 1 ≤ R.frames ∧ 8 + (6 + 11) + 26 ≤ R.locals) : CallW R s args RX10 RX10 270 yX10_goesTo cX10_goesTo 6 (some .boolean) wsM_goesTo { frames := 1, cells := 0, slots := 0, locals := 26 } 0 0 1 := cwV 1 hts (goodMV mm_270 mi_goesTo ms_goesTo m_ini mc_goesTo) rfl rfl rfl (by decide +kernel) hR
set_option maxHeartbeats 4000000 in
set_option maxRecDepth 100000 in
theorem cM_goesTo (l : Launch) (D : va_G) (cI cZ : ClassId) (h : Nat) (ad : Nat → Nat) (A : Nat → Prop) (σ : MS) (p1 : Int32) (q : Int32 × MS) (hF : FM_goesTo σ p1 = some q) : Met l yX10_goesTo wsM_goesTo { frames := 1, cells := 0, slots := 0, locals := 26 } (va_Pc [.ref h, .int p1] (preM D cI cZ h ad A σ)) (va_Qi (fun x u => x = q.1 ∧ u = q.2) (preM D cI cZ h ad A) A) 0 0 A := by
  refine Met.ofW (cc := cX10_goesTo) (maxL := 6) (ret := (some .boolean)) (by decide) rfl ?_
  intro p e s m args below meth c s₁ B hml hv
  obtain ⟨rfl, hP, hK, hD⟩ := hv
  have hx := B.exec
  have hb := B.bytes
  have hr := B.returns
  have hts : ∀ w ∈ (Cond.code yX10_goesTo cX10_goesTo 6 (some .boolean) :: wMa), w.before ([.ref h, .int p1] : List Value).toArray s = true := atoms_spec (ws := wsM_goesTo) B.pre
  have hin : ∀ w ∈ wMa, w ∈ (Cond.code yX10_goesTo cX10_goesTo 6 (some .boolean) :: wMa) := fun w hw => List.mem_cons_of_mem _ hw
  have hown : s.vm.findClass RX10 = some m.cls := findClass_of_methodNamed B.named
  have hlocks := B.notSynchronized
  have hS : va_S A s.heap s.heap [] := va_S.rf
  have b_2 : ∀ (x1_2 : Int32) (K_23 : MS → Option (Int32 × MS)) (k_23 : ∀ (σ_23 : MS) (H : Heap) (locs : List Loc) (ls : Array Slot), K_23 σ_23 = some q → va_P D vwCl (wM cI cZ h ad σ_23) H → va_D A (wM cI cZ h ad σ_23) → va_S A s.heap H locs → lv_has ls 6 [(0, .ref h), (1, .int x1_2)] → W p l e (headSpec wsM_goesTo { frames := 1, cells := 0, slots := 0, locals := 26 }).room s m ([.ref h, .int p1] : List Value).toArray below meth c H locs 0 0 (MQ below (va_Qi (fun x u => x = q.1 ∧ u = q.2) (preM D cI cZ h ad A) A) ([.ref h, .int p1] : List Value).toArray s 0 0 A) (F0 m 23 ls [])) (n_2 : Nat) (x2_2 : Int32) (σ_2 : MS) (H : Heap) (locs : List Loc) (ls : Array Slot), FM_goesTo_2 K_23 x1_2 n_2 x2_2 σ_2 = some q → va_P D vwCl (wM cI cZ h ad σ_2) H → va_D A (wM cI cZ h ad σ_2) → va_S A s.heap H locs → lv_has ls 6 [(0, .ref h), (1, .int x1_2), (2, .int x2_2)] → W p l e (headSpec wsM_goesTo { frames := 1, cells := 0, slots := 0, locals := 26 }).room s m ([.ref h, .int p1] : List Value).toArray below meth c H locs 0 0 (MQ below (va_Qi (fun x u => x = q.1 ∧ u = q.2) (preM D cI cZ h ad A) A) ([.ref h, .int p1] : List Value).toArray s 0 0 A) (F0 m 2 ls []) := by
    intro x1_2 K_23 k_23
    intro n_2
    induction n_2 with
    | zero =>
      intro x2_2 σ_2 H locs ls hF hP hD hS hl
      exact absurd hF (by simp [FM_goesTo_2])
    | succ n_2 ih_2 =>
      intro x2_2 σ_2 H locs ls hF hP hD hS hl
      rw [FM_goesTo_2] at hF
      refine lv_iload_n hx hb dX10_goesTo_2 rfl (lv_at hl 2 rfl) ?_
      refine lv_aload_n hx hb dX10_goesTo_3 rfl (lv_at hl 0 rfl) ?_
      refine gM hx hb hts hin hown hK hP 6 (.int (σ_2.1 6)) (by decide) mf_145 rfl dX10_goesTo_4 ?_
      refine lv_icmp_ge (tgt := 23) hx hb dX10_goesTo_7 (by decide) (fun c_7 => ?_) (fun c_7 => ?_)
      · have hF := ob_t c_7 hF
        exact k_23 σ_2 _ _ _ hF hP hD hS (lv_sub hl [0, 1] rfl)
      · have hF := ob_f c_7 hF
        refine lv_aload_n hx hb dX10_goesTo_10 rfl (lv_at hl 0 rfl) ?_
        refine gM hx hb hts hin hown hK hP 46 (.ref (ad 46)) (by decide) mf_129 rfl dX10_goesTo_11 ?_
        refine lv_iload_n hx hb dX10_goesTo_14 rfl (lv_at hl 2 rfl) ?_
        refine lv_iconst (v := (0 : Int32)) hx hb dX10_goesTo_15 (by decide) ?_
        obtain ⟨g_16, hF⟩ := ob_gd hF
        refine stZ (y := (0 : Int32)) hx hb hK hP hD hS (at_46 _ _ _ _ _) rfl (st_46 _ _ _ _ _ _ _) g_16 dX10_goesTo_16 (fun H locs hP hD hS => ?_)
        refine lv_iinc (v := x2_2 + (1 : Int32)) (lv' := [(2, .int (x2_2 + (1 : Int32))), (0, .ref h), (1, .int x1_2)]) hx hb dX10_goesTo_17 hl (k := 2) rfl rfl (by decide) rfl (fun ls hl => ?_)
        refine lv_goto (tgt := 2) hx hb dX10_goesTo_20 (by decide) ?_
        exact ih_2 (x2_2 + (1 : Int32)) (sa σ_2 46 x2_2 (0 : Int32)) _ _ _ hF hP hD hS (lv_sub hl [1, 2, 0] rfl)
  have b_53 : ∀ (x1_53 : Int32) (x2_53 : Int32) (x4_53 : Int32) (K_147 : Int32 → MS → Option (Int32 × MS)) (k_147 : ∀ (x3_147 : Int32) (σ_147 : MS) (H : Heap) (locs : List Loc) (ls : Array Slot), K_147 x3_147 σ_147 = some q → va_P D vwCl (wM cI cZ h ad σ_147) H → va_D A (wM cI cZ h ad σ_147) → va_S A s.heap H locs → lv_has ls 6 [(0, .ref h), (1, .int x1_53), (2, .int x2_53), (3, .int x3_147)] → W p l e (headSpec wsM_goesTo { frames := 1, cells := 0, slots := 0, locals := 26 }).room s m ([.ref h, .int p1] : List Value).toArray below meth c H locs 0 0 (MQ below (va_Qi (fun x u => x = q.1 ∧ u = q.2) (preM D cI cZ h ad A) A) ([.ref h, .int p1] : List Value).toArray s 0 0 A) (F0 m 147 ls [])) (K_116 : Int32 → MS → Option (Int32 × MS)) (k_116 : ∀ (x5_116 : Int32) (σ_116 : MS) (H : Heap) (locs : List Loc) (ls : Array Slot), K_116 x5_116 σ_116 = some q → va_P D vwCl (wM cI cZ h ad σ_116) H → va_D A (wM cI cZ h ad σ_116) → va_S A s.heap H locs → lv_has ls 6 [(0, .ref h), (1, .int x1_53), (5, .int x5_116)] → W p l e (headSpec wsM_goesTo { frames := 1, cells := 0, slots := 0, locals := 26 }).room s m ([.ref h, .int p1] : List Value).toArray below meth c H locs 0 0 (MQ below (va_Qi (fun x u => x = q.1 ∧ u = q.2) (preM D cI cZ h ad A) A) ([.ref h, .int p1] : List Value).toArray s 0 0 A) (F0 m 116 ls [])) (n_53 : Nat) (x3_53 : Int32) (x5_53 : Int32) (σ_53 : MS) (H : Heap) (locs : List Loc) (ls : Array Slot), FM_goesTo_53 K_147 K_116 x1_53 x2_53 x4_53 n_53 x3_53 x5_53 σ_53 = some q → va_P D vwCl (wM cI cZ h ad σ_53) H → va_D A (wM cI cZ h ad σ_53) → va_S A s.heap H locs → lv_has ls 6 [(0, .ref h), (1, .int x1_53), (2, .int x2_53), (3, .int x3_53), (4, .int x4_53), (5, .int x5_53)] → W p l e (headSpec wsM_goesTo { frames := 1, cells := 0, slots := 0, locals := 26 }).room s m ([.ref h, .int p1] : List Value).toArray below meth c H locs 0 0 (MQ below (va_Qi (fun x u => x = q.1 ∧ u = q.2) (preM D cI cZ h ad A) A) ([.ref h, .int p1] : List Value).toArray s 0 0 A) (F0 m 53 ls []) := by
    intro x1_53 x2_53 x4_53 K_147 k_147 K_116 k_116
    intro n_53
    induction n_53 with
    | zero =>
      intro x3_53 x5_53 σ_53 H locs ls hF hP hD hS hl
      exact absurd hF (by simp [FM_goesTo_53])
    | succ n_53 ih_53 =>
      intro x3_53 x5_53 σ_53 H locs ls hF hP hD hS hl
      rw [FM_goesTo_53] at hF
      refine lv_iload hx hb dX10_goesTo_53 (lv_at hl 5 rfl) ?_
      refine lv_aload_n hx hb dX10_goesTo_55 rfl (lv_at hl 0 rfl) ?_
      refine gM hx hb hts hin hown hK hP 6 (.int (σ_53.1 6)) (by decide) mf_145 rfl dX10_goesTo_56 ?_
      refine lv_icmp_ge (tgt := 147) hx hb dX10_goesTo_59 (by decide) (fun c_59 => ?_) (fun c_59 => ?_)
      · have hF := ob_t c_59 hF
        exact k_147 x3_53 σ_53 _ _ _ hF hP hD hS (lv_sub hl [0, 1, 2, 3] rfl)
      · have hF := ob_f c_59 hF
        refine lv_aload_n hx hb dX10_goesTo_62 rfl (lv_at hl 0 rfl) ?_
        refine gM hx hb hts hin hown hK hP 41 (.ref (ad 41)) (by decide) mf_114 rfl dX10_goesTo_63 ?_
        refine lv_iload hx hb dX10_goesTo_66 (lv_at hl 4 rfl) ?_
        obtain ⟨g_68, hF⟩ := ob_gd hF
        refine ldI hx hb hK hP (at_41 _ _ _ _ _) (σ_53.2 41 x4_53.toNatClampNeg) g_68 rfl dX10_goesTo_68 ?_
        refine lv_iload hx hb dX10_goesTo_69 (lv_at hl 5 rfl) ?_
        refine lv_ishr hx hb dX10_goesTo_71 ?_
        refine lv_iconst (v := (1 : Int32)) hx hb dX10_goesTo_72 (by decide) ?_
        refine lv_iand hx hb dX10_goesTo_73 ?_
        refine lv_iconst (v := (1 : Int32)) hx hb dX10_goesTo_74 (by decide) ?_
        refine lv_icmp_ne (tgt := 141) hx hb dX10_goesTo_75 (by decide) (fun c_75 => ?_) (fun c_75 => ?_)
        · have hF := ob_f c_75 hF
          refine lv_iinc (v := x5_53 + (1 : Int32)) (lv' := [(5, .int (x5_53 + (1 : Int32))), (0, .ref h), (1, .int x1_53), (2, .int x2_53), (3, .int x3_53), (4, .int x4_53)]) hx hb dX10_goesTo_141 hl (k := 5) rfl rfl (by decide) rfl (fun ls hl => ?_)
          refine lv_goto (tgt := 53) hx hb dX10_goesTo_144 (by decide) ?_
          exact ih_53 x3_53 (x5_53 + (1 : Int32)) σ_53 _ _ _ hF hP hD hS (lv_sub hl [1, 2, 3, 4, 5, 0] rfl)
        · have hF := ob_t c_75 hF
          refine lv_aload_n hx hb dX10_goesTo_78 rfl (lv_at hl 0 rfl) ?_
          refine gM hx hb hts hin hown hK hP 46 (.ref (ad 46)) (by decide) mf_129 rfl dX10_goesTo_79 ?_
          refine lv_iload hx hb dX10_goesTo_82 (lv_at hl 5 rfl) ?_
          obtain ⟨g_84, hF⟩ := ob_gd hF
          refine ldZ hx hb hK hP (at_46 _ _ _ _ _) (σ_53.2 46 x5_53.toNatClampNeg) g_84 rfl dX10_goesTo_84 ?_
          refine lv_if_ne (tgt := 141) hx hb dX10_goesTo_85 (by decide) (fun c_85 => ?_) (fun c_85 => ?_)
          · have hF := ob_f c_85 hF
            refine lv_iinc (v := x5_53 + (1 : Int32)) (lv' := [(5, .int (x5_53 + (1 : Int32))), (0, .ref h), (1, .int x1_53), (2, .int x2_53), (3, .int x3_53), (4, .int x4_53)]) hx hb dX10_goesTo_141 hl (k := 5) rfl rfl (by decide) rfl (fun ls hl => ?_)
            refine lv_goto (tgt := 53) hx hb dX10_goesTo_144 (by decide) ?_
            exact ih_53 x3_53 (x5_53 + (1 : Int32)) σ_53 _ _ _ hF hP hD hS (lv_sub hl [1, 2, 3, 4, 5, 0] rfl)
          · have hF := ob_t c_85 hF
            refine lv_aload_n hx hb dX10_goesTo_88 rfl (lv_at hl 0 rfl) ?_
            refine gM hx hb hts hin hown hK hP 46 (.ref (ad 46)) (by decide) mf_129 rfl dX10_goesTo_89 ?_
            refine lv_iload hx hb dX10_goesTo_92 (lv_at hl 5 rfl) ?_
            refine lv_iconst (v := (1 : Int32)) hx hb dX10_goesTo_94 (by decide) ?_
            obtain ⟨g_95, hF⟩ := ob_gd hF
            refine stZ (y := (1 : Int32)) hx hb hK hP hD hS (at_46 _ _ _ _ _) rfl (st_46 _ _ _ _ _ _ _) g_95 dX10_goesTo_95 (fun H locs hP hD hS => ?_)
            refine lv_aload_n hx hb dX10_goesTo_96 rfl (lv_at hl 0 rfl) ?_
            refine gM hx hb hts hin hown hK hP 44 (.ref (ad 44)) (by decide) mf_123 rfl dX10_goesTo_97 ?_
            refine lv_iload hx hb dX10_goesTo_100 (lv_at hl 5 rfl) ?_
            refine lv_iload hx hb dX10_goesTo_102 (lv_at hl 4 rfl) ?_
            obtain ⟨g_104, hF⟩ := ob_gd hF
            refine stI hx hb hK hP hD hS (at_44 _ _ _ _ _) (st_44 _ _ _ _ _ _ _) g_104 dX10_goesTo_104 (fun H locs hP hD hS => ?_)
            refine lv_aload_n hx hb dX10_goesTo_105 rfl (lv_at hl 0 rfl) ?_
            refine gM hx hb hts hin hown hK hP 42 (.ref (ad 42)) (by decide) mf_117 rfl dX10_goesTo_106 ?_
            refine lv_iload hx hb dX10_goesTo_109 (lv_at hl 5 rfl) ?_
            obtain ⟨g_111, hF⟩ := ob_gd hF
            refine ldI hx hb hK hP (at_42 _ _ _ _ _) (σ_53.2 42 x5_53.toNatClampNeg) g_111 rfl dX10_goesTo_111 ?_
            refine lv_iconst (v := (-1 : Int32)) hx hb dX10_goesTo_112 (by decide) ?_
            refine lv_icmp_ne (tgt := 125) hx hb dX10_goesTo_113 (by decide) (fun c_113 => ?_) (fun c_113 => ?_)
            · have hF := ob_f c_113 hF
              refine lv_aload_n hx hb dX10_goesTo_125 rfl (lv_at hl 0 rfl) ?_
              refine gM hx hb hts hin hown hK hP 45 (.ref (ad 45)) (by decide) mf_126 rfl dX10_goesTo_126 ?_
              refine lv_iload_n hx hb dX10_goesTo_129 rfl (lv_at hl 3 rfl) ?_
              refine lv_aload_n hx hb dX10_goesTo_130 rfl (lv_at hl 0 rfl) ?_
              refine gM hx hb hts hin hown hK hP 42 (.ref (ad 42)) (by decide) mf_117 rfl dX10_goesTo_131 ?_
              refine lv_iload hx hb dX10_goesTo_134 (lv_at hl 5 rfl) ?_
              obtain ⟨g_136, hF⟩ := ob_gd hF
              refine ldI hx hb hK hP (at_42 _ _ _ _ _) (σ_53.2 42 x5_53.toNatClampNeg) g_136 rfl dX10_goesTo_136 ?_
              obtain ⟨g_137, hF⟩ := ob_gd hF
              refine stI hx hb hK hP hD hS (at_45 _ _ _ _ _) (st_45 _ _ _ _ _ _ _) g_137 dX10_goesTo_137 (fun H locs hP hD hS => ?_)
              refine lv_iinc (v := x3_53 + (1 : Int32)) (lv' := [(3, .int (x3_53 + (1 : Int32))), (0, .ref h), (1, .int x1_53), (2, .int x2_53), (4, .int x4_53), (5, .int x5_53)]) hx hb dX10_goesTo_138 hl (k := 3) rfl rfl (by decide) rfl (fun ls hl => ?_)
              refine lv_iinc (v := x5_53 + (1 : Int32)) (lv' := [(5, .int (x5_53 + (1 : Int32))), (3, .int (x3_53 + (1 : Int32))), (0, .ref h), (1, .int x1_53), (2, .int x2_53), (4, .int x4_53)]) hx hb dX10_goesTo_141 hl (k := 5) rfl rfl (by decide) rfl (fun ls hl => ?_)
              refine lv_goto (tgt := 53) hx hb dX10_goesTo_144 (by decide) ?_
              exact ih_53 (x3_53 + (1 : Int32)) (x5_53 + (1 : Int32)) (sa (sa (sa σ_53 46 x5_53 (1 : Int32)) 44 x5_53 x4_53) 45 x3_53 (σ_53.2 42 x5_53.toNatClampNeg)) _ _ _ hF hP hD hS (lv_sub hl [2, 3, 4, 1, 5, 0] rfl)
            · have hF := ob_t c_113 hF
              exact k_116 x5_53 (sa (sa σ_53 46 x5_53 (1 : Int32)) 44 x5_53 x4_53) _ _ _ hF hP hD hS (lv_sub hl [0, 1, 5] rfl)
  have b_147 : ∀ (x1_147 : Int32) (x2_147 : Int32) (x3_147 : Int32) (K_34 : Int32 → Int32 → MS → Option (Int32 × MS)) (k_34 : ∀ (x2_34 : Int32) (x3_34 : Int32) (σ_34 : MS) (H : Heap) (locs : List Loc) (ls : Array Slot), K_34 x2_34 x3_34 σ_34 = some q → va_P D vwCl (wM cI cZ h ad σ_34) H → va_D A (wM cI cZ h ad σ_34) → va_S A s.heap H locs → lv_has ls 6 [(0, .ref h), (1, .int x1_147), (2, .int x2_34), (3, .int x3_34)] → W p l e (headSpec wsM_goesTo { frames := 1, cells := 0, slots := 0, locals := 26 }).room s m ([.ref h, .int p1] : List Value).toArray below meth c H locs 0 0 (MQ below (va_Qi (fun x u => x = q.1 ∧ u = q.2) (preM D cI cZ h ad A) A) ([.ref h, .int p1] : List Value).toArray s 0 0 A) (F0 m 34 ls [])) (σ_147 : MS) (H : Heap) (locs : List Loc) (ls : Array Slot), FM_goesTo_147 K_34 x1_147 x2_147 x3_147 σ_147 = some q → va_P D vwCl (wM cI cZ h ad σ_147) H → va_D A (wM cI cZ h ad σ_147) → va_S A s.heap H locs → lv_has ls 6 [(0, .ref h), (1, .int x1_147), (2, .int x2_147), (3, .int x3_147)] → W p l e (headSpec wsM_goesTo { frames := 1, cells := 0, slots := 0, locals := 26 }).room s m ([.ref h, .int p1] : List Value).toArray below meth c H locs 0 0 (MQ below (va_Qi (fun x u => x = q.1 ∧ u = q.2) (preM D cI cZ h ad A) A) ([.ref h, .int p1] : List Value).toArray s 0 0 A) (F0 m 147 ls []) := by
    intro x1_147 x2_147 x3_147 K_34 k_34 σ_147 H locs ls hF hP hD hS hl
    unfold FM_goesTo_147 at hF
    refine lv_goto (tgt := 34) hx hb dX10_goesTo_147 (by decide) ?_
    exact k_34 x2_147 x3_147 σ_147 _ _ _ hF hP hD hS hl
  have b_34 : ∀ (x1_34 : Int32) (K_116 : Int32 → MS → Option (Int32 × MS)) (k_116 : ∀ (x5_116 : Int32) (σ_116 : MS) (H : Heap) (locs : List Loc) (ls : Array Slot), K_116 x5_116 σ_116 = some q → va_P D vwCl (wM cI cZ h ad σ_116) H → va_D A (wM cI cZ h ad σ_116) → va_S A s.heap H locs → lv_has ls 6 [(0, .ref h), (1, .int x1_34), (5, .int x5_116)] → W p l e (headSpec wsM_goesTo { frames := 1, cells := 0, slots := 0, locals := 26 }).room s m ([.ref h, .int p1] : List Value).toArray below meth c H locs 0 0 (MQ below (va_Qi (fun x u => x = q.1 ∧ u = q.2) (preM D cI cZ h ad A) A) ([.ref h, .int p1] : List Value).toArray s 0 0 A) (F0 m 116 ls [])) (n_34 : Nat) (x2_34 : Int32) (x3_34 : Int32) (σ_34 : MS) (H : Heap) (locs : List Loc) (ls : Array Slot), FM_goesTo_34 K_116 x1_34 n_34 x2_34 x3_34 σ_34 = some q → va_P D vwCl (wM cI cZ h ad σ_34) H → va_D A (wM cI cZ h ad σ_34) → va_S A s.heap H locs → lv_has ls 6 [(0, .ref h), (1, .int x1_34), (2, .int x2_34), (3, .int x3_34)] → W p l e (headSpec wsM_goesTo { frames := 1, cells := 0, slots := 0, locals := 26 }).room s m ([.ref h, .int p1] : List Value).toArray below meth c H locs 0 0 (MQ below (va_Qi (fun x u => x = q.1 ∧ u = q.2) (preM D cI cZ h ad A) A) ([.ref h, .int p1] : List Value).toArray s 0 0 A) (F0 m 34 ls []) := by
    intro x1_34 K_116 k_116
    intro n_34
    induction n_34 with
    | zero =>
      intro x2_34 x3_34 σ_34 H locs ls hF hP hD hS hl
      exact absurd hF (by simp [FM_goesTo_34])
    | succ n_34 ih_34 =>
      intro x2_34 x3_34 σ_34 H locs ls hF hP hD hS hl
      rw [FM_goesTo_34] at hF
      refine lv_iload_n hx hb dX10_goesTo_34 rfl (lv_at hl 2 rfl) ?_
      refine lv_iload_n hx hb dX10_goesTo_35 rfl (lv_at hl 3 rfl) ?_
      refine lv_icmp_ge (tgt := 150) hx hb dX10_goesTo_36 (by decide) (fun c_36 => ?_) (fun c_36 => ?_)
      · have hF := ob_t c_36 hF
        refine lv_iconst (v := (0 : Int32)) hx hb dX10_goesTo_150 (by decide) ?_
        exact rxM hx hb hr hlocks rfl hF hK hP hD hS dX10_goesTo_151
      · have hF := ob_f c_36 hF
        refine lv_aload_n hx hb dX10_goesTo_39 rfl (lv_at hl 0 rfl) ?_
        refine gM hx hb hts hin hown hK hP 45 (.ref (ad 45)) (by decide) mf_126 rfl dX10_goesTo_40 ?_
        refine lv_iload_n hx hb dX10_goesTo_43 rfl (lv_at hl 2 rfl) ?_
        obtain ⟨g_44, hF⟩ := ob_gd hF
        refine ldI hx hb hK hP (at_45 _ _ _ _ _) (σ_34.2 45 x2_34.toNatClampNeg) g_44 rfl dX10_goesTo_44 ?_
        refine lv_istore (lv' := [(4, .int (σ_34.2 45 x2_34.toNatClampNeg)), (0, .ref h), (1, .int x1_34), (2, .int x2_34), (3, .int x3_34)]) hx hb dX10_goesTo_45 hl (by decide) rfl (fun ls hl => ?_)
        refine lv_iinc (v := x2_34 + (1 : Int32)) (lv' := [(2, .int (x2_34 + (1 : Int32))), (4, .int (σ_34.2 45 x2_34.toNatClampNeg)), (0, .ref h), (1, .int x1_34), (3, .int x3_34)]) hx hb dX10_goesTo_47 hl (k := 3) rfl rfl (by decide) rfl (fun ls hl => ?_)
        refine lv_iconst (v := (0 : Int32)) hx hb dX10_goesTo_50 (by decide) ?_
        refine lv_istore (lv' := [(5, .int (0 : Int32)), (2, .int (x2_34 + (1 : Int32))), (4, .int (σ_34.2 45 x2_34.toNatClampNeg)), (0, .ref h), (1, .int x1_34), (3, .int x3_34)]) hx hb dX10_goesTo_51 hl (by decide) rfl (fun ls hl => ?_)
        exact b_53 x1_34 (x2_34 + (1 : Int32)) (σ_34.2 45 x2_34.toNatClampNeg) (fun x3_147 σ_147 => FM_goesTo_147 (fun x2_34 x3_34 σ_34 => FM_goesTo_34 K_116 x1_34 n_34 x2_34 x3_34 σ_34) x1_34 (x2_34 + (1 : Int32)) x3_147 σ_147) (fun x3_147 σ_147 => b_147 x1_34 (x2_34 + (1 : Int32)) x3_147 (fun x2_34 x3_34 σ_34 => FM_goesTo_34 K_116 x1_34 n_34 x2_34 x3_34 σ_34) ih_34 σ_147) K_116 k_116 fu x3_34 (0 : Int32) σ_34 _ _ _ hF hP hD hS (lv_sub hl [3, 4, 1, 5, 2, 0] rfl)
  have b_116 : ∀ (x1_116 : Int32) (x5_116 : Int32) (σ_116 : MS) (H : Heap) (locs : List Loc) (ls : Array Slot), FM_goesTo_116 x1_116 x5_116 σ_116 = some q → va_P D vwCl (wM cI cZ h ad σ_116) H → va_D A (wM cI cZ h ad σ_116) → va_S A s.heap H locs → lv_has ls 6 [(0, .ref h), (1, .int x1_116), (5, .int x5_116)] → W p l e (headSpec wsM_goesTo { frames := 1, cells := 0, slots := 0, locals := 26 }).room s m ([.ref h, .int p1] : List Value).toArray below meth c H locs 0 0 (MQ below (va_Qi (fun x u => x = q.1 ∧ u = q.2) (preM D cI cZ h ad A) A) ([.ref h, .int p1] : List Value).toArray s 0 0 A) (F0 m 116 ls []) := by
    intro x1_116 x5_116 σ_116 H locs ls hF hP hD hS hl
    unfold FM_goesTo_116 at hF
    refine lv_aload_n hx hb dX10_goesTo_116 rfl (lv_at hl 0 rfl) ?_
    refine lv_iload_n hx hb dX10_goesTo_117 rfl (lv_at hl 1 rfl) ?_
    refine lv_iload hx hb dX10_goesTo_118 (lv_at hl 2 rfl) ?_
    obtain ⟨q_120, e_120, hF⟩ := ob_bd hF
    refine cvM (As := [.int x1_116, .int x5_116]) (rest := []) ⟨hx, hb, hml, hown, hts⟩ (cM_gives l D cI cZ h ad A σ_116 x1_116 x5_116 _ e_120) (cw_gives hts ⟨Nat.le_of_ble_eq_true rfl, Nat.le_of_ble_eq_true rfl⟩) hK hP hD hS rfl hl.1 rfl (lv_room (Nat.le_of_ble_eq_true rfl)) dX10_goesTo_120 (fun H locs hP hD hS => ?_)
    refine lv_iconst (v := (1 : Int32)) hx hb dX10_goesTo_123 (by decide) ?_
    exact rxM hx hb hr hlocks rfl hF hK hP hD hS dX10_goesTo_124
  have b_23 : ∀ (x1_23 : Int32) (σ_23 : MS) (H : Heap) (locs : List Loc) (ls : Array Slot), FM_goesTo_23 x1_23 σ_23 = some q → va_P D vwCl (wM cI cZ h ad σ_23) H → va_D A (wM cI cZ h ad σ_23) → va_S A s.heap H locs → lv_has ls 6 [(0, .ref h), (1, .int x1_23)] → W p l e (headSpec wsM_goesTo { frames := 1, cells := 0, slots := 0, locals := 26 }).room s m ([.ref h, .int p1] : List Value).toArray below meth c H locs 0 0 (MQ below (va_Qi (fun x u => x = q.1 ∧ u = q.2) (preM D cI cZ h ad A) A) ([.ref h, .int p1] : List Value).toArray s 0 0 A) (F0 m 23 ls []) := by
    intro x1_23 σ_23 H locs ls hF hP hD hS hl
    unfold FM_goesTo_23 at hF
    refine lv_iconst (v := (0 : Int32)) hx hb dX10_goesTo_23 (by decide) ?_
    refine lv_istore_n (lv' := [(2, .int (0 : Int32)), (0, .ref h), (1, .int x1_23)]) hx hb dX10_goesTo_24 rfl hl (by decide) rfl (fun ls hl => ?_)
    refine lv_iconst (v := (1 : Int32)) hx hb dX10_goesTo_25 (by decide) ?_
    refine lv_istore_n (lv' := [(3, .int (1 : Int32)), (2, .int (0 : Int32)), (0, .ref h), (1, .int x1_23)]) hx hb dX10_goesTo_26 rfl hl (by decide) rfl (fun ls hl => ?_)
    refine lv_aload_n hx hb dX10_goesTo_27 rfl (lv_at hl 2 rfl) ?_
    refine gM hx hb hts hin hown hK hP 45 (.ref (ad 45)) (by decide) mf_126 rfl dX10_goesTo_28 ?_
    refine lv_iconst (v := (0 : Int32)) hx hb dX10_goesTo_31 (by decide) ?_
    refine lv_iload_n hx hb dX10_goesTo_32 rfl (lv_at hl 3 rfl) ?_
    obtain ⟨g_33, hF⟩ := ob_gd hF
    refine stI hx hb hK hP hD hS (at_45 _ _ _ _ _) (st_45 _ _ _ _ _ _ _) g_33 dX10_goesTo_33 (fun H locs hP hD hS => ?_)
    exact b_34 x1_23 (fun x5_116 σ_116 => FM_goesTo_116 x1_23 x5_116 σ_116) (fun x5_116 σ_116 => b_116 x1_23 x5_116 σ_116) fu (0 : Int32) (1 : Int32) (sa σ_23 45 (0 : Int32) x1_23) _ _ _ hF hP hD hS (lv_sub hl [2, 3, 1, 0] rfl)
  have hl := lv_entry ([.ref h, .int p1]) (n := 6) (Nat.le_of_ble_eq_true rfl)
  rw [lg_entry_eq]
  generalize (lg_sl ([.ref h, .int p1]) ++ List.replicate (6 - (lg_sl ([.ref h, .int p1])).length) Slot.unset).toArray = ls at hl ⊢
  have hl : lv_has ls 6 [(0, .ref h), (1, .int p1)] := hl
  unfold FM_goesTo at hF
  refine lv_iconst (v := (0 : Int32)) hx hb dX10_goesTo_0 (by decide) ?_
  refine lv_istore_n (lv' := [(2, .int (0 : Int32)), (0, .ref h), (1, .int p1)]) hx hb dX10_goesTo_1 rfl hl (by decide) rfl (fun ls hl => ?_)
  exact b_2 p1 (fun σ_23 => FM_goesTo_23 p1 σ_23) (fun σ_23 => b_23 p1 σ_23) fu (0 : Int32) σ _ _ _ hF hP hD hS (lv_sub hl [1, 2, 0] rfl)
def FM_most_2 (K_21 : MS → Option (Int32 × MS)) : Nat → Int32 → MS → Option (Int32 × MS)
  | 0, _, _ => none
  | n_2 + 1, x1_2, σ_2 => (if (30 : Int32) ≤ x1_2 then (K_21 σ_2) else (gd (inb x1_2 30) (FM_most_2 K_21 n_2 (x1_2 + (1 : Int32)) (sa σ_2 42 x1_2 (-1 : Int32)))))
def FM_most_25 (K_44 : MS → Option (Int32 × MS)) (x1_25 : Int32) : Nat → Int32 → MS → Option (Int32 × MS)
  | 0, _, _ => none
  | n_25 + 1, x2_25, σ_25 => (if (10 : Int32) ≤ x2_25 then (K_44 σ_25) else (gd (inb x2_25 10) (FM_most_25 K_44 x1_25 n_25 (x2_25 + (1 : Int32)) (sa σ_25 47 x2_25 (-1 : Int32)))))
def FM_most_75 (K_46 : Int32 → Int32 → MS → Option (Int32 × MS)) (x2_75 : Int32) (t0_75 : Int32) (t1_75 : Int32) (σ_75 : MS) : Option (Int32 × MS) := (K_46 (t0_75 + t1_75) (x2_75 + (1 : Int32)) σ_75)
def FM_most_46 : Nat → Int32 → Int32 → MS → Option (Int32 × MS)
  | 0, _, _, _ => none
  | n_46 + 1, x1_46, x2_46, σ_46 => (if (10 : Int32) ≤ x2_46 then (some (x1_46, σ_46)) else (gd (inb x2_46 10) (if (σ_46.2 41 x2_46.toNatClampNeg) = 0 then (FM_most_75 (fun x1_46 x2_46 σ_46 => FM_most_46  n_46 x1_46 x2_46 σ_46) x2_46 x1_46 (0 : Int32) σ_46) else ((FM_goesTo σ_46 x2_46).bind fun q_64 => (if q_64.1 = 0 then (FM_most_75 (fun x1_46 x2_46 σ_46 => FM_most_46  n_46 x1_46 x2_46 σ_46) x2_46 x1_46 (0 : Int32) q_64.2) else (FM_most_75 (fun x1_46 x2_46 σ_46 => FM_most_46  n_46 x1_46 x2_46 σ_46) x2_46 x1_46 (1 : Int32) q_64.2))))))
def FM_most_44 (x1_44 : Int32) (σ_44 : MS) : Option (Int32 × MS) := (FM_most_46 fu x1_44 (0 : Int32) σ_44)
def FM_most_21 (σ_21 : MS) : Option (Int32 × MS) := (FM_most_25 (fun σ_44 => FM_most_44 (0 : Int32) σ_44) (0 : Int32) fu (0 : Int32) σ_21)
def FM_most (σ : MS) : Option (Int32 × MS) := (FM_most_2 (fun σ_21 => FM_most_21 σ_21) fu (0 : Int32) σ)
def wsM_most : List Cond := Cond.code yX10_most cX10_most 3 (some .int) :: wMa
theorem cw_most {R : Room} {s : State} {args : Array Value} {y : MethodName} {c : ByteArray} {n : Nat} {r : Option FieldType} (hts : ∀ w ∈ (Cond.code y c n r :: wMa), w.before args s = true) (hR : 2 + 1 ≤ R.frames ∧ 8 + (3 + 11) + 51 ≤ R.locals) : CallW R s args RX10 RX10 273 yX10_most cX10_most 3 (some .int) wsM_most { frames := 2, cells := 0, slots := 0, locals := 51 } 0 0 0 := cwV 0 hts (goodMV mm_273 mi_most ms_most m_ini mc_most) rfl rfl rfl (by decide +kernel) hR
set_option maxHeartbeats 4000000 in
set_option maxRecDepth 100000 in
theorem cM_most (l : Launch) (D : va_G) (cI cZ : ClassId) (h : Nat) (ad : Nat → Nat) (A : Nat → Prop) (σ : MS) (q : Int32 × MS) (hF : FM_most σ = some q) : Met l yX10_most wsM_most { frames := 2, cells := 0, slots := 0, locals := 51 } (va_Pc [.ref h] (preM D cI cZ h ad A σ)) (va_Qi (fun x u => x = q.1 ∧ u = q.2) (preM D cI cZ h ad A) A) 0 0 A := by
  refine Met.ofW (cc := cX10_most) (maxL := 3) (ret := (some .int)) (by decide) rfl ?_
  intro p e s m args below meth c s₁ B hml hv
  obtain ⟨rfl, hP, hK, hD⟩ := hv
  have hx := B.exec
  have hb := B.bytes
  have hr := B.returns
  have hts : ∀ w ∈ (Cond.code yX10_most cX10_most 3 (some .int) :: wMa), w.before ([.ref h] : List Value).toArray s = true := atoms_spec (ws := wsM_most) B.pre
  have hin : ∀ w ∈ wMa, w ∈ (Cond.code yX10_most cX10_most 3 (some .int) :: wMa) := fun w hw => List.mem_cons_of_mem _ hw
  have hown : s.vm.findClass RX10 = some m.cls := findClass_of_methodNamed B.named
  have hlocks := B.notSynchronized
  have hS : va_S A s.heap s.heap [] := va_S.rf
  have b_2 : ∀ (K_21 : MS → Option (Int32 × MS)) (k_21 : ∀ (σ_21 : MS) (H : Heap) (locs : List Loc) (ls : Array Slot), K_21 σ_21 = some q → va_P D vwCl (wM cI cZ h ad σ_21) H → va_D A (wM cI cZ h ad σ_21) → va_S A s.heap H locs → lv_has ls 3 [(0, .ref h)] → W p l e (headSpec wsM_most { frames := 2, cells := 0, slots := 0, locals := 51 }).room s m ([.ref h] : List Value).toArray below meth c H locs 0 0 (MQ below (va_Qi (fun x u => x = q.1 ∧ u = q.2) (preM D cI cZ h ad A) A) ([.ref h] : List Value).toArray s 0 0 A) (F0 m 21 ls [])) (n_2 : Nat) (x1_2 : Int32) (σ_2 : MS) (H : Heap) (locs : List Loc) (ls : Array Slot), FM_most_2 K_21 n_2 x1_2 σ_2 = some q → va_P D vwCl (wM cI cZ h ad σ_2) H → va_D A (wM cI cZ h ad σ_2) → va_S A s.heap H locs → lv_has ls 3 [(0, .ref h), (1, .int x1_2)] → W p l e (headSpec wsM_most { frames := 2, cells := 0, slots := 0, locals := 51 }).room s m ([.ref h] : List Value).toArray below meth c H locs 0 0 (MQ below (va_Qi (fun x u => x = q.1 ∧ u = q.2) (preM D cI cZ h ad A) A) ([.ref h] : List Value).toArray s 0 0 A) (F0 m 2 ls []) := by
    intro K_21 k_21
    intro n_2
    induction n_2 with
    | zero =>
      intro x1_2 σ_2 H locs ls hF hP hD hS hl
      exact absurd hF (by simp [FM_most_2])
    | succ n_2 ih_2 =>
      intro x1_2 σ_2 H locs ls hF hP hD hS hl
      rw [FM_most_2] at hF
      refine lv_iload_n hx hb dX10_most_2 rfl (lv_at hl 1 rfl) ?_
      refine lv_bipush (v := (30 : Int32)) hx hb dX10_most_3 (by decide) ?_
      refine lv_icmp_ge (tgt := 21) hx hb dX10_most_5 (by decide) (fun c_5 => ?_) (fun c_5 => ?_)
      · have hF := ob_t c_5 hF
        exact k_21 σ_2 _ _ _ hF hP hD hS (lv_sub hl [0] rfl)
      · have hF := ob_f c_5 hF
        refine lv_aload_n hx hb dX10_most_8 rfl (lv_at hl 0 rfl) ?_
        refine gM hx hb hts hin hown hK hP 42 (.ref (ad 42)) (by decide) mf_117 rfl dX10_most_9 ?_
        refine lv_iload_n hx hb dX10_most_12 rfl (lv_at hl 1 rfl) ?_
        refine lv_iconst (v := (-1 : Int32)) hx hb dX10_most_13 (by decide) ?_
        obtain ⟨g_14, hF⟩ := ob_gd hF
        refine stI hx hb hK hP hD hS (at_42 _ _ _ _ _) (st_42 _ _ _ _ _ _ _) g_14 dX10_most_14 (fun H locs hP hD hS => ?_)
        refine lv_iinc (v := x1_2 + (1 : Int32)) (lv' := [(1, .int (x1_2 + (1 : Int32))), (0, .ref h)]) hx hb dX10_most_15 hl (k := 1) rfl rfl (by decide) rfl (fun ls hl => ?_)
        refine lv_goto (tgt := 2) hx hb dX10_most_18 (by decide) ?_
        exact ih_2 (x1_2 + (1 : Int32)) (sa σ_2 42 x1_2 (-1 : Int32)) _ _ _ hF hP hD hS (lv_sub hl [1, 0] rfl)
  have b_25 : ∀ (x1_25 : Int32) (K_44 : MS → Option (Int32 × MS)) (k_44 : ∀ (σ_44 : MS) (H : Heap) (locs : List Loc) (ls : Array Slot), K_44 σ_44 = some q → va_P D vwCl (wM cI cZ h ad σ_44) H → va_D A (wM cI cZ h ad σ_44) → va_S A s.heap H locs → lv_has ls 3 [(0, .ref h), (1, .int x1_25)] → W p l e (headSpec wsM_most { frames := 2, cells := 0, slots := 0, locals := 51 }).room s m ([.ref h] : List Value).toArray below meth c H locs 0 0 (MQ below (va_Qi (fun x u => x = q.1 ∧ u = q.2) (preM D cI cZ h ad A) A) ([.ref h] : List Value).toArray s 0 0 A) (F0 m 44 ls [])) (n_25 : Nat) (x2_25 : Int32) (σ_25 : MS) (H : Heap) (locs : List Loc) (ls : Array Slot), FM_most_25 K_44 x1_25 n_25 x2_25 σ_25 = some q → va_P D vwCl (wM cI cZ h ad σ_25) H → va_D A (wM cI cZ h ad σ_25) → va_S A s.heap H locs → lv_has ls 3 [(0, .ref h), (1, .int x1_25), (2, .int x2_25)] → W p l e (headSpec wsM_most { frames := 2, cells := 0, slots := 0, locals := 51 }).room s m ([.ref h] : List Value).toArray below meth c H locs 0 0 (MQ below (va_Qi (fun x u => x = q.1 ∧ u = q.2) (preM D cI cZ h ad A) A) ([.ref h] : List Value).toArray s 0 0 A) (F0 m 25 ls []) := by
    intro x1_25 K_44 k_44
    intro n_25
    induction n_25 with
    | zero =>
      intro x2_25 σ_25 H locs ls hF hP hD hS hl
      exact absurd hF (by simp [FM_most_25])
    | succ n_25 ih_25 =>
      intro x2_25 σ_25 H locs ls hF hP hD hS hl
      rw [FM_most_25] at hF
      refine lv_iload_n hx hb dX10_most_25 rfl (lv_at hl 2 rfl) ?_
      refine lv_bipush (v := (10 : Int32)) hx hb dX10_most_26 (by decide) ?_
      refine lv_icmp_ge (tgt := 44) hx hb dX10_most_28 (by decide) (fun c_28 => ?_) (fun c_28 => ?_)
      · have hF := ob_t c_28 hF
        exact k_44 σ_25 _ _ _ hF hP hD hS (lv_sub hl [0, 1] rfl)
      · have hF := ob_f c_28 hF
        refine lv_aload_n hx hb dX10_most_31 rfl (lv_at hl 0 rfl) ?_
        refine gM hx hb hts hin hown hK hP 47 (.ref (ad 47)) (by decide) mf_132 rfl dX10_most_32 ?_
        refine lv_iload_n hx hb dX10_most_35 rfl (lv_at hl 2 rfl) ?_
        refine lv_iconst (v := (-1 : Int32)) hx hb dX10_most_36 (by decide) ?_
        obtain ⟨g_37, hF⟩ := ob_gd hF
        refine stI hx hb hK hP hD hS (at_47 _ _ _ _ _) (st_47 _ _ _ _ _ _ _) g_37 dX10_most_37 (fun H locs hP hD hS => ?_)
        refine lv_iinc (v := x2_25 + (1 : Int32)) (lv' := [(2, .int (x2_25 + (1 : Int32))), (0, .ref h), (1, .int x1_25)]) hx hb dX10_most_38 hl (k := 2) rfl rfl (by decide) rfl (fun ls hl => ?_)
        refine lv_goto (tgt := 25) hx hb dX10_most_41 (by decide) ?_
        exact ih_25 (x2_25 + (1 : Int32)) (sa σ_25 47 x2_25 (-1 : Int32)) _ _ _ hF hP hD hS (lv_sub hl [1, 2, 0] rfl)
  have b_75 : ∀ (x2_75 : Int32) (K_46 : Int32 → Int32 → MS → Option (Int32 × MS)) (k_46 : ∀ (x1_46 : Int32) (x2_46 : Int32) (σ_46 : MS) (H : Heap) (locs : List Loc) (ls : Array Slot), K_46 x1_46 x2_46 σ_46 = some q → va_P D vwCl (wM cI cZ h ad σ_46) H → va_D A (wM cI cZ h ad σ_46) → va_S A s.heap H locs → lv_has ls 3 [(0, .ref h), (1, .int x1_46), (2, .int x2_46)] → W p l e (headSpec wsM_most { frames := 2, cells := 0, slots := 0, locals := 51 }).room s m ([.ref h] : List Value).toArray below meth c H locs 0 0 (MQ below (va_Qi (fun x u => x = q.1 ∧ u = q.2) (preM D cI cZ h ad A) A) ([.ref h] : List Value).toArray s 0 0 A) (F0 m 46 ls [])) (t0_75 : Int32) (t1_75 : Int32) (σ_75 : MS) (H : Heap) (locs : List Loc) (ls : Array Slot), FM_most_75 K_46 x2_75 t0_75 t1_75 σ_75 = some q → va_P D vwCl (wM cI cZ h ad σ_75) H → va_D A (wM cI cZ h ad σ_75) → va_S A s.heap H locs → lv_has ls 3 [(0, .ref h), (2, .int x2_75)] → W p l e (headSpec wsM_most { frames := 2, cells := 0, slots := 0, locals := 51 }).room s m ([.ref h] : List Value).toArray below meth c H locs 0 0 (MQ below (va_Qi (fun x u => x = q.1 ∧ u = q.2) (preM D cI cZ h ad A) A) ([.ref h] : List Value).toArray s 0 0 A) (F0 m 75 ls [.int t1_75, .int t0_75]) := by
    intro x2_75 K_46 k_46 t0_75 t1_75 σ_75 H locs ls hF hP hD hS hl
    unfold FM_most_75 at hF
    refine lv_iadd hx hb dX10_most_75 ?_
    refine lv_istore_n (lv' := [(1, .int (t0_75 + t1_75)), (0, .ref h), (2, .int x2_75)]) hx hb dX10_most_76 rfl hl (by decide) rfl (fun ls hl => ?_)
    refine lv_iinc (v := x2_75 + (1 : Int32)) (lv' := [(2, .int (x2_75 + (1 : Int32))), (1, .int (t0_75 + t1_75)), (0, .ref h)]) hx hb dX10_most_77 hl (k := 2) rfl rfl (by decide) rfl (fun ls hl => ?_)
    refine lv_goto (tgt := 46) hx hb dX10_most_80 (by decide) ?_
    exact k_46 (t0_75 + t1_75) (x2_75 + (1 : Int32)) σ_75 _ _ _ hF hP hD hS (lv_sub hl [2, 1, 0] rfl)
  have b_46 : ∀ (n_46 : Nat) (x1_46 : Int32) (x2_46 : Int32) (σ_46 : MS) (H : Heap) (locs : List Loc) (ls : Array Slot), FM_most_46 n_46 x1_46 x2_46 σ_46 = some q → va_P D vwCl (wM cI cZ h ad σ_46) H → va_D A (wM cI cZ h ad σ_46) → va_S A s.heap H locs → lv_has ls 3 [(0, .ref h), (1, .int x1_46), (2, .int x2_46)] → W p l e (headSpec wsM_most { frames := 2, cells := 0, slots := 0, locals := 51 }).room s m ([.ref h] : List Value).toArray below meth c H locs 0 0 (MQ below (va_Qi (fun x u => x = q.1 ∧ u = q.2) (preM D cI cZ h ad A) A) ([.ref h] : List Value).toArray s 0 0 A) (F0 m 46 ls []) := by
    intro n_46
    induction n_46 with
    | zero =>
      intro x1_46 x2_46 σ_46 H locs ls hF hP hD hS hl
      exact absurd hF (by simp [FM_most_46])
    | succ n_46 ih_46 =>
      intro x1_46 x2_46 σ_46 H locs ls hF hP hD hS hl
      rw [FM_most_46] at hF
      refine lv_iload_n hx hb dX10_most_46 rfl (lv_at hl 2 rfl) ?_
      refine lv_bipush (v := (10 : Int32)) hx hb dX10_most_47 (by decide) ?_
      refine lv_icmp_ge (tgt := 83) hx hb dX10_most_49 (by decide) (fun c_49 => ?_) (fun c_49 => ?_)
      · have hF := ob_t c_49 hF
        refine lv_iload_n hx hb dX10_most_83 rfl (lv_at hl 1 rfl) ?_
        exact rwM hx hb hr hlocks hF hK hP hD hS dX10_most_84
      · have hF := ob_f c_49 hF
        refine lv_iload_n hx hb dX10_most_52 rfl (lv_at hl 1 rfl) ?_
        refine lv_aload_n hx hb dX10_most_53 rfl (lv_at hl 0 rfl) ?_
        refine gM hx hb hts hin hown hK hP 41 (.ref (ad 41)) (by decide) mf_114 rfl dX10_most_54 ?_
        refine lv_iload_n hx hb dX10_most_57 rfl (lv_at hl 2 rfl) ?_
        obtain ⟨g_58, hF⟩ := ob_gd hF
        refine ldI hx hb hK hP (at_41 _ _ _ _ _) (σ_46.2 41 x2_46.toNatClampNeg) g_58 rfl dX10_most_58 ?_
        refine lv_if_eq (tgt := 74) hx hb dX10_most_59 (by decide) (fun c_59 => ?_) (fun c_59 => ?_)
        · have hF := ob_t c_59 hF
          refine lv_iconst (v := (0 : Int32)) hx hb dX10_most_74 (by decide) ?_
          exact b_75 x2_46 (fun x1_46 x2_46 σ_46 => FM_most_46  n_46 x1_46 x2_46 σ_46) ih_46 x1_46 (0 : Int32) σ_46 _ _ _ hF hP hD hS (lv_sub hl [0, 2] rfl)
        · have hF := ob_f c_59 hF
          refine lv_aload_n hx hb dX10_most_62 rfl (lv_at hl 0 rfl) ?_
          refine lv_iload_n hx hb dX10_most_63 rfl (lv_at hl 2 rfl) ?_
          obtain ⟨q_64, e_64, hF⟩ := ob_bd hF
          refine cwM (As := [.int x2_46]) (rest := [.int x1_46]) ⟨hx, hb, hml, hown, hts⟩ (cM_goesTo l D cI cZ h ad A σ_46 x2_46 _ e_64) (cw_goesTo hts ⟨Nat.le_of_ble_eq_true rfl, Nat.le_of_ble_eq_true rfl⟩) hK hP hD hS rfl hl.1 rfl (lv_room (Nat.le_of_ble_eq_true rfl)) dX10_most_64 (fun H locs hP hD hS => ?_)
          refine lv_if_eq (tgt := 74) hx hb dX10_most_67 (by decide) (fun c_67 => ?_) (fun c_67 => ?_)
          · have hF := ob_t c_67 hF
            refine lv_iconst (v := (0 : Int32)) hx hb dX10_most_74 (by decide) ?_
            exact b_75 x2_46 (fun x1_46 x2_46 σ_46 => FM_most_46  n_46 x1_46 x2_46 σ_46) ih_46 x1_46 (0 : Int32) q_64.2 _ _ _ hF hP hD hS (lv_sub hl [0, 2] rfl)
          · have hF := ob_f c_67 hF
            refine lv_iconst (v := (1 : Int32)) hx hb dX10_most_70 (by decide) ?_
            refine lv_goto (tgt := 75) hx hb dX10_most_71 (by decide) ?_
            exact b_75 x2_46 (fun x1_46 x2_46 σ_46 => FM_most_46  n_46 x1_46 x2_46 σ_46) ih_46 x1_46 (1 : Int32) q_64.2 _ _ _ hF hP hD hS (lv_sub hl [0, 2] rfl)
  have b_44 : ∀ (x1_44 : Int32) (σ_44 : MS) (H : Heap) (locs : List Loc) (ls : Array Slot), FM_most_44 x1_44 σ_44 = some q → va_P D vwCl (wM cI cZ h ad σ_44) H → va_D A (wM cI cZ h ad σ_44) → va_S A s.heap H locs → lv_has ls 3 [(0, .ref h), (1, .int x1_44)] → W p l e (headSpec wsM_most { frames := 2, cells := 0, slots := 0, locals := 51 }).room s m ([.ref h] : List Value).toArray below meth c H locs 0 0 (MQ below (va_Qi (fun x u => x = q.1 ∧ u = q.2) (preM D cI cZ h ad A) A) ([.ref h] : List Value).toArray s 0 0 A) (F0 m 44 ls []) := by
    intro x1_44 σ_44 H locs ls hF hP hD hS hl
    unfold FM_most_44 at hF
    refine lv_iconst (v := (0 : Int32)) hx hb dX10_most_44 (by decide) ?_
    refine lv_istore_n (lv' := [(2, .int (0 : Int32)), (0, .ref h), (1, .int x1_44)]) hx hb dX10_most_45 rfl hl (by decide) rfl (fun ls hl => ?_)
    exact b_46 fu x1_44 (0 : Int32) σ_44 _ _ _ hF hP hD hS (lv_sub hl [1, 2, 0] rfl)
  have b_21 : ∀ (σ_21 : MS) (H : Heap) (locs : List Loc) (ls : Array Slot), FM_most_21 σ_21 = some q → va_P D vwCl (wM cI cZ h ad σ_21) H → va_D A (wM cI cZ h ad σ_21) → va_S A s.heap H locs → lv_has ls 3 [(0, .ref h)] → W p l e (headSpec wsM_most { frames := 2, cells := 0, slots := 0, locals := 51 }).room s m ([.ref h] : List Value).toArray below meth c H locs 0 0 (MQ below (va_Qi (fun x u => x = q.1 ∧ u = q.2) (preM D cI cZ h ad A) A) ([.ref h] : List Value).toArray s 0 0 A) (F0 m 21 ls []) := by
    intro σ_21 H locs ls hF hP hD hS hl
    unfold FM_most_21 at hF
    refine lv_iconst (v := (0 : Int32)) hx hb dX10_most_21 (by decide) ?_
    refine lv_istore_n (lv' := [(1, .int (0 : Int32)), (0, .ref h)]) hx hb dX10_most_22 rfl hl (by decide) rfl (fun ls hl => ?_)
    refine lv_iconst (v := (0 : Int32)) hx hb dX10_most_23 (by decide) ?_
    refine lv_istore_n (lv' := [(2, .int (0 : Int32)), (1, .int (0 : Int32)), (0, .ref h)]) hx hb dX10_most_24 rfl hl (by decide) rfl (fun ls hl => ?_)
    exact b_25 (0 : Int32) (fun σ_44 => FM_most_44 (0 : Int32) σ_44) (fun σ_44 => b_44 (0 : Int32) σ_44) fu (0 : Int32) σ_21 _ _ _ hF hP hD hS (lv_sub hl [2, 1, 0] rfl)
  have hl := lv_entry ([.ref h]) (n := 3) (Nat.le_of_ble_eq_true rfl)
  rw [lg_entry_eq]
  generalize (lg_sl ([.ref h]) ++ List.replicate (3 - (lg_sl ([.ref h])).length) Slot.unset).toArray = ls at hl ⊢
  have hl : lv_has ls 3 [(0, .ref h)] := hl
  unfold FM_most at hF
  refine lv_iconst (v := (0 : Int32)) hx hb dX10_most_0 (by decide) ?_
  refine lv_istore_n (lv' := [(1, .int (0 : Int32)), (0, .ref h)]) hx hb dX10_most_1 rfl hl (by decide) rfl (fun ls hl => ?_)
  exact b_2 (fun σ_21 => FM_most_21 σ_21) (fun σ_21 => b_21 σ_21) fu (0 : Int32) σ _ _ _ hF hP hD hS (lv_sub hl [1, 0] rfl)
def FM_leastFor_133 (K_10 : Int32 → MS → Option (Int32 × MS)) (x1_133 : Int32) (x2_133 : Int32) (x3_133 : Int32) (x4_133 : Int32) (σ_133 : MS) : Option (Int32 × MS) := (K_10 (x4_133 + (1 : Int32)) σ_133)
def FM_leastFor_83 (K_32 : Int32 → MS → Option (Int32 × MS)) (x1_83 : Int32) (x2_83 : Int32) (x3_83 : Int32) (x4_83 : Int32) (x5_83 : Int32) (t1_83 : Int32) (t2_83 : Int32) (σ_83 : MS) : Option (Int32 × MS) := (gd (inb t1_83 10) (K_32 (x5_83 + (1 : Int32)) (sa σ_83 41 t1_83 t2_83)))
def FM_leastFor_32 (K_90 : MS → Option (Int32 × MS)) (x1_32 : Int32) (x2_32 : Int32) (x3_32 : Int32) (x4_32 : Int32) : Nat → Int32 → MS → Option (Int32 × MS)
  | 0, _, _ => none
  | n_32 + 1, x5_32, σ_32 => (if (10 : Int32) ≤ x5_32 then (K_90 σ_32) else (gd (inb x5_32 10) (gd (inb x5_32 10) (if x5_32 = x1_32 then (FM_leastFor_83 (fun x5_32 σ_32 => FM_leastFor_32 K_90 x1_32 x2_32 x3_32 x4_32 n_32 x5_32 σ_32) x1_32 x2_32 x3_32 x4_32 x5_32 x5_32 (0 : Int32) (sa σ_32 48 x5_32 (σ_32.2 41 x5_32.toNatClampNeg))) else (gd (inb x5_32 10) (FM_leastFor_83 (fun x5_32 σ_32 => FM_leastFor_32 K_90 x1_32 x2_32 x3_32 x4_32 n_32 x5_32 σ_32) x1_32 x2_32 x3_32 x4_32 x5_32 x5_32 ((σ_32.2 41 x5_32.toNatClampNeg) &&& (((1 : Int32) <<< (x4_32 &&& 31)) ^^^ (-1 : Int32))) (sa σ_32 48 x5_32 (σ_32.2 41 x5_32.toNatClampNeg))))))))
def FM_leastFor_106 (K_133 : MS → Option (Int32 × MS)) (x1_106 : Int32) (x2_106 : Int32) (x3_106 : Int32) (x4_106 : Int32) : Nat → Int32 → MS → Option (Int32 × MS)
  | 0, _, _ => none
  | n_106 + 1, x5_106, σ_106 => (if (10 : Int32) ≤ x5_106 then (K_133 σ_106) else (gd (inb x5_106 10) (gd (inb x5_106 10) (FM_leastFor_106 K_133 x1_106 x2_106 x3_106 x4_106 n_106 (x5_106 + (1 : Int32)) (sa σ_106 41 x5_106 (σ_106.2 48 x5_106.toNatClampNeg))))))
def FM_leastFor_90 (K_10 : Int32 → MS → Option (Int32 × MS)) (x1_90 : Int32) (x2_90 : Int32) (x3_90 : Int32) (x4_90 : Int32) (σ_90 : MS) : Option (Int32 × MS) := ((FM_most σ_90).bind fun q_91 => (if q_91.1 = (x2_90 - (1 : Int32)) then (some (x4_90, q_91.2)) else (FM_leastFor_106 (fun σ_133 => FM_leastFor_133 K_10 x1_90 x2_90 x3_90 x4_90 σ_133) x1_90 x2_90 x3_90 x4_90 fu (0 : Int32) q_91.2)))
def FM_leastFor_10 (K_139 : MS → Option (Int32 × MS)) (x1_10 : Int32) (x2_10 : Int32) (x3_10 : Int32) : Nat → Int32 → MS → Option (Int32 × MS)
  | 0, _, _ => none
  | n_10 + 1, x4_10, σ_10 => (if (σ_10.1 6) ≤ x4_10 then (K_139 σ_10) else (if ((x3_10 >>> (x4_10 &&& 31)) &&& (1 : Int32)) = (1 : Int32) then (FM_leastFor_32 (fun σ_90 => FM_leastFor_90 (fun x4_10 σ_10 => FM_leastFor_10 K_139 x1_10 x2_10 x3_10 n_10 x4_10 σ_10) x1_10 x2_10 x3_10 x4_10 σ_90) x1_10 x2_10 x3_10 x4_10 fu (0 : Int32) σ_10) else (FM_leastFor_133 (fun x4_10 σ_10 => FM_leastFor_10 K_139 x1_10 x2_10 x3_10 n_10 x4_10 σ_10) x1_10 x2_10 x3_10 x4_10 σ_10)))
def FM_leastFor_139 (x1_139 : Int32) (σ_139 : MS) : Option (Int32 × MS) := (gd (inb x1_139 10) (some ((-1 : Int32), (sa σ_139 41 x1_139 (0 : Int32)))))
def FM_leastFor (σ : MS) (p1 : Int32) (p2 : Int32) : Option (Int32 × MS) := (gd (inb p1 10) (FM_leastFor_10 (fun σ_139 => FM_leastFor_139 p1 σ_139) p1 p2 (σ.2 41 p1.toNatClampNeg) fu (0 : Int32) σ))
def wsM_leastFor : List Cond := Cond.code yX10_leastFor cX10_leastFor 6 (some .int) :: wMa
theorem cw_leastFor {R : Room} {s : State} {args : Array Value} {y : MethodName} {c : ByteArray} {n : Nat} {r : Option FieldType} (hts : ∀ w ∈ (Cond.code y c n r :: wMa), w.before args s = true) (hR : 3 + 1 ≤ R.frames ∧ 8 + (6 + 11) + 73 ≤ R.locals) : CallW R s args RX10 RX10 276 yX10_leastFor cX10_leastFor 6 (some .int) wsM_leastFor { frames := 3, cells := 0, slots := 0, locals := 73 } 0 0 2 := cwV 2 hts (goodMV mm_276 mi_leastFor ms_leastFor m_ini mc_leastFor) rfl rfl rfl (by decide +kernel) hR
set_option maxHeartbeats 4000000 in
set_option maxRecDepth 100000 in
theorem cM_leastFor (l : Launch) (D : va_G) (cI cZ : ClassId) (h : Nat) (ad : Nat → Nat) (A : Nat → Prop) (σ : MS) (p1 : Int32) (p2 : Int32) (q : Int32 × MS) (hF : FM_leastFor σ p1 p2 = some q) : Met l yX10_leastFor wsM_leastFor { frames := 3, cells := 0, slots := 0, locals := 73 } (va_Pc [.ref h, .int p1, .int p2] (preM D cI cZ h ad A σ)) (va_Qi (fun x u => x = q.1 ∧ u = q.2) (preM D cI cZ h ad A) A) 0 0 A := by
  refine Met.ofW (cc := cX10_leastFor) (maxL := 6) (ret := (some .int)) (by decide) rfl ?_
  intro p e s m args below meth c s₁ B hml hv
  obtain ⟨rfl, hP, hK, hD⟩ := hv
  have hx := B.exec
  have hb := B.bytes
  have hr := B.returns
  have hts : ∀ w ∈ (Cond.code yX10_leastFor cX10_leastFor 6 (some .int) :: wMa), w.before ([.ref h, .int p1, .int p2] : List Value).toArray s = true := atoms_spec (ws := wsM_leastFor) B.pre
  have hin : ∀ w ∈ wMa, w ∈ (Cond.code yX10_leastFor cX10_leastFor 6 (some .int) :: wMa) := fun w hw => List.mem_cons_of_mem _ hw
  have hown : s.vm.findClass RX10 = some m.cls := findClass_of_methodNamed B.named
  have hlocks := B.notSynchronized
  have hS : va_S A s.heap s.heap [] := va_S.rf
  have b_133 : ∀ (x1_133 : Int32) (x2_133 : Int32) (x3_133 : Int32) (x4_133 : Int32) (K_10 : Int32 → MS → Option (Int32 × MS)) (k_10 : ∀ (x4_10 : Int32) (σ_10 : MS) (H : Heap) (locs : List Loc) (ls : Array Slot), K_10 x4_10 σ_10 = some q → va_P D vwCl (wM cI cZ h ad σ_10) H → va_D A (wM cI cZ h ad σ_10) → va_S A s.heap H locs → lv_has ls 6 [(0, .ref h), (1, .int x1_133), (2, .int x2_133), (3, .int x3_133), (4, .int x4_10)] → W p l e (headSpec wsM_leastFor { frames := 3, cells := 0, slots := 0, locals := 73 }).room s m ([.ref h, .int p1, .int p2] : List Value).toArray below meth c H locs 0 0 (MQ below (va_Qi (fun x u => x = q.1 ∧ u = q.2) (preM D cI cZ h ad A) A) ([.ref h, .int p1, .int p2] : List Value).toArray s 0 0 A) (F0 m 10 ls [])) (σ_133 : MS) (H : Heap) (locs : List Loc) (ls : Array Slot), FM_leastFor_133 K_10 x1_133 x2_133 x3_133 x4_133 σ_133 = some q → va_P D vwCl (wM cI cZ h ad σ_133) H → va_D A (wM cI cZ h ad σ_133) → va_S A s.heap H locs → lv_has ls 6 [(0, .ref h), (1, .int x1_133), (2, .int x2_133), (3, .int x3_133), (4, .int x4_133)] → W p l e (headSpec wsM_leastFor { frames := 3, cells := 0, slots := 0, locals := 73 }).room s m ([.ref h, .int p1, .int p2] : List Value).toArray below meth c H locs 0 0 (MQ below (va_Qi (fun x u => x = q.1 ∧ u = q.2) (preM D cI cZ h ad A) A) ([.ref h, .int p1, .int p2] : List Value).toArray s 0 0 A) (F0 m 133 ls []) := by
    intro x1_133 x2_133 x3_133 x4_133 K_10 k_10 σ_133 H locs ls hF hP hD hS hl
    unfold FM_leastFor_133 at hF
    refine lv_iinc (v := x4_133 + (1 : Int32)) (lv' := [(4, .int (x4_133 + (1 : Int32))), (0, .ref h), (1, .int x1_133), (2, .int x2_133), (3, .int x3_133)]) hx hb dX10_leastFor_133 hl (k := 4) rfl rfl (by decide) rfl (fun ls hl => ?_)
    refine lv_goto (tgt := 10) hx hb dX10_leastFor_136 (by decide) ?_
    exact k_10 (x4_133 + (1 : Int32)) σ_133 _ _ _ hF hP hD hS (lv_sub hl [1, 2, 3, 4, 0] rfl)
  have b_83 : ∀ (x1_83 : Int32) (x2_83 : Int32) (x3_83 : Int32) (x4_83 : Int32) (x5_83 : Int32) (K_32 : Int32 → MS → Option (Int32 × MS)) (k_32 : ∀ (x5_32 : Int32) (σ_32 : MS) (H : Heap) (locs : List Loc) (ls : Array Slot), K_32 x5_32 σ_32 = some q → va_P D vwCl (wM cI cZ h ad σ_32) H → va_D A (wM cI cZ h ad σ_32) → va_S A s.heap H locs → lv_has ls 6 [(0, .ref h), (1, .int x1_83), (2, .int x2_83), (3, .int x3_83), (4, .int x4_83), (5, .int x5_32)] → W p l e (headSpec wsM_leastFor { frames := 3, cells := 0, slots := 0, locals := 73 }).room s m ([.ref h, .int p1, .int p2] : List Value).toArray below meth c H locs 0 0 (MQ below (va_Qi (fun x u => x = q.1 ∧ u = q.2) (preM D cI cZ h ad A) A) ([.ref h, .int p1, .int p2] : List Value).toArray s 0 0 A) (F0 m 32 ls [])) (t1_83 : Int32) (t2_83 : Int32) (σ_83 : MS) (H : Heap) (locs : List Loc) (ls : Array Slot), FM_leastFor_83 K_32 x1_83 x2_83 x3_83 x4_83 x5_83 t1_83 t2_83 σ_83 = some q → va_P D vwCl (wM cI cZ h ad σ_83) H → va_D A (wM cI cZ h ad σ_83) → va_S A s.heap H locs → lv_has ls 6 [(0, .ref h), (1, .int x1_83), (2, .int x2_83), (3, .int x3_83), (4, .int x4_83), (5, .int x5_83)] → W p l e (headSpec wsM_leastFor { frames := 3, cells := 0, slots := 0, locals := 73 }).room s m ([.ref h, .int p1, .int p2] : List Value).toArray below meth c H locs 0 0 (MQ below (va_Qi (fun x u => x = q.1 ∧ u = q.2) (preM D cI cZ h ad A) A) ([.ref h, .int p1, .int p2] : List Value).toArray s 0 0 A) (F0 m 83 ls [.int t2_83, .int t1_83, .ref (ad 41)]) := by
    intro x1_83 x2_83 x3_83 x4_83 x5_83 K_32 k_32 t1_83 t2_83 σ_83 H locs ls hF hP hD hS hl
    unfold FM_leastFor_83 at hF
    obtain ⟨g_83, hF⟩ := ob_gd hF
    refine stI hx hb hK hP hD hS (at_41 _ _ _ _ _) (st_41 _ _ _ _ _ _ _) g_83 dX10_leastFor_83 (fun H locs hP hD hS => ?_)
    refine lv_iinc (v := x5_83 + (1 : Int32)) (lv' := [(5, .int (x5_83 + (1 : Int32))), (0, .ref h), (1, .int x1_83), (2, .int x2_83), (3, .int x3_83), (4, .int x4_83)]) hx hb dX10_leastFor_84 hl (k := 5) rfl rfl (by decide) rfl (fun ls hl => ?_)
    refine lv_goto (tgt := 32) hx hb dX10_leastFor_87 (by decide) ?_
    exact k_32 (x5_83 + (1 : Int32)) (sa σ_83 41 t1_83 t2_83) _ _ _ hF hP hD hS (lv_sub hl [1, 2, 3, 4, 5, 0] rfl)
  have b_32 : ∀ (x1_32 : Int32) (x2_32 : Int32) (x3_32 : Int32) (x4_32 : Int32) (K_90 : MS → Option (Int32 × MS)) (k_90 : ∀ (σ_90 : MS) (H : Heap) (locs : List Loc) (ls : Array Slot), K_90 σ_90 = some q → va_P D vwCl (wM cI cZ h ad σ_90) H → va_D A (wM cI cZ h ad σ_90) → va_S A s.heap H locs → lv_has ls 6 [(0, .ref h), (1, .int x1_32), (2, .int x2_32), (3, .int x3_32), (4, .int x4_32)] → W p l e (headSpec wsM_leastFor { frames := 3, cells := 0, slots := 0, locals := 73 }).room s m ([.ref h, .int p1, .int p2] : List Value).toArray below meth c H locs 0 0 (MQ below (va_Qi (fun x u => x = q.1 ∧ u = q.2) (preM D cI cZ h ad A) A) ([.ref h, .int p1, .int p2] : List Value).toArray s 0 0 A) (F0 m 90 ls [])) (n_32 : Nat) (x5_32 : Int32) (σ_32 : MS) (H : Heap) (locs : List Loc) (ls : Array Slot), FM_leastFor_32 K_90 x1_32 x2_32 x3_32 x4_32 n_32 x5_32 σ_32 = some q → va_P D vwCl (wM cI cZ h ad σ_32) H → va_D A (wM cI cZ h ad σ_32) → va_S A s.heap H locs → lv_has ls 6 [(0, .ref h), (1, .int x1_32), (2, .int x2_32), (3, .int x3_32), (4, .int x4_32), (5, .int x5_32)] → W p l e (headSpec wsM_leastFor { frames := 3, cells := 0, slots := 0, locals := 73 }).room s m ([.ref h, .int p1, .int p2] : List Value).toArray below meth c H locs 0 0 (MQ below (va_Qi (fun x u => x = q.1 ∧ u = q.2) (preM D cI cZ h ad A) A) ([.ref h, .int p1, .int p2] : List Value).toArray s 0 0 A) (F0 m 32 ls []) := by
    intro x1_32 x2_32 x3_32 x4_32 K_90 k_90
    intro n_32
    induction n_32 with
    | zero =>
      intro x5_32 σ_32 H locs ls hF hP hD hS hl
      exact absurd hF (by simp [FM_leastFor_32])
    | succ n_32 ih_32 =>
      intro x5_32 σ_32 H locs ls hF hP hD hS hl
      rw [FM_leastFor_32] at hF
      refine lv_iload hx hb dX10_leastFor_32 (lv_at hl 5 rfl) ?_
      refine lv_bipush (v := (10 : Int32)) hx hb dX10_leastFor_34 (by decide) ?_
      refine lv_icmp_ge (tgt := 90) hx hb dX10_leastFor_36 (by decide) (fun c_36 => ?_) (fun c_36 => ?_)
      · have hF := ob_t c_36 hF
        exact k_90 σ_32 _ _ _ hF hP hD hS (lv_sub hl [0, 1, 2, 3, 4] rfl)
      · have hF := ob_f c_36 hF
        refine lv_aload_n hx hb dX10_leastFor_39 rfl (lv_at hl 0 rfl) ?_
        refine gM hx hb hts hin hown hK hP 48 (.ref (ad 48)) (by decide) mf_135 rfl dX10_leastFor_40 ?_
        refine lv_iload hx hb dX10_leastFor_43 (lv_at hl 5 rfl) ?_
        refine lv_aload_n hx hb dX10_leastFor_45 rfl (lv_at hl 0 rfl) ?_
        refine gM hx hb hts hin hown hK hP 41 (.ref (ad 41)) (by decide) mf_114 rfl dX10_leastFor_46 ?_
        refine lv_iload hx hb dX10_leastFor_49 (lv_at hl 5 rfl) ?_
        obtain ⟨g_51, hF⟩ := ob_gd hF
        refine ldI hx hb hK hP (at_41 _ _ _ _ _) (σ_32.2 41 x5_32.toNatClampNeg) g_51 rfl dX10_leastFor_51 ?_
        obtain ⟨g_52, hF⟩ := ob_gd hF
        refine stI hx hb hK hP hD hS (at_48 _ _ _ _ _) (st_48 _ _ _ _ _ _ _) g_52 dX10_leastFor_52 (fun H locs hP hD hS => ?_)
        refine lv_aload_n hx hb dX10_leastFor_53 rfl (lv_at hl 0 rfl) ?_
        refine gM hx hb hts hin hown hK hP 41 (.ref (ad 41)) (by decide) mf_114 rfl dX10_leastFor_54 ?_
        refine lv_iload hx hb dX10_leastFor_57 (lv_at hl 5 rfl) ?_
        refine lv_iload hx hb dX10_leastFor_59 (lv_at hl 5 rfl) ?_
        refine lv_iload_n hx hb dX10_leastFor_61 rfl (lv_at hl 1 rfl) ?_
        refine lv_icmp_ne (tgt := 69) hx hb dX10_leastFor_62 (by decide) (fun c_62 => ?_) (fun c_62 => ?_)
        · have hF := ob_f c_62 hF
          refine lv_aload_n hx hb dX10_leastFor_69 rfl (lv_at hl 0 rfl) ?_
          refine gM hx hb hts hin hown hK hP 41 (.ref (ad 41)) (by decide) mf_114 rfl dX10_leastFor_70 ?_
          refine lv_iload hx hb dX10_leastFor_73 (lv_at hl 5 rfl) ?_
          obtain ⟨g_75, hF⟩ := ob_gd hF
          refine ldI hx hb hK hP (at_41 _ _ _ _ _) (σ_32.2 41 x5_32.toNatClampNeg) g_75 rfl dX10_leastFor_75 ?_
          refine lv_iconst (v := (1 : Int32)) hx hb dX10_leastFor_76 (by decide) ?_
          refine lv_iload hx hb dX10_leastFor_77 (lv_at hl 4 rfl) ?_
          refine lv_ishl hx hb dX10_leastFor_79 ?_
          refine lv_iconst (v := (-1 : Int32)) hx hb dX10_leastFor_80 (by decide) ?_
          refine lv_ixor hx hb dX10_leastFor_81 ?_
          refine lv_iand hx hb dX10_leastFor_82 ?_
          exact b_83 x1_32 x2_32 x3_32 x4_32 x5_32 (fun x5_32 σ_32 => FM_leastFor_32 K_90 x1_32 x2_32 x3_32 x4_32 n_32 x5_32 σ_32) ih_32 x5_32 ((σ_32.2 41 x5_32.toNatClampNeg) &&& (((1 : Int32) <<< (x4_32 &&& 31)) ^^^ (-1 : Int32))) (sa σ_32 48 x5_32 (σ_32.2 41 x5_32.toNatClampNeg)) _ _ _ hF hP hD hS hl
        · have hF := ob_t c_62 hF
          refine lv_iconst (v := (0 : Int32)) hx hb dX10_leastFor_65 (by decide) ?_
          refine lv_goto (tgt := 83) hx hb dX10_leastFor_66 (by decide) ?_
          exact b_83 x1_32 x2_32 x3_32 x4_32 x5_32 (fun x5_32 σ_32 => FM_leastFor_32 K_90 x1_32 x2_32 x3_32 x4_32 n_32 x5_32 σ_32) ih_32 x5_32 (0 : Int32) (sa σ_32 48 x5_32 (σ_32.2 41 x5_32.toNatClampNeg)) _ _ _ hF hP hD hS hl
  have b_106 : ∀ (x1_106 : Int32) (x2_106 : Int32) (x3_106 : Int32) (x4_106 : Int32) (K_133 : MS → Option (Int32 × MS)) (k_133 : ∀ (σ_133 : MS) (H : Heap) (locs : List Loc) (ls : Array Slot), K_133 σ_133 = some q → va_P D vwCl (wM cI cZ h ad σ_133) H → va_D A (wM cI cZ h ad σ_133) → va_S A s.heap H locs → lv_has ls 6 [(0, .ref h), (1, .int x1_106), (2, .int x2_106), (3, .int x3_106), (4, .int x4_106)] → W p l e (headSpec wsM_leastFor { frames := 3, cells := 0, slots := 0, locals := 73 }).room s m ([.ref h, .int p1, .int p2] : List Value).toArray below meth c H locs 0 0 (MQ below (va_Qi (fun x u => x = q.1 ∧ u = q.2) (preM D cI cZ h ad A) A) ([.ref h, .int p1, .int p2] : List Value).toArray s 0 0 A) (F0 m 133 ls [])) (n_106 : Nat) (x5_106 : Int32) (σ_106 : MS) (H : Heap) (locs : List Loc) (ls : Array Slot), FM_leastFor_106 K_133 x1_106 x2_106 x3_106 x4_106 n_106 x5_106 σ_106 = some q → va_P D vwCl (wM cI cZ h ad σ_106) H → va_D A (wM cI cZ h ad σ_106) → va_S A s.heap H locs → lv_has ls 6 [(0, .ref h), (1, .int x1_106), (2, .int x2_106), (3, .int x3_106), (4, .int x4_106), (5, .int x5_106)] → W p l e (headSpec wsM_leastFor { frames := 3, cells := 0, slots := 0, locals := 73 }).room s m ([.ref h, .int p1, .int p2] : List Value).toArray below meth c H locs 0 0 (MQ below (va_Qi (fun x u => x = q.1 ∧ u = q.2) (preM D cI cZ h ad A) A) ([.ref h, .int p1, .int p2] : List Value).toArray s 0 0 A) (F0 m 106 ls []) := by
    intro x1_106 x2_106 x3_106 x4_106 K_133 k_133
    intro n_106
    induction n_106 with
    | zero =>
      intro x5_106 σ_106 H locs ls hF hP hD hS hl
      exact absurd hF (by simp [FM_leastFor_106])
    | succ n_106 ih_106 =>
      intro x5_106 σ_106 H locs ls hF hP hD hS hl
      rw [FM_leastFor_106] at hF
      refine lv_iload hx hb dX10_leastFor_106 (lv_at hl 5 rfl) ?_
      refine lv_bipush (v := (10 : Int32)) hx hb dX10_leastFor_108 (by decide) ?_
      refine lv_icmp_ge (tgt := 133) hx hb dX10_leastFor_110 (by decide) (fun c_110 => ?_) (fun c_110 => ?_)
      · have hF := ob_t c_110 hF
        exact k_133 σ_106 _ _ _ hF hP hD hS (lv_sub hl [0, 1, 2, 3, 4] rfl)
      · have hF := ob_f c_110 hF
        refine lv_aload_n hx hb dX10_leastFor_113 rfl (lv_at hl 0 rfl) ?_
        refine gM hx hb hts hin hown hK hP 41 (.ref (ad 41)) (by decide) mf_114 rfl dX10_leastFor_114 ?_
        refine lv_iload hx hb dX10_leastFor_117 (lv_at hl 5 rfl) ?_
        refine lv_aload_n hx hb dX10_leastFor_119 rfl (lv_at hl 0 rfl) ?_
        refine gM hx hb hts hin hown hK hP 48 (.ref (ad 48)) (by decide) mf_135 rfl dX10_leastFor_120 ?_
        refine lv_iload hx hb dX10_leastFor_123 (lv_at hl 5 rfl) ?_
        obtain ⟨g_125, hF⟩ := ob_gd hF
        refine ldI hx hb hK hP (at_48 _ _ _ _ _) (σ_106.2 48 x5_106.toNatClampNeg) g_125 rfl dX10_leastFor_125 ?_
        obtain ⟨g_126, hF⟩ := ob_gd hF
        refine stI hx hb hK hP hD hS (at_41 _ _ _ _ _) (st_41 _ _ _ _ _ _ _) g_126 dX10_leastFor_126 (fun H locs hP hD hS => ?_)
        refine lv_iinc (v := x5_106 + (1 : Int32)) (lv' := [(5, .int (x5_106 + (1 : Int32))), (0, .ref h), (1, .int x1_106), (2, .int x2_106), (3, .int x3_106), (4, .int x4_106)]) hx hb dX10_leastFor_127 hl (k := 5) rfl rfl (by decide) rfl (fun ls hl => ?_)
        refine lv_goto (tgt := 106) hx hb dX10_leastFor_130 (by decide) ?_
        exact ih_106 (x5_106 + (1 : Int32)) (sa σ_106 41 x5_106 (σ_106.2 48 x5_106.toNatClampNeg)) _ _ _ hF hP hD hS (lv_sub hl [1, 2, 3, 4, 5, 0] rfl)
  have b_90 : ∀ (x1_90 : Int32) (x2_90 : Int32) (x3_90 : Int32) (x4_90 : Int32) (K_10 : Int32 → MS → Option (Int32 × MS)) (k_10 : ∀ (x4_10 : Int32) (σ_10 : MS) (H : Heap) (locs : List Loc) (ls : Array Slot), K_10 x4_10 σ_10 = some q → va_P D vwCl (wM cI cZ h ad σ_10) H → va_D A (wM cI cZ h ad σ_10) → va_S A s.heap H locs → lv_has ls 6 [(0, .ref h), (1, .int x1_90), (2, .int x2_90), (3, .int x3_90), (4, .int x4_10)] → W p l e (headSpec wsM_leastFor { frames := 3, cells := 0, slots := 0, locals := 73 }).room s m ([.ref h, .int p1, .int p2] : List Value).toArray below meth c H locs 0 0 (MQ below (va_Qi (fun x u => x = q.1 ∧ u = q.2) (preM D cI cZ h ad A) A) ([.ref h, .int p1, .int p2] : List Value).toArray s 0 0 A) (F0 m 10 ls [])) (σ_90 : MS) (H : Heap) (locs : List Loc) (ls : Array Slot), FM_leastFor_90 K_10 x1_90 x2_90 x3_90 x4_90 σ_90 = some q → va_P D vwCl (wM cI cZ h ad σ_90) H → va_D A (wM cI cZ h ad σ_90) → va_S A s.heap H locs → lv_has ls 6 [(0, .ref h), (1, .int x1_90), (2, .int x2_90), (3, .int x3_90), (4, .int x4_90)] → W p l e (headSpec wsM_leastFor { frames := 3, cells := 0, slots := 0, locals := 73 }).room s m ([.ref h, .int p1, .int p2] : List Value).toArray below meth c H locs 0 0 (MQ below (va_Qi (fun x u => x = q.1 ∧ u = q.2) (preM D cI cZ h ad A) A) ([.ref h, .int p1, .int p2] : List Value).toArray s 0 0 A) (F0 m 90 ls []) := by
    intro x1_90 x2_90 x3_90 x4_90 K_10 k_10 σ_90 H locs ls hF hP hD hS hl
    unfold FM_leastFor_90 at hF
    refine lv_aload_n hx hb dX10_leastFor_90 rfl (lv_at hl 0 rfl) ?_
    obtain ⟨q_91, e_91, hF⟩ := ob_bd hF
    refine cwM (As := []) (rest := []) ⟨hx, hb, hml, hown, hts⟩ (cM_most l D cI cZ h ad A σ_90 _ e_91) (cw_most hts ⟨Nat.le_of_ble_eq_true rfl, Nat.le_of_ble_eq_true rfl⟩) hK hP hD hS rfl hl.1 rfl (lv_room (Nat.le_of_ble_eq_true rfl)) dX10_leastFor_91 (fun H locs hP hD hS => ?_)
    refine lv_iload_n hx hb dX10_leastFor_94 rfl (lv_at hl 2 rfl) ?_
    refine lv_iconst (v := (1 : Int32)) hx hb dX10_leastFor_95 (by decide) ?_
    refine lv_isub hx hb dX10_leastFor_96 ?_
    refine lv_icmp_ne (tgt := 103) hx hb dX10_leastFor_97 (by decide) (fun c_97 => ?_) (fun c_97 => ?_)
    · have hF := ob_f c_97 hF
      refine lv_iconst (v := (0 : Int32)) hx hb dX10_leastFor_103 (by decide) ?_
      refine lv_istore (lv' := [(5, .int (0 : Int32)), (0, .ref h), (1, .int x1_90), (2, .int x2_90), (3, .int x3_90), (4, .int x4_90)]) hx hb dX10_leastFor_104 hl (by decide) rfl (fun ls hl => ?_)
      exact b_106 x1_90 x2_90 x3_90 x4_90 (fun σ_133 => FM_leastFor_133 K_10 x1_90 x2_90 x3_90 x4_90 σ_133) (fun σ_133 => b_133 x1_90 x2_90 x3_90 x4_90 K_10 k_10 σ_133) fu (0 : Int32) q_91.2 _ _ _ hF hP hD hS (lv_sub hl [1, 2, 3, 4, 5, 0] rfl)
    · have hF := ob_t c_97 hF
      refine lv_iload hx hb dX10_leastFor_100 (lv_at hl 4 rfl) ?_
      exact rwM hx hb hr hlocks hF hK hP hD hS dX10_leastFor_102
  have b_10 : ∀ (x1_10 : Int32) (x2_10 : Int32) (x3_10 : Int32) (K_139 : MS → Option (Int32 × MS)) (k_139 : ∀ (σ_139 : MS) (H : Heap) (locs : List Loc) (ls : Array Slot), K_139 σ_139 = some q → va_P D vwCl (wM cI cZ h ad σ_139) H → va_D A (wM cI cZ h ad σ_139) → va_S A s.heap H locs → lv_has ls 6 [(0, .ref h), (1, .int x1_10)] → W p l e (headSpec wsM_leastFor { frames := 3, cells := 0, slots := 0, locals := 73 }).room s m ([.ref h, .int p1, .int p2] : List Value).toArray below meth c H locs 0 0 (MQ below (va_Qi (fun x u => x = q.1 ∧ u = q.2) (preM D cI cZ h ad A) A) ([.ref h, .int p1, .int p2] : List Value).toArray s 0 0 A) (F0 m 139 ls [])) (n_10 : Nat) (x4_10 : Int32) (σ_10 : MS) (H : Heap) (locs : List Loc) (ls : Array Slot), FM_leastFor_10 K_139 x1_10 x2_10 x3_10 n_10 x4_10 σ_10 = some q → va_P D vwCl (wM cI cZ h ad σ_10) H → va_D A (wM cI cZ h ad σ_10) → va_S A s.heap H locs → lv_has ls 6 [(0, .ref h), (1, .int x1_10), (2, .int x2_10), (3, .int x3_10), (4, .int x4_10)] → W p l e (headSpec wsM_leastFor { frames := 3, cells := 0, slots := 0, locals := 73 }).room s m ([.ref h, .int p1, .int p2] : List Value).toArray below meth c H locs 0 0 (MQ below (va_Qi (fun x u => x = q.1 ∧ u = q.2) (preM D cI cZ h ad A) A) ([.ref h, .int p1, .int p2] : List Value).toArray s 0 0 A) (F0 m 10 ls []) := by
    intro x1_10 x2_10 x3_10 K_139 k_139
    intro n_10
    induction n_10 with
    | zero =>
      intro x4_10 σ_10 H locs ls hF hP hD hS hl
      exact absurd hF (by simp [FM_leastFor_10])
    | succ n_10 ih_10 =>
      intro x4_10 σ_10 H locs ls hF hP hD hS hl
      rw [FM_leastFor_10] at hF
      refine lv_iload hx hb dX10_leastFor_10 (lv_at hl 4 rfl) ?_
      refine lv_aload_n hx hb dX10_leastFor_12 rfl (lv_at hl 0 rfl) ?_
      refine gM hx hb hts hin hown hK hP 6 (.int (σ_10.1 6)) (by decide) mf_145 rfl dX10_leastFor_13 ?_
      refine lv_icmp_ge (tgt := 139) hx hb dX10_leastFor_16 (by decide) (fun c_16 => ?_) (fun c_16 => ?_)
      · have hF := ob_t c_16 hF
        exact k_139 σ_10 _ _ _ hF hP hD hS (lv_sub hl [0, 1] rfl)
      · have hF := ob_f c_16 hF
        refine lv_iload_n hx hb dX10_leastFor_19 rfl (lv_at hl 3 rfl) ?_
        refine lv_iload hx hb dX10_leastFor_20 (lv_at hl 4 rfl) ?_
        refine lv_ishr hx hb dX10_leastFor_22 ?_
        refine lv_iconst (v := (1 : Int32)) hx hb dX10_leastFor_23 (by decide) ?_
        refine lv_iand hx hb dX10_leastFor_24 ?_
        refine lv_iconst (v := (1 : Int32)) hx hb dX10_leastFor_25 (by decide) ?_
        refine lv_icmp_ne (tgt := 133) hx hb dX10_leastFor_26 (by decide) (fun c_26 => ?_) (fun c_26 => ?_)
        · have hF := ob_f c_26 hF
          exact b_133 x1_10 x2_10 x3_10 x4_10 (fun x4_10 σ_10 => FM_leastFor_10 K_139 x1_10 x2_10 x3_10 n_10 x4_10 σ_10) ih_10 σ_10 _ _ _ hF hP hD hS hl
        · have hF := ob_t c_26 hF
          refine lv_iconst (v := (0 : Int32)) hx hb dX10_leastFor_29 (by decide) ?_
          refine lv_istore (lv' := [(5, .int (0 : Int32)), (0, .ref h), (1, .int x1_10), (2, .int x2_10), (3, .int x3_10), (4, .int x4_10)]) hx hb dX10_leastFor_30 hl (by decide) rfl (fun ls hl => ?_)
          exact b_32 x1_10 x2_10 x3_10 x4_10 (fun σ_90 => FM_leastFor_90 (fun x4_10 σ_10 => FM_leastFor_10 K_139 x1_10 x2_10 x3_10 n_10 x4_10 σ_10) x1_10 x2_10 x3_10 x4_10 σ_90) (fun σ_90 => b_90 x1_10 x2_10 x3_10 x4_10 (fun x4_10 σ_10 => FM_leastFor_10 K_139 x1_10 x2_10 x3_10 n_10 x4_10 σ_10) ih_10 σ_90) fu (0 : Int32) σ_10 _ _ _ hF hP hD hS (lv_sub hl [1, 2, 3, 4, 5, 0] rfl)
  have b_139 : ∀ (x1_139 : Int32) (σ_139 : MS) (H : Heap) (locs : List Loc) (ls : Array Slot), FM_leastFor_139 x1_139 σ_139 = some q → va_P D vwCl (wM cI cZ h ad σ_139) H → va_D A (wM cI cZ h ad σ_139) → va_S A s.heap H locs → lv_has ls 6 [(0, .ref h), (1, .int x1_139)] → W p l e (headSpec wsM_leastFor { frames := 3, cells := 0, slots := 0, locals := 73 }).room s m ([.ref h, .int p1, .int p2] : List Value).toArray below meth c H locs 0 0 (MQ below (va_Qi (fun x u => x = q.1 ∧ u = q.2) (preM D cI cZ h ad A) A) ([.ref h, .int p1, .int p2] : List Value).toArray s 0 0 A) (F0 m 139 ls []) := by
    intro x1_139 σ_139 H locs ls hF hP hD hS hl
    unfold FM_leastFor_139 at hF
    refine lv_aload_n hx hb dX10_leastFor_139 rfl (lv_at hl 0 rfl) ?_
    refine gM hx hb hts hin hown hK hP 41 (.ref (ad 41)) (by decide) mf_114 rfl dX10_leastFor_140 ?_
    refine lv_iload_n hx hb dX10_leastFor_143 rfl (lv_at hl 1 rfl) ?_
    refine lv_iconst (v := (0 : Int32)) hx hb dX10_leastFor_144 (by decide) ?_
    obtain ⟨g_145, hF⟩ := ob_gd hF
    refine stI hx hb hK hP hD hS (at_41 _ _ _ _ _) (st_41 _ _ _ _ _ _ _) g_145 dX10_leastFor_145 (fun H locs hP hD hS => ?_)
    refine lv_iconst (v := (-1 : Int32)) hx hb dX10_leastFor_146 (by decide) ?_
    exact rwM hx hb hr hlocks hF hK hP hD hS dX10_leastFor_147
  have hl := lv_entry ([.ref h, .int p1, .int p2]) (n := 6) (Nat.le_of_ble_eq_true rfl)
  rw [lg_entry_eq]
  generalize (lg_sl ([.ref h, .int p1, .int p2]) ++ List.replicate (6 - (lg_sl ([.ref h, .int p1, .int p2])).length) Slot.unset).toArray = ls at hl ⊢
  have hl : lv_has ls 6 [(0, .ref h), (1, .int p1), (2, .int p2)] := hl
  unfold FM_leastFor at hF
  refine lv_aload_n hx hb dX10_leastFor_0 rfl (lv_at hl 0 rfl) ?_
  refine gM hx hb hts hin hown hK hP 41 (.ref (ad 41)) (by decide) mf_114 rfl dX10_leastFor_1 ?_
  refine lv_iload_n hx hb dX10_leastFor_4 rfl (lv_at hl 1 rfl) ?_
  obtain ⟨g_5, hF⟩ := ob_gd hF
  refine ldI hx hb hK hP (at_41 _ _ _ _ _) (σ.2 41 p1.toNatClampNeg) g_5 rfl dX10_leastFor_5 ?_
  refine lv_istore_n (lv' := [(3, .int (σ.2 41 p1.toNatClampNeg)), (0, .ref h), (1, .int p1), (2, .int p2)]) hx hb dX10_leastFor_6 rfl hl (by decide) rfl (fun ls hl => ?_)
  refine lv_iconst (v := (0 : Int32)) hx hb dX10_leastFor_7 (by decide) ?_
  refine lv_istore (lv' := [(4, .int (0 : Int32)), (3, .int (σ.2 41 p1.toNatClampNeg)), (0, .ref h), (1, .int p1), (2, .int p2)]) hx hb dX10_leastFor_8 hl (by decide) rfl (fun ls hl => ?_)
  exact b_10 p1 p2 (σ.2 41 p1.toNatClampNeg) (fun σ_139 => FM_leastFor_139 p1 σ_139) (fun σ_139 => b_139 p1 σ_139) fu (0 : Int32) σ _ _ _ hF hP hD hS (lv_sub hl [2, 3, 4, 1, 0] rfl)
def FM_clothe_106 (K_29 : Int32 → MS → Option (Int32 × MS)) (x1_106 : Int32) (x2_106 : Int32) (x3_106 : Int32) (t1_106 : Int32) (t2_106 : Int32) (t3_106 : Int32) (σ_106 : MS) : Option (Int32 × MS) := (gd (inb t1_106 10) (K_29 (x3_106 + (1 : Int32)) (sa σ_106 41 t1_106 (t2_106 ||| t3_106))))
def FM_clothe_29 (K_114 : MS → Option (Int32 × MS)) (x1_29 : Int32) (x2_29 : Int32) : Nat → Int32 → MS → Option (Int32 × MS)
  | 0, _, _ => none
  | n_29 + 1, x3_29, σ_29 => (if (σ_29.1 6) ≤ x3_29 then (K_114 σ_29) else ((FM_isTold σ_29 x2_29).bind fun q_39 => (if q_39 = 0 then (K_114 σ_29) else ((FM_hasSome σ_29 x2_29).bind fun q_47 => (if q_47 = 0 then (gd (inb x2_29 10) (gd (inb x3_29 30) (if (σ_29.2 7 x3_29.toNatClampNeg) = 0 then (FM_clothe_106 (fun x3_29 σ_29 => FM_clothe_29 K_114 x1_29 x2_29 n_29 x3_29 σ_29) x1_29 x2_29 x3_29 x2_29 (σ_29.2 41 x2_29.toNatClampNeg) (0 : Int32) σ_29) else (gd (inb x3_29 30) (if (σ_29.2 19 x3_29.toNatClampNeg) = (-1 : Int32) then (FM_clothe_106 (fun x3_29 σ_29 => FM_clothe_29 K_114 x1_29 x2_29 n_29 x3_29 σ_29) x1_29 x2_29 x3_29 x2_29 (σ_29.2 41 x2_29.toNatClampNeg) (0 : Int32) σ_29) else (gd (inb x3_29 30) (if (σ_29.2 20 x3_29.toNatClampNeg) = (-1 : Int32) then ((FM_mayWear σ_29 x3_29 x2_29 x1_29).bind fun q_93 => (if q_93 = 0 then (FM_clothe_106 (fun x3_29 σ_29 => FM_clothe_29 K_114 x1_29 x2_29 n_29 x3_29 σ_29) x1_29 x2_29 x3_29 x2_29 (σ_29.2 41 x2_29.toNatClampNeg) (0 : Int32) σ_29) else (FM_clothe_106 (fun x3_29 σ_29 => FM_clothe_29 K_114 x1_29 x2_29 n_29 x3_29 σ_29) x1_29 x2_29 x3_29 x2_29 (σ_29.2 41 x2_29.toNatClampNeg) ((1 : Int32) <<< (x3_29 &&& 31)) σ_29))) else (FM_clothe_106 (fun x3_29 σ_29 => FM_clothe_29 K_114 x1_29 x2_29 n_29 x3_29 σ_29) x1_29 x2_29 x3_29 x2_29 (σ_29.2 41 x2_29.toNatClampNeg) (0 : Int32) σ_29)))))))) else (K_114 σ_29))))))
def FM_clothe_114 (K_14 : Int32 → MS → Option (Int32 × MS)) (x1_114 : Int32) (x2_114 : Int32) (σ_114 : MS) : Option (Int32 × MS) := (K_14 (x2_114 + (1 : Int32)) σ_114)
def FM_clothe_14 (K_120 : MS → Option (Int32 × MS)) (x1_14 : Int32) : Nat → Int32 → MS → Option (Int32 × MS)
  | 0, _, _ => none
  | n_14 + 1, x2_14, σ_14 => (if (10 : Int32) ≤ x2_14 then (K_120 σ_14) else (gd (inb x2_14 10) (FM_clothe_29 (fun σ_114 => FM_clothe_114 (fun x2_14 σ_14 => FM_clothe_14 K_120 x1_14 n_14 x2_14 σ_14) x1_14 x2_14 σ_114) x1_14 x2_14 fu (0 : Int32) (sa σ_14 41 x2_14 (0 : Int32)))))
def FM_clothe_168 (K_130 : Int32 → Int32 → MS → Option (Int32 × MS)) (x2_168 : Int32) (x4_168 : Int32) (t0_168 : Int32) (t1_168 : Int32) (σ_168 : MS) : Option (Int32 × MS) := (K_130 (t0_168 - t1_168) (x4_168 + (1 : Int32)) σ_168)
def FM_clothe_130 (x2_130 : Int32) : Nat → Int32 → Int32 → MS → Option (Int32 × MS)
  | 0, _, _, _ => none
  | n_130 + 1, x3_130, x4_130, σ_130 => (if (10 : Int32) ≤ x4_130 then (some (x2_130, σ_130)) else ((FM_leastFor σ_130 x4_130 x3_130).bind fun q_147 => (gd (inb x4_130 10) (gd (inb x4_130 10) (if ((sa q_147.2 43 x4_130 q_147.1).2 43 x4_130.toNatClampNeg) = (-1 : Int32) then (FM_clothe_168 (fun x3_130 x4_130 σ_130 => FM_clothe_130  x2_130 n_130 x3_130 x4_130 σ_130) x2_130 x4_130 x3_130 (0 : Int32) (sa q_147.2 43 x4_130 q_147.1)) else (FM_clothe_168 (fun x3_130 x4_130 σ_130 => FM_clothe_130  x2_130 n_130 x3_130 x4_130 σ_130) x2_130 x4_130 x3_130 (1 : Int32) (sa q_147.2 43 x4_130 q_147.1)))))))
def FM_clothe_120 (σ_120 : MS) : Option (Int32 × MS) := ((FM_most σ_120).bind fun q_121 => (FM_clothe_130 q_121.1 fu q_121.1 (0 : Int32) q_121.2))
def FM_clothe (σ : MS) (p1 : Int32) : Option (Int32 × MS) := ((FM_in p1 (0 : Int32) (3 : Int32)).bind fun q_3 => (if q_3 = 0 then (some ((-2 : Int32), σ)) else (FM_clothe_14 (fun σ_120 => FM_clothe_120 σ_120) p1 fu (0 : Int32) σ)))
def wsM_clothe : List Cond := Cond.code yX10_clothe cX10_clothe 5 (some .int) :: wMa
set_option maxHeartbeats 4000000 in
set_option maxRecDepth 100000 in
theorem cM_clothe (l : Launch) (D : va_G) (cI cZ : ClassId) (h : Nat) (ad : Nat → Nat) (A : Nat → Prop) (σ : MS) (p1 : Int32) (q : Int32 × MS) (hF : FM_clothe σ p1 = some q) : Met l yX10_clothe wsM_clothe { frames := 4, cells := 0, slots := 0, locals := 98 } (va_Pc [.ref h, .int p1] (preM D cI cZ h ad A σ)) (va_Qi (fun x u => x = q.1 ∧ u = q.2) (preM D cI cZ h ad A) A) 0 0 A := by
  refine Met.ofW (cc := cX10_clothe) (maxL := 5) (ret := (some .int)) (by decide) rfl ?_
  intro p e s m args below meth c s₁ B hml hv
  obtain ⟨rfl, hP, hK, hD⟩ := hv
  have hx := B.exec
  have hb := B.bytes
  have hr := B.returns
  have hts : ∀ w ∈ (Cond.code yX10_clothe cX10_clothe 5 (some .int) :: wMa), w.before ([.ref h, .int p1] : List Value).toArray s = true := atoms_spec (ws := wsM_clothe) B.pre
  have hin : ∀ w ∈ wMa, w ∈ (Cond.code yX10_clothe cX10_clothe 5 (some .int) :: wMa) := fun w hw => List.mem_cons_of_mem _ hw
  have hown : s.vm.findClass RX10 = some m.cls := findClass_of_methodNamed B.named
  have hlocks := B.notSynchronized
  have hS : va_S A s.heap s.heap [] := va_S.rf
  have b_106 : ∀ (x1_106 : Int32) (x2_106 : Int32) (x3_106 : Int32) (K_29 : Int32 → MS → Option (Int32 × MS)) (k_29 : ∀ (x3_29 : Int32) (σ_29 : MS) (H : Heap) (locs : List Loc) (ls : Array Slot), K_29 x3_29 σ_29 = some q → va_P D vwCl (wM cI cZ h ad σ_29) H → va_D A (wM cI cZ h ad σ_29) → va_S A s.heap H locs → lv_has ls 5 [(0, .ref h), (1, .int x1_106), (2, .int x2_106), (3, .int x3_29)] → W p l e (headSpec wsM_clothe { frames := 4, cells := 0, slots := 0, locals := 98 }).room s m ([.ref h, .int p1] : List Value).toArray below meth c H locs 0 0 (MQ below (va_Qi (fun x u => x = q.1 ∧ u = q.2) (preM D cI cZ h ad A) A) ([.ref h, .int p1] : List Value).toArray s 0 0 A) (F0 m 29 ls [])) (t1_106 : Int32) (t2_106 : Int32) (t3_106 : Int32) (σ_106 : MS) (H : Heap) (locs : List Loc) (ls : Array Slot), FM_clothe_106 K_29 x1_106 x2_106 x3_106 t1_106 t2_106 t3_106 σ_106 = some q → va_P D vwCl (wM cI cZ h ad σ_106) H → va_D A (wM cI cZ h ad σ_106) → va_S A s.heap H locs → lv_has ls 5 [(0, .ref h), (1, .int x1_106), (2, .int x2_106), (3, .int x3_106)] → W p l e (headSpec wsM_clothe { frames := 4, cells := 0, slots := 0, locals := 98 }).room s m ([.ref h, .int p1] : List Value).toArray below meth c H locs 0 0 (MQ below (va_Qi (fun x u => x = q.1 ∧ u = q.2) (preM D cI cZ h ad A) A) ([.ref h, .int p1] : List Value).toArray s 0 0 A) (F0 m 106 ls [.int t3_106, .int t2_106, .int t1_106, .ref (ad 41)]) := by
    intro x1_106 x2_106 x3_106 K_29 k_29 t1_106 t2_106 t3_106 σ_106 H locs ls hF hP hD hS hl
    unfold FM_clothe_106 at hF
    refine lv_ior hx hb dX10_clothe_106 ?_
    obtain ⟨g_107, hF⟩ := ob_gd hF
    refine stI hx hb hK hP hD hS (at_41 _ _ _ _ _) (st_41 _ _ _ _ _ _ _) g_107 dX10_clothe_107 (fun H locs hP hD hS => ?_)
    refine lv_iinc (v := x3_106 + (1 : Int32)) (lv' := [(3, .int (x3_106 + (1 : Int32))), (0, .ref h), (1, .int x1_106), (2, .int x2_106)]) hx hb dX10_clothe_108 hl (k := 3) rfl rfl (by decide) rfl (fun ls hl => ?_)
    refine lv_goto (tgt := 29) hx hb dX10_clothe_111 (by decide) ?_
    exact k_29 (x3_106 + (1 : Int32)) (sa σ_106 41 t1_106 (t2_106 ||| t3_106)) _ _ _ hF hP hD hS (lv_sub hl [1, 2, 3, 0] rfl)
  have b_29 : ∀ (x1_29 : Int32) (x2_29 : Int32) (K_114 : MS → Option (Int32 × MS)) (k_114 : ∀ (σ_114 : MS) (H : Heap) (locs : List Loc) (ls : Array Slot), K_114 σ_114 = some q → va_P D vwCl (wM cI cZ h ad σ_114) H → va_D A (wM cI cZ h ad σ_114) → va_S A s.heap H locs → lv_has ls 5 [(0, .ref h), (1, .int x1_29), (2, .int x2_29)] → W p l e (headSpec wsM_clothe { frames := 4, cells := 0, slots := 0, locals := 98 }).room s m ([.ref h, .int p1] : List Value).toArray below meth c H locs 0 0 (MQ below (va_Qi (fun x u => x = q.1 ∧ u = q.2) (preM D cI cZ h ad A) A) ([.ref h, .int p1] : List Value).toArray s 0 0 A) (F0 m 114 ls [])) (n_29 : Nat) (x3_29 : Int32) (σ_29 : MS) (H : Heap) (locs : List Loc) (ls : Array Slot), FM_clothe_29 K_114 x1_29 x2_29 n_29 x3_29 σ_29 = some q → va_P D vwCl (wM cI cZ h ad σ_29) H → va_D A (wM cI cZ h ad σ_29) → va_S A s.heap H locs → lv_has ls 5 [(0, .ref h), (1, .int x1_29), (2, .int x2_29), (3, .int x3_29)] → W p l e (headSpec wsM_clothe { frames := 4, cells := 0, slots := 0, locals := 98 }).room s m ([.ref h, .int p1] : List Value).toArray below meth c H locs 0 0 (MQ below (va_Qi (fun x u => x = q.1 ∧ u = q.2) (preM D cI cZ h ad A) A) ([.ref h, .int p1] : List Value).toArray s 0 0 A) (F0 m 29 ls []) := by
    intro x1_29 x2_29 K_114 k_114
    intro n_29
    induction n_29 with
    | zero =>
      intro x3_29 σ_29 H locs ls hF hP hD hS hl
      exact absurd hF (by simp [FM_clothe_29])
    | succ n_29 ih_29 =>
      intro x3_29 σ_29 H locs ls hF hP hD hS hl
      rw [FM_clothe_29] at hF
      refine lv_iload_n hx hb dX10_clothe_29 rfl (lv_at hl 3 rfl) ?_
      refine lv_aload_n hx hb dX10_clothe_30 rfl (lv_at hl 0 rfl) ?_
      refine gM hx hb hts hin hown hK hP 6 (.int (σ_29.1 6)) (by decide) mf_145 rfl dX10_clothe_31 ?_
      refine lv_icmp_ge (tgt := 114) hx hb dX10_clothe_34 (by decide) (fun c_34 => ?_) (fun c_34 => ?_)
      · have hF := ob_t c_34 hF
        exact k_114 σ_29 _ _ _ hF hP hD hS (lv_sub hl [0, 1, 2] rfl)
      · have hF := ob_f c_34 hF
        refine lv_aload_n hx hb dX10_clothe_37 rfl (lv_at hl 0 rfl) ?_
        refine lv_iload_n hx hb dX10_clothe_38 rfl (lv_at hl 2 rfl) ?_
        obtain ⟨q_39, e_39, hF⟩ := ob_bd hF
        refine crM (As := [.int x2_29]) (rest := []) ⟨hx, hb, hml, hown, hts⟩ (cM_isTold l D cI cZ h ad σ_29 x2_29 _ e_39) (cw_isTold hts ⟨Nat.le_of_ble_eq_true rfl, Nat.le_of_ble_eq_true rfl⟩) hK hP rfl hl.1 rfl (lv_room (Nat.le_of_ble_eq_true rfl)) dX10_clothe_39 ?_
        refine lv_if_eq (tgt := 114) hx hb dX10_clothe_42 (by decide) (fun c_42 => ?_) (fun c_42 => ?_)
        · have hF := ob_t c_42 hF
          exact k_114 σ_29 _ _ _ hF hP hD hS (lv_sub hl [0, 1, 2] rfl)
        · have hF := ob_f c_42 hF
          refine lv_aload_n hx hb dX10_clothe_45 rfl (lv_at hl 0 rfl) ?_
          refine lv_iload_n hx hb dX10_clothe_46 rfl (lv_at hl 2 rfl) ?_
          obtain ⟨q_47, e_47, hF⟩ := ob_bd hF
          refine crM (As := [.int x2_29]) (rest := []) ⟨hx, hb, hml, hown, hts⟩ (cM_hasSome l D cI cZ h ad σ_29 x2_29 _ e_47) (cw_hasSome hts ⟨Nat.le_of_ble_eq_true rfl, Nat.le_of_ble_eq_true rfl⟩) hK hP rfl hl.1 rfl (lv_room (Nat.le_of_ble_eq_true rfl)) dX10_clothe_47 ?_
          refine lv_if_ne (tgt := 114) hx hb dX10_clothe_50 (by decide) (fun c_50 => ?_) (fun c_50 => ?_)
          · have hF := ob_f c_50 hF
            exact k_114 σ_29 _ _ _ hF hP hD hS (lv_sub hl [0, 1, 2] rfl)
          · have hF := ob_t c_50 hF
            refine lv_aload_n hx hb dX10_clothe_53 rfl (lv_at hl 0 rfl) ?_
            refine gM hx hb hts hin hown hK hP 41 (.ref (ad 41)) (by decide) mf_114 rfl dX10_clothe_54 ?_
            refine lv_iload_n hx hb dX10_clothe_57 rfl (lv_at hl 2 rfl) ?_
            refine lv_dup2_11 hx hb dX10_clothe_58 rfl rfl ?_
            obtain ⟨g_59, hF⟩ := ob_gd hF
            refine ldI hx hb hK hP (at_41 _ _ _ _ _) (σ_29.2 41 x2_29.toNatClampNeg) g_59 rfl dX10_clothe_59 ?_
            refine lv_aload_n hx hb dX10_clothe_60 rfl (lv_at hl 0 rfl) ?_
            refine gM hx hb hts hin hown hK hP 7 (.ref (ad 7)) (by decide) mf_26 rfl dX10_clothe_61 ?_
            refine lv_iload_n hx hb dX10_clothe_64 rfl (lv_at hl 3 rfl) ?_
            obtain ⟨g_65, hF⟩ := ob_gd hF
            refine ldZ hx hb hK hP (at_7 _ _ _ _ _) (σ_29.2 7 x3_29.toNatClampNeg) g_65 rfl dX10_clothe_65 ?_
            refine lv_if_eq (tgt := 105) hx hb dX10_clothe_66 (by decide) (fun c_66 => ?_) (fun c_66 => ?_)
            · have hF := ob_t c_66 hF
              refine lv_iconst (v := (0 : Int32)) hx hb dX10_clothe_105 (by decide) ?_
              exact b_106 x1_29 x2_29 x3_29 (fun x3_29 σ_29 => FM_clothe_29 K_114 x1_29 x2_29 n_29 x3_29 σ_29) ih_29 x2_29 (σ_29.2 41 x2_29.toNatClampNeg) (0 : Int32) σ_29 _ _ _ hF hP hD hS hl
            · have hF := ob_f c_66 hF
              refine lv_aload_n hx hb dX10_clothe_69 rfl (lv_at hl 0 rfl) ?_
              refine gM hx hb hts hin hown hK hP 19 (.ref (ad 19)) (by decide) mf_62 rfl dX10_clothe_70 ?_
              refine lv_iload_n hx hb dX10_clothe_73 rfl (lv_at hl 3 rfl) ?_
              obtain ⟨g_74, hF⟩ := ob_gd hF
              refine ldI hx hb hK hP (at_19 _ _ _ _ _) (σ_29.2 19 x3_29.toNatClampNeg) g_74 rfl dX10_clothe_74 ?_
              refine lv_iconst (v := (-1 : Int32)) hx hb dX10_clothe_75 (by decide) ?_
              refine lv_icmp_eq (tgt := 105) hx hb dX10_clothe_76 (by decide) (fun c_76 => ?_) (fun c_76 => ?_)
              · have hF := ob_t c_76 hF
                refine lv_iconst (v := (0 : Int32)) hx hb dX10_clothe_105 (by decide) ?_
                exact b_106 x1_29 x2_29 x3_29 (fun x3_29 σ_29 => FM_clothe_29 K_114 x1_29 x2_29 n_29 x3_29 σ_29) ih_29 x2_29 (σ_29.2 41 x2_29.toNatClampNeg) (0 : Int32) σ_29 _ _ _ hF hP hD hS hl
              · have hF := ob_f c_76 hF
                refine lv_aload_n hx hb dX10_clothe_79 rfl (lv_at hl 0 rfl) ?_
                refine gM hx hb hts hin hown hK hP 20 (.ref (ad 20)) (by decide) mf_65 rfl dX10_clothe_80 ?_
                refine lv_iload_n hx hb dX10_clothe_83 rfl (lv_at hl 3 rfl) ?_
                obtain ⟨g_84, hF⟩ := ob_gd hF
                refine ldI hx hb hK hP (at_20 _ _ _ _ _) (σ_29.2 20 x3_29.toNatClampNeg) g_84 rfl dX10_clothe_84 ?_
                refine lv_iconst (v := (-1 : Int32)) hx hb dX10_clothe_85 (by decide) ?_
                refine lv_icmp_ne (tgt := 105) hx hb dX10_clothe_86 (by decide) (fun c_86 => ?_) (fun c_86 => ?_)
                · have hF := ob_f c_86 hF
                  refine lv_iconst (v := (0 : Int32)) hx hb dX10_clothe_105 (by decide) ?_
                  exact b_106 x1_29 x2_29 x3_29 (fun x3_29 σ_29 => FM_clothe_29 K_114 x1_29 x2_29 n_29 x3_29 σ_29) ih_29 x2_29 (σ_29.2 41 x2_29.toNatClampNeg) (0 : Int32) σ_29 _ _ _ hF hP hD hS hl
                · have hF := ob_t c_86 hF
                  refine lv_aload_n hx hb dX10_clothe_89 rfl (lv_at hl 0 rfl) ?_
                  refine lv_iload_n hx hb dX10_clothe_90 rfl (lv_at hl 3 rfl) ?_
                  refine lv_iload_n hx hb dX10_clothe_91 rfl (lv_at hl 2 rfl) ?_
                  refine lv_iload_n hx hb dX10_clothe_92 rfl (lv_at hl 1 rfl) ?_
                  obtain ⟨q_93, e_93, hF⟩ := ob_bd hF
                  refine crM (As := [.int x3_29, .int x2_29, .int x1_29]) (rest := [.int (σ_29.2 41 x2_29.toNatClampNeg), .int x2_29, .ref (ad 41)]) ⟨hx, hb, hml, hown, hts⟩ (cM_mayWear l D cI cZ h ad σ_29 x3_29 x2_29 x1_29 _ e_93) (cw_mayWear hts ⟨Nat.le_of_ble_eq_true rfl, Nat.le_of_ble_eq_true rfl⟩) hK hP rfl hl.1 rfl (lv_room (Nat.le_of_ble_eq_true rfl)) dX10_clothe_93 ?_
                  refine lv_if_eq (tgt := 105) hx hb dX10_clothe_96 (by decide) (fun c_96 => ?_) (fun c_96 => ?_)
                  · have hF := ob_t c_96 hF
                    refine lv_iconst (v := (0 : Int32)) hx hb dX10_clothe_105 (by decide) ?_
                    exact b_106 x1_29 x2_29 x3_29 (fun x3_29 σ_29 => FM_clothe_29 K_114 x1_29 x2_29 n_29 x3_29 σ_29) ih_29 x2_29 (σ_29.2 41 x2_29.toNatClampNeg) (0 : Int32) σ_29 _ _ _ hF hP hD hS hl
                  · have hF := ob_f c_96 hF
                    refine lv_iconst (v := (1 : Int32)) hx hb dX10_clothe_99 (by decide) ?_
                    refine lv_iload_n hx hb dX10_clothe_100 rfl (lv_at hl 3 rfl) ?_
                    refine lv_ishl hx hb dX10_clothe_101 ?_
                    refine lv_goto (tgt := 106) hx hb dX10_clothe_102 (by decide) ?_
                    exact b_106 x1_29 x2_29 x3_29 (fun x3_29 σ_29 => FM_clothe_29 K_114 x1_29 x2_29 n_29 x3_29 σ_29) ih_29 x2_29 (σ_29.2 41 x2_29.toNatClampNeg) ((1 : Int32) <<< (x3_29 &&& 31)) σ_29 _ _ _ hF hP hD hS hl
  have b_114 : ∀ (x1_114 : Int32) (x2_114 : Int32) (K_14 : Int32 → MS → Option (Int32 × MS)) (k_14 : ∀ (x2_14 : Int32) (σ_14 : MS) (H : Heap) (locs : List Loc) (ls : Array Slot), K_14 x2_14 σ_14 = some q → va_P D vwCl (wM cI cZ h ad σ_14) H → va_D A (wM cI cZ h ad σ_14) → va_S A s.heap H locs → lv_has ls 5 [(0, .ref h), (1, .int x1_114), (2, .int x2_14)] → W p l e (headSpec wsM_clothe { frames := 4, cells := 0, slots := 0, locals := 98 }).room s m ([.ref h, .int p1] : List Value).toArray below meth c H locs 0 0 (MQ below (va_Qi (fun x u => x = q.1 ∧ u = q.2) (preM D cI cZ h ad A) A) ([.ref h, .int p1] : List Value).toArray s 0 0 A) (F0 m 14 ls [])) (σ_114 : MS) (H : Heap) (locs : List Loc) (ls : Array Slot), FM_clothe_114 K_14 x1_114 x2_114 σ_114 = some q → va_P D vwCl (wM cI cZ h ad σ_114) H → va_D A (wM cI cZ h ad σ_114) → va_S A s.heap H locs → lv_has ls 5 [(0, .ref h), (1, .int x1_114), (2, .int x2_114)] → W p l e (headSpec wsM_clothe { frames := 4, cells := 0, slots := 0, locals := 98 }).room s m ([.ref h, .int p1] : List Value).toArray below meth c H locs 0 0 (MQ below (va_Qi (fun x u => x = q.1 ∧ u = q.2) (preM D cI cZ h ad A) A) ([.ref h, .int p1] : List Value).toArray s 0 0 A) (F0 m 114 ls []) := by
    intro x1_114 x2_114 K_14 k_14 σ_114 H locs ls hF hP hD hS hl
    unfold FM_clothe_114 at hF
    refine lv_iinc (v := x2_114 + (1 : Int32)) (lv' := [(2, .int (x2_114 + (1 : Int32))), (0, .ref h), (1, .int x1_114)]) hx hb dX10_clothe_114 hl (k := 2) rfl rfl (by decide) rfl (fun ls hl => ?_)
    refine lv_goto (tgt := 14) hx hb dX10_clothe_117 (by decide) ?_
    exact k_14 (x2_114 + (1 : Int32)) σ_114 _ _ _ hF hP hD hS (lv_sub hl [1, 2, 0] rfl)
  have b_14 : ∀ (x1_14 : Int32) (K_120 : MS → Option (Int32 × MS)) (k_120 : ∀ (σ_120 : MS) (H : Heap) (locs : List Loc) (ls : Array Slot), K_120 σ_120 = some q → va_P D vwCl (wM cI cZ h ad σ_120) H → va_D A (wM cI cZ h ad σ_120) → va_S A s.heap H locs → lv_has ls 5 [(0, .ref h)] → W p l e (headSpec wsM_clothe { frames := 4, cells := 0, slots := 0, locals := 98 }).room s m ([.ref h, .int p1] : List Value).toArray below meth c H locs 0 0 (MQ below (va_Qi (fun x u => x = q.1 ∧ u = q.2) (preM D cI cZ h ad A) A) ([.ref h, .int p1] : List Value).toArray s 0 0 A) (F0 m 120 ls [])) (n_14 : Nat) (x2_14 : Int32) (σ_14 : MS) (H : Heap) (locs : List Loc) (ls : Array Slot), FM_clothe_14 K_120 x1_14 n_14 x2_14 σ_14 = some q → va_P D vwCl (wM cI cZ h ad σ_14) H → va_D A (wM cI cZ h ad σ_14) → va_S A s.heap H locs → lv_has ls 5 [(0, .ref h), (1, .int x1_14), (2, .int x2_14)] → W p l e (headSpec wsM_clothe { frames := 4, cells := 0, slots := 0, locals := 98 }).room s m ([.ref h, .int p1] : List Value).toArray below meth c H locs 0 0 (MQ below (va_Qi (fun x u => x = q.1 ∧ u = q.2) (preM D cI cZ h ad A) A) ([.ref h, .int p1] : List Value).toArray s 0 0 A) (F0 m 14 ls []) := by
    intro x1_14 K_120 k_120
    intro n_14
    induction n_14 with
    | zero =>
      intro x2_14 σ_14 H locs ls hF hP hD hS hl
      exact absurd hF (by simp [FM_clothe_14])
    | succ n_14 ih_14 =>
      intro x2_14 σ_14 H locs ls hF hP hD hS hl
      rw [FM_clothe_14] at hF
      refine lv_iload_n hx hb dX10_clothe_14 rfl (lv_at hl 2 rfl) ?_
      refine lv_bipush (v := (10 : Int32)) hx hb dX10_clothe_15 (by decide) ?_
      refine lv_icmp_ge (tgt := 120) hx hb dX10_clothe_17 (by decide) (fun c_17 => ?_) (fun c_17 => ?_)
      · have hF := ob_t c_17 hF
        exact k_120 σ_14 _ _ _ hF hP hD hS (lv_sub hl [0] rfl)
      · have hF := ob_f c_17 hF
        refine lv_aload_n hx hb dX10_clothe_20 rfl (lv_at hl 0 rfl) ?_
        refine gM hx hb hts hin hown hK hP 41 (.ref (ad 41)) (by decide) mf_114 rfl dX10_clothe_21 ?_
        refine lv_iload_n hx hb dX10_clothe_24 rfl (lv_at hl 2 rfl) ?_
        refine lv_iconst (v := (0 : Int32)) hx hb dX10_clothe_25 (by decide) ?_
        obtain ⟨g_26, hF⟩ := ob_gd hF
        refine stI hx hb hK hP hD hS (at_41 _ _ _ _ _) (st_41 _ _ _ _ _ _ _) g_26 dX10_clothe_26 (fun H locs hP hD hS => ?_)
        refine lv_iconst (v := (0 : Int32)) hx hb dX10_clothe_27 (by decide) ?_
        refine lv_istore_n (lv' := [(3, .int (0 : Int32)), (0, .ref h), (1, .int x1_14), (2, .int x2_14)]) hx hb dX10_clothe_28 rfl hl (by decide) rfl (fun ls hl => ?_)
        exact b_29 x1_14 x2_14 (fun σ_114 => FM_clothe_114 (fun x2_14 σ_14 => FM_clothe_14 K_120 x1_14 n_14 x2_14 σ_14) x1_14 x2_14 σ_114) (fun σ_114 => b_114 x1_14 x2_14 (fun x2_14 σ_14 => FM_clothe_14 K_120 x1_14 n_14 x2_14 σ_14) ih_14 σ_114) fu (0 : Int32) (sa σ_14 41 x2_14 (0 : Int32)) _ _ _ hF hP hD hS (lv_sub hl [1, 2, 3, 0] rfl)
  have b_168 : ∀ (x2_168 : Int32) (x4_168 : Int32) (K_130 : Int32 → Int32 → MS → Option (Int32 × MS)) (k_130 : ∀ (x3_130 : Int32) (x4_130 : Int32) (σ_130 : MS) (H : Heap) (locs : List Loc) (ls : Array Slot), K_130 x3_130 x4_130 σ_130 = some q → va_P D vwCl (wM cI cZ h ad σ_130) H → va_D A (wM cI cZ h ad σ_130) → va_S A s.heap H locs → lv_has ls 5 [(0, .ref h), (2, .int x2_168), (3, .int x3_130), (4, .int x4_130)] → W p l e (headSpec wsM_clothe { frames := 4, cells := 0, slots := 0, locals := 98 }).room s m ([.ref h, .int p1] : List Value).toArray below meth c H locs 0 0 (MQ below (va_Qi (fun x u => x = q.1 ∧ u = q.2) (preM D cI cZ h ad A) A) ([.ref h, .int p1] : List Value).toArray s 0 0 A) (F0 m 130 ls [])) (t0_168 : Int32) (t1_168 : Int32) (σ_168 : MS) (H : Heap) (locs : List Loc) (ls : Array Slot), FM_clothe_168 K_130 x2_168 x4_168 t0_168 t1_168 σ_168 = some q → va_P D vwCl (wM cI cZ h ad σ_168) H → va_D A (wM cI cZ h ad σ_168) → va_S A s.heap H locs → lv_has ls 5 [(0, .ref h), (2, .int x2_168), (4, .int x4_168)] → W p l e (headSpec wsM_clothe { frames := 4, cells := 0, slots := 0, locals := 98 }).room s m ([.ref h, .int p1] : List Value).toArray below meth c H locs 0 0 (MQ below (va_Qi (fun x u => x = q.1 ∧ u = q.2) (preM D cI cZ h ad A) A) ([.ref h, .int p1] : List Value).toArray s 0 0 A) (F0 m 168 ls [.int t1_168, .int t0_168]) := by
    intro x2_168 x4_168 K_130 k_130 t0_168 t1_168 σ_168 H locs ls hF hP hD hS hl
    unfold FM_clothe_168 at hF
    refine lv_isub hx hb dX10_clothe_168 ?_
    refine lv_istore_n (lv' := [(3, .int (t0_168 - t1_168)), (0, .ref h), (2, .int x2_168), (4, .int x4_168)]) hx hb dX10_clothe_169 rfl hl (by decide) rfl (fun ls hl => ?_)
    refine lv_iinc (v := x4_168 + (1 : Int32)) (lv' := [(4, .int (x4_168 + (1 : Int32))), (3, .int (t0_168 - t1_168)), (0, .ref h), (2, .int x2_168)]) hx hb dX10_clothe_170 hl (k := 3) rfl rfl (by decide) rfl (fun ls hl => ?_)
    refine lv_goto (tgt := 130) hx hb dX10_clothe_173 (by decide) ?_
    exact k_130 (t0_168 - t1_168) (x4_168 + (1 : Int32)) σ_168 _ _ _ hF hP hD hS (lv_sub hl [2, 3, 1, 0] rfl)
  have b_130 : ∀ (x2_130 : Int32) (n_130 : Nat) (x3_130 : Int32) (x4_130 : Int32) (σ_130 : MS) (H : Heap) (locs : List Loc) (ls : Array Slot), FM_clothe_130 x2_130 n_130 x3_130 x4_130 σ_130 = some q → va_P D vwCl (wM cI cZ h ad σ_130) H → va_D A (wM cI cZ h ad σ_130) → va_S A s.heap H locs → lv_has ls 5 [(0, .ref h), (2, .int x2_130), (3, .int x3_130), (4, .int x4_130)] → W p l e (headSpec wsM_clothe { frames := 4, cells := 0, slots := 0, locals := 98 }).room s m ([.ref h, .int p1] : List Value).toArray below meth c H locs 0 0 (MQ below (va_Qi (fun x u => x = q.1 ∧ u = q.2) (preM D cI cZ h ad A) A) ([.ref h, .int p1] : List Value).toArray s 0 0 A) (F0 m 130 ls []) := by
    intro x2_130
    intro n_130
    induction n_130 with
    | zero =>
      intro x3_130 x4_130 σ_130 H locs ls hF hP hD hS hl
      exact absurd hF (by simp [FM_clothe_130])
    | succ n_130 ih_130 =>
      intro x3_130 x4_130 σ_130 H locs ls hF hP hD hS hl
      rw [FM_clothe_130] at hF
      refine lv_iload hx hb dX10_clothe_130 (lv_at hl 3 rfl) ?_
      refine lv_bipush (v := (10 : Int32)) hx hb dX10_clothe_132 (by decide) ?_
      refine lv_icmp_ge (tgt := 176) hx hb dX10_clothe_134 (by decide) (fun c_134 => ?_) (fun c_134 => ?_)
      · have hF := ob_t c_134 hF
        refine lv_iload_n hx hb dX10_clothe_176 rfl (lv_at hl 1 rfl) ?_
        exact rwM hx hb hr hlocks hF hK hP hD hS dX10_clothe_177
      · have hF := ob_f c_134 hF
        refine lv_aload_n hx hb dX10_clothe_137 rfl (lv_at hl 0 rfl) ?_
        refine gM hx hb hts hin hown hK hP 43 (.ref (ad 43)) (by decide) mf_120 rfl dX10_clothe_138 ?_
        refine lv_iload hx hb dX10_clothe_141 (lv_at hl 3 rfl) ?_
        refine lv_aload_n hx hb dX10_clothe_143 rfl (lv_at hl 0 rfl) ?_
        refine lv_iload hx hb dX10_clothe_144 (lv_at hl 3 rfl) ?_
        refine lv_iload_n hx hb dX10_clothe_146 rfl (lv_at hl 2 rfl) ?_
        obtain ⟨q_147, e_147, hF⟩ := ob_bd hF
        refine cwM (As := [.int x4_130, .int x3_130]) (rest := [.int x4_130, .ref (ad 43)]) ⟨hx, hb, hml, hown, hts⟩ (cM_leastFor l D cI cZ h ad A σ_130 x4_130 x3_130 _ e_147) (cw_leastFor hts ⟨Nat.le_of_ble_eq_true rfl, Nat.le_of_ble_eq_true rfl⟩) hK hP hD hS rfl hl.1 rfl (lv_room (Nat.le_of_ble_eq_true rfl)) dX10_clothe_147 (fun H locs hP hD hS => ?_)
        obtain ⟨g_150, hF⟩ := ob_gd hF
        refine stI hx hb hK hP hD hS (at_43 _ _ _ _ _) (st_43 _ _ _ _ _ _ _) g_150 dX10_clothe_150 (fun H locs hP hD hS => ?_)
        refine lv_iload_n hx hb dX10_clothe_151 rfl (lv_at hl 2 rfl) ?_
        refine lv_aload_n hx hb dX10_clothe_152 rfl (lv_at hl 0 rfl) ?_
        refine gM hx hb hts hin hown hK hP 43 (.ref (ad 43)) (by decide) mf_120 rfl dX10_clothe_153 ?_
        refine lv_iload hx hb dX10_clothe_156 (lv_at hl 3 rfl) ?_
        obtain ⟨g_158, hF⟩ := ob_gd hF
        refine ldI hx hb hK hP (at_43 _ _ _ _ _) ((sa q_147.2 43 x4_130 q_147.1).2 43 x4_130.toNatClampNeg) g_158 rfl dX10_clothe_158 ?_
        refine lv_iconst (v := (-1 : Int32)) hx hb dX10_clothe_159 (by decide) ?_
        refine lv_icmp_eq (tgt := 167) hx hb dX10_clothe_160 (by decide) (fun c_160 => ?_) (fun c_160 => ?_)
        · have hF := ob_t c_160 hF
          refine lv_iconst (v := (0 : Int32)) hx hb dX10_clothe_167 (by decide) ?_
          exact b_168 x2_130 x4_130 (fun x3_130 x4_130 σ_130 => FM_clothe_130  x2_130 n_130 x3_130 x4_130 σ_130) ih_130 x3_130 (0 : Int32) (sa q_147.2 43 x4_130 q_147.1) _ _ _ hF hP hD hS (lv_sub hl [0, 1, 3] rfl)
        · have hF := ob_f c_160 hF
          refine lv_iconst (v := (1 : Int32)) hx hb dX10_clothe_163 (by decide) ?_
          refine lv_goto (tgt := 168) hx hb dX10_clothe_164 (by decide) ?_
          exact b_168 x2_130 x4_130 (fun x3_130 x4_130 σ_130 => FM_clothe_130  x2_130 n_130 x3_130 x4_130 σ_130) ih_130 x3_130 (1 : Int32) (sa q_147.2 43 x4_130 q_147.1) _ _ _ hF hP hD hS (lv_sub hl [0, 1, 3] rfl)
  have b_120 : ∀ (σ_120 : MS) (H : Heap) (locs : List Loc) (ls : Array Slot), FM_clothe_120 σ_120 = some q → va_P D vwCl (wM cI cZ h ad σ_120) H → va_D A (wM cI cZ h ad σ_120) → va_S A s.heap H locs → lv_has ls 5 [(0, .ref h)] → W p l e (headSpec wsM_clothe { frames := 4, cells := 0, slots := 0, locals := 98 }).room s m ([.ref h, .int p1] : List Value).toArray below meth c H locs 0 0 (MQ below (va_Qi (fun x u => x = q.1 ∧ u = q.2) (preM D cI cZ h ad A) A) ([.ref h, .int p1] : List Value).toArray s 0 0 A) (F0 m 120 ls []) := by
    intro σ_120 H locs ls hF hP hD hS hl
    unfold FM_clothe_120 at hF
    refine lv_aload_n hx hb dX10_clothe_120 rfl (lv_at hl 0 rfl) ?_
    obtain ⟨q_121, e_121, hF⟩ := ob_bd hF
    refine cwM (As := []) (rest := []) ⟨hx, hb, hml, hown, hts⟩ (cM_most l D cI cZ h ad A σ_120 _ e_121) (cw_most hts ⟨Nat.le_of_ble_eq_true rfl, Nat.le_of_ble_eq_true rfl⟩) hK hP hD hS rfl hl.1 rfl (lv_room (Nat.le_of_ble_eq_true rfl)) dX10_clothe_121 (fun H locs hP hD hS => ?_)
    refine lv_istore_n (lv' := [(2, .int q_121.1), (0, .ref h)]) hx hb dX10_clothe_124 rfl hl (by decide) rfl (fun ls hl => ?_)
    refine lv_iload_n hx hb dX10_clothe_125 rfl (lv_at hl 0 rfl) ?_
    refine lv_istore_n (lv' := [(3, .int q_121.1), (2, .int q_121.1), (0, .ref h)]) hx hb dX10_clothe_126 rfl hl (by decide) rfl (fun ls hl => ?_)
    refine lv_iconst (v := (0 : Int32)) hx hb dX10_clothe_127 (by decide) ?_
    refine lv_istore (lv' := [(4, .int (0 : Int32)), (3, .int q_121.1), (2, .int q_121.1), (0, .ref h)]) hx hb dX10_clothe_128 hl (by decide) rfl (fun ls hl => ?_)
    exact b_130 q_121.1 fu q_121.1 (0 : Int32) q_121.2 _ _ _ hF hP hD hS (lv_sub hl [3, 2, 1, 0] rfl)
  have hl := lv_entry ([.ref h, .int p1]) (n := 5) (Nat.le_of_ble_eq_true rfl)
  rw [lg_entry_eq]
  generalize (lg_sl ([.ref h, .int p1]) ++ List.replicate (5 - (lg_sl ([.ref h, .int p1])).length) Slot.unset).toArray = ls at hl ⊢
  have hl : lv_has ls 5 [(0, .ref h), (1, .int p1)] := hl
  unfold FM_clothe at hF
  refine lv_iload_n hx hb dX10_clothe_0 rfl (lv_at hl 1 rfl) ?_
  refine lv_iconst (v := (0 : Int32)) hx hb dX10_clothe_1 (by decide) ?_
  refine lv_iconst (v := (3 : Int32)) hx hb dX10_clothe_2 (by decide) ?_
  obtain ⟨q_3, e_3, hF⟩ := ob_bd hF
  refine csM (As := [.int p1, .int (0 : Int32), .int (3 : Int32)]) (rest := []) ⟨hx, hb, hml, hown, hts⟩ (cM_in l p1 (0 : Int32) (3 : Int32) _ e_3) (cw_in hts ⟨Nat.le_of_ble_eq_true rfl, Nat.le_of_ble_eq_true rfl⟩) rfl hl.1 rfl (lv_room (Nat.le_of_ble_eq_true rfl)) dX10_clothe_3 ?_
  refine lv_if_ne (tgt := 12) hx hb dX10_clothe_6 (by decide) (fun c_6 => ?_) (fun c_6 => ?_)
  · have hF := ob_f c_6 hF
    refine lv_iconst (v := (0 : Int32)) hx hb dX10_clothe_12 (by decide) ?_
    refine lv_istore_n (lv' := [(2, .int (0 : Int32)), (0, .ref h), (1, .int p1)]) hx hb dX10_clothe_13 rfl hl (by decide) rfl (fun ls hl => ?_)
    exact b_14 p1 (fun σ_120 => FM_clothe_120 σ_120) (fun σ_120 => b_120 σ_120) fu (0 : Int32) σ _ _ _ hF hP hD hS (lv_sub hl [1, 2, 0] rfl)
  · have hF := ob_t c_6 hF
    refine lv_bipush (v := (-2 : Int32)) hx hb dX10_clothe_9 (by decide) ?_
    exact rwM hx hb hr hlocks hF hK hP hD hS dX10_clothe_11
def FM_gets (σ : MS) (p1 : Int32) : Option Int32 := ((FM_in p1 (0 : Int32) (9 : Int32)).bind fun q_4 => (if q_4 = 0 then (some (-1 : Int32)) else (gd (inb p1 10) (some (σ.2 43 p1.toNatClampNeg)))))
def wsM_gets : List Cond := Cond.code yX10_gets cX10_gets 2 (some .int) :: wMa
set_option maxHeartbeats 4000000 in
set_option maxRecDepth 100000 in
theorem cM_gets (l : Launch) (D : va_G) (cI cZ : ClassId) (h : Nat) (ad : Nat → Nat) (σ : MS) (p1 : Int32) (q : Int32) (hF : FM_gets σ p1 = some q) : Met l yX10_gets wsM_gets { frames := 1, cells := 0, slots := 0, locals := 22 } (va_Pc [.ref h, .int p1] (preR D cI cZ h ad σ)) (vp_Si (fun x => x = q)) 0 0 (fun _ => False) := by
  refine Met.ofW (cc := cX10_gets) (maxL := 2) (ret := (some .int)) (by decide) rfl ?_
  intro p e s m args below meth c s₁ B hml hv
  obtain ⟨rfl, hP, hK⟩ := hv
  have hx := B.exec
  have hb := B.bytes
  have hr := B.returns
  have hts : ∀ w ∈ (Cond.code yX10_gets cX10_gets 2 (some .int) :: wMa), w.before ([.ref h, .int p1] : List Value).toArray s = true := atoms_spec (ws := wsM_gets) B.pre
  have hin : ∀ w ∈ wMa, w ∈ (Cond.code yX10_gets cX10_gets 2 (some .int) :: wMa) := fun w hw => List.mem_cons_of_mem _ hw
  have hown : s.vm.findClass RX10 = some m.cls := findClass_of_methodNamed B.named
  have hlocks := B.notSynchronized
  have hl := lv_entry ([.ref h, .int p1]) (n := 2) (Nat.le_of_ble_eq_true rfl)
  rw [lg_entry_eq]
  generalize (lg_sl ([.ref h, .int p1]) ++ List.replicate (2 - (lg_sl ([.ref h, .int p1])).length) Slot.unset).toArray = ls at hl ⊢
  have hl : lv_has ls 2 [(0, .ref h), (1, .int p1)] := hl
  unfold FM_gets at hF
  refine lv_iload_n hx hb dX10_gets_0 rfl (lv_at hl 1 rfl) ?_
  refine lv_iconst (v := (0 : Int32)) hx hb dX10_gets_1 (by decide) ?_
  refine lv_bipush (v := (9 : Int32)) hx hb dX10_gets_2 (by decide) ?_
  obtain ⟨q_4, e_4, hF⟩ := ob_bd hF
  refine csM (As := [.int p1, .int (0 : Int32), .int (9 : Int32)]) (rest := []) ⟨hx, hb, hml, hown, hts⟩ (cM_in l p1 (0 : Int32) (9 : Int32) _ e_4) (cw_in hts ⟨Nat.le_of_ble_eq_true rfl, Nat.le_of_ble_eq_true rfl⟩) rfl hl.1 rfl (lv_room (Nat.le_of_ble_eq_true rfl)) dX10_gets_4 ?_
  refine lv_if_eq (tgt := 19) hx hb dX10_gets_7 (by decide) (fun c_7 => ?_) (fun c_7 => ?_)
  · have hF := ob_t c_7 hF
    refine lv_iconst (v := (-1 : Int32)) hx hb dX10_gets_19 (by decide) ?_
    exact rrM hx hb hr hlocks hF dX10_gets_20
  · have hF := ob_f c_7 hF
    refine lv_aload_n hx hb dX10_gets_10 rfl (lv_at hl 0 rfl) ?_
    refine gM hx hb hts hin hown hK hP 43 (.ref (ad 43)) (by decide) mf_120 rfl dX10_gets_11 ?_
    refine lv_iload_n hx hb dX10_gets_14 rfl (lv_at hl 1 rfl) ?_
    obtain ⟨g_15, hF⟩ := ob_gd hF
    refine ldI hx hb hK hP (at_43 _ _ _ _ _) (σ.2 43 p1.toNatClampNeg) g_15 rfl dX10_gets_15 ?_
    refine lv_goto (tgt := 20) hx hb dX10_gets_16 (by decide) ?_
    exact rrM hx hb hr hlocks hF dX10_gets_20
def FM_count_65 (σ : MS) (K_42 : Int32 → Int32 → Option Int32) (x3_65 : Int32) (t0_65 : Int32) (t1_65 : Int32) : Option Int32 := (K_42 (t0_65 + t1_65) (x3_65 + (1 : Int32)))
def FM_count_42 (σ : MS) : Nat → Int32 → Int32 → Option Int32
  | 0, _, _ => none
  | n_42 + 1, x2_42, x3_42 => (if (σ.1 0) ≤ x3_42 then (some x2_42) else (gd (inb x3_42 40) (if (σ.2 1 x3_42.toNatClampNeg) = 0 then (FM_count_65 σ (fun x2_42 x3_42 => FM_count_42 σ  n_42 x2_42 x3_42) x3_42 x2_42 (0 : Int32)) else (FM_count_65 σ (fun x2_42 x3_42 => FM_count_42 σ  n_42 x2_42 x3_42) x3_42 x2_42 (1 : Int32)))))
def FM_count_100 (σ : MS) (K_77 : Int32 → Int32 → Option Int32) (x3_100 : Int32) (t0_100 : Int32) (t1_100 : Int32) : Option Int32 := (K_77 (t0_100 + t1_100) (x3_100 + (1 : Int32)))
def FM_count_77 (σ : MS) : Nat → Int32 → Int32 → Option Int32
  | 0, _, _ => none
  | n_77 + 1, x2_77, x3_77 => (if (σ.1 6) ≤ x3_77 then (some x2_77) else (gd (inb x3_77 30) (if (σ.2 7 x3_77.toNatClampNeg) = 0 then (FM_count_100 σ (fun x2_77 x3_77 => FM_count_77 σ  n_77 x2_77 x3_77) x3_77 x2_77 (0 : Int32)) else (FM_count_100 σ (fun x2_77 x3_77 => FM_count_77 σ  n_77 x2_77 x3_77) x3_77 x2_77 (1 : Int32)))))
def FM_count_145 (σ : MS) (K_112 : Int32 → Int32 → Option Int32) (x3_145 : Int32) (t0_145 : Int32) (t1_145 : Int32) : Option Int32 := (K_112 (t0_145 + t1_145) (x3_145 + (1 : Int32)))
def FM_count_112 (σ : MS) : Nat → Int32 → Int32 → Option Int32
  | 0, _, _ => none
  | n_112 + 1, x2_112, x3_112 => (if (σ.1 6) ≤ x3_112 then (some x2_112) else (gd (inb x3_112 30) (if (σ.2 7 x3_112.toNatClampNeg) = 0 then (FM_count_145 σ (fun x2_112 x3_112 => FM_count_112 σ  n_112 x2_112 x3_112) x3_112 x2_112 (0 : Int32)) else (gd (inb x3_112 30) (if (σ.2 20 x3_112.toNatClampNeg) = (-1 : Int32) then (FM_count_145 σ (fun x2_112 x3_112 => FM_count_112 σ  n_112 x2_112 x3_112) x3_112 x2_112 (0 : Int32)) else (FM_count_145 σ (fun x2_112 x3_112 => FM_count_112 σ  n_112 x2_112 x3_112) x3_112 x2_112 (1 : Int32)))))))
def FM_count_185 (σ : MS) (K_157 : Int32 → Int32 → Option Int32) (x3_185 : Int32) (t0_185 : Int32) (t1_185 : Int32) : Option Int32 := (K_157 (t0_185 + t1_185) (x3_185 + (1 : Int32)))
def FM_count_157 (σ : MS) (K_193 : Int32 → Option Int32) : Nat → Int32 → Int32 → Option Int32
  | 0, _, _ => none
  | n_157 + 1, x2_157, x3_157 => (if (σ.1 0) ≤ x3_157 then (K_193 x2_157) else (gd (inb x3_157 40) (if (σ.2 1 x3_157.toNatClampNeg) = 0 then (FM_count_185 σ (fun x2_157 x3_157 => FM_count_157 σ K_193 n_157 x2_157 x3_157) x3_157 x2_157 (0 : Int32)) else (gd (inb x3_157 40) (FM_count_185 σ (fun x2_157 x3_157 => FM_count_157 σ K_193 n_157 x2_157 x3_157) x3_157 x2_157 (σ.2 2 x3_157.toNatClampNeg))))))
def FM_count_237 (σ : MS) (K_195 : Int32 → Int32 → Option Int32) (x3_237 : Int32) (t0_237 : Int32) (t1_237 : Int32) : Option Int32 := (K_195 (t0_237 + t1_237) (x3_237 + (1 : Int32)))
def FM_count_195 (σ : MS) : Nat → Int32 → Int32 → Option Int32
  | 0, _, _ => none
  | n_195 + 1, x2_195, x3_195 => (if (σ.1 6) ≤ x3_195 then (some x2_195) else (gd (inb x3_195 30) (if (σ.2 7 x3_195.toNatClampNeg) = 0 then (FM_count_237 σ (fun x2_195 x3_195 => FM_count_195 σ  n_195 x2_195 x3_195) x3_195 x2_195 (0 : Int32)) else ((FM_rowsOf σ x3_195).bind fun q_215 => (gd (inb x3_195 30) (if (σ.2 15 x3_195.toNatClampNeg) = 0 then (FM_count_237 σ (fun x2_195 x3_195 => FM_count_195 σ  n_195 x2_195 x3_195) x3_195 x2_195 (q_215 * (1 : Int32))) else (FM_count_237 σ (fun x2_195 x3_195 => FM_count_195 σ  n_195 x2_195 x3_195) x3_195 x2_195 (q_215 * (2 : Int32)))))))))
def FM_count_193 (σ : MS) (x2_193 : Int32) : Option Int32 := (FM_count_195 σ fu x2_193 (0 : Int32))
def FM_count (σ : MS) (p1 : Int32) : Option Int32 := (if p1 = (0 : Int32) then (FM_count_42 σ fu (0 : Int32) (0 : Int32)) else (if p1 = (1 : Int32) then (FM_count_77 σ fu (0 : Int32) (0 : Int32)) else (if p1 = (2 : Int32) then (FM_count_112 σ fu (0 : Int32) (0 : Int32)) else (if p1 = (3 : Int32) then (FM_count_157 σ (fun x2_193 => FM_count_193 σ x2_193) fu (0 : Int32) (0 : Int32)) else (if p1 = (4 : Int32) then (some (σ.1 31)) else (if p1 = (5 : Int32) then (some (σ.1 0)) else (some (-1 : Int32))))))))
def wsM_count : List Cond := Cond.code yX10_count cX10_count 4 (some .int) :: wMa
set_option maxHeartbeats 4000000 in
set_option maxRecDepth 100000 in
theorem cM_count (l : Launch) (D : va_G) (cI cZ : ClassId) (h : Nat) (ad : Nat → Nat) (σ : MS) (p1 : Int32) (q : Int32) (hF : FM_count σ p1 = some q) : Met l yX10_count wsM_count { frames := 1, cells := 0, slots := 0, locals := 21 } (va_Pc [.ref h, .int p1] (preR D cI cZ h ad σ)) (vp_Si (fun x => x = q)) 0 0 (fun _ => False) := by
  refine Met.ofW (cc := cX10_count) (maxL := 4) (ret := (some .int)) (by decide) rfl ?_
  intro p e s m args below meth c s₁ B hml hv
  obtain ⟨rfl, hP, hK⟩ := hv
  have hx := B.exec
  have hb := B.bytes
  have hr := B.returns
  have hts : ∀ w ∈ (Cond.code yX10_count cX10_count 4 (some .int) :: wMa), w.before ([.ref h, .int p1] : List Value).toArray s = true := atoms_spec (ws := wsM_count) B.pre
  have hin : ∀ w ∈ wMa, w ∈ (Cond.code yX10_count cX10_count 4 (some .int) :: wMa) := fun w hw => List.mem_cons_of_mem _ hw
  have hown : s.vm.findClass RX10 = some m.cls := findClass_of_methodNamed B.named
  have hlocks := B.notSynchronized
  have b_65 : ∀ (x3_65 : Int32) (K_42 : Int32 → Int32 → Option Int32) (k_42 : ∀ (x2_42 : Int32) (x3_42 : Int32) (ls : Array Slot), K_42 x2_42 x3_42 = some q → lv_has ls 4 [(0, .ref h), (2, .int x2_42), (3, .int x3_42)] → W p l e (headSpec wsM_count { frames := 1, cells := 0, slots := 0, locals := 21 }).room s m ([.ref h, .int p1] : List Value).toArray below meth c s.heap [] 0 0 (MQ below (vp_Si (fun x => x = q)) ([.ref h, .int p1] : List Value).toArray s 0 0 (fun _ => False)) (F0 m 42 ls [])) (t0_65 : Int32) (t1_65 : Int32) (ls : Array Slot), FM_count_65 σ K_42 x3_65 t0_65 t1_65 = some q → lv_has ls 4 [(0, .ref h), (3, .int x3_65)] → W p l e (headSpec wsM_count { frames := 1, cells := 0, slots := 0, locals := 21 }).room s m ([.ref h, .int p1] : List Value).toArray below meth c s.heap [] 0 0 (MQ below (vp_Si (fun x => x = q)) ([.ref h, .int p1] : List Value).toArray s 0 0 (fun _ => False)) (F0 m 65 ls [.int t1_65, .int t0_65]) := by
    intro x3_65 K_42 k_42 t0_65 t1_65 ls hF hl
    unfold FM_count_65 at hF
    refine lv_iadd hx hb dX10_count_65 ?_
    refine lv_istore_n (lv' := [(2, .int (t0_65 + t1_65)), (0, .ref h), (3, .int x3_65)]) hx hb dX10_count_66 rfl hl (by decide) rfl (fun ls hl => ?_)
    refine lv_iinc (v := x3_65 + (1 : Int32)) (lv' := [(3, .int (x3_65 + (1 : Int32))), (2, .int (t0_65 + t1_65)), (0, .ref h)]) hx hb dX10_count_67 hl (k := 2) rfl rfl (by decide) rfl (fun ls hl => ?_)
    refine lv_goto (tgt := 42) hx hb dX10_count_70 (by decide) ?_
    exact k_42 (t0_65 + t1_65) (x3_65 + (1 : Int32)) _ hF (lv_sub hl [2, 1, 0] rfl)
  have b_42 : ∀ (n_42 : Nat) (x2_42 : Int32) (x3_42 : Int32) (ls : Array Slot), FM_count_42 σ n_42 x2_42 x3_42 = some q → lv_has ls 4 [(0, .ref h), (2, .int x2_42), (3, .int x3_42)] → W p l e (headSpec wsM_count { frames := 1, cells := 0, slots := 0, locals := 21 }).room s m ([.ref h, .int p1] : List Value).toArray below meth c s.heap [] 0 0 (MQ below (vp_Si (fun x => x = q)) ([.ref h, .int p1] : List Value).toArray s 0 0 (fun _ => False)) (F0 m 42 ls []) := by
    intro n_42
    induction n_42 with
    | zero =>
      intro x2_42 x3_42 ls hF hl
      exact absurd hF (by simp [FM_count_42])
    | succ n_42 ih_42 =>
      intro x2_42 x3_42 ls hF hl
      rw [FM_count_42] at hF
      refine lv_iload_n hx hb dX10_count_42 rfl (lv_at hl 2 rfl) ?_
      refine lv_aload_n hx hb dX10_count_43 rfl (lv_at hl 0 rfl) ?_
      refine gM hx hb hts hin hown hK hP 0 (.int (σ.1 0)) (by decide) mf_138 rfl dX10_count_44 ?_
      refine lv_icmp_ge (tgt := 73) hx hb dX10_count_47 (by decide) (fun c_47 => ?_) (fun c_47 => ?_)
      · have hF := ob_t c_47 hF
        refine lv_iload_n hx hb dX10_count_73 rfl (lv_at hl 1 rfl) ?_
        exact rrM hx hb hr hlocks hF dX10_count_74
      · have hF := ob_f c_47 hF
        refine lv_iload_n hx hb dX10_count_50 rfl (lv_at hl 1 rfl) ?_
        refine lv_aload_n hx hb dX10_count_51 rfl (lv_at hl 0 rfl) ?_
        refine gM hx hb hts hin hown hK hP 1 (.ref (ad 1)) (by decide) mf_7 rfl dX10_count_52 ?_
        refine lv_iload_n hx hb dX10_count_55 rfl (lv_at hl 2 rfl) ?_
        obtain ⟨g_56, hF⟩ := ob_gd hF
        refine ldZ hx hb hK hP (at_1 _ _ _ _ _) (σ.2 1 x3_42.toNatClampNeg) g_56 rfl dX10_count_56 ?_
        refine lv_if_eq (tgt := 64) hx hb dX10_count_57 (by decide) (fun c_57 => ?_) (fun c_57 => ?_)
        · have hF := ob_t c_57 hF
          refine lv_iconst (v := (0 : Int32)) hx hb dX10_count_64 (by decide) ?_
          exact b_65 x3_42 (fun x2_42 x3_42 => FM_count_42 σ  n_42 x2_42 x3_42) ih_42 x2_42 (0 : Int32) _ hF (lv_sub hl [0, 2] rfl)
        · have hF := ob_f c_57 hF
          refine lv_iconst (v := (1 : Int32)) hx hb dX10_count_60 (by decide) ?_
          refine lv_goto (tgt := 65) hx hb dX10_count_61 (by decide) ?_
          exact b_65 x3_42 (fun x2_42 x3_42 => FM_count_42 σ  n_42 x2_42 x3_42) ih_42 x2_42 (1 : Int32) _ hF (lv_sub hl [0, 2] rfl)
  have b_100 : ∀ (x3_100 : Int32) (K_77 : Int32 → Int32 → Option Int32) (k_77 : ∀ (x2_77 : Int32) (x3_77 : Int32) (ls : Array Slot), K_77 x2_77 x3_77 = some q → lv_has ls 4 [(0, .ref h), (2, .int x2_77), (3, .int x3_77)] → W p l e (headSpec wsM_count { frames := 1, cells := 0, slots := 0, locals := 21 }).room s m ([.ref h, .int p1] : List Value).toArray below meth c s.heap [] 0 0 (MQ below (vp_Si (fun x => x = q)) ([.ref h, .int p1] : List Value).toArray s 0 0 (fun _ => False)) (F0 m 77 ls [])) (t0_100 : Int32) (t1_100 : Int32) (ls : Array Slot), FM_count_100 σ K_77 x3_100 t0_100 t1_100 = some q → lv_has ls 4 [(0, .ref h), (3, .int x3_100)] → W p l e (headSpec wsM_count { frames := 1, cells := 0, slots := 0, locals := 21 }).room s m ([.ref h, .int p1] : List Value).toArray below meth c s.heap [] 0 0 (MQ below (vp_Si (fun x => x = q)) ([.ref h, .int p1] : List Value).toArray s 0 0 (fun _ => False)) (F0 m 100 ls [.int t1_100, .int t0_100]) := by
    intro x3_100 K_77 k_77 t0_100 t1_100 ls hF hl
    unfold FM_count_100 at hF
    refine lv_iadd hx hb dX10_count_100 ?_
    refine lv_istore_n (lv' := [(2, .int (t0_100 + t1_100)), (0, .ref h), (3, .int x3_100)]) hx hb dX10_count_101 rfl hl (by decide) rfl (fun ls hl => ?_)
    refine lv_iinc (v := x3_100 + (1 : Int32)) (lv' := [(3, .int (x3_100 + (1 : Int32))), (2, .int (t0_100 + t1_100)), (0, .ref h)]) hx hb dX10_count_102 hl (k := 2) rfl rfl (by decide) rfl (fun ls hl => ?_)
    refine lv_goto (tgt := 77) hx hb dX10_count_105 (by decide) ?_
    exact k_77 (t0_100 + t1_100) (x3_100 + (1 : Int32)) _ hF (lv_sub hl [2, 1, 0] rfl)
  have b_77 : ∀ (n_77 : Nat) (x2_77 : Int32) (x3_77 : Int32) (ls : Array Slot), FM_count_77 σ n_77 x2_77 x3_77 = some q → lv_has ls 4 [(0, .ref h), (2, .int x2_77), (3, .int x3_77)] → W p l e (headSpec wsM_count { frames := 1, cells := 0, slots := 0, locals := 21 }).room s m ([.ref h, .int p1] : List Value).toArray below meth c s.heap [] 0 0 (MQ below (vp_Si (fun x => x = q)) ([.ref h, .int p1] : List Value).toArray s 0 0 (fun _ => False)) (F0 m 77 ls []) := by
    intro n_77
    induction n_77 with
    | zero =>
      intro x2_77 x3_77 ls hF hl
      exact absurd hF (by simp [FM_count_77])
    | succ n_77 ih_77 =>
      intro x2_77 x3_77 ls hF hl
      rw [FM_count_77] at hF
      refine lv_iload_n hx hb dX10_count_77 rfl (lv_at hl 2 rfl) ?_
      refine lv_aload_n hx hb dX10_count_78 rfl (lv_at hl 0 rfl) ?_
      refine gM hx hb hts hin hown hK hP 6 (.int (σ.1 6)) (by decide) mf_145 rfl dX10_count_79 ?_
      refine lv_icmp_ge (tgt := 108) hx hb dX10_count_82 (by decide) (fun c_82 => ?_) (fun c_82 => ?_)
      · have hF := ob_t c_82 hF
        refine lv_iload_n hx hb dX10_count_108 rfl (lv_at hl 1 rfl) ?_
        exact rrM hx hb hr hlocks hF dX10_count_109
      · have hF := ob_f c_82 hF
        refine lv_iload_n hx hb dX10_count_85 rfl (lv_at hl 1 rfl) ?_
        refine lv_aload_n hx hb dX10_count_86 rfl (lv_at hl 0 rfl) ?_
        refine gM hx hb hts hin hown hK hP 7 (.ref (ad 7)) (by decide) mf_26 rfl dX10_count_87 ?_
        refine lv_iload_n hx hb dX10_count_90 rfl (lv_at hl 2 rfl) ?_
        obtain ⟨g_91, hF⟩ := ob_gd hF
        refine ldZ hx hb hK hP (at_7 _ _ _ _ _) (σ.2 7 x3_77.toNatClampNeg) g_91 rfl dX10_count_91 ?_
        refine lv_if_eq (tgt := 99) hx hb dX10_count_92 (by decide) (fun c_92 => ?_) (fun c_92 => ?_)
        · have hF := ob_t c_92 hF
          refine lv_iconst (v := (0 : Int32)) hx hb dX10_count_99 (by decide) ?_
          exact b_100 x3_77 (fun x2_77 x3_77 => FM_count_77 σ  n_77 x2_77 x3_77) ih_77 x2_77 (0 : Int32) _ hF (lv_sub hl [0, 2] rfl)
        · have hF := ob_f c_92 hF
          refine lv_iconst (v := (1 : Int32)) hx hb dX10_count_95 (by decide) ?_
          refine lv_goto (tgt := 100) hx hb dX10_count_96 (by decide) ?_
          exact b_100 x3_77 (fun x2_77 x3_77 => FM_count_77 σ  n_77 x2_77 x3_77) ih_77 x2_77 (1 : Int32) _ hF (lv_sub hl [0, 2] rfl)
  have b_145 : ∀ (x3_145 : Int32) (K_112 : Int32 → Int32 → Option Int32) (k_112 : ∀ (x2_112 : Int32) (x3_112 : Int32) (ls : Array Slot), K_112 x2_112 x3_112 = some q → lv_has ls 4 [(0, .ref h), (2, .int x2_112), (3, .int x3_112)] → W p l e (headSpec wsM_count { frames := 1, cells := 0, slots := 0, locals := 21 }).room s m ([.ref h, .int p1] : List Value).toArray below meth c s.heap [] 0 0 (MQ below (vp_Si (fun x => x = q)) ([.ref h, .int p1] : List Value).toArray s 0 0 (fun _ => False)) (F0 m 112 ls [])) (t0_145 : Int32) (t1_145 : Int32) (ls : Array Slot), FM_count_145 σ K_112 x3_145 t0_145 t1_145 = some q → lv_has ls 4 [(0, .ref h), (3, .int x3_145)] → W p l e (headSpec wsM_count { frames := 1, cells := 0, slots := 0, locals := 21 }).room s m ([.ref h, .int p1] : List Value).toArray below meth c s.heap [] 0 0 (MQ below (vp_Si (fun x => x = q)) ([.ref h, .int p1] : List Value).toArray s 0 0 (fun _ => False)) (F0 m 145 ls [.int t1_145, .int t0_145]) := by
    intro x3_145 K_112 k_112 t0_145 t1_145 ls hF hl
    unfold FM_count_145 at hF
    refine lv_iadd hx hb dX10_count_145 ?_
    refine lv_istore_n (lv' := [(2, .int (t0_145 + t1_145)), (0, .ref h), (3, .int x3_145)]) hx hb dX10_count_146 rfl hl (by decide) rfl (fun ls hl => ?_)
    refine lv_iinc (v := x3_145 + (1 : Int32)) (lv' := [(3, .int (x3_145 + (1 : Int32))), (2, .int (t0_145 + t1_145)), (0, .ref h)]) hx hb dX10_count_147 hl (k := 2) rfl rfl (by decide) rfl (fun ls hl => ?_)
    refine lv_goto (tgt := 112) hx hb dX10_count_150 (by decide) ?_
    exact k_112 (t0_145 + t1_145) (x3_145 + (1 : Int32)) _ hF (lv_sub hl [2, 1, 0] rfl)
  have b_112 : ∀ (n_112 : Nat) (x2_112 : Int32) (x3_112 : Int32) (ls : Array Slot), FM_count_112 σ n_112 x2_112 x3_112 = some q → lv_has ls 4 [(0, .ref h), (2, .int x2_112), (3, .int x3_112)] → W p l e (headSpec wsM_count { frames := 1, cells := 0, slots := 0, locals := 21 }).room s m ([.ref h, .int p1] : List Value).toArray below meth c s.heap [] 0 0 (MQ below (vp_Si (fun x => x = q)) ([.ref h, .int p1] : List Value).toArray s 0 0 (fun _ => False)) (F0 m 112 ls []) := by
    intro n_112
    induction n_112 with
    | zero =>
      intro x2_112 x3_112 ls hF hl
      exact absurd hF (by simp [FM_count_112])
    | succ n_112 ih_112 =>
      intro x2_112 x3_112 ls hF hl
      rw [FM_count_112] at hF
      refine lv_iload_n hx hb dX10_count_112 rfl (lv_at hl 2 rfl) ?_
      refine lv_aload_n hx hb dX10_count_113 rfl (lv_at hl 0 rfl) ?_
      refine gM hx hb hts hin hown hK hP 6 (.int (σ.1 6)) (by decide) mf_145 rfl dX10_count_114 ?_
      refine lv_icmp_ge (tgt := 153) hx hb dX10_count_117 (by decide) (fun c_117 => ?_) (fun c_117 => ?_)
      · have hF := ob_t c_117 hF
        refine lv_iload_n hx hb dX10_count_153 rfl (lv_at hl 1 rfl) ?_
        exact rrM hx hb hr hlocks hF dX10_count_154
      · have hF := ob_f c_117 hF
        refine lv_iload_n hx hb dX10_count_120 rfl (lv_at hl 1 rfl) ?_
        refine lv_aload_n hx hb dX10_count_121 rfl (lv_at hl 0 rfl) ?_
        refine gM hx hb hts hin hown hK hP 7 (.ref (ad 7)) (by decide) mf_26 rfl dX10_count_122 ?_
        refine lv_iload_n hx hb dX10_count_125 rfl (lv_at hl 2 rfl) ?_
        obtain ⟨g_126, hF⟩ := ob_gd hF
        refine ldZ hx hb hK hP (at_7 _ _ _ _ _) (σ.2 7 x3_112.toNatClampNeg) g_126 rfl dX10_count_126 ?_
        refine lv_if_eq (tgt := 144) hx hb dX10_count_127 (by decide) (fun c_127 => ?_) (fun c_127 => ?_)
        · have hF := ob_t c_127 hF
          refine lv_iconst (v := (0 : Int32)) hx hb dX10_count_144 (by decide) ?_
          exact b_145 x3_112 (fun x2_112 x3_112 => FM_count_112 σ  n_112 x2_112 x3_112) ih_112 x2_112 (0 : Int32) _ hF (lv_sub hl [0, 2] rfl)
        · have hF := ob_f c_127 hF
          refine lv_aload_n hx hb dX10_count_130 rfl (lv_at hl 0 rfl) ?_
          refine gM hx hb hts hin hown hK hP 20 (.ref (ad 20)) (by decide) mf_65 rfl dX10_count_131 ?_
          refine lv_iload_n hx hb dX10_count_134 rfl (lv_at hl 2 rfl) ?_
          obtain ⟨g_135, hF⟩ := ob_gd hF
          refine ldI hx hb hK hP (at_20 _ _ _ _ _) (σ.2 20 x3_112.toNatClampNeg) g_135 rfl dX10_count_135 ?_
          refine lv_iconst (v := (-1 : Int32)) hx hb dX10_count_136 (by decide) ?_
          refine lv_icmp_eq (tgt := 144) hx hb dX10_count_137 (by decide) (fun c_137 => ?_) (fun c_137 => ?_)
          · have hF := ob_t c_137 hF
            refine lv_iconst (v := (0 : Int32)) hx hb dX10_count_144 (by decide) ?_
            exact b_145 x3_112 (fun x2_112 x3_112 => FM_count_112 σ  n_112 x2_112 x3_112) ih_112 x2_112 (0 : Int32) _ hF (lv_sub hl [0, 2] rfl)
          · have hF := ob_f c_137 hF
            refine lv_iconst (v := (1 : Int32)) hx hb dX10_count_140 (by decide) ?_
            refine lv_goto (tgt := 145) hx hb dX10_count_141 (by decide) ?_
            exact b_145 x3_112 (fun x2_112 x3_112 => FM_count_112 σ  n_112 x2_112 x3_112) ih_112 x2_112 (1 : Int32) _ hF (lv_sub hl [0, 2] rfl)
  have b_185 : ∀ (x3_185 : Int32) (K_157 : Int32 → Int32 → Option Int32) (k_157 : ∀ (x2_157 : Int32) (x3_157 : Int32) (ls : Array Slot), K_157 x2_157 x3_157 = some q → lv_has ls 4 [(0, .ref h), (2, .int x2_157), (3, .int x3_157)] → W p l e (headSpec wsM_count { frames := 1, cells := 0, slots := 0, locals := 21 }).room s m ([.ref h, .int p1] : List Value).toArray below meth c s.heap [] 0 0 (MQ below (vp_Si (fun x => x = q)) ([.ref h, .int p1] : List Value).toArray s 0 0 (fun _ => False)) (F0 m 157 ls [])) (t0_185 : Int32) (t1_185 : Int32) (ls : Array Slot), FM_count_185 σ K_157 x3_185 t0_185 t1_185 = some q → lv_has ls 4 [(0, .ref h), (3, .int x3_185)] → W p l e (headSpec wsM_count { frames := 1, cells := 0, slots := 0, locals := 21 }).room s m ([.ref h, .int p1] : List Value).toArray below meth c s.heap [] 0 0 (MQ below (vp_Si (fun x => x = q)) ([.ref h, .int p1] : List Value).toArray s 0 0 (fun _ => False)) (F0 m 185 ls [.int t1_185, .int t0_185]) := by
    intro x3_185 K_157 k_157 t0_185 t1_185 ls hF hl
    unfold FM_count_185 at hF
    refine lv_iadd hx hb dX10_count_185 ?_
    refine lv_istore_n (lv' := [(2, .int (t0_185 + t1_185)), (0, .ref h), (3, .int x3_185)]) hx hb dX10_count_186 rfl hl (by decide) rfl (fun ls hl => ?_)
    refine lv_iinc (v := x3_185 + (1 : Int32)) (lv' := [(3, .int (x3_185 + (1 : Int32))), (2, .int (t0_185 + t1_185)), (0, .ref h)]) hx hb dX10_count_187 hl (k := 2) rfl rfl (by decide) rfl (fun ls hl => ?_)
    refine lv_goto (tgt := 157) hx hb dX10_count_190 (by decide) ?_
    exact k_157 (t0_185 + t1_185) (x3_185 + (1 : Int32)) _ hF (lv_sub hl [2, 1, 0] rfl)
  have b_157 : ∀ (K_193 : Int32 → Option Int32) (k_193 : ∀ (x2_193 : Int32) (ls : Array Slot), K_193 x2_193 = some q → lv_has ls 4 [(0, .ref h), (2, .int x2_193)] → W p l e (headSpec wsM_count { frames := 1, cells := 0, slots := 0, locals := 21 }).room s m ([.ref h, .int p1] : List Value).toArray below meth c s.heap [] 0 0 (MQ below (vp_Si (fun x => x = q)) ([.ref h, .int p1] : List Value).toArray s 0 0 (fun _ => False)) (F0 m 193 ls [])) (n_157 : Nat) (x2_157 : Int32) (x3_157 : Int32) (ls : Array Slot), FM_count_157 σ K_193 n_157 x2_157 x3_157 = some q → lv_has ls 4 [(0, .ref h), (2, .int x2_157), (3, .int x3_157)] → W p l e (headSpec wsM_count { frames := 1, cells := 0, slots := 0, locals := 21 }).room s m ([.ref h, .int p1] : List Value).toArray below meth c s.heap [] 0 0 (MQ below (vp_Si (fun x => x = q)) ([.ref h, .int p1] : List Value).toArray s 0 0 (fun _ => False)) (F0 m 157 ls []) := by
    intro K_193 k_193
    intro n_157
    induction n_157 with
    | zero =>
      intro x2_157 x3_157 ls hF hl
      exact absurd hF (by simp [FM_count_157])
    | succ n_157 ih_157 =>
      intro x2_157 x3_157 ls hF hl
      rw [FM_count_157] at hF
      refine lv_iload_n hx hb dX10_count_157 rfl (lv_at hl 2 rfl) ?_
      refine lv_aload_n hx hb dX10_count_158 rfl (lv_at hl 0 rfl) ?_
      refine gM hx hb hts hin hown hK hP 0 (.int (σ.1 0)) (by decide) mf_138 rfl dX10_count_159 ?_
      refine lv_icmp_ge (tgt := 193) hx hb dX10_count_162 (by decide) (fun c_162 => ?_) (fun c_162 => ?_)
      · have hF := ob_t c_162 hF
        exact k_193 x2_157 _ hF (lv_sub hl [0, 1] rfl)
      · have hF := ob_f c_162 hF
        refine lv_iload_n hx hb dX10_count_165 rfl (lv_at hl 1 rfl) ?_
        refine lv_aload_n hx hb dX10_count_166 rfl (lv_at hl 0 rfl) ?_
        refine gM hx hb hts hin hown hK hP 1 (.ref (ad 1)) (by decide) mf_7 rfl dX10_count_167 ?_
        refine lv_iload_n hx hb dX10_count_170 rfl (lv_at hl 2 rfl) ?_
        obtain ⟨g_171, hF⟩ := ob_gd hF
        refine ldZ hx hb hK hP (at_1 _ _ _ _ _) (σ.2 1 x3_157.toNatClampNeg) g_171 rfl dX10_count_171 ?_
        refine lv_if_eq (tgt := 184) hx hb dX10_count_172 (by decide) (fun c_172 => ?_) (fun c_172 => ?_)
        · have hF := ob_t c_172 hF
          refine lv_iconst (v := (0 : Int32)) hx hb dX10_count_184 (by decide) ?_
          exact b_185 x3_157 (fun x2_157 x3_157 => FM_count_157 σ K_193 n_157 x2_157 x3_157) ih_157 x2_157 (0 : Int32) _ hF (lv_sub hl [0, 2] rfl)
        · have hF := ob_f c_172 hF
          refine lv_aload_n hx hb dX10_count_175 rfl (lv_at hl 0 rfl) ?_
          refine gM hx hb hts hin hown hK hP 2 (.ref (ad 2)) (by decide) mf_13 rfl dX10_count_176 ?_
          refine lv_iload_n hx hb dX10_count_179 rfl (lv_at hl 2 rfl) ?_
          obtain ⟨g_180, hF⟩ := ob_gd hF
          refine ldI hx hb hK hP (at_2 _ _ _ _ _) (σ.2 2 x3_157.toNatClampNeg) g_180 rfl dX10_count_180 ?_
          refine lv_goto (tgt := 185) hx hb dX10_count_181 (by decide) ?_
          exact b_185 x3_157 (fun x2_157 x3_157 => FM_count_157 σ K_193 n_157 x2_157 x3_157) ih_157 x2_157 (σ.2 2 x3_157.toNatClampNeg) _ hF (lv_sub hl [0, 2] rfl)
  have b_237 : ∀ (x3_237 : Int32) (K_195 : Int32 → Int32 → Option Int32) (k_195 : ∀ (x2_195 : Int32) (x3_195 : Int32) (ls : Array Slot), K_195 x2_195 x3_195 = some q → lv_has ls 4 [(0, .ref h), (2, .int x2_195), (3, .int x3_195)] → W p l e (headSpec wsM_count { frames := 1, cells := 0, slots := 0, locals := 21 }).room s m ([.ref h, .int p1] : List Value).toArray below meth c s.heap [] 0 0 (MQ below (vp_Si (fun x => x = q)) ([.ref h, .int p1] : List Value).toArray s 0 0 (fun _ => False)) (F0 m 195 ls [])) (t0_237 : Int32) (t1_237 : Int32) (ls : Array Slot), FM_count_237 σ K_195 x3_237 t0_237 t1_237 = some q → lv_has ls 4 [(0, .ref h), (3, .int x3_237)] → W p l e (headSpec wsM_count { frames := 1, cells := 0, slots := 0, locals := 21 }).room s m ([.ref h, .int p1] : List Value).toArray below meth c s.heap [] 0 0 (MQ below (vp_Si (fun x => x = q)) ([.ref h, .int p1] : List Value).toArray s 0 0 (fun _ => False)) (F0 m 237 ls [.int t1_237, .int t0_237]) := by
    intro x3_237 K_195 k_195 t0_237 t1_237 ls hF hl
    unfold FM_count_237 at hF
    refine lv_iadd hx hb dX10_count_237 ?_
    refine lv_istore_n (lv' := [(2, .int (t0_237 + t1_237)), (0, .ref h), (3, .int x3_237)]) hx hb dX10_count_238 rfl hl (by decide) rfl (fun ls hl => ?_)
    refine lv_iinc (v := x3_237 + (1 : Int32)) (lv' := [(3, .int (x3_237 + (1 : Int32))), (2, .int (t0_237 + t1_237)), (0, .ref h)]) hx hb dX10_count_239 hl (k := 2) rfl rfl (by decide) rfl (fun ls hl => ?_)
    refine lv_goto (tgt := 195) hx hb dX10_count_242 (by decide) ?_
    exact k_195 (t0_237 + t1_237) (x3_237 + (1 : Int32)) _ hF (lv_sub hl [2, 1, 0] rfl)
  have b_195 : ∀ (n_195 : Nat) (x2_195 : Int32) (x3_195 : Int32) (ls : Array Slot), FM_count_195 σ n_195 x2_195 x3_195 = some q → lv_has ls 4 [(0, .ref h), (2, .int x2_195), (3, .int x3_195)] → W p l e (headSpec wsM_count { frames := 1, cells := 0, slots := 0, locals := 21 }).room s m ([.ref h, .int p1] : List Value).toArray below meth c s.heap [] 0 0 (MQ below (vp_Si (fun x => x = q)) ([.ref h, .int p1] : List Value).toArray s 0 0 (fun _ => False)) (F0 m 195 ls []) := by
    intro n_195
    induction n_195 with
    | zero =>
      intro x2_195 x3_195 ls hF hl
      exact absurd hF (by simp [FM_count_195])
    | succ n_195 ih_195 =>
      intro x2_195 x3_195 ls hF hl
      rw [FM_count_195] at hF
      refine lv_iload_n hx hb dX10_count_195 rfl (lv_at hl 2 rfl) ?_
      refine lv_aload_n hx hb dX10_count_196 rfl (lv_at hl 0 rfl) ?_
      refine gM hx hb hts hin hown hK hP 6 (.int (σ.1 6)) (by decide) mf_145 rfl dX10_count_197 ?_
      refine lv_icmp_ge (tgt := 245) hx hb dX10_count_200 (by decide) (fun c_200 => ?_) (fun c_200 => ?_)
      · have hF := ob_t c_200 hF
        refine lv_iload_n hx hb dX10_count_245 rfl (lv_at hl 1 rfl) ?_
        exact rrM hx hb hr hlocks hF dX10_count_246
      · have hF := ob_f c_200 hF
        refine lv_iload_n hx hb dX10_count_203 rfl (lv_at hl 1 rfl) ?_
        refine lv_aload_n hx hb dX10_count_204 rfl (lv_at hl 0 rfl) ?_
        refine gM hx hb hts hin hown hK hP 7 (.ref (ad 7)) (by decide) mf_26 rfl dX10_count_205 ?_
        refine lv_iload_n hx hb dX10_count_208 rfl (lv_at hl 2 rfl) ?_
        obtain ⟨g_209, hF⟩ := ob_gd hF
        refine ldZ hx hb hK hP (at_7 _ _ _ _ _) (σ.2 7 x3_195.toNatClampNeg) g_209 rfl dX10_count_209 ?_
        refine lv_if_eq (tgt := 236) hx hb dX10_count_210 (by decide) (fun c_210 => ?_) (fun c_210 => ?_)
        · have hF := ob_t c_210 hF
          refine lv_iconst (v := (0 : Int32)) hx hb dX10_count_236 (by decide) ?_
          exact b_237 x3_195 (fun x2_195 x3_195 => FM_count_195 σ  n_195 x2_195 x3_195) ih_195 x2_195 (0 : Int32) _ hF (lv_sub hl [0, 2] rfl)
        · have hF := ob_f c_210 hF
          refine lv_aload_n hx hb dX10_count_213 rfl (lv_at hl 0 rfl) ?_
          refine lv_iload_n hx hb dX10_count_214 rfl (lv_at hl 2 rfl) ?_
          obtain ⟨q_215, e_215, hF⟩ := ob_bd hF
          refine crM (As := [.int x3_195]) (rest := [.int x2_195]) ⟨hx, hb, hml, hown, hts⟩ (cM_rowsOf l D cI cZ h ad σ x3_195 _ e_215) (cw_rowsOf hts ⟨Nat.le_of_ble_eq_true rfl, Nat.le_of_ble_eq_true rfl⟩) hK hP rfl hl.1 rfl (lv_room (Nat.le_of_ble_eq_true rfl)) dX10_count_215 ?_
          refine lv_aload_n hx hb dX10_count_218 rfl (lv_at hl 0 rfl) ?_
          refine gM hx hb hts hin hown hK hP 15 (.ref (ad 15)) (by decide) mf_50 rfl dX10_count_219 ?_
          refine lv_iload_n hx hb dX10_count_222 rfl (lv_at hl 2 rfl) ?_
          obtain ⟨g_223, hF⟩ := ob_gd hF
          refine ldZ hx hb hK hP (at_15 _ _ _ _ _) (σ.2 15 x3_195.toNatClampNeg) g_223 rfl dX10_count_223 ?_
          refine lv_if_eq (tgt := 231) hx hb dX10_count_224 (by decide) (fun c_224 => ?_) (fun c_224 => ?_)
          · have hF := ob_t c_224 hF
            refine lv_iconst (v := (1 : Int32)) hx hb dX10_count_231 (by decide) ?_
            refine lv_imul hx hb dX10_count_232 ?_
            refine lv_goto (tgt := 237) hx hb dX10_count_233 (by decide) ?_
            exact b_237 x3_195 (fun x2_195 x3_195 => FM_count_195 σ  n_195 x2_195 x3_195) ih_195 x2_195 (q_215 * (1 : Int32)) _ hF (lv_sub hl [0, 2] rfl)
          · have hF := ob_f c_224 hF
            refine lv_iconst (v := (2 : Int32)) hx hb dX10_count_227 (by decide) ?_
            refine lv_goto (tgt := 232) hx hb dX10_count_228 (by decide) ?_
            refine lv_imul hx hb dX10_count_232 ?_
            refine lv_goto (tgt := 237) hx hb dX10_count_233 (by decide) ?_
            exact b_237 x3_195 (fun x2_195 x3_195 => FM_count_195 σ  n_195 x2_195 x3_195) ih_195 x2_195 (q_215 * (2 : Int32)) _ hF (lv_sub hl [0, 2] rfl)
  have b_193 : ∀ (x2_193 : Int32) (ls : Array Slot), FM_count_193 σ x2_193 = some q → lv_has ls 4 [(0, .ref h), (2, .int x2_193)] → W p l e (headSpec wsM_count { frames := 1, cells := 0, slots := 0, locals := 21 }).room s m ([.ref h, .int p1] : List Value).toArray below meth c s.heap [] 0 0 (MQ below (vp_Si (fun x => x = q)) ([.ref h, .int p1] : List Value).toArray s 0 0 (fun _ => False)) (F0 m 193 ls []) := by
    intro x2_193 ls hF hl
    unfold FM_count_193 at hF
    refine lv_iconst (v := (0 : Int32)) hx hb dX10_count_193 (by decide) ?_
    refine lv_istore_n (lv' := [(3, .int (0 : Int32)), (0, .ref h), (2, .int x2_193)]) hx hb dX10_count_194 rfl hl (by decide) rfl (fun ls hl => ?_)
    exact b_195 fu x2_193 (0 : Int32) _ hF (lv_sub hl [1, 2, 0] rfl)
  have hl := lv_entry ([.ref h, .int p1]) (n := 4) (Nat.le_of_ble_eq_true rfl)
  rw [lg_entry_eq]
  generalize (lg_sl ([.ref h, .int p1]) ++ List.replicate (4 - (lg_sl ([.ref h, .int p1])).length) Slot.unset).toArray = ls at hl ⊢
  have hl : lv_has ls 4 [(0, .ref h), (1, .int p1)] := hl
  unfold FM_count at hF
  refine lv_iconst (v := (0 : Int32)) hx hb dX10_count_0 (by decide) ?_
  refine lv_istore_n (lv' := [(2, .int (0 : Int32)), (0, .ref h), (1, .int p1)]) hx hb dX10_count_1 rfl hl (by decide) rfl (fun ls hl => ?_)
  refine lv_iload_n hx hb dX10_count_2 rfl (lv_at hl 2 rfl) ?_
  by_cases c_3_0 : p1 = (0 : Int32)
  · have hF := ob_t c_3_0 hF
    refine lv_tableIn (off := 37) (tgt := 40) hx hb dX10_count_3 (by rw [c_3_0]; decide) (by rw [c_3_0]; decide) (by rw [c_3_0]; rfl) (by decide) ?_
    refine lv_iconst (v := (0 : Int32)) hx hb dX10_count_40 (by decide) ?_
    refine lv_istore_n (lv' := [(3, .int (0 : Int32)), (2, .int (0 : Int32)), (0, .ref h), (1, .int p1)]) hx hb dX10_count_41 rfl hl (by decide) rfl (fun ls hl => ?_)
    exact b_42 fu (0 : Int32) (0 : Int32) _ hF (lv_sub hl [2, 1, 0] rfl)
  · have hF := ob_f c_3_0 hF
    by_cases c_3_1 : p1 = (1 : Int32)
    · have hF := ob_t c_3_1 hF
      refine lv_tableIn (off := 72) (tgt := 75) hx hb dX10_count_3 (by rw [c_3_1]; decide) (by rw [c_3_1]; decide) (by rw [c_3_1]; rfl) (by decide) ?_
      refine lv_iconst (v := (0 : Int32)) hx hb dX10_count_75 (by decide) ?_
      refine lv_istore_n (lv' := [(3, .int (0 : Int32)), (2, .int (0 : Int32)), (0, .ref h), (1, .int p1)]) hx hb dX10_count_76 rfl hl (by decide) rfl (fun ls hl => ?_)
      exact b_77 fu (0 : Int32) (0 : Int32) _ hF (lv_sub hl [2, 1, 0] rfl)
    · have hF := ob_f c_3_1 hF
      by_cases c_3_2 : p1 = (2 : Int32)
      · have hF := ob_t c_3_2 hF
        refine lv_tableIn (off := 107) (tgt := 110) hx hb dX10_count_3 (by rw [c_3_2]; decide) (by rw [c_3_2]; decide) (by rw [c_3_2]; rfl) (by decide) ?_
        refine lv_iconst (v := (0 : Int32)) hx hb dX10_count_110 (by decide) ?_
        refine lv_istore_n (lv' := [(3, .int (0 : Int32)), (2, .int (0 : Int32)), (0, .ref h), (1, .int p1)]) hx hb dX10_count_111 rfl hl (by decide) rfl (fun ls hl => ?_)
        exact b_112 fu (0 : Int32) (0 : Int32) _ hF (lv_sub hl [2, 1, 0] rfl)
      · have hF := ob_f c_3_2 hF
        by_cases c_3_3 : p1 = (3 : Int32)
        · have hF := ob_t c_3_3 hF
          refine lv_tableIn (off := 152) (tgt := 155) hx hb dX10_count_3 (by rw [c_3_3]; decide) (by rw [c_3_3]; decide) (by rw [c_3_3]; rfl) (by decide) ?_
          refine lv_iconst (v := (0 : Int32)) hx hb dX10_count_155 (by decide) ?_
          refine lv_istore_n (lv' := [(3, .int (0 : Int32)), (2, .int (0 : Int32)), (0, .ref h), (1, .int p1)]) hx hb dX10_count_156 rfl hl (by decide) rfl (fun ls hl => ?_)
          exact b_157 (fun x2_193 => FM_count_193 σ x2_193) (fun x2_193 => b_193 x2_193) fu (0 : Int32) (0 : Int32) _ hF (lv_sub hl [2, 1, 0] rfl)
        · have hF := ob_f c_3_3 hF
          by_cases c_3_4 : p1 = (4 : Int32)
          · have hF := ob_t c_3_4 hF
            refine lv_tableIn (off := 244) (tgt := 247) hx hb dX10_count_3 (by rw [c_3_4]; decide) (by rw [c_3_4]; decide) (by rw [c_3_4]; rfl) (by decide) ?_
            refine lv_aload_n hx hb dX10_count_247 rfl (lv_at hl 1 rfl) ?_
            refine gM hx hb hts hin hown hK hP 31 (.int (σ.1 31)) (by decide) mf_148 rfl dX10_count_248 ?_
            exact rrM hx hb hr hlocks hF dX10_count_251
          · have hF := ob_f c_3_4 hF
            by_cases c_3_5 : p1 = (5 : Int32)
            · have hF := ob_t c_3_5 hF
              refine lv_tableIn (off := 249) (tgt := 252) hx hb dX10_count_3 (by rw [c_3_5]; decide) (by rw [c_3_5]; decide) (by rw [c_3_5]; rfl) (by decide) ?_
              refine lv_aload_n hx hb dX10_count_252 rfl (lv_at hl 1 rfl) ?_
              refine gM hx hb hts hin hown hK hP 0 (.int (σ.1 0)) (by decide) mf_138 rfl dX10_count_253 ?_
              exact rrM hx hb hr hlocks hF dX10_count_256
            · have hF := ob_f c_3_5 hF
              refine lv_tableOut (tgt := 257) hx hb dX10_count_3 (by have a0 : ¬ p1.toInt = 0 := ob_ti c_3_0; have a1 : ¬ p1.toInt = 1 := ob_ti c_3_1; have a2 : ¬ p1.toInt = 2 := ob_ti c_3_2; have a3 : ¬ p1.toInt = 3 := ob_ti c_3_3; have a4 : ¬ p1.toInt = 4 := ob_ti c_3_4; have a5 : ¬ p1.toInt = 5 := ob_ti c_3_5; omega) (by decide) ?_
              refine lv_iconst (v := (-1 : Int32)) hx hb dX10_count_257 (by decide) ?_
              exact rrM hx hb hr hlocks hF dX10_count_258
