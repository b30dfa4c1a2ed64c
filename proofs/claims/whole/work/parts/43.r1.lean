def wsR_J9_floorMod : List Cond := Cond.code yJ9_floorMod_7cf53 cJ9_floorMod_7cf53 3 (some .int) :: wRa
def FR_floorMod (p0 : Int32) (p1 : Int32) : Option Int32 := (gd (decide (¬ p1 = 0)) (if 0 ≤ (p0 ^^^ p1) then (some (p0 - p0 / p1 * p1)) else (if (p0 - p0 / p1 * p1) = 0 then (some (p0 - p0 / p1 * p1)) else (some ((p0 - p0 / p1 * p1) + p1)))))
set_option maxHeartbeats 4000000 in
set_option maxRecDepth 100000 in
theorem cR_floorMod (l : Launch) (p0 : Int32) (p1 : Int32) (q : Int32) (hF : FR_floorMod p0 p1 = some q) : Met l yJ9_floorMod_7cf53 wsR_J9_floorMod { frames := 0, cells := 0, slots := 0, locals := 0 } (va_Pc [.int p0, .int p1] (fun _ => True)) (vp_Si (fun x => x = q)) 0 0 (fun _ => False) := by
  refine ofWF (cc := cJ9_floorMod_7cf53) (maxL := 3) (ret := (some .int)) (by decide +kernel) rfl ?_
  intro p e s m args below meth c s₁ B hml hv
  obtain ⟨rfl, -⟩ := hv
  have hx := B.exec
  have hb := B.bytes
  have hr := B.returns
  have hts : ∀ w ∈ (Cond.code yJ9_floorMod_7cf53 cJ9_floorMod_7cf53 3 (some .int) :: wRa), w.before ([.int p0, .int p1] : List Value).toArray s = true := atoms_spec (ws := wsR_J9_floorMod) B.pre
  have hin : ∀ w ∈ wRa, w ∈ (Cond.code yJ9_floorMod_7cf53 cJ9_floorMod_7cf53 3 (some .int) :: wRa) := fun w hw => List.mem_cons_of_mem _ hw
  have hown : s.vm.findClass RJ9 = some m.cls := findClass_of_methodNamed B.named
  have hlocks := B.notSynchronized
  have hl := lv_entry ([.int p0, .int p1]) (n := 3) (Nat.le_of_ble_eq_true rfl)
  rw [lg_entry_eq]
  generalize (lg_sl ([.int p0, .int p1]) ++ List.replicate (3 - (lg_sl ([.int p0, .int p1])).length) Slot.unset).toArray = ls at hl ⊢
  have hl : lv_has ls 3 [(0, .int p0), (1, .int p1)] := hl
  unfold FR_floorMod at hF
  refine lv_iload_n hx hb dJ9_floorMod_7cf53_0 rfl (lv_at hl 0 rfl) ?_
  refine lv_iload_n hx hb dJ9_floorMod_7cf53_1 rfl (lv_at hl 1 rfl) ?_
  obtain ⟨g_2, hF⟩ := ob_gd hF
  refine lv_irem hx hb dJ9_floorMod_7cf53_2 (of_decide_eq_true g_2) ?_
  refine lv_istore_n (i := 2) (lv' := [(2, .int (p0 - p0 / p1 * p1)), (0, .int p0), (1, .int p1)]) hx hb dJ9_floorMod_7cf53_3 rfl hl (by decide) rfl (fun ls hl => ?_)
  refine lv_iload_n hx hb dJ9_floorMod_7cf53_4 rfl (lv_at hl 1 rfl) ?_
  refine lv_iload_n hx hb dJ9_floorMod_7cf53_5 rfl (lv_at hl 2 rfl) ?_
  refine lv_ixor hx hb dJ9_floorMod_7cf53_6 ?_
  refine lv_if_ge (tgt := 18) hx hb dJ9_floorMod_7cf53_7 (by decide) (fun c_7 => ?_) (fun c_7 => ?_)
  · have hF := ob_t c_7 hF
    refine lv_iload_n hx hb dJ9_floorMod_7cf53_18 rfl (lv_at hl 0 rfl) ?_
    exact rrM hx hb hr hlocks hF dJ9_floorMod_7cf53_19
  · have hF := ob_f c_7 hF
    refine lv_iload_n hx hb dJ9_floorMod_7cf53_10 rfl (lv_at hl 0 rfl) ?_
    refine lv_if_eq (tgt := 18) hx hb dJ9_floorMod_7cf53_11 (by decide) (fun c_11 => ?_) (fun c_11 => ?_)
    · have hF := ob_t c_11 hF
      refine lv_iload_n hx hb dJ9_floorMod_7cf53_18 rfl (lv_at hl 0 rfl) ?_
      exact rrM hx hb hr hlocks hF dJ9_floorMod_7cf53_19
    · have hF := ob_f c_11 hF
      refine lv_iload_n hx hb dJ9_floorMod_7cf53_14 rfl (lv_at hl 0 rfl) ?_
      refine lv_iload_n hx hb dJ9_floorMod_7cf53_15 rfl (lv_at hl 2 rfl) ?_
      refine lv_iadd hx hb dJ9_floorMod_7cf53_16 ?_
      exact rrM hx hb hr hlocks hF dJ9_floorMod_7cf53_17
def wsR_fill : List Cond := Cond.code yJ7_fill_53178 cJ7_fill_53178 4 none :: wRa
def FR_fill_701_5 (x1_5 : Int32) (x3_5 : Int32) : Nat → Int32 → RS → Option RS
  | 0, _, _ => none
  | n_5 + 1, x2_5, σ_5 => (if x3_5 ≤ x2_5 then (some σ_5) else (gd (inb x2_5 5184) (FR_fill_701_5  x1_5 x3_5 n_5 (x2_5 + (1 : Int32)) (ra σ_5 701 x2_5 x1_5))))
def FR_fill_701 (σ : RS) (p1 : Int32) : Option RS := (FR_fill_701_5 p1 (5184 : Int32) fu (0 : Int32) σ)
set_option maxHeartbeats 4000000 in
set_option maxRecDepth 100000 in
theorem cR_fill_701 (l : Launch) (D : va_G) (cs : Nat → ClassId) (ad tb : Nat → Nat) (A : Nat → Prop) (σ : RS) (p1 : Int32) (q : RS) (hF : FR_fill_701 σ p1 = some q) : Met l yJ7_fill_53178 wsR_fill { frames := 0, cells := 0, slots := 0, locals := 0 } (va_Pc [.ref (ad 701), .int p1] (preQ D cs ad tb A σ)) (va_Qv (fun u => u = q) (posQ D cs ad A) A) 0 0 A := by
  refine Met.ofW (cc := cJ7_fill_53178) (maxL := 4) (ret := none) (by decide) rfl ?_
  intro p e s m args below meth c s₁ B hml hv
  obtain ⟨rfl, hP, hK, hD, hZ⟩ := hv
  have hx := B.exec
  have hb := B.bytes
  have hr := B.returns
  have hts : ∀ w ∈ (Cond.code yJ7_fill_53178 cJ7_fill_53178 4 none :: wRa), w.before ([.ref (ad 701), .int p1] : List Value).toArray s = true := atoms_spec (ws := wsR_fill) B.pre
  have hin : ∀ w ∈ wRa, w ∈ (Cond.code yJ7_fill_53178 cJ7_fill_53178 4 none :: wRa) := fun w hw => List.mem_cons_of_mem _ hw
  have hown : s.vm.findClass RJ7 = some m.cls := findClass_of_methodNamed B.named
  have hlocks := B.notSynchronized
  have hS : va_S A s.heap s.heap [] := va_S.rf
  have b_5 : ∀ (x1_5 : Int32) (x3_5 : Int32) (n_5 : Nat) (x2_5 : Int32) (σ_5 : RS) (H : Heap) (locs : List Loc) (ls : Array Slot), FR_fill_701_5 x1_5 x3_5 n_5 x2_5 σ_5 = some q → va_P D vwCl (wR cs ad σ_5) H → va_D A (wR cs ad σ_5) → va_S A s.heap H locs → lv_has ls 4 [(0, .ref (ad 701)), (1, .int x1_5), (2, .int x2_5), (3, .int x3_5)] → W p l e (headSpec wsR_fill { frames := 0, cells := 0, slots := 0, locals := 0 }).room s m ([.ref (ad 701), .int p1] : List Value).toArray below meth c H locs 0 0 (MQ below (va_Qv (fun u => u = q) (posQ D cs ad A) A) ([.ref (ad 701), .int p1] : List Value).toArray s 0 0 A) (F0 m 5 ls []) := by
    intro x1_5 x3_5
    intro n_5
    induction n_5 with
    | zero =>
      intro x2_5 σ_5 H locs ls hF hP hD hS hl
      exact absurd hF (by simp [FR_fill_701_5])
    | succ n_5 ih_5 =>
      intro x2_5 σ_5 H locs ls hF hP hD hS hl
      rw [FR_fill_701_5] at hF
      refine lv_iload_n hx hb dJ7_fill_53178_5 rfl (lv_at hl 2 rfl) ?_
      refine lv_iload_n hx hb dJ7_fill_53178_6 rfl (lv_at hl 3 rfl) ?_
      refine lv_icmp_ge (tgt := 20) hx hb dJ7_fill_53178_7 (by decide) (fun c_7 => ?_) (fun c_7 => ?_)
      · have hF := ob_t c_7 hF
        exact rvR hx hb hr hlocks hF hK hP hD hS dJ7_fill_53178_20
      · have hF := ob_f c_7 hF
        refine lv_aload_n hx hb dJ7_fill_53178_10 rfl (lv_at hl 0 rfl) ?_
        refine lv_iload_n hx hb dJ7_fill_53178_11 rfl (lv_at hl 2 rfl) ?_
        refine lv_iload_n hx hb dJ7_fill_53178_12 rfl (lv_at hl 1 rfl) ?_
        obtain ⟨g_13, hF⟩ := ob_gd hF
        refine stF hx hb hK hP hD hS (ra_701 _ _ _) (rs_701 _ _ _ _ _) g_13 dJ7_fill_53178_13 (fun H locs hP hD hS => ?_)
        refine lv_iinc (v := x2_5 + (1 : Int32)) (lv' := [(2, .int (x2_5 + (1 : Int32))), (0, .ref (ad 701)), (1, .int x1_5), (3, .int x3_5)]) hx hb dJ7_fill_53178_14 hl (k := 2) rfl rfl (by decide) rfl (fun ls hl => ?_)
        refine lv_goto (tgt := 5) hx hb dJ7_fill_53178_17 (by decide) ?_
        exact ih_5 (x2_5 + (1 : Int32)) (ra σ_5 701 x2_5 x1_5) _ _ _ hF hP hD hS (lv_sub hl [1, 2, 0, 3] rfl)
  have hl := lv_entry ([.ref (ad 701), .int p1]) (n := 4) (Nat.le_of_ble_eq_true rfl)
  rw [lg_entry_eq]
  generalize (lg_sl ([.ref (ad 701), .int p1]) ++ List.replicate (4 - (lg_sl ([.ref (ad 701), .int p1])).length) Slot.unset).toArray = ls at hl ⊢
  have hl : lv_has ls 4 [(0, .ref (ad 701)), (1, .int p1)] := hl
  unfold FR_fill_701 at hF
  refine lv_iconst (v := (0 : Int32)) hx hb dJ7_fill_53178_0 (by decide) ?_
  refine lv_istore_n (i := 2) (lv' := [(2, .int (0 : Int32)), (0, .ref (ad 701)), (1, .int p1)]) hx hb dJ7_fill_53178_1 rfl hl (by decide) rfl (fun ls hl => ?_)
  refine lv_aload_n hx hb dJ7_fill_53178_2 rfl (lv_at hl 1 rfl) ?_
  refine lnF (v := (5184 : Int32)) hx hb hK hP (ra_701 _ _ _) rfl dJ7_fill_53178_3 ?_
  refine lv_istore_n (i := 3) (lv' := [(3, .int (5184 : Int32)), (2, .int (0 : Int32)), (0, .ref (ad 701)), (1, .int p1)]) hx hb dJ7_fill_53178_4 rfl hl (by decide) rfl (fun ls hl => ?_)
  exact b_5 p1 (5184 : Int32) fu (0 : Int32) σ _ _ _ hF hP hD hS (lv_sub hl [2, 3, 1, 0] rfl)
def FR_fill_101_5 (x1_5 : Int32) (x3_5 : Int32) : Nat → Int32 → RS → Option RS
  | 0, _, _ => none
  | n_5 + 1, x2_5, σ_5 => (if x3_5 ≤ x2_5 then (some σ_5) else (gd (inb x2_5 10) (FR_fill_101_5  x1_5 x3_5 n_5 (x2_5 + (1 : Int32)) (ra σ_5 101 x2_5 x1_5))))
def FR_fill_101 (σ : RS) (p1 : Int32) : Option RS := (FR_fill_101_5 p1 (10 : Int32) fu (0 : Int32) σ)
set_option maxHeartbeats 4000000 in
set_option maxRecDepth 100000 in
theorem cR_fill_101 (l : Launch) (D : va_G) (cs : Nat → ClassId) (ad tb : Nat → Nat) (A : Nat → Prop) (σ : RS) (p1 : Int32) (q : RS) (hF : FR_fill_101 σ p1 = some q) : Met l yJ7_fill_53178 wsR_fill { frames := 0, cells := 0, slots := 0, locals := 0 } (va_Pc [.ref (ad 101), .int p1] (preQ D cs ad tb A σ)) (va_Qv (fun u => u = q) (posQ D cs ad A) A) 0 0 A := by
  refine Met.ofW (cc := cJ7_fill_53178) (maxL := 4) (ret := none) (by decide) rfl ?_
  intro p e s m args below meth c s₁ B hml hv
  obtain ⟨rfl, hP, hK, hD, hZ⟩ := hv
  have hx := B.exec
  have hb := B.bytes
  have hr := B.returns
  have hts : ∀ w ∈ (Cond.code yJ7_fill_53178 cJ7_fill_53178 4 none :: wRa), w.before ([.ref (ad 101), .int p1] : List Value).toArray s = true := atoms_spec (ws := wsR_fill) B.pre
  have hin : ∀ w ∈ wRa, w ∈ (Cond.code yJ7_fill_53178 cJ7_fill_53178 4 none :: wRa) := fun w hw => List.mem_cons_of_mem _ hw
  have hown : s.vm.findClass RJ7 = some m.cls := findClass_of_methodNamed B.named
  have hlocks := B.notSynchronized
  have hS : va_S A s.heap s.heap [] := va_S.rf
  have b_5 : ∀ (x1_5 : Int32) (x3_5 : Int32) (n_5 : Nat) (x2_5 : Int32) (σ_5 : RS) (H : Heap) (locs : List Loc) (ls : Array Slot), FR_fill_101_5 x1_5 x3_5 n_5 x2_5 σ_5 = some q → va_P D vwCl (wR cs ad σ_5) H → va_D A (wR cs ad σ_5) → va_S A s.heap H locs → lv_has ls 4 [(0, .ref (ad 101)), (1, .int x1_5), (2, .int x2_5), (3, .int x3_5)] → W p l e (headSpec wsR_fill { frames := 0, cells := 0, slots := 0, locals := 0 }).room s m ([.ref (ad 101), .int p1] : List Value).toArray below meth c H locs 0 0 (MQ below (va_Qv (fun u => u = q) (posQ D cs ad A) A) ([.ref (ad 101), .int p1] : List Value).toArray s 0 0 A) (F0 m 5 ls []) := by
    intro x1_5 x3_5
    intro n_5
    induction n_5 with
    | zero =>
      intro x2_5 σ_5 H locs ls hF hP hD hS hl
      exact absurd hF (by simp [FR_fill_101_5])
    | succ n_5 ih_5 =>
      intro x2_5 σ_5 H locs ls hF hP hD hS hl
      rw [FR_fill_101_5] at hF
      refine lv_iload_n hx hb dJ7_fill_53178_5 rfl (lv_at hl 2 rfl) ?_
      refine lv_iload_n hx hb dJ7_fill_53178_6 rfl (lv_at hl 3 rfl) ?_
      refine lv_icmp_ge (tgt := 20) hx hb dJ7_fill_53178_7 (by decide) (fun c_7 => ?_) (fun c_7 => ?_)
      · have hF := ob_t c_7 hF
        exact rvR hx hb hr hlocks hF hK hP hD hS dJ7_fill_53178_20
      · have hF := ob_f c_7 hF
        refine lv_aload_n hx hb dJ7_fill_53178_10 rfl (lv_at hl 0 rfl) ?_
        refine lv_iload_n hx hb dJ7_fill_53178_11 rfl (lv_at hl 2 rfl) ?_
        refine lv_iload_n hx hb dJ7_fill_53178_12 rfl (lv_at hl 1 rfl) ?_
        obtain ⟨g_13, hF⟩ := ob_gd hF
        refine stF hx hb hK hP hD hS (ra_101 _ _ _) (rs_101 _ _ _ _ _) g_13 dJ7_fill_53178_13 (fun H locs hP hD hS => ?_)
        refine lv_iinc (v := x2_5 + (1 : Int32)) (lv' := [(2, .int (x2_5 + (1 : Int32))), (0, .ref (ad 101)), (1, .int x1_5), (3, .int x3_5)]) hx hb dJ7_fill_53178_14 hl (k := 2) rfl rfl (by decide) rfl (fun ls hl => ?_)
        refine lv_goto (tgt := 5) hx hb dJ7_fill_53178_17 (by decide) ?_
        exact ih_5 (x2_5 + (1 : Int32)) (ra σ_5 101 x2_5 x1_5) _ _ _ hF hP hD hS (lv_sub hl [1, 2, 0, 3] rfl)
  have hl := lv_entry ([.ref (ad 101), .int p1]) (n := 4) (Nat.le_of_ble_eq_true rfl)
  rw [lg_entry_eq]
  generalize (lg_sl ([.ref (ad 101), .int p1]) ++ List.replicate (4 - (lg_sl ([.ref (ad 101), .int p1])).length) Slot.unset).toArray = ls at hl ⊢
  have hl : lv_has ls 4 [(0, .ref (ad 101)), (1, .int p1)] := hl
  unfold FR_fill_101 at hF
  refine lv_iconst (v := (0 : Int32)) hx hb dJ7_fill_53178_0 (by decide) ?_
  refine lv_istore_n (i := 2) (lv' := [(2, .int (0 : Int32)), (0, .ref (ad 101)), (1, .int p1)]) hx hb dJ7_fill_53178_1 rfl hl (by decide) rfl (fun ls hl => ?_)
  refine lv_aload_n hx hb dJ7_fill_53178_2 rfl (lv_at hl 1 rfl) ?_
  refine lnF (v := (10 : Int32)) hx hb hK hP (ra_101 _ _ _) rfl dJ7_fill_53178_3 ?_
  refine lv_istore_n (i := 3) (lv' := [(3, .int (10 : Int32)), (2, .int (0 : Int32)), (0, .ref (ad 101)), (1, .int p1)]) hx hb dJ7_fill_53178_4 rfl hl (by decide) rfl (fun ls hl => ?_)
  exact b_5 p1 (10 : Int32) fu (0 : Int32) σ _ _ _ hF hP hD hS (lv_sub hl [2, 3, 1, 0] rfl)
def FR_fill_102_5 (x1_5 : Int32) (x3_5 : Int32) : Nat → Int32 → RS → Option RS
  | 0, _, _ => none
  | n_5 + 1, x2_5, σ_5 => (if x3_5 ≤ x2_5 then (some σ_5) else (gd (inb x2_5 30) (FR_fill_102_5  x1_5 x3_5 n_5 (x2_5 + (1 : Int32)) (ra σ_5 102 x2_5 x1_5))))
def FR_fill_102 (σ : RS) (p1 : Int32) : Option RS := (FR_fill_102_5 p1 (30 : Int32) fu (0 : Int32) σ)
set_option maxHeartbeats 4000000 in
set_option maxRecDepth 100000 in
theorem cR_fill_102 (l : Launch) (D : va_G) (cs : Nat → ClassId) (ad tb : Nat → Nat) (A : Nat → Prop) (σ : RS) (p1 : Int32) (q : RS) (hF : FR_fill_102 σ p1 = some q) : Met l yJ7_fill_53178 wsR_fill { frames := 0, cells := 0, slots := 0, locals := 0 } (va_Pc [.ref (ad 102), .int p1] (preQ D cs ad tb A σ)) (va_Qv (fun u => u = q) (posQ D cs ad A) A) 0 0 A := by
  refine Met.ofW (cc := cJ7_fill_53178) (maxL := 4) (ret := none) (by decide) rfl ?_
  intro p e s m args below meth c s₁ B hml hv
  obtain ⟨rfl, hP, hK, hD, hZ⟩ := hv
  have hx := B.exec
  have hb := B.bytes
  have hr := B.returns
  have hts : ∀ w ∈ (Cond.code yJ7_fill_53178 cJ7_fill_53178 4 none :: wRa), w.before ([.ref (ad 102), .int p1] : List Value).toArray s = true := atoms_spec (ws := wsR_fill) B.pre
  have hin : ∀ w ∈ wRa, w ∈ (Cond.code yJ7_fill_53178 cJ7_fill_53178 4 none :: wRa) := fun w hw => List.mem_cons_of_mem _ hw
  have hown : s.vm.findClass RJ7 = some m.cls := findClass_of_methodNamed B.named
  have hlocks := B.notSynchronized
  have hS : va_S A s.heap s.heap [] := va_S.rf
  have b_5 : ∀ (x1_5 : Int32) (x3_5 : Int32) (n_5 : Nat) (x2_5 : Int32) (σ_5 : RS) (H : Heap) (locs : List Loc) (ls : Array Slot), FR_fill_102_5 x1_5 x3_5 n_5 x2_5 σ_5 = some q → va_P D vwCl (wR cs ad σ_5) H → va_D A (wR cs ad σ_5) → va_S A s.heap H locs → lv_has ls 4 [(0, .ref (ad 102)), (1, .int x1_5), (2, .int x2_5), (3, .int x3_5)] → W p l e (headSpec wsR_fill { frames := 0, cells := 0, slots := 0, locals := 0 }).room s m ([.ref (ad 102), .int p1] : List Value).toArray below meth c H locs 0 0 (MQ below (va_Qv (fun u => u = q) (posQ D cs ad A) A) ([.ref (ad 102), .int p1] : List Value).toArray s 0 0 A) (F0 m 5 ls []) := by
    intro x1_5 x3_5
    intro n_5
    induction n_5 with
    | zero =>
      intro x2_5 σ_5 H locs ls hF hP hD hS hl
      exact absurd hF (by simp [FR_fill_102_5])
    | succ n_5 ih_5 =>
      intro x2_5 σ_5 H locs ls hF hP hD hS hl
      rw [FR_fill_102_5] at hF
      refine lv_iload_n hx hb dJ7_fill_53178_5 rfl (lv_at hl 2 rfl) ?_
      refine lv_iload_n hx hb dJ7_fill_53178_6 rfl (lv_at hl 3 rfl) ?_
      refine lv_icmp_ge (tgt := 20) hx hb dJ7_fill_53178_7 (by decide) (fun c_7 => ?_) (fun c_7 => ?_)
      · have hF := ob_t c_7 hF
        exact rvR hx hb hr hlocks hF hK hP hD hS dJ7_fill_53178_20
      · have hF := ob_f c_7 hF
        refine lv_aload_n hx hb dJ7_fill_53178_10 rfl (lv_at hl 0 rfl) ?_
        refine lv_iload_n hx hb dJ7_fill_53178_11 rfl (lv_at hl 2 rfl) ?_
        refine lv_iload_n hx hb dJ7_fill_53178_12 rfl (lv_at hl 1 rfl) ?_
        obtain ⟨g_13, hF⟩ := ob_gd hF
        refine stF hx hb hK hP hD hS (ra_102 _ _ _) (rs_102 _ _ _ _ _) g_13 dJ7_fill_53178_13 (fun H locs hP hD hS => ?_)
        refine lv_iinc (v := x2_5 + (1 : Int32)) (lv' := [(2, .int (x2_5 + (1 : Int32))), (0, .ref (ad 102)), (1, .int x1_5), (3, .int x3_5)]) hx hb dJ7_fill_53178_14 hl (k := 2) rfl rfl (by decide) rfl (fun ls hl => ?_)
        refine lv_goto (tgt := 5) hx hb dJ7_fill_53178_17 (by decide) ?_
        exact ih_5 (x2_5 + (1 : Int32)) (ra σ_5 102 x2_5 x1_5) _ _ _ hF hP hD hS (lv_sub hl [1, 2, 0, 3] rfl)
  have hl := lv_entry ([.ref (ad 102), .int p1]) (n := 4) (Nat.le_of_ble_eq_true rfl)
  rw [lg_entry_eq]
  generalize (lg_sl ([.ref (ad 102), .int p1]) ++ List.replicate (4 - (lg_sl ([.ref (ad 102), .int p1])).length) Slot.unset).toArray = ls at hl ⊢
  have hl : lv_has ls 4 [(0, .ref (ad 102)), (1, .int p1)] := hl
  unfold FR_fill_102 at hF
  refine lv_iconst (v := (0 : Int32)) hx hb dJ7_fill_53178_0 (by decide) ?_
  refine lv_istore_n (i := 2) (lv' := [(2, .int (0 : Int32)), (0, .ref (ad 102)), (1, .int p1)]) hx hb dJ7_fill_53178_1 rfl hl (by decide) rfl (fun ls hl => ?_)
  refine lv_aload_n hx hb dJ7_fill_53178_2 rfl (lv_at hl 1 rfl) ?_
  refine lnF (v := (30 : Int32)) hx hb hK hP (ra_102 _ _ _) rfl dJ7_fill_53178_3 ?_
  refine lv_istore_n (i := 3) (lv' := [(3, .int (30 : Int32)), (2, .int (0 : Int32)), (0, .ref (ad 102)), (1, .int p1)]) hx hb dJ7_fill_53178_4 rfl hl (by decide) rfl (fun ls hl => ?_)
  exact b_5 p1 (30 : Int32) fu (0 : Int32) σ _ _ _ hF hP hD hS (lv_sub hl [2, 3, 1, 0] rfl)
def wsR_X0_partOf : List Cond := Cond.code yX0_partOf cX0_partOf 3 (some .int) :: wRa
def FR_X0_partOf (σ : RS) (a0 : Nat) (p1 : Int32) (p2 : Int32) : Option Int32 := (if p1 < 0 then (some (-1 : Int32)) else (gd (isK σ a0 0) ((pR σ a0 0).bind fun r_6 => (gd (isK σ r_6 11) (if p1 < (Int32.ofNat (pN σ r_6)) then (if p2 = (0 : Int32) then (gd (inb p1 (pN σ r_6)) (some ((pA σ r_6 p1.toNatClampNeg) &&& (15 : Int32)))) else (if p2 = (1 : Int32) then (gd (inb p1 (pN σ r_6)) (some (((pA σ r_6 p1.toNatClampNeg) >>> ((4 : Int32) &&& 31)) &&& (1 : Int32)))) else (if p2 = (2 : Int32) then (gd (inb p1 (pN σ r_6)) (some ((pA σ r_6 p1.toNatClampNeg) >>> ((5 : Int32) &&& 31)))) else (some (-1 : Int32))))) else (some (-1 : Int32)))))))
set_option maxHeartbeats 4000000 in
set_option maxRecDepth 100000 in
theorem cR_X0_partOf (l : Launch) (D : va_G) (cs : Nat → ClassId) (ad tb : Nat → Nat) (A : Nat → Prop) (σ : RS) (a0 : Nat) (p1 : Int32) (p2 : Int32) (q : Int32) (hF : FR_X0_partOf σ a0 p1 p2 = some q) : Met l yX0_partOf wsR_X0_partOf { frames := 0, cells := 0, slots := 0, locals := 0 } (va_Pc [.ref a0, .int p1, .int p2] (preQ D cs ad tb A σ)) (vp_Si (fun x => x = q)) 0 0 (fun _ => False) := by
  refine Met.ofW (cc := cX0_partOf) (maxL := 3) (ret := (some .int)) (by decide) rfl ?_
  intro p e s m args below meth c s₁ B hml hv
  obtain ⟨rfl, hP, hK, hD, hZ⟩ := hv
  have hx := B.exec
  have hb := B.bytes
  have hr := B.returns
  have hts : ∀ w ∈ (Cond.code yX0_partOf cX0_partOf 3 (some .int) :: wRa), w.before ([.ref a0, .int p1, .int p2] : List Value).toArray s = true := atoms_spec (ws := wsR_X0_partOf) B.pre
  have hin : ∀ w ∈ wRa, w ∈ (Cond.code yX0_partOf cX0_partOf 3 (some .int) :: wRa) := fun w hw => List.mem_cons_of_mem _ hw
  have hown : s.vm.findClass RX0 = some m.cls := findClass_of_methodNamed B.named
  have hlocks := B.notSynchronized
  have hS : va_S A s.heap s.heap [] := va_S.rf
  have hl := lv_entry ([.ref a0, .int p1, .int p2]) (n := 3) (Nat.le_of_ble_eq_true rfl)
  rw [lg_entry_eq]
  generalize (lg_sl ([.ref a0, .int p1, .int p2]) ++ List.replicate (3 - (lg_sl ([.ref a0, .int p1, .int p2])).length) Slot.unset).toArray = ls at hl ⊢
  have hl : lv_has ls 3 [(0, .ref a0), (1, .int p1), (2, .int p2)] := hl
  unfold FR_X0_partOf at hF
  refine lv_iload_n hx hb dX0_partOf_0 rfl (lv_at hl 1 rfl) ?_
  refine lv_if_lt (tgt := 13) hx hb dX0_partOf_1 (by decide) (fun c_1 => ?_) (fun c_1 => ?_)
  · have hF := ob_t c_1 hF
    refine lv_iconst (v := (-1 : Int32)) hx hb dX0_partOf_13 (by decide) ?_
    exact rrM hx hb hr hlocks hF dX0_partOf_14
  · have hF := ob_f c_1 hF
    refine lv_iload_n hx hb dX0_partOf_4 rfl (lv_at hl 1 rfl) ?_
    refine lv_aload_n hx hb dX0_partOf_5 rfl (lv_at hl 0 rfl) ?_
    obtain ⟨k_6_1, hF⟩ := ob_gd hF
    refine gP hx hb hts hin wo_0 rfl hown hK hP k_6_1 (pf_0 (isK_K k_6_1)) 0 (va_rf (pR σ a0 0)) (by decide) rf_X0_9 rfl dX0_partOf_6 ?_
    obtain ⟨r_6, o_6, hF⟩ := ob_bd hF
    refine rfS o_6 ?_
    obtain ⟨k_9_2, hF⟩ := ob_gd hF
    refine lnP (v := (Int32.ofNat (pN σ r_6))) hx hb hK hP k_9_2 rfl dX0_partOf_9 ?_
    refine lv_icmp_lt (tgt := 15) hx hb dX0_partOf_10 (by decide) (fun c_10 => ?_) (fun c_10 => ?_)
    · have hF := ob_t c_10 hF
      refine lv_iload_n hx hb dX0_partOf_15 rfl (lv_at hl 2 rfl) ?_
      by_cases c_16_0 : p2 = (0 : Int32)
      · have hF := ob_t c_16_0 hF
        refine lv_tableIn (off := 28) (tgt := 44) hx hb dX0_partOf_16 (by rw [c_16_0]; decide) (by rw [c_16_0]; decide) (by rw [c_16_0]; rfl) (by decide) ?_
        refine lv_aload_n hx hb dX0_partOf_44 rfl (lv_at hl 0 rfl) ?_
        refine gP hx hb hts hin wo_0 rfl hown hK hP k_6_1 (pf_0 (isK_K k_6_1)) 0 (va_rf (pR σ a0 0)) (by decide) rf_X0_9 rfl dX0_partOf_45 ?_
        refine rfS o_6 ?_
        refine lv_iload_n hx hb dX0_partOf_48 rfl (lv_at hl 1 rfl) ?_
        obtain ⟨g_49, hF⟩ := ob_gd hF
        refine ldP hx hb hK hP k_9_2 (pA σ r_6 p1.toNatClampNeg) g_49 rfl dX0_partOf_49 ?_
        refine lv_bipush (v := (15 : Int32)) hx hb dX0_partOf_50 (by decide) ?_
        refine lv_iand hx hb dX0_partOf_52 ?_
        exact rrM hx hb hr hlocks hF dX0_partOf_53
      · have hF := ob_f c_16_0 hF
        by_cases c_16_1 : p2 = (1 : Int32)
        · have hF := ob_t c_16_1 hF
          refine lv_tableIn (off := 38) (tgt := 54) hx hb dX0_partOf_16 (by rw [c_16_1]; decide) (by rw [c_16_1]; decide) (by rw [c_16_1]; rfl) (by decide) ?_
          refine lv_aload_n hx hb dX0_partOf_54 rfl (lv_at hl 0 rfl) ?_
          refine gP hx hb hts hin wo_0 rfl hown hK hP k_6_1 (pf_0 (isK_K k_6_1)) 0 (va_rf (pR σ a0 0)) (by decide) rf_X0_9 rfl dX0_partOf_55 ?_
          refine rfS o_6 ?_
          refine lv_iload_n hx hb dX0_partOf_58 rfl (lv_at hl 1 rfl) ?_
          obtain ⟨g_59, hF⟩ := ob_gd hF
          refine ldP hx hb hK hP k_9_2 (pA σ r_6 p1.toNatClampNeg) g_59 rfl dX0_partOf_59 ?_
          refine lv_iconst (v := (4 : Int32)) hx hb dX0_partOf_60 (by decide) ?_
          refine lv_ishr hx hb dX0_partOf_61 ?_
          refine lv_iconst (v := (1 : Int32)) hx hb dX0_partOf_62 (by decide) ?_
          refine lv_iand hx hb dX0_partOf_63 ?_
          exact rrM hx hb hr hlocks hF dX0_partOf_64
        · have hF := ob_f c_16_1 hF
          by_cases c_16_2 : p2 = (2 : Int32)
          · have hF := ob_t c_16_2 hF
            refine lv_tableIn (off := 49) (tgt := 65) hx hb dX0_partOf_16 (by rw [c_16_2]; decide) (by rw [c_16_2]; decide) (by rw [c_16_2]; rfl) (by decide) ?_
            refine lv_aload_n hx hb dX0_partOf_65 rfl (lv_at hl 0 rfl) ?_
            refine gP hx hb hts hin wo_0 rfl hown hK hP k_6_1 (pf_0 (isK_K k_6_1)) 0 (va_rf (pR σ a0 0)) (by decide) rf_X0_9 rfl dX0_partOf_66 ?_
            refine rfS o_6 ?_
            refine lv_iload_n hx hb dX0_partOf_69 rfl (lv_at hl 1 rfl) ?_
            obtain ⟨g_70, hF⟩ := ob_gd hF
            refine ldP hx hb hK hP k_9_2 (pA σ r_6 p1.toNatClampNeg) g_70 rfl dX0_partOf_70 ?_
            refine lv_iconst (v := (5 : Int32)) hx hb dX0_partOf_71 (by decide) ?_
            refine lv_ishr hx hb dX0_partOf_72 ?_
            exact rrM hx hb hr hlocks hF dX0_partOf_73
          · have hF := ob_f c_16_2 hF
            refine lv_tableOut (tgt := 74) hx hb dX0_partOf_16 (by have a0 : ¬ p2.toInt = 0 := ob_ti c_16_0; have a1 : ¬ p2.toInt = 1 := ob_ti c_16_1; have a2 : ¬ p2.toInt = 2 := ob_ti c_16_2; omega) (by decide) ?_
            refine lv_iconst (v := (-1 : Int32)) hx hb dX0_partOf_74 (by decide) ?_
            exact rrM hx hb hr hlocks hF dX0_partOf_75
    · have hF := ob_f c_10 hF
      refine lv_iconst (v := (-1 : Int32)) hx hb dX0_partOf_13 (by decide) ?_
      exact rrM hx hb hr hlocks hF dX0_partOf_14
def wsR_X0_darken : List Cond := Cond.code yX0_darken cX0_darken 4 (some .int) :: wRa
def FR_X0_darken_9 (x0_9 : Nat) (x1_9 : Int32) : Nat → Int32 → Int32 → RS → Option (Int32 × RS)
  | 0, _, _, _ => none
  | n_9 + 1, x2_9, x3_9, σ_9 => (gd (isK σ_9 x0_9 0) ((pR σ_9 x0_9 0).bind fun r_11 => (gd (isK σ_9 r_11 11) (if (Int32.ofNat (pN σ_9 r_11)) ≤ x3_9 then (some (x2_9, σ_9)) else (gd (inb x3_9 (pN σ_9 r_11)) (if x1_9 ≤ ((pA σ_9 r_11 x3_9.toNatClampNeg) &&& (15 : Int32)) then (FR_X0_darken_9  x0_9 x1_9 n_9 x2_9 (x3_9 + (1 : Int32)) σ_9) else (gd (inb x3_9 (pN σ_9 r_11)) (gd (inb x3_9 (pN σ_9 r_11)) (FR_X0_darken_9  x0_9 x1_9 n_9 (x2_9 + (1 : Int32)) (x3_9 + (1 : Int32)) (wa σ_9 r_11 x3_9 (((pA σ_9 r_11 x3_9.toNatClampNeg) &&& (-16 : Int32)) ||| x1_9)))))))))))
def FR_X0_darken (σ : RS) (a0 : Nat) (p1 : Int32) : Option (Int32 × RS) := (gd (isK σ a0 0) (FR_X0_darken_9 a0 p1 fu (0 : Int32) (0 : Int32) (wi σ a0 1 p1)))
set_option maxHeartbeats 4000000 in
set_option maxRecDepth 100000 in
theorem cR_X0_darken (l : Launch) (D : va_G) (cs : Nat → ClassId) (ad tb : Nat → Nat) (A : Nat → Prop) (σ : RS) (a0 : Nat) (p1 : Int32) (q : (Int32 × RS)) (hF : FR_X0_darken σ a0 p1 = some q) : Met l yX0_darken wsR_X0_darken { frames := 0, cells := 0, slots := 0, locals := 0 } (va_Pc [.ref a0, .int p1] (preQ D cs ad tb A σ)) (va_Qi (fun x u => x = q.1 ∧ u = q.2) (posQ D cs ad A) A) 0 0 A := by
  refine Met.ofW (cc := cX0_darken) (maxL := 4) (ret := (some .int)) (by decide) rfl ?_
  intro p e s m args below meth c s₁ B hml hv
  obtain ⟨rfl, hP, hK, hD, hZ⟩ := hv
  have hx := B.exec
  have hb := B.bytes
  have hr := B.returns
  have hts : ∀ w ∈ (Cond.code yX0_darken cX0_darken 4 (some .int) :: wRa), w.before ([.ref a0, .int p1] : List Value).toArray s = true := atoms_spec (ws := wsR_X0_darken) B.pre
  have hin : ∀ w ∈ wRa, w ∈ (Cond.code yX0_darken cX0_darken 4 (some .int) :: wRa) := fun w hw => List.mem_cons_of_mem _ hw
  have hown : s.vm.findClass RX0 = some m.cls := findClass_of_methodNamed B.named
  have hlocks := B.notSynchronized
  have hS : va_S A s.heap s.heap [] := va_S.rf
  have b_9 : ∀ (x0_9 : Nat) (x1_9 : Int32) (n_9 : Nat) (x2_9 : Int32) (x3_9 : Int32) (σ_9 : RS) (H : Heap) (locs : List Loc) (ls : Array Slot), FR_X0_darken_9 x0_9 x1_9 n_9 x2_9 x3_9 σ_9 = some q → va_P D vwCl (wR cs ad σ_9) H → va_D A (wR cs ad σ_9) → va_S A s.heap H locs → lv_has ls 4 [(0, .ref x0_9), (1, .int x1_9), (2, .int x2_9), (3, .int x3_9)] → W p l e (headSpec wsR_X0_darken { frames := 0, cells := 0, slots := 0, locals := 0 }).room s m ([.ref a0, .int p1] : List Value).toArray below meth c H locs 0 0 (MQ below (va_Qi (fun x u => x = q.1 ∧ u = q.2) (posQ D cs ad A) A) ([.ref a0, .int p1] : List Value).toArray s 0 0 A) (F0 m 9 ls []) := by
    intro x0_9 x1_9
    intro n_9
    induction n_9 with
    | zero =>
      intro x2_9 x3_9 σ_9 H locs ls hF hP hD hS hl
      exact absurd hF (by simp [FR_X0_darken_9])
    | succ n_9 ih_9 =>
      intro x2_9 x3_9 σ_9 H locs ls hF hP hD hS hl
      rw [FR_X0_darken_9] at hF
      refine lv_iload_n hx hb dX0_darken_9 rfl (lv_at hl 3 rfl) ?_
      refine lv_aload_n hx hb dX0_darken_10 rfl (lv_at hl 0 rfl) ?_
      obtain ⟨k_11_2, hF⟩ := ob_gd hF
      refine gP hx hb hts hin wo_0 rfl hown hK hP k_11_2 (pf_0 (isK_K k_11_2)) 0 (va_rf (pR σ_9 x0_9 0)) (by decide) rf_X0_9 rfl dX0_darken_11 ?_
      obtain ⟨r_11, o_11, hF⟩ := ob_bd hF
      refine rfS o_11 ?_
      obtain ⟨k_14_3, hF⟩ := ob_gd hF
      refine lnP (v := (Int32.ofNat (pN σ_9 r_11))) hx hb hK hP k_14_3 rfl dX0_darken_14 ?_
      refine lv_icmp_ge (tgt := 57) hx hb dX0_darken_15 (by decide) (fun c_15 => ?_) (fun c_15 => ?_)
      · have hF := ob_t c_15 hF
        refine lv_iload_n hx hb dX0_darken_57 rfl (lv_at hl 2 rfl) ?_
        exact rwR hx hb hr hlocks hF hK hP hD hS dX0_darken_58
      · have hF := ob_f c_15 hF
        refine lv_aload_n hx hb dX0_darken_18 rfl (lv_at hl 0 rfl) ?_
        refine gP hx hb hts hin wo_0 rfl hown hK hP k_11_2 (pf_0 (isK_K k_11_2)) 0 (va_rf (pR σ_9 x0_9 0)) (by decide) rf_X0_9 rfl dX0_darken_19 ?_
        refine rfS o_11 ?_
        refine lv_iload_n hx hb dX0_darken_22 rfl (lv_at hl 3 rfl) ?_
        obtain ⟨g_23, hF⟩ := ob_gd hF
        refine ldP hx hb hK hP k_14_3 (pA σ_9 r_11 x3_9.toNatClampNeg) g_23 rfl dX0_darken_23 ?_
        refine lv_bipush (v := (15 : Int32)) hx hb dX0_darken_24 (by decide) ?_
        refine lv_iand hx hb dX0_darken_26 ?_
        refine lv_iload_n hx hb dX0_darken_27 rfl (lv_at hl 1 rfl) ?_
        refine lv_icmp_ge (tgt := 51) hx hb dX0_darken_28 (by decide) (fun c_28 => ?_) (fun c_28 => ?_)
        · have hF := ob_t c_28 hF
          refine lv_iinc (v := x3_9 + (1 : Int32)) (lv' := [(3, .int (x3_9 + (1 : Int32))), (0, .ref x0_9), (1, .int x1_9), (2, .int x2_9)]) hx hb dX0_darken_51 hl (k := 3) rfl rfl (by decide) rfl (fun ls hl => ?_)
          refine lv_goto (tgt := 9) hx hb dX0_darken_54 (by decide) ?_
          exact ih_9 x2_9 (x3_9 + (1 : Int32)) σ_9 _ _ _ hF hP hD hS (lv_sub hl [1, 2, 3, 0] rfl)
        · have hF := ob_f c_28 hF
          refine lv_aload_n hx hb dX0_darken_31 rfl (lv_at hl 0 rfl) ?_
          refine gP hx hb hts hin wo_0 rfl hown hK hP k_11_2 (pf_0 (isK_K k_11_2)) 0 (va_rf (pR σ_9 x0_9 0)) (by decide) rf_X0_9 rfl dX0_darken_32 ?_
          refine rfS o_11 ?_
          refine lv_iload_n hx hb dX0_darken_35 rfl (lv_at hl 3 rfl) ?_
          refine lv_aload_n hx hb dX0_darken_36 rfl (lv_at hl 0 rfl) ?_
          refine gP hx hb hts hin wo_0 rfl hown hK hP k_11_2 (pf_0 (isK_K k_11_2)) 0 (va_rf (pR σ_9 x0_9 0)) (by decide) rf_X0_9 rfl dX0_darken_37 ?_
          refine rfS o_11 ?_
          refine lv_iload_n hx hb dX0_darken_40 rfl (lv_at hl 3 rfl) ?_
          obtain ⟨g_41, hF⟩ := ob_gd hF
          refine ldP hx hb hK hP k_14_3 (pA σ_9 r_11 x3_9.toNatClampNeg) g_41 rfl dX0_darken_41 ?_
          refine lv_bipush (v := (-16 : Int32)) hx hb dX0_darken_42 (by decide) ?_
          refine lv_iand hx hb dX0_darken_44 ?_
          refine lv_iload_n hx hb dX0_darken_45 rfl (lv_at hl 1 rfl) ?_
          refine lv_ior hx hb dX0_darken_46 ?_
          obtain ⟨g_47, hF⟩ := ob_gd hF
          refine stP hx hb hK hP hD hS k_14_3 g_47 dX0_darken_47 (fun H locs hP hD hS => ?_)
          refine lv_iinc (v := x2_9 + (1 : Int32)) (lv' := [(2, .int (x2_9 + (1 : Int32))), (0, .ref x0_9), (1, .int x1_9), (3, .int x3_9)]) hx hb dX0_darken_48 hl (k := 2) rfl rfl (by decide) rfl (fun ls hl => ?_)
          refine lv_iinc (v := x3_9 + (1 : Int32)) (lv' := [(3, .int (x3_9 + (1 : Int32))), (2, .int (x2_9 + (1 : Int32))), (0, .ref x0_9), (1, .int x1_9)]) hx hb dX0_darken_51 hl (k := 3) rfl rfl (by decide) rfl (fun ls hl => ?_)
          refine lv_goto (tgt := 9) hx hb dX0_darken_54 (by decide) ?_
          exact ih_9 (x2_9 + (1 : Int32)) (x3_9 + (1 : Int32)) (wa σ_9 r_11 x3_9 (((pA σ_9 r_11 x3_9.toNatClampNeg) &&& (-16 : Int32)) ||| x1_9)) _ _ _ hF hP hD hS (lv_sub hl [2, 3, 1, 0] rfl)
  have hl := lv_entry ([.ref a0, .int p1]) (n := 4) (Nat.le_of_ble_eq_true rfl)
  rw [lg_entry_eq]
  generalize (lg_sl ([.ref a0, .int p1]) ++ List.replicate (4 - (lg_sl ([.ref a0, .int p1])).length) Slot.unset).toArray = ls at hl ⊢
  have hl : lv_has ls 4 [(0, .ref a0), (1, .int p1)] := hl
  unfold FR_X0_darken at hF
  refine lv_aload_n hx hb dX0_darken_0 rfl (lv_at hl 0 rfl) ?_
  refine lv_iload_n hx hb dX0_darken_1 rfl (lv_at hl 1 rfl) ?_
  obtain ⟨k_2_1, hF⟩ := ob_gd hF
  refine pP (ρ2 := (wi σ a0 1 p1)) (ty := .int) hx hb hts hin wo_0 rfl tyX0 tyX0_ok nmX0 hown hK hP hD hS k_2_1 (pf_0 (isK_K k_2_1)) 1 (by decide) rf_X0_15 rfl (by decide +kernel) rfl rfl (Nat.le_of_ble_eq_true rfl) (xR_wi _ _ _ _ _ _) (pL_wi _ _ _ _) (pw_0_1 (ρ := σ) (isK_K k_2_1) _) dX0_darken_2 (fun H locs hP hD hS => ?_)
  refine lv_iconst (v := (0 : Int32)) hx hb dX0_darken_5 (by decide) ?_
  refine lv_istore_n (i := 2) (lv' := [(2, .int (0 : Int32)), (0, .ref a0), (1, .int p1)]) hx hb dX0_darken_6 rfl hl (by decide) rfl (fun ls hl => ?_)
  refine lv_iconst (v := (0 : Int32)) hx hb dX0_darken_7 (by decide) ?_
  refine lv_istore_n (i := 3) (lv' := [(3, .int (0 : Int32)), (2, .int (0 : Int32)), (0, .ref a0), (1, .int p1)]) hx hb dX0_darken_8 rfl hl (by decide) rfl (fun ls hl => ?_)
  exact b_9 a0 p1 fu (0 : Int32) (0 : Int32) (wi σ a0 1 p1) _ _ _ hF hP hD hS (lv_sub hl [2, 3, 1, 0] rfl)
def wsR_X9_pieceAt : List Cond := Cond.code yX9_pieceAt cX9_pieceAt 4 (some .int) :: wRa
theorem cw_X9_J9_floorMod_297 {R : Room} {s : State} {args : Array Value} {y : MethodName} {c : ByteArray} {n : Nat} {r : Option FieldType} (hts : ∀ w ∈ (Cond.code y c n r :: wRa), w.before args s = true) (hR : 0 + 1 ≤ R.frames ∧ 8 + (3 + 11) + 0 ≤ R.locals) : CallB R s args RX9 297 yJ9_floorMod_7cf53 cJ9_floorMod_7cf53 3 (some .int) wsR_J9_floorMod { frames := 0, cells := 0, slots := 0, locals := 0 } 0 0 2 ∧ (Cond.static yJ9_floorMod_7cf53).before args s = true := va_cwS 2 hts (goodS wRa_good rm_X9_297 rt_J9_floorMod_7cf53 rn_J9 rc_J9_floorMod_7cf53) rfl rfl rfl (by decide +kernel) hR
def FR_X9_pieceAt_4 (σ : RS) (K_20 : Int32 → Option Int32) (x1_4 : Int32) : Nat → Int32 → Int32 → Option Int32
  | 0, _, _ => none
  | n_4 + 1, x2_4, x3_4 => (if x3_4 ≤ x1_4 then (K_20 x2_4) else (FR_X9_pieceAt_4 σ K_20 x1_4 n_4 (x2_4 / (6 : Int32)) (x3_4 + (-1 : Int32))))
def FR_X9_pieceAt_20 (σ : RS) (x2_20 : Int32) : Option Int32 := ((FR_floorMod x2_20 (6 : Int32)).bind fun q_23 => (some q_23))
def FR_X9_pieceAt (σ : RS) (p0 : Int32) (p1 : Int32) : Option Int32 := (FR_X9_pieceAt_4 σ (fun x2_20 => FR_X9_pieceAt_20 σ x2_20) p1 fu p0 (5 : Int32))
set_option maxHeartbeats 4000000 in
set_option maxRecDepth 100000 in
theorem cR_X9_pieceAt (l : Launch) (D : va_G) (cs : Nat → ClassId) (ad tb : Nat → Nat) (A : Nat → Prop) (σ : RS) (p0 : Int32) (p1 : Int32) (q : Int32) (hF : FR_X9_pieceAt σ p0 p1 = some q) : Met l yX9_pieceAt wsR_X9_pieceAt { frames := 1, cells := 0, slots := 0, locals := 24 } (va_Pc [.int p0, .int p1] (preQ D cs ad tb A σ)) (vp_Si (fun x => x = q)) 0 0 (fun _ => False) := by
  refine Met.ofW (cc := cX9_pieceAt) (maxL := 4) (ret := (some .int)) (by decide) rfl ?_
  intro p e s m args below meth c s₁ B hml hv
  obtain ⟨rfl, hP, hK, hD, hZ⟩ := hv
  have hx := B.exec
  have hb := B.bytes
  have hr := B.returns
  have hts : ∀ w ∈ (Cond.code yX9_pieceAt cX9_pieceAt 4 (some .int) :: wRa), w.before ([.int p0, .int p1] : List Value).toArray s = true := atoms_spec (ws := wsR_X9_pieceAt) B.pre
  have hin : ∀ w ∈ wRa, w ∈ (Cond.code yX9_pieceAt cX9_pieceAt 4 (some .int) :: wRa) := fun w hw => List.mem_cons_of_mem _ hw
  have hown : s.vm.findClass RX9 = some m.cls := findClass_of_methodNamed B.named
  have hlocks := B.notSynchronized
  have hS : va_S A s.heap s.heap [] := va_S.rf
  have b_4 : ∀ (x1_4 : Int32) (K_20 : Int32 → Option Int32) (k_20 : ∀ (x2_20 : Int32) (ls : Array Slot), K_20 x2_20 = some q → lv_has ls 4 [(2, .int x2_20)] → W p l e (headSpec wsR_X9_pieceAt { frames := 1, cells := 0, slots := 0, locals := 24 }).room s m ([.int p0, .int p1] : List Value).toArray below meth c s.heap [] 0 0 (MQ below (vp_Si (fun x => x = q)) ([.int p0, .int p1] : List Value).toArray s 0 0 (fun _ => False)) (F0 m 20 ls [])) (n_4 : Nat) (x2_4 : Int32) (x3_4 : Int32) (ls : Array Slot), FR_X9_pieceAt_4 σ K_20 x1_4 n_4 x2_4 x3_4 = some q → lv_has ls 4 [(1, .int x1_4), (2, .int x2_4), (3, .int x3_4)] → W p l e (headSpec wsR_X9_pieceAt { frames := 1, cells := 0, slots := 0, locals := 24 }).room s m ([.int p0, .int p1] : List Value).toArray below meth c s.heap [] 0 0 (MQ below (vp_Si (fun x => x = q)) ([.int p0, .int p1] : List Value).toArray s 0 0 (fun _ => False)) (F0 m 4 ls []) := by
    intro x1_4 K_20 k_20
    intro n_4
    induction n_4 with
    | zero =>
      intro x2_4 x3_4 ls hF hl
      exact absurd hF (by simp [FR_X9_pieceAt_4])
    | succ n_4 ih_4 =>
      intro x2_4 x3_4 ls hF hl
      rw [FR_X9_pieceAt_4] at hF
      refine lv_iload_n hx hb dX9_pieceAt_4 rfl (lv_at hl 2 rfl) ?_
      refine lv_iload_n hx hb dX9_pieceAt_5 rfl (lv_at hl 0 rfl) ?_
      refine lv_icmp_le (tgt := 20) hx hb dX9_pieceAt_6 (by decide) (fun c_6 => ?_) (fun c_6 => ?_)
      · have hF := ob_t c_6 hF
        exact k_20 x2_4 _ hF (lv_sub hl [1] rfl)
      · have hF := ob_f c_6 hF
        refine lv_iload_n hx hb dX9_pieceAt_9 rfl (lv_at hl 1 rfl) ?_
        refine lv_bipush (v := (6 : Int32)) hx hb dX9_pieceAt_10 (by decide) ?_
        refine lv_idiv hx hb dX9_pieceAt_12 (by decide) ?_
        refine lv_istore_n (i := 2) (lv' := [(2, .int (x2_4 / (6 : Int32))), (1, .int x1_4), (3, .int x3_4)]) hx hb dX9_pieceAt_13 rfl hl (by decide) rfl (fun ls hl => ?_)
        refine lv_iinc (v := x3_4 + (-1 : Int32)) (lv' := [(3, .int (x3_4 + (-1 : Int32))), (2, .int (x2_4 / (6 : Int32))), (1, .int x1_4)]) hx hb dX9_pieceAt_14 hl (k := 2) rfl rfl (by decide) rfl (fun ls hl => ?_)
        refine lv_goto (tgt := 4) hx hb dX9_pieceAt_17 (by decide) ?_
        exact ih_4 (x2_4 / (6 : Int32)) (x3_4 + (-1 : Int32)) _ hF (lv_sub hl [2, 1, 0] rfl)
  have b_20 : ∀ (x2_20 : Int32) (ls : Array Slot), FR_X9_pieceAt_20 σ x2_20 = some q → lv_has ls 4 [(2, .int x2_20)] → W p l e (headSpec wsR_X9_pieceAt { frames := 1, cells := 0, slots := 0, locals := 24 }).room s m ([.int p0, .int p1] : List Value).toArray below meth c s.heap [] 0 0 (MQ below (vp_Si (fun x => x = q)) ([.int p0, .int p1] : List Value).toArray s 0 0 (fun _ => False)) (F0 m 20 ls []) := by
    intro x2_20 ls hF hl
    unfold FR_X9_pieceAt_20 at hF
    refine lv_iload_n hx hb dX9_pieceAt_20 rfl (lv_at hl 0 rfl) ?_
    refine lv_bipush (v := (6 : Int32)) hx hb dX9_pieceAt_21 (by decide) ?_
    obtain ⟨q_23, e_23, hF⟩ := ob_bd hF
    refine csR (As := [.int x2_20, .int (6 : Int32)]) (rest := []) ⟨hx, hb, hml, hown, hts⟩ (cR_floorMod l x2_20 (6 : Int32) _ e_23) (cw_X9_J9_floorMod_297 hts ⟨Nat.le_of_ble_eq_true rfl, Nat.le_of_ble_eq_true rfl⟩) ⟨Nat.zero_le _, Nat.zero_le _⟩ rfl hl.1 rfl (lv_room (Nat.le_of_ble_eq_true rfl)) dX9_pieceAt_23 ?_
    exact rrM hx hb hr hlocks hF dX9_pieceAt_26
  have hl := lv_entry ([.int p0, .int p1]) (n := 4) (Nat.le_of_ble_eq_true rfl)
  rw [lg_entry_eq]
  generalize (lg_sl ([.int p0, .int p1]) ++ List.replicate (4 - (lg_sl ([.int p0, .int p1])).length) Slot.unset).toArray = ls at hl ⊢
  have hl : lv_has ls 4 [(0, .int p0), (1, .int p1)] := hl
  unfold FR_X9_pieceAt at hF
  refine lv_iload_n hx hb dX9_pieceAt_0 rfl (lv_at hl 0 rfl) ?_
  refine lv_istore_n (i := 2) (lv' := [(2, .int p0), (0, .int p0), (1, .int p1)]) hx hb dX9_pieceAt_1 rfl hl (by decide) rfl (fun ls hl => ?_)
  refine lv_iconst (v := (5 : Int32)) hx hb dX9_pieceAt_2 (by decide) ?_
  refine lv_istore_n (i := 3) (lv' := [(3, .int (5 : Int32)), (2, .int p0), (0, .int p0), (1, .int p1)]) hx hb dX9_pieceAt_3 rfl hl (by decide) rfl (fun ls hl => ?_)
  exact b_4 p1 (fun x2_20 => FR_X9_pieceAt_20 σ x2_20) (fun x2_20 => b_20 x2_20) fu p0 (5 : Int32) _ hF (lv_sub hl [3, 1, 0] rfl)
def wsR_X0_canLie : List Cond := Cond.code yX0_canLie cX0_canLie 5 (some .boolean) :: wRa
def FR_X0_canLie_47 (σ : RS) (K_71 : Int32 → Option Int32) (x1_47 : Int32) : Nat → Int32 → Int32 → Option Int32
  | 0, _, _ => none
  | n_47 + 1, x3_47, x4_47 => (if (6 : Int32) ≤ x4_47 then (K_71 x3_47) else ((FR_X9_pieceAt σ x1_47 x4_47).bind fun q_59 => (FR_X0_canLie_47 σ K_71 x1_47 n_47 (x3_47 ||| ((1 : Int32) <<< (q_59 &&& 31))) (x4_47 + (1 : Int32)))))
def FR_X0_canLie_71 (σ : RS) (x3_71 : Int32) : Option Int32 := (if x3_71 = (63 : Int32) then (some (1 : Int32)) else (some (0 : Int32)))
def FR_X0_canLie_42 (σ : RS) (x1_42 : Int32) : Option Int32 := (FR_X0_canLie_47 σ (fun x3_71 => FR_X0_canLie_71 σ x3_71) x1_42 fu (0 : Int32) (0 : Int32))
def FR_X0_canLie (σ : RS) (a0 : Nat) (p1 : Int32) (p2 : Int32) : Option Int32 := (if p1 < 0 then (some (0 : Int32)) else (if (46656 : Int32) ≤ p1 then (some (0 : Int32)) else (if p2 < 0 then (some (0 : Int32)) else (if p2 ≤ (63 : Int32) then (gd (isK σ a0 0) (if (pI σ a0 2) = (1 : Int32) then (if p2 = 0 then (FR_X0_canLie_42 σ p1) else (if p2 = (63 : Int32) then (FR_X0_canLie_42 σ p1) else (some (0 : Int32)))) else (FR_X0_canLie_42 σ p1))) else (some (0 : Int32))))))
set_option maxHeartbeats 4000000 in
set_option maxRecDepth 100000 in
theorem cR_X0_canLie (l : Launch) (D : va_G) (cs : Nat → ClassId) (ad tb : Nat → Nat) (A : Nat → Prop) (σ : RS) (a0 : Nat) (p1 : Int32) (p2 : Int32) (q : Int32) (hF : FR_X0_canLie σ a0 p1 p2 = some q) : Met l yX0_canLie wsR_X0_canLie { frames := 2, cells := 0, slots := 0, locals := 47 } (va_Pc [.ref a0, .int p1, .int p2] (preQ D cs ad tb A σ)) (vp_Si (fun x => x = q)) 0 0 (fun _ => False) := by
  refine Met.ofW (cc := cX0_canLie) (maxL := 5) (ret := (some .boolean)) (by decide) rfl ?_
  intro p e s m args below meth c s₁ B hml hv
  obtain ⟨rfl, hP, hK, hD, hZ⟩ := hv
  have hx := B.exec
  have hb := B.bytes
  have hr := B.returns
  have hts : ∀ w ∈ (Cond.code yX0_canLie cX0_canLie 5 (some .boolean) :: wRa), w.before ([.ref a0, .int p1, .int p2] : List Value).toArray s = true := atoms_spec (ws := wsR_X0_canLie) B.pre
  have hin : ∀ w ∈ wRa, w ∈ (Cond.code yX0_canLie cX0_canLie 5 (some .boolean) :: wRa) := fun w hw => List.mem_cons_of_mem _ hw
  have hown : s.vm.findClass RX0 = some m.cls := findClass_of_methodNamed B.named
  have hlocks := B.notSynchronized
  have hS : va_S A s.heap s.heap [] := va_S.rf
  have b_47 : ∀ (x1_47 : Int32) (K_71 : Int32 → Option Int32) (k_71 : ∀ (x3_71 : Int32) (ls : Array Slot), K_71 x3_71 = some q → lv_has ls 5 [(3, .int x3_71)] → W p l e (headSpec wsR_X0_canLie { frames := 2, cells := 0, slots := 0, locals := 47 }).room s m ([.ref a0, .int p1, .int p2] : List Value).toArray below meth c s.heap [] 0 0 (MQ below (vp_Si (fun x => x = q)) ([.ref a0, .int p1, .int p2] : List Value).toArray s 0 0 (fun _ => False)) (F0 m 71 ls [])) (n_47 : Nat) (x3_47 : Int32) (x4_47 : Int32) (ls : Array Slot), FR_X0_canLie_47 σ K_71 x1_47 n_47 x3_47 x4_47 = some q → lv_has ls 5 [(1, .int x1_47), (3, .int x3_47), (4, .int x4_47)] → W p l e (headSpec wsR_X0_canLie { frames := 2, cells := 0, slots := 0, locals := 47 }).room s m ([.ref a0, .int p1, .int p2] : List Value).toArray below meth c s.heap [] 0 0 (MQ below (vp_Si (fun x => x = q)) ([.ref a0, .int p1, .int p2] : List Value).toArray s 0 0 (fun _ => False)) (F0 m 47 ls []) := by
    intro x1_47 K_71 k_71
    intro n_47
    induction n_47 with
    | zero =>
      intro x3_47 x4_47 ls hF hl
      exact absurd hF (by simp [FR_X0_canLie_47])
    | succ n_47 ih_47 =>
      intro x3_47 x4_47 ls hF hl
      rw [FR_X0_canLie_47] at hF
      refine lv_iload hx hb dX0_canLie_47 (lv_at hl 2 rfl) ?_
      refine lv_bipush (v := (6 : Int32)) hx hb dX0_canLie_49 (by decide) ?_
      refine lv_icmp_ge (tgt := 71) hx hb dX0_canLie_51 (by decide) (fun c_51 => ?_) (fun c_51 => ?_)
      · have hF := ob_t c_51 hF
        exact k_71 x3_47 _ hF (lv_sub hl [1] rfl)
      · have hF := ob_f c_51 hF
        refine lv_iload_n hx hb dX0_canLie_54 rfl (lv_at hl 1 rfl) ?_
        refine lv_iconst (v := (1 : Int32)) hx hb dX0_canLie_55 (by decide) ?_
        refine lv_iload_n hx hb dX0_canLie_56 rfl (lv_at hl 0 rfl) ?_
        refine lv_iload hx hb dX0_canLie_57 (lv_at hl 2 rfl) ?_
        obtain ⟨q_59, e_59, hF⟩ := ob_bd hF
        refine cnR (As := [.int x1_47, .int x4_47]) (rest := [.int (1 : Int32), .int x3_47]) ⟨hx, hb, hml, hown, hts⟩ (cR_X9_pieceAt l D cs ad tb A σ x1_47 x4_47 _ e_59) ⟨va_cnB 2 hts (goodC wRa_good rc_X9_pieceAt) rfl rfl rfl hZ.2.2.2.2.2.2.1.1 (hts _ (hin _ rn_X9)) (by decide +kernel) ⟨Nat.le_of_ble_eq_true rfl, Nat.le_of_ble_eq_true rfl⟩, hts _ (hin _ rt_X9_pieceAt), trivial⟩ ⟨Nat.zero_le _, Nat.zero_le _⟩ hK hP hD hS hZ rfl hl.1 rfl (lv_room (Nat.le_of_ble_eq_true rfl)) dX0_canLie_59 ?_
        refine lv_ishl hx hb dX0_canLie_62 ?_
        refine lv_ior hx hb dX0_canLie_63 ?_
        refine lv_istore_n (i := 3) (lv' := [(3, .int (x3_47 ||| ((1 : Int32) <<< (q_59 &&& 31)))), (1, .int x1_47), (4, .int x4_47)]) hx hb dX0_canLie_64 rfl hl (by decide) rfl (fun ls hl => ?_)
        refine lv_iinc (v := x4_47 + (1 : Int32)) (lv' := [(4, .int (x4_47 + (1 : Int32))), (3, .int (x3_47 ||| ((1 : Int32) <<< (q_59 &&& 31)))), (1, .int x1_47)]) hx hb dX0_canLie_65 hl (k := 2) rfl rfl (by decide) rfl (fun ls hl => ?_)
        refine lv_goto (tgt := 47) hx hb dX0_canLie_68 (by decide) ?_
        exact ih_47 (x3_47 ||| ((1 : Int32) <<< (q_59 &&& 31))) (x4_47 + (1 : Int32)) _ hF (lv_sub hl [2, 1, 0] rfl)
  have b_71 : ∀ (x3_71 : Int32) (ls : Array Slot), FR_X0_canLie_71 σ x3_71 = some q → lv_has ls 5 [(3, .int x3_71)] → W p l e (headSpec wsR_X0_canLie { frames := 2, cells := 0, slots := 0, locals := 47 }).room s m ([.ref a0, .int p1, .int p2] : List Value).toArray below meth c s.heap [] 0 0 (MQ below (vp_Si (fun x => x = q)) ([.ref a0, .int p1, .int p2] : List Value).toArray s 0 0 (fun _ => False)) (F0 m 71 ls []) := by
    intro x3_71 ls hF hl
    unfold FR_X0_canLie_71 at hF
    refine lv_iload_n hx hb dX0_canLie_71 rfl (lv_at hl 0 rfl) ?_
    refine lv_bipush (v := (63 : Int32)) hx hb dX0_canLie_72 (by decide) ?_
    refine lv_icmp_ne (tgt := 81) hx hb dX0_canLie_74 (by decide) (fun c_74 => ?_) (fun c_74 => ?_)
    · have hF := ob_f c_74 hF
      refine lv_iconst (v := (0 : Int32)) hx hb dX0_canLie_81 (by decide) ?_
      exact rzM hx hb hr hlocks rfl hF dX0_canLie_82
    · have hF := ob_t c_74 hF
      refine lv_iconst (v := (1 : Int32)) hx hb dX0_canLie_77 (by decide) ?_
      refine lv_goto (tgt := 82) hx hb dX0_canLie_78 (by decide) ?_
      exact rzM hx hb hr hlocks rfl hF dX0_canLie_82
  have b_42 : ∀ (x1_42 : Int32) (ls : Array Slot), FR_X0_canLie_42 σ x1_42 = some q → lv_has ls 5 [(1, .int x1_42)] → W p l e (headSpec wsR_X0_canLie { frames := 2, cells := 0, slots := 0, locals := 47 }).room s m ([.ref a0, .int p1, .int p2] : List Value).toArray below meth c s.heap [] 0 0 (MQ below (vp_Si (fun x => x = q)) ([.ref a0, .int p1, .int p2] : List Value).toArray s 0 0 (fun _ => False)) (F0 m 42 ls []) := by
    intro x1_42 ls hF hl
    unfold FR_X0_canLie_42 at hF
    refine lv_iconst (v := (0 : Int32)) hx hb dX0_canLie_42 (by decide) ?_
    refine lv_istore_n (i := 3) (lv' := [(3, .int (0 : Int32)), (1, .int x1_42)]) hx hb dX0_canLie_43 rfl hl (by decide) rfl (fun ls hl => ?_)
    refine lv_iconst (v := (0 : Int32)) hx hb dX0_canLie_44 (by decide) ?_
    refine lv_istore (i := 4) (lv' := [(4, .int (0 : Int32)), (3, .int (0 : Int32)), (1, .int x1_42)]) hx hb dX0_canLie_45 hl (by decide) rfl (fun ls hl => ?_)
    exact b_47 x1_42 (fun x3_71 => FR_X0_canLie_71 σ x3_71) (fun x3_71 => b_71 x3_71) fu (0 : Int32) (0 : Int32) _ hF (lv_sub hl [2, 1, 0] rfl)
  have hl := lv_entry ([.ref a0, .int p1, .int p2]) (n := 5) (Nat.le_of_ble_eq_true rfl)
  rw [lg_entry_eq]
  generalize (lg_sl ([.ref a0, .int p1, .int p2]) ++ List.replicate (5 - (lg_sl ([.ref a0, .int p1, .int p2])).length) Slot.unset).toArray = ls at hl ⊢
  have hl : lv_has ls 5 [(0, .ref a0), (1, .int p1), (2, .int p2)] := hl
  unfold FR_X0_canLie at hF
  refine lv_iload_n hx hb dX0_canLie_0 rfl (lv_at hl 1 rfl) ?_
  refine lv_if_lt (tgt := 20) hx hb dX0_canLie_1 (by decide) (fun c_1 => ?_) (fun c_1 => ?_)
  · have hF := ob_t c_1 hF
    refine lv_iconst (v := (0 : Int32)) hx hb dX0_canLie_20 (by decide) ?_
    exact rzM hx hb hr hlocks rfl hF dX0_canLie_21
  · have hF := ob_f c_1 hF
    refine lv_iload_n hx hb dX0_canLie_4 rfl (lv_at hl 1 rfl) ?_
    refine lv_ldc (v := (46656 : Int32)) hx hb hown (hts _ (hin _ rk_X0_22)) dX0_canLie_5 ?_
    refine lv_icmp_ge (tgt := 20) hx hb dX0_canLie_7 (by decide) (fun c_7 => ?_) (fun c_7 => ?_)
    · have hF := ob_t c_7 hF
      refine lv_iconst (v := (0 : Int32)) hx hb dX0_canLie_20 (by decide) ?_
      exact rzM hx hb hr hlocks rfl hF dX0_canLie_21
    · have hF := ob_f c_7 hF
      refine lv_iload_n hx hb dX0_canLie_10 rfl (lv_at hl 2 rfl) ?_
      refine lv_if_lt (tgt := 20) hx hb dX0_canLie_11 (by decide) (fun c_11 => ?_) (fun c_11 => ?_)
      · have hF := ob_t c_11 hF
        refine lv_iconst (v := (0 : Int32)) hx hb dX0_canLie_20 (by decide) ?_
        exact rzM hx hb hr hlocks rfl hF dX0_canLie_21
      · have hF := ob_f c_11 hF
        refine lv_iload_n hx hb dX0_canLie_14 rfl (lv_at hl 2 rfl) ?_
        refine lv_bipush (v := (63 : Int32)) hx hb dX0_canLie_15 (by decide) ?_
        refine lv_icmp_le (tgt := 22) hx hb dX0_canLie_17 (by decide) (fun c_17 => ?_) (fun c_17 => ?_)
        · have hF := ob_t c_17 hF
          refine lv_aload_n hx hb dX0_canLie_22 rfl (lv_at hl 0 rfl) ?_
          obtain ⟨k_23_1, hF⟩ := ob_gd hF
          refine gP hx hb hts hin wo_0 rfl hown hK hP k_23_1 (pf_0 (isK_K k_23_1)) 2 (.int (pI σ a0 2)) (by decide) rf_X0_19 rfl dX0_canLie_23 ?_
          refine lv_iconst (v := (1 : Int32)) hx hb dX0_canLie_26 (by decide) ?_
          refine lv_icmp_ne (tgt := 42) hx hb dX0_canLie_27 (by decide) (fun c_27 => ?_) (fun c_27 => ?_)
          · have hF := ob_f c_27 hF
            exact b_42 p1 _ hF (lv_sub hl [1] rfl)
          · have hF := ob_t c_27 hF
            refine lv_iload_n hx hb dX0_canLie_30 rfl (lv_at hl 2 rfl) ?_
            refine lv_if_eq (tgt := 42) hx hb dX0_canLie_31 (by decide) (fun c_31 => ?_) (fun c_31 => ?_)
            · have hF := ob_t c_31 hF
              exact b_42 p1 _ hF (lv_sub hl [1] rfl)
            · have hF := ob_f c_31 hF
              refine lv_iload_n hx hb dX0_canLie_34 rfl (lv_at hl 2 rfl) ?_
              refine lv_bipush (v := (63 : Int32)) hx hb dX0_canLie_35 (by decide) ?_
              refine lv_icmp_eq (tgt := 42) hx hb dX0_canLie_37 (by decide) (fun c_37 => ?_) (fun c_37 => ?_)
              · have hF := ob_t c_37 hF
                exact b_42 p1 _ hF (lv_sub hl [1] rfl)
              · have hF := ob_f c_37 hF
                refine lv_iconst (v := (0 : Int32)) hx hb dX0_canLie_40 (by decide) ?_
                exact rzM hx hb hr hlocks rfl hF dX0_canLie_41
        · have hF := ob_f c_17 hF
          refine lv_iconst (v := (0 : Int32)) hx hb dX0_canLie_20 (by decide) ?_
          exact rzM hx hb hr hlocks rfl hF dX0_canLie_21
def wsR_X4_isAtHand : List Cond := Cond.code yX4_isAtHand cX4_isAtHand 1 (some .boolean) :: wRa
def FR_X4_isAtHand (σ : RS) (a0 : Nat) : Option Int32 := (gd (isK σ a0 4) (if (pI σ a0 3) = (-1 : Int32) then (some (0 : Int32)) else (if (pI σ a0 4) = (-1 : Int32) then (some (1 : Int32)) else (some (0 : Int32)))))
set_option maxHeartbeats 4000000 in
set_option maxRecDepth 100000 in
theorem cR_X4_isAtHand (l : Launch) (D : va_G) (cs : Nat → ClassId) (ad tb : Nat → Nat) (A : Nat → Prop) (σ : RS) (a0 : Nat) (q : Int32) (hF : FR_X4_isAtHand σ a0 = some q) : Met l yX4_isAtHand wsR_X4_isAtHand { frames := 0, cells := 0, slots := 0, locals := 0 } (va_Pc [.ref a0] (preQ D cs ad tb A σ)) (vp_Si (fun x => x = q)) 0 0 (fun _ => False) := by
  refine Met.ofW (cc := cX4_isAtHand) (maxL := 1) (ret := (some .boolean)) (by decide) rfl ?_
  intro p e s m args below meth c s₁ B hml hv
  obtain ⟨rfl, hP, hK, hD, hZ⟩ := hv
  have hx := B.exec
  have hb := B.bytes
  have hr := B.returns
  have hts : ∀ w ∈ (Cond.code yX4_isAtHand cX4_isAtHand 1 (some .boolean) :: wRa), w.before ([.ref a0] : List Value).toArray s = true := atoms_spec (ws := wsR_X4_isAtHand) B.pre
  have hin : ∀ w ∈ wRa, w ∈ (Cond.code yX4_isAtHand cX4_isAtHand 1 (some .boolean) :: wRa) := fun w hw => List.mem_cons_of_mem _ hw
  have hown : s.vm.findClass RX4 = some m.cls := findClass_of_methodNamed B.named
  have hlocks := B.notSynchronized
  have hS : va_S A s.heap s.heap [] := va_S.rf
  have hl := lv_entry ([.ref a0]) (n := 1) (Nat.le_of_ble_eq_true rfl)
  rw [lg_entry_eq]
  generalize (lg_sl ([.ref a0]) ++ List.replicate (1 - (lg_sl ([.ref a0])).length) Slot.unset).toArray = ls at hl ⊢
  have hl : lv_has ls 1 [(0, .ref a0)] := hl
  unfold FR_X4_isAtHand at hF
  refine lv_aload_n hx hb dX4_isAtHand_0 rfl (lv_at hl 0 rfl) ?_
  obtain ⟨k_1_1, hF⟩ := ob_gd hF
  refine gP hx hb hts hin wo_4 rfl hown hK hP k_1_1 (pf_4 (isK_K k_1_1)) 3 (.int (pI σ a0 3)) (by decide) rf_X4_15 rfl dX4_isAtHand_1 ?_
  refine lv_iconst (v := (-1 : Int32)) hx hb dX4_isAtHand_4 (by decide) ?_
  refine lv_icmp_eq (tgt := 20) hx hb dX4_isAtHand_5 (by decide) (fun c_5 => ?_) (fun c_5 => ?_)
  · have hF := ob_t c_5 hF
    refine lv_iconst (v := (0 : Int32)) hx hb dX4_isAtHand_20 (by decide) ?_
    exact rzM hx hb hr hlocks rfl hF dX4_isAtHand_21
  · have hF := ob_f c_5 hF
    refine lv_aload_n hx hb dX4_isAtHand_8 rfl (lv_at hl 0 rfl) ?_
    refine gP hx hb hts hin wo_4 rfl hown hK hP k_1_1 (pf_4 (isK_K k_1_1)) 4 (.int (pI σ a0 4)) (by decide) rf_X4_19 rfl dX4_isAtHand_9 ?_
    refine lv_iconst (v := (-1 : Int32)) hx hb dX4_isAtHand_12 (by decide) ?_
    refine lv_icmp_ne (tgt := 20) hx hb dX4_isAtHand_13 (by decide) (fun c_13 => ?_) (fun c_13 => ?_)
    · have hF := ob_f c_13 hF
      refine lv_iconst (v := (0 : Int32)) hx hb dX4_isAtHand_20 (by decide) ?_
      exact rzM hx hb hr hlocks rfl hF dX4_isAtHand_21
    · have hF := ob_t c_13 hF
      refine lv_iconst (v := (1 : Int32)) hx hb dX4_isAtHand_16 (by decide) ?_
      refine lv_goto (tgt := 21) hx hb dX4_isAtHand_17 (by decide) ?_
      exact rzM hx hb hr hlocks rfl hF dX4_isAtHand_21
def wsR_X4_liningRows : List Cond := Cond.code yX4_liningRows cX4_liningRows 1 (some .int) :: wRa
def FR_X4_liningRows (σ : RS) (a0 : Nat) : Option Int32 := (gd (isK σ a0 4) (oc (pR σ a0 2) (some (0 : Int32)) (fun c_4 => (gd (isK σ c_4 0) ((pR σ c_4 0).bind fun r_15 => (gd (isK σ r_15 11) (some (Int32.ofNat (pN σ r_15)))))))))
set_option maxHeartbeats 4000000 in
set_option maxRecDepth 100000 in
theorem cR_X4_liningRows (l : Launch) (D : va_G) (cs : Nat → ClassId) (ad tb : Nat → Nat) (A : Nat → Prop) (σ : RS) (a0 : Nat) (q : Int32) (hF : FR_X4_liningRows σ a0 = some q) : Met l yX4_liningRows wsR_X4_liningRows { frames := 0, cells := 0, slots := 0, locals := 0 } (va_Pc [.ref a0] (preQ D cs ad tb A σ)) (vp_Si (fun x => x = q)) 0 0 (fun _ => False) := by
  refine Met.ofW (cc := cX4_liningRows) (maxL := 1) (ret := (some .int)) (by decide) rfl ?_
  intro p e s m args below meth c s₁ B hml hv
  obtain ⟨rfl, hP, hK, hD, hZ⟩ := hv
  have hx := B.exec
  have hb := B.bytes
  have hr := B.returns
  have hts : ∀ w ∈ (Cond.code yX4_liningRows cX4_liningRows 1 (some .int) :: wRa), w.before ([.ref a0] : List Value).toArray s = true := atoms_spec (ws := wsR_X4_liningRows) B.pre
  have hin : ∀ w ∈ wRa, w ∈ (Cond.code yX4_liningRows cX4_liningRows 1 (some .int) :: wRa) := fun w hw => List.mem_cons_of_mem _ hw
  have hown : s.vm.findClass RX4 = some m.cls := findClass_of_methodNamed B.named
  have hlocks := B.notSynchronized
  have hS : va_S A s.heap s.heap [] := va_S.rf
  have hl := lv_entry ([.ref a0]) (n := 1) (Nat.le_of_ble_eq_true rfl)
  rw [lg_entry_eq]
  generalize (lg_sl ([.ref a0]) ++ List.replicate (1 - (lg_sl ([.ref a0])).length) Slot.unset).toArray = ls at hl ⊢
  have hl : lv_has ls 1 [(0, .ref a0)] := hl
  unfold FR_X4_liningRows at hF
  refine lv_aload_n hx hb dX4_liningRows_0 rfl (lv_at hl 0 rfl) ?_
  obtain ⟨k_1_1, hF⟩ := ob_gd hF
  refine gP hx hb hts hin wo_4 rfl hown hK hP k_1_1 (pf_4 (isK_K k_1_1)) 2 (va_rf (pR σ a0 2)) (by decide) rf_X4_9 rfl dX4_liningRows_1 ?_
  refine nnQ (tgt := 11) hx hb dX4_liningRows_4 (by decide) (fun c_4 e_4 => ?_) (fun e_4 => ?_)
  · have hF := oc_s e_4 hF
    refine lv_aload_n hx hb dX4_liningRows_11 rfl (lv_at hl 0 rfl) ?_
    refine gP hx hb hts hin wo_4 rfl hown hK hP k_1_1 (pf_4 (isK_K k_1_1)) 2 (va_rf (pR σ a0 2)) (by decide) rf_X4_9 rfl dX4_liningRows_12 ?_
    refine rfS e_4 ?_
    obtain ⟨k_15_2, hF⟩ := ob_gd hF
    refine gP hx hb hts hin wo_0 rfl hown hK hP k_15_2 (pf_0 (isK_K k_15_2)) 0 (va_rf (pR σ c_4 0)) (by decide) rf_X4_29 rfl dX4_liningRows_15 ?_
    obtain ⟨r_15, o_15, hF⟩ := ob_bd hF
    refine rfS o_15 ?_
    obtain ⟨k_18_3, hF⟩ := ob_gd hF
    refine lnP (v := (Int32.ofNat (pN σ r_15))) hx hb hK hP k_18_3 rfl dX4_liningRows_18 ?_
    exact rrM hx hb hr hlocks hF dX4_liningRows_19
  · have hF := oc_n e_4 hF
    refine lv_iconst (v := (0 : Int32)) hx hb dX4_liningRows_7 (by decide) ?_
    refine lv_goto (tgt := 19) hx hb dX4_liningRows_8 (by decide) ?_
    exact rrM hx hb hr hlocks hF dX4_liningRows_19
def wsR_X4_startOf : List Cond := Cond.code yX4_startOf cX4_startOf 4 (some .int) :: wRa
def FR_X4_startOf_4 (σ : RS) (x0_4 : Nat) (x1_4 : Int32) : Nat → Int32 → Int32 → Option Int32
  | 0, _, _ => none
  | n_4 + 1, x2_4, x3_4 => (if x1_4 ≤ x3_4 then (some x2_4) else (if (6 : Int32) ≤ x3_4 then (some x2_4) else (gd (isK σ x0_4 4) ((pR σ x0_4 1).bind fun r_17 => (gd (isK σ r_17 11) (gd (inb x3_4 (pN σ r_17)) (FR_X4_startOf_4 σ  x0_4 x1_4 n_4 (x2_4 + (pA σ r_17 x3_4.toNatClampNeg)) (x3_4 + (1 : Int32)))))))))
def FR_X4_startOf (σ : RS) (a0 : Nat) (p1 : Int32) : Option Int32 := (FR_X4_startOf_4 σ a0 p1 fu (0 : Int32) (0 : Int32))
set_option maxHeartbeats 4000000 in
set_option maxRecDepth 100000 in
theorem cR_X4_startOf (l : Launch) (D : va_G) (cs : Nat → ClassId) (ad tb : Nat → Nat) (A : Nat → Prop) (σ : RS) (a0 : Nat) (p1 : Int32) (q : Int32) (hF : FR_X4_startOf σ a0 p1 = some q) : Met l yX4_startOf wsR_X4_startOf { frames := 0, cells := 0, slots := 0, locals := 0 } (va_Pc [.ref a0, .int p1] (preQ D cs ad tb A σ)) (vp_Si (fun x => x = q)) 0 0 (fun _ => False) := by
  refine Met.ofW (cc := cX4_startOf) (maxL := 4) (ret := (some .int)) (by decide) rfl ?_
  intro p e s m args below meth c s₁ B hml hv
  obtain ⟨rfl, hP, hK, hD, hZ⟩ := hv
  have hx := B.exec
  have hb := B.bytes
  have hr := B.returns
  have hts : ∀ w ∈ (Cond.code yX4_startOf cX4_startOf 4 (some .int) :: wRa), w.before ([.ref a0, .int p1] : List Value).toArray s = true := atoms_spec (ws := wsR_X4_startOf) B.pre
  have hin : ∀ w ∈ wRa, w ∈ (Cond.code yX4_startOf cX4_startOf 4 (some .int) :: wRa) := fun w hw => List.mem_cons_of_mem _ hw
  have hown : s.vm.findClass RX4 = some m.cls := findClass_of_methodNamed B.named
  have hlocks := B.notSynchronized
  have hS : va_S A s.heap s.heap [] := va_S.rf
  have b_4 : ∀ (x0_4 : Nat) (x1_4 : Int32) (n_4 : Nat) (x2_4 : Int32) (x3_4 : Int32) (ls : Array Slot), FR_X4_startOf_4 σ x0_4 x1_4 n_4 x2_4 x3_4 = some q → lv_has ls 4 [(0, .ref x0_4), (1, .int x1_4), (2, .int x2_4), (3, .int x3_4)] → W p l e (headSpec wsR_X4_startOf { frames := 0, cells := 0, slots := 0, locals := 0 }).room s m ([.ref a0, .int p1] : List Value).toArray below meth c s.heap [] 0 0 (MQ below (vp_Si (fun x => x = q)) ([.ref a0, .int p1] : List Value).toArray s 0 0 (fun _ => False)) (F0 m 4 ls []) := by
    intro x0_4 x1_4
    intro n_4
    induction n_4 with
    | zero =>
      intro x2_4 x3_4 ls hF hl
      exact absurd hF (by simp [FR_X4_startOf_4])
    | succ n_4 ih_4 =>
      intro x2_4 x3_4 ls hF hl
      rw [FR_X4_startOf_4] at hF
      refine lv_iload_n hx hb dX4_startOf_4 rfl (lv_at hl 3 rfl) ?_
      refine lv_iload_n hx hb dX4_startOf_5 rfl (lv_at hl 1 rfl) ?_
      refine lv_icmp_ge (tgt := 30) hx hb dX4_startOf_6 (by decide) (fun c_6 => ?_) (fun c_6 => ?_)
      · have hF := ob_t c_6 hF
        refine lv_iload_n hx hb dX4_startOf_30 rfl (lv_at hl 2 rfl) ?_
        exact rrM hx hb hr hlocks hF dX4_startOf_31
      · have hF := ob_f c_6 hF
        refine lv_iload_n hx hb dX4_startOf_9 rfl (lv_at hl 3 rfl) ?_
        refine lv_bipush (v := (6 : Int32)) hx hb dX4_startOf_10 (by decide) ?_
        refine lv_icmp_ge (tgt := 30) hx hb dX4_startOf_12 (by decide) (fun c_12 => ?_) (fun c_12 => ?_)
        · have hF := ob_t c_12 hF
          refine lv_iload_n hx hb dX4_startOf_30 rfl (lv_at hl 2 rfl) ?_
          exact rrM hx hb hr hlocks hF dX4_startOf_31
        · have hF := ob_f c_12 hF
          refine lv_iload_n hx hb dX4_startOf_15 rfl (lv_at hl 2 rfl) ?_
          refine lv_aload_n hx hb dX4_startOf_16 rfl (lv_at hl 0 rfl) ?_
          obtain ⟨k_17_1, hF⟩ := ob_gd hF
          refine gP hx hb hts hin wo_4 rfl hown hK hP k_17_1 (pf_4 (isK_K k_17_1)) 1 (va_rf (pR σ x0_4 1)) (by decide) rf_X4_25 rfl dX4_startOf_17 ?_
          obtain ⟨r_17, o_17, hF⟩ := ob_bd hF
          refine rfS o_17 ?_
          refine lv_iload_n hx hb dX4_startOf_20 rfl (lv_at hl 3 rfl) ?_
          obtain ⟨k_21_2, hF⟩ := ob_gd hF
          obtain ⟨g_21, hF⟩ := ob_gd hF
          refine ldP hx hb hK hP k_21_2 (pA σ r_17 x3_4.toNatClampNeg) g_21 rfl dX4_startOf_21 ?_
          refine lv_iadd hx hb dX4_startOf_22 ?_
          refine lv_istore_n (i := 2) (lv' := [(2, .int (x2_4 + (pA σ r_17 x3_4.toNatClampNeg))), (0, .ref x0_4), (1, .int x1_4), (3, .int x3_4)]) hx hb dX4_startOf_23 rfl hl (by decide) rfl (fun ls hl => ?_)
          refine lv_iinc (v := x3_4 + (1 : Int32)) (lv' := [(3, .int (x3_4 + (1 : Int32))), (2, .int (x2_4 + (pA σ r_17 x3_4.toNatClampNeg))), (0, .ref x0_4), (1, .int x1_4)]) hx hb dX4_startOf_24 hl (k := 3) rfl rfl (by decide) rfl (fun ls hl => ?_)
          refine lv_goto (tgt := 4) hx hb dX4_startOf_27 (by decide) ?_
          exact ih_4 (x2_4 + (pA σ r_17 x3_4.toNatClampNeg)) (x3_4 + (1 : Int32)) _ hF (lv_sub hl [2, 3, 1, 0] rfl)
  have hl := lv_entry ([.ref a0, .int p1]) (n := 4) (Nat.le_of_ble_eq_true rfl)
  rw [lg_entry_eq]
  generalize (lg_sl ([.ref a0, .int p1]) ++ List.replicate (4 - (lg_sl ([.ref a0, .int p1])).length) Slot.unset).toArray = ls at hl ⊢
  have hl : lv_has ls 4 [(0, .ref a0), (1, .int p1)] := hl
  unfold FR_X4_startOf at hF
  refine lv_iconst (v := (0 : Int32)) hx hb dX4_startOf_0 (by decide) ?_
  refine lv_istore_n (i := 2) (lv' := [(2, .int (0 : Int32)), (0, .ref a0), (1, .int p1)]) hx hb dX4_startOf_1 rfl hl (by decide) rfl (fun ls hl => ?_)
  refine lv_iconst (v := (0 : Int32)) hx hb dX4_startOf_2 (by decide) ?_
  refine lv_istore_n (i := 3) (lv' := [(3, .int (0 : Int32)), (2, .int (0 : Int32)), (0, .ref a0), (1, .int p1)]) hx hb dX4_startOf_3 rfl hl (by decide) rfl (fun ls hl => ?_)
  exact b_4 a0 p1 fu (0 : Int32) (0 : Int32) _ hF (lv_sub hl [2, 3, 1, 0] rfl)
def wsR_X4_wearsAt : List Cond := Cond.code yX4_wearsAt cX4_wearsAt 3 (some .boolean) :: wRa
def FR_X4_wearsAt_40 (σ : RS) (x0_40 : Nat) (x1_40 : Int32) (x2_40 : Int32) : Option Int32 := (gd (isK σ x0_40 4) ((pR σ x0_40 1).bind fun r_42 => (gd (isK σ r_42 11) (gd (inb x1_40 (pN σ r_42)) (if x2_40 = ((pA σ r_42 x1_40.toNatClampNeg) / (2 : Int32)) then (some (1 : Int32)) else (some (0 : Int32)))))))
def FR_X4_wearsAt_58 (σ : RS) (x2_58 : Int32) : Option Int32 := (if (3 : Int32) ≤ x2_58 then (some (0 : Int32)) else (some (1 : Int32)))
def FR_X4_wearsAt (σ : RS) (a0 : Nat) (p1 : Int32) (p2 : Int32) : Option Int32 := (if p1 = (0 : Int32) then (FR_X4_wearsAt_40 σ a0 p1 p2) else (if p1 = (1 : Int32) then (FR_X4_wearsAt_40 σ a0 p1 p2) else (if p1 = (2 : Int32) then (FR_X4_wearsAt_58 σ p2) else (if p1 = (3 : Int32) then (FR_X4_wearsAt_58 σ p2) else (if p1 = (4 : Int32) then (some (0 : Int32)) else (if p1 = (5 : Int32) then (some (1 : Int32)) else (some (0 : Int32))))))))
set_option maxHeartbeats 4000000 in
set_option maxRecDepth 100000 in
theorem cR_X4_wearsAt (l : Launch) (D : va_G) (cs : Nat → ClassId) (ad tb : Nat → Nat) (A : Nat → Prop) (σ : RS) (a0 : Nat) (p1 : Int32) (p2 : Int32) (q : Int32) (hF : FR_X4_wearsAt σ a0 p1 p2 = some q) : Met l yX4_wearsAt wsR_X4_wearsAt { frames := 0, cells := 0, slots := 0, locals := 0 } (va_Pc [.ref a0, .int p1, .int p2] (preQ D cs ad tb A σ)) (vp_Si (fun x => x = q)) 0 0 (fun _ => False) := by
  refine Met.ofW (cc := cX4_wearsAt) (maxL := 3) (ret := (some .boolean)) (by decide) rfl ?_
  intro p e s m args below meth c s₁ B hml hv
  obtain ⟨rfl, hP, hK, hD, hZ⟩ := hv
  have hx := B.exec
  have hb := B.bytes
  have hr := B.returns
  have hts : ∀ w ∈ (Cond.code yX4_wearsAt cX4_wearsAt 3 (some .boolean) :: wRa), w.before ([.ref a0, .int p1, .int p2] : List Value).toArray s = true := atoms_spec (ws := wsR_X4_wearsAt) B.pre
  have hin : ∀ w ∈ wRa, w ∈ (Cond.code yX4_wearsAt cX4_wearsAt 3 (some .boolean) :: wRa) := fun w hw => List.mem_cons_of_mem _ hw
  have hown : s.vm.findClass RX4 = some m.cls := findClass_of_methodNamed B.named
  have hlocks := B.notSynchronized
  have hS : va_S A s.heap s.heap [] := va_S.rf
  have b_40 : ∀ (x0_40 : Nat) (x1_40 : Int32) (x2_40 : Int32) (ls : Array Slot), FR_X4_wearsAt_40 σ x0_40 x1_40 x2_40 = some q → lv_has ls 3 [(0, .ref x0_40), (1, .int x1_40), (2, .int x2_40)] → W p l e (headSpec wsR_X4_wearsAt { frames := 0, cells := 0, slots := 0, locals := 0 }).room s m ([.ref a0, .int p1, .int p2] : List Value).toArray below meth c s.heap [] 0 0 (MQ below (vp_Si (fun x => x = q)) ([.ref a0, .int p1, .int p2] : List Value).toArray s 0 0 (fun _ => False)) (F0 m 40 ls []) := by
    intro x0_40 x1_40 x2_40 ls hF hl
    unfold FR_X4_wearsAt_40 at hF
    refine lv_iload_n hx hb dX4_wearsAt_40 rfl (lv_at hl 2 rfl) ?_
    refine lv_aload_n hx hb dX4_wearsAt_41 rfl (lv_at hl 0 rfl) ?_
    obtain ⟨k_42_1, hF⟩ := ob_gd hF
    refine gP hx hb hts hin wo_4 rfl hown hK hP k_42_1 (pf_4 (isK_K k_42_1)) 1 (va_rf (pR σ x0_40 1)) (by decide) rf_X4_25 rfl dX4_wearsAt_42 ?_
    obtain ⟨r_42, o_42, hF⟩ := ob_bd hF
    refine rfS o_42 ?_
    refine lv_iload_n hx hb dX4_wearsAt_45 rfl (lv_at hl 1 rfl) ?_
    obtain ⟨k_46_2, hF⟩ := ob_gd hF
    obtain ⟨g_46, hF⟩ := ob_gd hF
    refine ldP hx hb hK hP k_46_2 (pA σ r_42 x1_40.toNatClampNeg) g_46 rfl dX4_wearsAt_46 ?_
    refine lv_iconst (v := (2 : Int32)) hx hb dX4_wearsAt_47 (by decide) ?_
    refine lv_idiv hx hb dX4_wearsAt_48 (by decide) ?_
    refine lv_icmp_ne (tgt := 56) hx hb dX4_wearsAt_49 (by decide) (fun c_49 => ?_) (fun c_49 => ?_)
    · have hF := ob_f c_49 hF
      refine lv_iconst (v := (0 : Int32)) hx hb dX4_wearsAt_56 (by decide) ?_
      exact rzM hx hb hr hlocks rfl hF dX4_wearsAt_57
    · have hF := ob_t c_49 hF
      refine lv_iconst (v := (1 : Int32)) hx hb dX4_wearsAt_52 (by decide) ?_
      refine lv_goto (tgt := 57) hx hb dX4_wearsAt_53 (by decide) ?_
      exact rzM hx hb hr hlocks rfl hF dX4_wearsAt_57
  have b_58 : ∀ (x2_58 : Int32) (ls : Array Slot), FR_X4_wearsAt_58 σ x2_58 = some q → lv_has ls 3 [(2, .int x2_58)] → W p l e (headSpec wsR_X4_wearsAt { frames := 0, cells := 0, slots := 0, locals := 0 }).room s m ([.ref a0, .int p1, .int p2] : List Value).toArray below meth c s.heap [] 0 0 (MQ below (vp_Si (fun x => x = q)) ([.ref a0, .int p1, .int p2] : List Value).toArray s 0 0 (fun _ => False)) (F0 m 58 ls []) := by
    intro x2_58 ls hF hl
    unfold FR_X4_wearsAt_58 at hF
    refine lv_iload_n hx hb dX4_wearsAt_58 rfl (lv_at hl 0 rfl) ?_
    refine lv_iconst (v := (3 : Int32)) hx hb dX4_wearsAt_59 (by decide) ?_
    refine lv_icmp_ge (tgt := 67) hx hb dX4_wearsAt_60 (by decide) (fun c_60 => ?_) (fun c_60 => ?_)
    · have hF := ob_t c_60 hF
      refine lv_iconst (v := (0 : Int32)) hx hb dX4_wearsAt_67 (by decide) ?_
      exact rzM hx hb hr hlocks rfl hF dX4_wearsAt_68
    · have hF := ob_f c_60 hF
      refine lv_iconst (v := (1 : Int32)) hx hb dX4_wearsAt_63 (by decide) ?_
      refine lv_goto (tgt := 68) hx hb dX4_wearsAt_64 (by decide) ?_
      exact rzM hx hb hr hlocks rfl hF dX4_wearsAt_68
  have hl := lv_entry ([.ref a0, .int p1, .int p2]) (n := 3) (Nat.le_of_ble_eq_true rfl)
  rw [lg_entry_eq]
  generalize (lg_sl ([.ref a0, .int p1, .int p2]) ++ List.replicate (3 - (lg_sl ([.ref a0, .int p1, .int p2])).length) Slot.unset).toArray = ls at hl ⊢
  have hl : lv_has ls 3 [(0, .ref a0), (1, .int p1), (2, .int p2)] := hl
  unfold FR_X4_wearsAt at hF
  refine lv_iload_n hx hb dX4_wearsAt_0 rfl (lv_at hl 1 rfl) ?_
  by_cases c_1_0 : p1 = (0 : Int32)
  · have hF := ob_t c_1_0 hF
    refine lv_tableIn (off := 39) (tgt := 40) hx hb dX4_wearsAt_1 (by rw [c_1_0]; decide) (by rw [c_1_0]; decide) (by rw [c_1_0]; rfl) (by decide) ?_
    exact b_40 a0 p1 p2 _ hF hl
  · have hF := ob_f c_1_0 hF
    by_cases c_1_1 : p1 = (1 : Int32)
    · have hF := ob_t c_1_1 hF
      refine lv_tableIn (off := 39) (tgt := 40) hx hb dX4_wearsAt_1 (by rw [c_1_1]; decide) (by rw [c_1_1]; decide) (by rw [c_1_1]; rfl) (by decide) ?_
      exact b_40 a0 p1 p2 _ hF hl
    · have hF := ob_f c_1_1 hF
      by_cases c_1_2 : p1 = (2 : Int32)
      · have hF := ob_t c_1_2 hF
        refine lv_tableIn (off := 57) (tgt := 58) hx hb dX4_wearsAt_1 (by rw [c_1_2]; decide) (by rw [c_1_2]; decide) (by rw [c_1_2]; rfl) (by decide) ?_
        exact b_58 p2 _ hF (lv_sub hl [2] rfl)
      · have hF := ob_f c_1_2 hF
        by_cases c_1_3 : p1 = (3 : Int32)
        · have hF := ob_t c_1_3 hF
          refine lv_tableIn (off := 57) (tgt := 58) hx hb dX4_wearsAt_1 (by rw [c_1_3]; decide) (by rw [c_1_3]; decide) (by rw [c_1_3]; rfl) (by decide) ?_
          exact b_58 p2 _ hF (lv_sub hl [2] rfl)
        · have hF := ob_f c_1_3 hF
          by_cases c_1_4 : p1 = (4 : Int32)
          · have hF := ob_t c_1_4 hF
            refine lv_tableIn (off := 70) (tgt := 71) hx hb dX4_wearsAt_1 (by rw [c_1_4]; decide) (by rw [c_1_4]; decide) (by rw [c_1_4]; rfl) (by decide) ?_
            refine lv_iconst (v := (0 : Int32)) hx hb dX4_wearsAt_71 (by decide) ?_
            exact rzM hx hb hr hlocks rfl hF dX4_wearsAt_72
          · have hF := ob_f c_1_4 hF
            by_cases c_1_5 : p1 = (5 : Int32)
            · have hF := ob_t c_1_5 hF
              refine lv_tableIn (off := 68) (tgt := 69) hx hb dX4_wearsAt_1 (by rw [c_1_5]; decide) (by rw [c_1_5]; decide) (by rw [c_1_5]; rfl) (by decide) ?_
              refine lv_iconst (v := (1 : Int32)) hx hb dX4_wearsAt_69 (by decide) ?_
              exact rzM hx hb hr hlocks rfl hF dX4_wearsAt_70
            · have hF := ob_f c_1_5 hF
              refine lv_tableOut (tgt := 71) hx hb dX4_wearsAt_1 (by have a0 : ¬ p1.toInt = 0 := ob_ti c_1_0; have a1 : ¬ p1.toInt = 1 := ob_ti c_1_1; have a2 : ¬ p1.toInt = 2 := ob_ti c_1_2; have a3 : ¬ p1.toInt = 3 := ob_ti c_1_3; have a4 : ¬ p1.toInt = 4 := ob_ti c_1_4; have a5 : ¬ p1.toInt = 5 := ob_ti c_1_5; omega) (by decide) ?_
              refine lv_iconst (v := (0 : Int32)) hx hb dX4_wearsAt_71 (by decide) ?_
              exact rzM hx hb hr hlocks rfl hF dX4_wearsAt_72
def wsR_X4_wearOnce : List Cond := Cond.code yX4_wearOnce cX4_wearOnce 5 (some .int) :: wRa
theorem cw_X4_X4_wearsAt_34 {R : Room} {s : State} {args : Array Value} {y : MethodName} {c : ByteArray} {n : Nat} {r : Option FieldType} (hts : ∀ w ∈ (Cond.code y c n r :: wRa), w.before args s = true) (hR : 0 + 1 ≤ R.frames ∧ 8 + (3 + 11) + 0 ≤ R.locals) : CallW R s args RX4 RX4 34 yX4_wearsAt cX4_wearsAt 3 (some .boolean) wsR_X4_wearsAt { frames := 0, cells := 0, slots := 0, locals := 0 } 0 0 2 := cwV 2 hts (goodV wRa_good rm_X4_34 ri_X4_wearsAt rs_X4_wearsAt rn_X4 rc_X4_wearsAt) rfl rfl rfl (by decide +kernel) hR
def FR_X4_wearOnce_15 (K_90 : Int32 → Int32 → RS → Option (Int32 × RS)) (x0_15 : Nat) (x3_15 : Int32) : Nat → Int32 → Int32 → Int32 → RS → Option (Int32 × RS)
  | 0, _, _, _, _ => none
  | n_15 + 1, x1_15, x2_15, x4_15, σ_15 => (gd (isK σ_15 x0_15 4) ((pR σ_15 x0_15 1).bind fun r_18 => (gd (isK σ_15 r_18 11) (gd (inb x3_15 (pN σ_15 r_18)) (if (pA σ_15 r_18 x3_15.toNatClampNeg) ≤ x4_15 then (K_90 x1_15 x2_15 σ_15) else ((pR σ_15 x0_15 0).bind fun r_28 => (gd (isK σ_15 r_28 0) ((pR σ_15 r_28 0).bind fun r_31 => (gd (isK σ_15 r_31 11) (if (Int32.ofNat (pN σ_15 r_31)) ≤ x2_15 then (K_90 x1_15 x2_15 σ_15) else ((FR_X4_wearsAt σ_15 x0_15 x3_15 x4_15).bind fun q_42 => (if q_42 = 0 then (FR_X4_wearOnce_15 K_90 x0_15 x3_15 n_15 x1_15 (x2_15 + (1 : Int32)) (x4_15 + (1 : Int32)) σ_15) else (gd (inb x2_15 (pN σ_15 r_31)) (if (9 : Int32) ≤ ((pA σ_15 r_31 x2_15.toNatClampNeg) >>> ((5 : Int32) &&& 31)) then (FR_X4_wearOnce_15 K_90 x0_15 x3_15 n_15 x1_15 (x2_15 + (1 : Int32)) (x4_15 + (1 : Int32)) σ_15) else (gd (inb x2_15 (pN σ_15 r_31)) (gd (inb x2_15 (pN σ_15 r_31)) (FR_X4_wearOnce_15 K_90 x0_15 x3_15 n_15 (x1_15 + (1 : Int32)) (x2_15 + (1 : Int32)) (x4_15 + (1 : Int32)) (wa σ_15 r_31 x2_15 ((pA σ_15 r_31 x2_15.toNatClampNeg) + (32 : Int32))))))))))))))))))))
def FR_X4_wearOnce_90 (K_6 : Int32 → Int32 → Int32 → RS → Option (Int32 × RS)) (x0_90 : Nat) (x1_90 : Int32) (x2_90 : Int32) (x3_90 : Int32) (σ_90 : RS) : Option (Int32 × RS) := (K_6 x1_90 x2_90 (x3_90 + (1 : Int32)) σ_90)
def FR_X4_wearOnce_6 (x0_6 : Nat) : Nat → Int32 → Int32 → Int32 → RS → Option (Int32 × RS)
  | 0, _, _, _, _ => none
  | n_6 + 1, x1_6, x2_6, x3_6, σ_6 => (if (6 : Int32) ≤ x3_6 then (some (x1_6, σ_6)) else (FR_X4_wearOnce_15 (fun x1_90 x2_90 σ_90 => FR_X4_wearOnce_90 (fun x1_6 x2_6 x3_6 σ_6 => FR_X4_wearOnce_6  x0_6 n_6 x1_6 x2_6 x3_6 σ_6) x0_6 x1_90 x2_90 x3_6 σ_90) x0_6 x3_6 fu x1_6 x2_6 (0 : Int32) σ_6))
def FR_X4_wearOnce (σ : RS) (a0 : Nat) : Option (Int32 × RS) := (FR_X4_wearOnce_6 a0 fu (0 : Int32) (0 : Int32) (0 : Int32) σ)
set_option maxHeartbeats 4000000 in
set_option maxRecDepth 100000 in
theorem cR_X4_wearOnce (l : Launch) (D : va_G) (cs : Nat → ClassId) (ad tb : Nat → Nat) (A : Nat → Prop) (σ : RS) (a0 : Nat) (q : (Int32 × RS)) (hF : FR_X4_wearOnce σ a0 = some q) : Met l yX4_wearOnce wsR_X4_wearOnce { frames := 1, cells := 0, slots := 0, locals := 22 } (va_Pc [.ref a0] (preQ D cs ad tb A σ)) (va_Qi (fun x u => x = q.1 ∧ u = q.2) (posQ D cs ad A) A) 0 0 A := by
  refine Met.ofW (cc := cX4_wearOnce) (maxL := 5) (ret := (some .int)) (by decide) rfl ?_
  intro p e s m args below meth c s₁ B hml hv
  obtain ⟨rfl, hP, hK, hD, hZ⟩ := hv
  have hx := B.exec
  have hb := B.bytes
  have hr := B.returns
  have hts : ∀ w ∈ (Cond.code yX4_wearOnce cX4_wearOnce 5 (some .int) :: wRa), w.before ([.ref a0] : List Value).toArray s = true := atoms_spec (ws := wsR_X4_wearOnce) B.pre
  have hin : ∀ w ∈ wRa, w ∈ (Cond.code yX4_wearOnce cX4_wearOnce 5 (some .int) :: wRa) := fun w hw => List.mem_cons_of_mem _ hw
  have hown : s.vm.findClass RX4 = some m.cls := findClass_of_methodNamed B.named
  have hlocks := B.notSynchronized
  have hS : va_S A s.heap s.heap [] := va_S.rf
  have b_15 : ∀ (x0_15 : Nat) (x3_15 : Int32) (K_90 : Int32 → Int32 → RS → Option (Int32 × RS)) (k_90 : ∀ (x1_90 : Int32) (x2_90 : Int32) (σ_90 : RS) (H : Heap) (locs : List Loc) (ls : Array Slot), K_90 x1_90 x2_90 σ_90 = some q → va_P D vwCl (wR cs ad σ_90) H → va_D A (wR cs ad σ_90) → va_S A s.heap H locs → lv_has ls 5 [(0, .ref x0_15), (1, .int x1_90), (2, .int x2_90), (3, .int x3_15)] → W p l e (headSpec wsR_X4_wearOnce { frames := 1, cells := 0, slots := 0, locals := 22 }).room s m ([.ref a0] : List Value).toArray below meth c H locs 0 0 (MQ below (va_Qi (fun x u => x = q.1 ∧ u = q.2) (posQ D cs ad A) A) ([.ref a0] : List Value).toArray s 0 0 A) (F0 m 90 ls [])) (n_15 : Nat) (x1_15 : Int32) (x2_15 : Int32) (x4_15 : Int32) (σ_15 : RS) (H : Heap) (locs : List Loc) (ls : Array Slot), FR_X4_wearOnce_15 K_90 x0_15 x3_15 n_15 x1_15 x2_15 x4_15 σ_15 = some q → va_P D vwCl (wR cs ad σ_15) H → va_D A (wR cs ad σ_15) → va_S A s.heap H locs → lv_has ls 5 [(0, .ref x0_15), (1, .int x1_15), (2, .int x2_15), (3, .int x3_15), (4, .int x4_15)] → W p l e (headSpec wsR_X4_wearOnce { frames := 1, cells := 0, slots := 0, locals := 22 }).room s m ([.ref a0] : List Value).toArray below meth c H locs 0 0 (MQ below (va_Qi (fun x u => x = q.1 ∧ u = q.2) (posQ D cs ad A) A) ([.ref a0] : List Value).toArray s 0 0 A) (F0 m 15 ls []) := by
    intro x0_15 x3_15 K_90 k_90
    intro n_15
    induction n_15 with
    | zero =>
      intro x1_15 x2_15 x4_15 σ_15 H locs ls hF hP hD hS hl
      exact absurd hF (by simp [FR_X4_wearOnce_15])
    | succ n_15 ih_15 =>
      intro x1_15 x2_15 x4_15 σ_15 H locs ls hF hP hD hS hl
      rw [FR_X4_wearOnce_15] at hF
      refine lv_iload hx hb dX4_wearOnce_15 (lv_at hl 4 rfl) ?_
      refine lv_aload_n hx hb dX4_wearOnce_17 rfl (lv_at hl 0 rfl) ?_
      obtain ⟨k_18_1, hF⟩ := ob_gd hF
      refine gP hx hb hts hin wo_4 rfl hown hK hP k_18_1 (pf_4 (isK_K k_18_1)) 1 (va_rf (pR σ_15 x0_15 1)) (by decide) rf_X4_25 rfl dX4_wearOnce_18 ?_
      obtain ⟨r_18, o_18, hF⟩ := ob_bd hF
      refine rfS o_18 ?_
      refine lv_iload_n hx hb dX4_wearOnce_21 rfl (lv_at hl 3 rfl) ?_
      obtain ⟨k_22_2, hF⟩ := ob_gd hF
      obtain ⟨g_22, hF⟩ := ob_gd hF
      refine ldP hx hb hK hP k_22_2 (pA σ_15 r_18 x3_15.toNatClampNeg) g_22 rfl dX4_wearOnce_22 ?_
      refine lv_icmp_ge (tgt := 90) hx hb dX4_wearOnce_23 (by decide) (fun c_23 => ?_) (fun c_23 => ?_)
      · have hF := ob_t c_23 hF
        exact k_90 x1_15 x2_15 σ_15 _ _ _ hF hP hD hS (lv_sub hl [0, 1, 2, 3] rfl)
      · have hF := ob_f c_23 hF
        refine lv_iload_n hx hb dX4_wearOnce_26 rfl (lv_at hl 2 rfl) ?_
        refine lv_aload_n hx hb dX4_wearOnce_27 rfl (lv_at hl 0 rfl) ?_
        refine gP hx hb hts hin wo_4 rfl hown hK hP k_18_1 (pf_4 (isK_K k_18_1)) 0 (va_rf (pR σ_15 x0_15 0)) (by decide) rf_X4_22 rfl dX4_wearOnce_28 ?_
        obtain ⟨r_28, o_28, hF⟩ := ob_bd hF
        refine rfS o_28 ?_
        obtain ⟨k_31_3, hF⟩ := ob_gd hF
        refine gP hx hb hts hin wo_0 rfl hown hK hP k_31_3 (pf_0 (isK_K k_31_3)) 0 (va_rf (pR σ_15 r_28 0)) (by decide) rf_X4_29 rfl dX4_wearOnce_31 ?_
        obtain ⟨r_31, o_31, hF⟩ := ob_bd hF
        refine rfS o_31 ?_
        obtain ⟨k_34_4, hF⟩ := ob_gd hF
        refine lnP (v := (Int32.ofNat (pN σ_15 r_31))) hx hb hK hP k_34_4 rfl dX4_wearOnce_34 ?_
        refine lv_icmp_ge (tgt := 90) hx hb dX4_wearOnce_35 (by decide) (fun c_35 => ?_) (fun c_35 => ?_)
        · have hF := ob_t c_35 hF
          exact k_90 x1_15 x2_15 σ_15 _ _ _ hF hP hD hS (lv_sub hl [0, 1, 2, 3] rfl)
        · have hF := ob_f c_35 hF
          refine lv_aload_n hx hb dX4_wearOnce_38 rfl (lv_at hl 0 rfl) ?_
          refine lv_iload_n hx hb dX4_wearOnce_39 rfl (lv_at hl 3 rfl) ?_
          refine lv_iload hx hb dX4_wearOnce_40 (lv_at hl 4 rfl) ?_
          obtain ⟨q_42, e_42, hF⟩ := ob_bd hF
          refine crR (As := [.int x3_15, .int x4_15]) (rest := []) ⟨hx, hb, hml, hown, hts⟩ (cR_X4_wearsAt l D cs ad tb A σ_15 x0_15 x3_15 x4_15 _ e_42) (cw_X4_X4_wearsAt_34 hts ⟨Nat.le_of_ble_eq_true rfl, Nat.le_of_ble_eq_true rfl⟩) ⟨Nat.zero_le _, Nat.zero_le _⟩ (rcP hK hP (ci := 4) rfl k_18_1 (pf_4 (isK_K k_18_1))) hK hP hD hS hZ rfl hl.1 rfl (lv_room (Nat.le_of_ble_eq_true rfl)) dX4_wearOnce_42 ?_
          refine lv_if_eq (tgt := 81) hx hb dX4_wearOnce_45 (by decide) (fun c_45 => ?_) (fun c_45 => ?_)
          · have hF := ob_t c_45 hF
            refine lv_iinc (v := x2_15 + (1 : Int32)) (lv' := [(2, .int (x2_15 + (1 : Int32))), (0, .ref x0_15), (1, .int x1_15), (3, .int x3_15), (4, .int x4_15)]) hx hb dX4_wearOnce_81 hl (k := 2) rfl rfl (by decide) rfl (fun ls hl => ?_)
            refine lv_iinc (v := x4_15 + (1 : Int32)) (lv' := [(4, .int (x4_15 + (1 : Int32))), (2, .int (x2_15 + (1 : Int32))), (0, .ref x0_15), (1, .int x1_15), (3, .int x3_15)]) hx hb dX4_wearOnce_84 hl (k := 4) rfl rfl (by decide) rfl (fun ls hl => ?_)
            refine lv_goto (tgt := 15) hx hb dX4_wearOnce_87 (by decide) ?_
            exact ih_15 x1_15 (x2_15 + (1 : Int32)) (x4_15 + (1 : Int32)) σ_15 _ _ _ hF hP hD hS (lv_sub hl [2, 3, 1, 4, 0] rfl)
          · have hF := ob_f c_45 hF
            refine lv_aload_n hx hb dX4_wearOnce_48 rfl (lv_at hl 0 rfl) ?_
            refine gP hx hb hts hin wo_4 rfl hown hK hP k_18_1 (pf_4 (isK_K k_18_1)) 0 (va_rf (pR σ_15 x0_15 0)) (by decide) rf_X4_22 rfl dX4_wearOnce_49 ?_
            refine rfS o_28 ?_
            refine gP hx hb hts hin wo_0 rfl hown hK hP k_31_3 (pf_0 (isK_K k_31_3)) 0 (va_rf (pR σ_15 r_28 0)) (by decide) rf_X4_29 rfl dX4_wearOnce_52 ?_
            refine rfS o_31 ?_
            refine lv_iload_n hx hb dX4_wearOnce_55 rfl (lv_at hl 2 rfl) ?_
            obtain ⟨g_56, hF⟩ := ob_gd hF
            refine ldP hx hb hK hP k_34_4 (pA σ_15 r_31 x2_15.toNatClampNeg) g_56 rfl dX4_wearOnce_56 ?_
            refine lv_iconst (v := (5 : Int32)) hx hb dX4_wearOnce_57 (by decide) ?_
            refine lv_ishr hx hb dX4_wearOnce_58 ?_
            refine lv_bipush (v := (9 : Int32)) hx hb dX4_wearOnce_59 (by decide) ?_
            refine lv_icmp_ge (tgt := 81) hx hb dX4_wearOnce_61 (by decide) (fun c_61 => ?_) (fun c_61 => ?_)
            · have hF := ob_t c_61 hF
              refine lv_iinc (v := x2_15 + (1 : Int32)) (lv' := [(2, .int (x2_15 + (1 : Int32))), (0, .ref x0_15), (1, .int x1_15), (3, .int x3_15), (4, .int x4_15)]) hx hb dX4_wearOnce_81 hl (k := 2) rfl rfl (by decide) rfl (fun ls hl => ?_)
              refine lv_iinc (v := x4_15 + (1 : Int32)) (lv' := [(4, .int (x4_15 + (1 : Int32))), (2, .int (x2_15 + (1 : Int32))), (0, .ref x0_15), (1, .int x1_15), (3, .int x3_15)]) hx hb dX4_wearOnce_84 hl (k := 4) rfl rfl (by decide) rfl (fun ls hl => ?_)
              refine lv_goto (tgt := 15) hx hb dX4_wearOnce_87 (by decide) ?_
              exact ih_15 x1_15 (x2_15 + (1 : Int32)) (x4_15 + (1 : Int32)) σ_15 _ _ _ hF hP hD hS (lv_sub hl [2, 3, 1, 4, 0] rfl)
            · have hF := ob_f c_61 hF
              refine lv_aload_n hx hb dX4_wearOnce_64 rfl (lv_at hl 0 rfl) ?_
              refine gP hx hb hts hin wo_4 rfl hown hK hP k_18_1 (pf_4 (isK_K k_18_1)) 0 (va_rf (pR σ_15 x0_15 0)) (by decide) rf_X4_22 rfl dX4_wearOnce_65 ?_
              refine rfS o_28 ?_
              refine gP hx hb hts hin wo_0 rfl hown hK hP k_31_3 (pf_0 (isK_K k_31_3)) 0 (va_rf (pR σ_15 r_28 0)) (by decide) rf_X4_29 rfl dX4_wearOnce_68 ?_
              refine rfS o_31 ?_
              refine lv_iload_n hx hb dX4_wearOnce_71 rfl (lv_at hl 2 rfl) ?_
              refine lv_dup2_11 hx hb dX4_wearOnce_72 rfl rfl ?_
              obtain ⟨g_73, hF⟩ := ob_gd hF
              refine ldP hx hb hK hP k_34_4 (pA σ_15 r_31 x2_15.toNatClampNeg) g_73 rfl dX4_wearOnce_73 ?_
              refine lv_bipush (v := (32 : Int32)) hx hb dX4_wearOnce_74 (by decide) ?_
              refine lv_iadd hx hb dX4_wearOnce_76 ?_
              obtain ⟨g_77, hF⟩ := ob_gd hF
              refine stP hx hb hK hP hD hS k_34_4 g_77 dX4_wearOnce_77 (fun H locs hP hD hS => ?_)
              refine lv_iinc (v := x1_15 + (1 : Int32)) (lv' := [(1, .int (x1_15 + (1 : Int32))), (0, .ref x0_15), (2, .int x2_15), (3, .int x3_15), (4, .int x4_15)]) hx hb dX4_wearOnce_78 hl (k := 1) rfl rfl (by decide) rfl (fun ls hl => ?_)
              refine lv_iinc (v := x2_15 + (1 : Int32)) (lv' := [(2, .int (x2_15 + (1 : Int32))), (1, .int (x1_15 + (1 : Int32))), (0, .ref x0_15), (3, .int x3_15), (4, .int x4_15)]) hx hb dX4_wearOnce_81 hl (k := 2) rfl rfl (by decide) rfl (fun ls hl => ?_)
              refine lv_iinc (v := x4_15 + (1 : Int32)) (lv' := [(4, .int (x4_15 + (1 : Int32))), (2, .int (x2_15 + (1 : Int32))), (1, .int (x1_15 + (1 : Int32))), (0, .ref x0_15), (3, .int x3_15)]) hx hb dX4_wearOnce_84 hl (k := 4) rfl rfl (by decide) rfl (fun ls hl => ?_)
              refine lv_goto (tgt := 15) hx hb dX4_wearOnce_87 (by decide) ?_
              exact ih_15 (x1_15 + (1 : Int32)) (x2_15 + (1 : Int32)) (x4_15 + (1 : Int32)) (wa σ_15 r_31 x2_15 ((pA σ_15 r_31 x2_15.toNatClampNeg) + (32 : Int32))) _ _ _ hF hP hD hS (lv_sub hl [3, 2, 1, 4, 0] rfl)
  have b_90 : ∀ (x0_90 : Nat) (x1_90 : Int32) (x2_90 : Int32) (x3_90 : Int32) (K_6 : Int32 → Int32 → Int32 → RS → Option (Int32 × RS)) (k_6 : ∀ (x1_6 : Int32) (x2_6 : Int32) (x3_6 : Int32) (σ_6 : RS) (H : Heap) (locs : List Loc) (ls : Array Slot), K_6 x1_6 x2_6 x3_6 σ_6 = some q → va_P D vwCl (wR cs ad σ_6) H → va_D A (wR cs ad σ_6) → va_S A s.heap H locs → lv_has ls 5 [(0, .ref x0_90), (1, .int x1_6), (2, .int x2_6), (3, .int x3_6)] → W p l e (headSpec wsR_X4_wearOnce { frames := 1, cells := 0, slots := 0, locals := 22 }).room s m ([.ref a0] : List Value).toArray below meth c H locs 0 0 (MQ below (va_Qi (fun x u => x = q.1 ∧ u = q.2) (posQ D cs ad A) A) ([.ref a0] : List Value).toArray s 0 0 A) (F0 m 6 ls [])) (σ_90 : RS) (H : Heap) (locs : List Loc) (ls : Array Slot), FR_X4_wearOnce_90 K_6 x0_90 x1_90 x2_90 x3_90 σ_90 = some q → va_P D vwCl (wR cs ad σ_90) H → va_D A (wR cs ad σ_90) → va_S A s.heap H locs → lv_has ls 5 [(0, .ref x0_90), (1, .int x1_90), (2, .int x2_90), (3, .int x3_90)] → W p l e (headSpec wsR_X4_wearOnce { frames := 1, cells := 0, slots := 0, locals := 22 }).room s m ([.ref a0] : List Value).toArray below meth c H locs 0 0 (MQ below (va_Qi (fun x u => x = q.1 ∧ u = q.2) (posQ D cs ad A) A) ([.ref a0] : List Value).toArray s 0 0 A) (F0 m 90 ls []) := by
    intro x0_90 x1_90 x2_90 x3_90 K_6 k_6 σ_90 H locs ls hF hP hD hS hl
    unfold FR_X4_wearOnce_90 at hF
    refine lv_iinc (v := x3_90 + (1 : Int32)) (lv' := [(3, .int (x3_90 + (1 : Int32))), (0, .ref x0_90), (1, .int x1_90), (2, .int x2_90)]) hx hb dX4_wearOnce_90 hl (k := 3) rfl rfl (by decide) rfl (fun ls hl => ?_)
    refine lv_goto (tgt := 6) hx hb dX4_wearOnce_93 (by decide) ?_
    exact k_6 x1_90 x2_90 (x3_90 + (1 : Int32)) σ_90 _ _ _ hF hP hD hS (lv_sub hl [1, 2, 3, 0] rfl)
  have b_6 : ∀ (x0_6 : Nat) (n_6 : Nat) (x1_6 : Int32) (x2_6 : Int32) (x3_6 : Int32) (σ_6 : RS) (H : Heap) (locs : List Loc) (ls : Array Slot), FR_X4_wearOnce_6 x0_6 n_6 x1_6 x2_6 x3_6 σ_6 = some q → va_P D vwCl (wR cs ad σ_6) H → va_D A (wR cs ad σ_6) → va_S A s.heap H locs → lv_has ls 5 [(0, .ref x0_6), (1, .int x1_6), (2, .int x2_6), (3, .int x3_6)] → W p l e (headSpec wsR_X4_wearOnce { frames := 1, cells := 0, slots := 0, locals := 22 }).room s m ([.ref a0] : List Value).toArray below meth c H locs 0 0 (MQ below (va_Qi (fun x u => x = q.1 ∧ u = q.2) (posQ D cs ad A) A) ([.ref a0] : List Value).toArray s 0 0 A) (F0 m 6 ls []) := by
    intro x0_6
    intro n_6
    induction n_6 with
    | zero =>
      intro x1_6 x2_6 x3_6 σ_6 H locs ls hF hP hD hS hl
      exact absurd hF (by simp [FR_X4_wearOnce_6])
    | succ n_6 ih_6 =>
      intro x1_6 x2_6 x3_6 σ_6 H locs ls hF hP hD hS hl
      rw [FR_X4_wearOnce_6] at hF
      refine lv_iload_n hx hb dX4_wearOnce_6 rfl (lv_at hl 3 rfl) ?_
      refine lv_bipush (v := (6 : Int32)) hx hb dX4_wearOnce_7 (by decide) ?_
      refine lv_icmp_ge (tgt := 96) hx hb dX4_wearOnce_9 (by decide) (fun c_9 => ?_) (fun c_9 => ?_)
      · have hF := ob_t c_9 hF
        refine lv_iload_n hx hb dX4_wearOnce_96 rfl (lv_at hl 1 rfl) ?_
        exact rwR hx hb hr hlocks hF hK hP hD hS dX4_wearOnce_97
      · have hF := ob_f c_9 hF
        refine lv_iconst (v := (0 : Int32)) hx hb dX4_wearOnce_12 (by decide) ?_
        refine lv_istore (i := 4) (lv' := [(4, .int (0 : Int32)), (0, .ref x0_6), (1, .int x1_6), (2, .int x2_6), (3, .int x3_6)]) hx hb dX4_wearOnce_13 hl (by decide) rfl (fun ls hl => ?_)
        exact b_15 x0_6 x3_6 (fun x1_90 x2_90 σ_90 => FR_X4_wearOnce_90 (fun x1_6 x2_6 x3_6 σ_6 => FR_X4_wearOnce_6  x0_6 n_6 x1_6 x2_6 x3_6 σ_6) x0_6 x1_90 x2_90 x3_6 σ_90) (fun x1_90 x2_90 σ_90 => b_90 x0_6 x1_90 x2_90 x3_6 (fun x1_6 x2_6 x3_6 σ_6 => FR_X4_wearOnce_6  x0_6 n_6 x1_6 x2_6 x3_6 σ_6) ih_6 σ_90) fu x1_6 x2_6 (0 : Int32) σ_6 _ _ _ hF hP hD hS (lv_sub hl [1, 2, 3, 4, 0] rfl)
  have hl := lv_entry ([.ref a0]) (n := 5) (Nat.le_of_ble_eq_true rfl)
  rw [lg_entry_eq]
  generalize (lg_sl ([.ref a0]) ++ List.replicate (5 - (lg_sl ([.ref a0])).length) Slot.unset).toArray = ls at hl ⊢
  have hl : lv_has ls 5 [(0, .ref a0)] := hl
  unfold FR_X4_wearOnce at hF
  refine lv_iconst (v := (0 : Int32)) hx hb dX4_wearOnce_0 (by decide) ?_
  refine lv_istore_n (i := 1) (lv' := [(1, .int (0 : Int32)), (0, .ref a0)]) hx hb dX4_wearOnce_1 rfl hl (by decide) rfl (fun ls hl => ?_)
  refine lv_iconst (v := (0 : Int32)) hx hb dX4_wearOnce_2 (by decide) ?_
  refine lv_istore_n (i := 2) (lv' := [(2, .int (0 : Int32)), (1, .int (0 : Int32)), (0, .ref a0)]) hx hb dX4_wearOnce_3 rfl hl (by decide) rfl (fun ls hl => ?_)
  refine lv_iconst (v := (0 : Int32)) hx hb dX4_wearOnce_4 (by decide) ?_
  refine lv_istore_n (i := 3) (lv' := [(3, .int (0 : Int32)), (2, .int (0 : Int32)), (1, .int (0 : Int32)), (0, .ref a0)]) hx hb dX4_wearOnce_5 rfl hl (by decide) rfl (fun ls hl => ?_)
  exact b_6 a0 fu (0 : Int32) (0 : Int32) (0 : Int32) σ _ _ _ hF hP hD hS (lv_sub hl [3, 2, 1, 0] rfl)
def wsR_X5_holds : List Cond := Cond.code yX5_holds cX5_holds 4 (some .boolean) :: wRa
def FR_X5_holds (σ : RS) (p0 : Int32) : Option Int32 := (if (p0 / (300 : Int32)) < 0 then (some (0 : Int32)) else (if (p0 / (300 : Int32)) < (6 : Int32) then (if ((p0 / (100 : Int32)) - (p0 / (100 : Int32)) / (3 : Int32) * (3 : Int32)) = (0 : Int32) then (gd (inb (p0 / (300 : Int32)) 6) (if (p0 - p0 / (100 : Int32) * (100 : Int32)) ≤ (rA σ 916 (p0 / (300 : Int32)).toNatClampNeg) then (some (0 : Int32)) else (some (1 : Int32)))) else (if ((p0 / (100 : Int32)) - (p0 / (100 : Int32)) / (3 : Int32) * (3 : Int32)) = (1 : Int32) then (gd (inb (p0 / (300 : Int32)) 6) (if (rA σ 916 (p0 / (300 : Int32)).toNatClampNeg) = (p0 - p0 / (100 : Int32) * (100 : Int32)) then (some (1 : Int32)) else (some (0 : Int32)))) else (gd (inb (p0 / (300 : Int32)) 6) (if (rA σ 916 (p0 / (300 : Int32)).toNatClampNeg) ≤ (p0 - p0 / (100 : Int32) * (100 : Int32)) then (some (0 : Int32)) else (some (1 : Int32)))))) else (some (0 : Int32))))
set_option maxHeartbeats 4000000 in
set_option maxRecDepth 100000 in
theorem cR_X5_holds (l : Launch) (D : va_G) (cs : Nat → ClassId) (ad tb : Nat → Nat) (A : Nat → Prop) (σ : RS) (p0 : Int32) (q : Int32) (hF : FR_X5_holds σ p0 = some q) : Met l yX5_holds wsR_X5_holds { frames := 0, cells := 0, slots := 0, locals := 0 } (va_Pc [.int p0, .ref (ad 916)] (preQ D cs ad tb A σ)) (vp_Si (fun x => x = q)) 0 0 (fun _ => False) := by
  refine Met.ofW (cc := cX5_holds) (maxL := 4) (ret := (some .boolean)) (by decide) rfl ?_
  intro p e s m args below meth c s₁ B hml hv
  obtain ⟨rfl, hP, hK, hD, hZ⟩ := hv
  have hx := B.exec
  have hb := B.bytes
  have hr := B.returns
  have hts : ∀ w ∈ (Cond.code yX5_holds cX5_holds 4 (some .boolean) :: wRa), w.before ([.int p0, .ref (ad 916)] : List Value).toArray s = true := atoms_spec (ws := wsR_X5_holds) B.pre
  have hin : ∀ w ∈ wRa, w ∈ (Cond.code yX5_holds cX5_holds 4 (some .boolean) :: wRa) := fun w hw => List.mem_cons_of_mem _ hw
  have hown : s.vm.findClass RX5 = some m.cls := findClass_of_methodNamed B.named
  have hlocks := B.notSynchronized
  have hS : va_S A s.heap s.heap [] := va_S.rf
  have hl := lv_entry ([.int p0, .ref (ad 916)]) (n := 4) (Nat.le_of_ble_eq_true rfl)
  rw [lg_entry_eq]
  generalize (lg_sl ([.int p0, .ref (ad 916)]) ++ List.replicate (4 - (lg_sl ([.int p0, .ref (ad 916)])).length) Slot.unset).toArray = ls at hl ⊢
  have hl : lv_has ls 4 [(0, .int p0), (1, .ref (ad 916))] := hl
  unfold FR_X5_holds at hF
  refine lv_iload_n hx hb dX5_holds_0 rfl (lv_at hl 0 rfl) ?_
  refine lv_sipush (v := (300 : Int32)) hx hb dX5_holds_1 (by decide) ?_
  refine lv_idiv hx hb dX5_holds_4 (by decide) ?_
  refine lv_istore_n (i := 2) (lv' := [(2, .int (p0 / (300 : Int32))), (0, .int p0), (1, .ref (ad 916))]) hx hb dX5_holds_5 rfl hl (by decide) rfl (fun ls hl => ?_)
  refine lv_iload_n hx hb dX5_holds_6 rfl (lv_at hl 0 rfl) ?_
  refine lv_if_lt (tgt := 16) hx hb dX5_holds_7 (by decide) (fun c_7 => ?_) (fun c_7 => ?_)
  · have hF := ob_t c_7 hF
    refine lv_iconst (v := (0 : Int32)) hx hb dX5_holds_16 (by decide) ?_
    exact rzM hx hb hr hlocks rfl hF dX5_holds_17
  · have hF := ob_f c_7 hF
    refine lv_iload_n hx hb dX5_holds_10 rfl (lv_at hl 0 rfl) ?_
    refine lv_aload_n hx hb dX5_holds_11 rfl (lv_at hl 2 rfl) ?_
    refine lnF (v := (6 : Int32)) hx hb hK hP (ra_916 _ _ _) rfl dX5_holds_12 ?_
    refine lv_icmp_lt (tgt := 18) hx hb dX5_holds_13 (by decide) (fun c_13 => ?_) (fun c_13 => ?_)
    · have hF := ob_t c_13 hF
      refine lv_iload_n hx hb dX5_holds_18 rfl (lv_at hl 1 rfl) ?_
      refine lv_bipush (v := (100 : Int32)) hx hb dX5_holds_19 (by decide) ?_
      refine lv_irem hx hb dX5_holds_21 (by decide) ?_
      refine lv_istore_n (i := 3) (lv' := [(3, .int (p0 - p0 / (100 : Int32) * (100 : Int32))), (2, .int (p0 / (300 : Int32))), (0, .int p0), (1, .ref (ad 916))]) hx hb dX5_holds_22 rfl hl (by decide) rfl (fun ls hl => ?_)
      refine lv_iload_n hx hb dX5_holds_23 rfl (lv_at hl 2 rfl) ?_
      refine lv_bipush (v := (100 : Int32)) hx hb dX5_holds_24 (by decide) ?_
      refine lv_idiv hx hb dX5_holds_26 (by decide) ?_
      refine lv_iconst (v := (3 : Int32)) hx hb dX5_holds_27 (by decide) ?_
      refine lv_irem hx hb dX5_holds_28 (by decide) ?_
      by_cases c_29_0 : ((p0 / (100 : Int32)) - (p0 / (100 : Int32)) / (3 : Int32) * (3 : Int32)) = (0 : Int32)
      · have hF := ob_t c_29_0 hF
        refine lv_lookup (off := 27) (tgt := 56) hx hb dX5_holds_29 (by decide) (by rw [c_29_0]; decide) (by decide) ?_
        refine lv_aload_n hx hb dX5_holds_56 rfl (lv_at hl 3 rfl) ?_
        refine lv_iload_n hx hb dX5_holds_57 rfl (lv_at hl 1 rfl) ?_
        obtain ⟨g_58, hF⟩ := ob_gd hF
        refine ldF hx hb hK hP (ra_916 _ _ _) (rA σ 916 (p0 / (300 : Int32)).toNatClampNeg) g_58 rfl dX5_holds_58 ?_
        refine lv_iload_n hx hb dX5_holds_59 rfl (lv_at hl 0 rfl) ?_
        refine lv_icmp_ge (tgt := 67) hx hb dX5_holds_60 (by decide) (fun c_60 => ?_) (fun c_60 => ?_)
        · have hF := ob_t c_60 hF
          refine lv_iconst (v := (0 : Int32)) hx hb dX5_holds_67 (by decide) ?_
          exact rzM hx hb hr hlocks rfl hF dX5_holds_68
        · have hF := ob_f c_60 hF
          refine lv_iconst (v := (1 : Int32)) hx hb dX5_holds_63 (by decide) ?_
          refine lv_goto (tgt := 68) hx hb dX5_holds_64 (by decide) ?_
          exact rzM hx hb hr hlocks rfl hF dX5_holds_68
      · have hF := ob_f c_29_0 hF
        by_cases c_29_1 : ((p0 / (100 : Int32)) - (p0 / (100 : Int32)) / (3 : Int32) * (3 : Int32)) = (1 : Int32)
        · have hF := ob_t c_29_1 hF
          refine lv_lookup (off := 40) (tgt := 69) hx hb dX5_holds_29 (by decide) (by rw [c_29_1]; decide) (by decide) ?_
          refine lv_aload_n hx hb dX5_holds_69 rfl (lv_at hl 3 rfl) ?_
          refine lv_iload_n hx hb dX5_holds_70 rfl (lv_at hl 1 rfl) ?_
          obtain ⟨g_71, hF⟩ := ob_gd hF
          refine ldF hx hb hK hP (ra_916 _ _ _) (rA σ 916 (p0 / (300 : Int32)).toNatClampNeg) g_71 rfl dX5_holds_71 ?_
          refine lv_iload_n hx hb dX5_holds_72 rfl (lv_at hl 0 rfl) ?_
          refine lv_icmp_ne (tgt := 80) hx hb dX5_holds_73 (by decide) (fun c_73 => ?_) (fun c_73 => ?_)
          · have hF := ob_f c_73 hF
            refine lv_iconst (v := (0 : Int32)) hx hb dX5_holds_80 (by decide) ?_
            exact rzM hx hb hr hlocks rfl hF dX5_holds_81
          · have hF := ob_t c_73 hF
            refine lv_iconst (v := (1 : Int32)) hx hb dX5_holds_76 (by decide) ?_
            refine lv_goto (tgt := 81) hx hb dX5_holds_77 (by decide) ?_
            exact rzM hx hb hr hlocks rfl hF dX5_holds_81
        · have hF := ob_f c_29_1 hF
          refine lv_lookup (off := 53) (tgt := 82) hx hb dX5_holds_29 (by decide) (by have a0 : ¬ ((p0 / (100 : Int32)) - (p0 / (100 : Int32)) / (3 : Int32) * (3 : Int32)).toInt = 0 := ob_ti c_29_0; have a1 : ¬ ((p0 / (100 : Int32)) - (p0 / (100 : Int32)) / (3 : Int32) * (3 : Int32)).toInt = 1 := ob_ti c_29_1; have b0 : ¬ (0 : Int) = ((p0 / (100 : Int32)) - (p0 / (100 : Int32)) / (3 : Int32) * (3 : Int32)).toInt := fun e => a0 e.symm; have b1 : ¬ (1 : Int) = ((p0 / (100 : Int32)) - (p0 / (100 : Int32)) / (3 : Int32) * (3 : Int32)).toInt := fun e => a1 e.symm; generalize ((p0 / (100 : Int32)) - (p0 / (100 : Int32)) / (3 : Int32) * (3 : Int32)).toInt = zz at b0 b1 ⊢; simp [Op.lookupswitch.offset, b0, b1]) (by decide) ?_
          refine lv_aload_n hx hb dX5_holds_82 rfl (lv_at hl 3 rfl) ?_
          refine lv_iload_n hx hb dX5_holds_83 rfl (lv_at hl 1 rfl) ?_
          obtain ⟨g_84, hF⟩ := ob_gd hF
          refine ldF hx hb hK hP (ra_916 _ _ _) (rA σ 916 (p0 / (300 : Int32)).toNatClampNeg) g_84 rfl dX5_holds_84 ?_
          refine lv_iload_n hx hb dX5_holds_85 rfl (lv_at hl 0 rfl) ?_
          refine lv_icmp_le (tgt := 93) hx hb dX5_holds_86 (by decide) (fun c_86 => ?_) (fun c_86 => ?_)
          · have hF := ob_t c_86 hF
            refine lv_iconst (v := (0 : Int32)) hx hb dX5_holds_93 (by decide) ?_
            exact rzM hx hb hr hlocks rfl hF dX5_holds_94
          · have hF := ob_f c_86 hF
            refine lv_iconst (v := (1 : Int32)) hx hb dX5_holds_89 (by decide) ?_
            refine lv_goto (tgt := 94) hx hb dX5_holds_90 (by decide) ?_
            exact rzM hx hb hr hlocks rfl hF dX5_holds_94
    · have hF := ob_f c_13 hF
      refine lv_iconst (v := (0 : Int32)) hx hb dX5_holds_16 (by decide) ?_
      exact rzM hx hb hr hlocks rfl hF dX5_holds_17
def wsR_X8_byteAt : List Cond := Cond.code yX8_byteAt cX8_byteAt 2 (some .int) :: wRa
def FR_X8_byteAt (σ : RS) (p1 : Int32) : Option Int32 := (if p1 < 0 then (some (-1 : Int32)) else (if (rI σ 801) ≤ p1 then (some (-1 : Int32)) else (gd (inb p1 130) (some (rA σ 800 p1.toNatClampNeg)))))
set_option maxHeartbeats 4000000 in
set_option maxRecDepth 100000 in
theorem cR_X8_byteAt (l : Launch) (D : va_G) (cs : Nat → ClassId) (ad tb : Nat → Nat) (A : Nat → Prop) (σ : RS) (p1 : Int32) (q : Int32) (hF : FR_X8_byteAt σ p1 = some q) : Met l yX8_byteAt wsR_X8_byteAt { frames := 0, cells := 0, slots := 0, locals := 0 } (va_Pc [.ref (ad 1008), .int p1] (preQ D cs ad tb A σ)) (vp_Si (fun x => x = q)) 0 0 (fun _ => False) := by
  refine Met.ofW (cc := cX8_byteAt) (maxL := 2) (ret := (some .int)) (by decide) rfl ?_
  intro p e s m args below meth c s₁ B hml hv
  obtain ⟨rfl, hP, hK, hD, hZ⟩ := hv
  have hx := B.exec
  have hb := B.bytes
  have hr := B.returns
  have hts : ∀ w ∈ (Cond.code yX8_byteAt cX8_byteAt 2 (some .int) :: wRa), w.before ([.ref (ad 1008), .int p1] : List Value).toArray s = true := atoms_spec (ws := wsR_X8_byteAt) B.pre
  have hin : ∀ w ∈ wRa, w ∈ (Cond.code yX8_byteAt cX8_byteAt 2 (some .int) :: wRa) := fun w hw => List.mem_cons_of_mem _ hw
  have hown : s.vm.findClass RX8 = some m.cls := findClass_of_methodNamed B.named
  have hlocks := B.notSynchronized
  have hS : va_S A s.heap s.heap [] := va_S.rf
  have hl := lv_entry ([.ref (ad 1008), .int p1]) (n := 2) (Nat.le_of_ble_eq_true rfl)
  rw [lg_entry_eq]
  generalize (lg_sl ([.ref (ad 1008), .int p1]) ++ List.replicate (2 - (lg_sl ([.ref (ad 1008), .int p1])).length) Slot.unset).toArray = ls at hl ⊢
  have hl : lv_has ls 2 [(0, .ref (ad 1008)), (1, .int p1)] := hl
  unfold FR_X8_byteAt at hF
  refine lv_iload_n hx hb dX8_byteAt_0 rfl (lv_at hl 1 rfl) ?_
  refine lv_if_lt (tgt := 21) hx hb dX8_byteAt_1 (by decide) (fun c_1 => ?_) (fun c_1 => ?_)
  · have hF := ob_t c_1 hF
    refine lv_iconst (v := (-1 : Int32)) hx hb dX8_byteAt_21 (by decide) ?_
    exact rrM hx hb hr hlocks hF dX8_byteAt_22
  · have hF := ob_f c_1 hF
    refine lv_iload_n hx hb dX8_byteAt_4 rfl (lv_at hl 1 rfl) ?_
    refine lv_aload_n hx hb dX8_byteAt_5 rfl (lv_at hl 0 rfl) ?_
    refine gF hx hb hts hin wo_8 rfl hown hK hP (ob_8 _ _ _) 1 (.int (rI σ 801)) (by decide) rf_X8_18 rfl dX8_byteAt_6 ?_
    refine lv_icmp_ge (tgt := 21) hx hb dX8_byteAt_9 (by decide) (fun c_9 => ?_) (fun c_9 => ?_)
    · have hF := ob_t c_9 hF
      refine lv_iconst (v := (-1 : Int32)) hx hb dX8_byteAt_21 (by decide) ?_
      exact rrM hx hb hr hlocks hF dX8_byteAt_22
    · have hF := ob_f c_9 hF
      refine lv_aload_n hx hb dX8_byteAt_12 rfl (lv_at hl 0 rfl) ?_
      refine gF hx hb hts hin wo_8 rfl hown hK hP (ob_8 _ _ _) 0 (.ref (ad 800)) (by decide) rf_X8_9 rfl dX8_byteAt_13 ?_
      refine lv_iload_n hx hb dX8_byteAt_16 rfl (lv_at hl 1 rfl) ?_
      obtain ⟨g_17, hF⟩ := ob_gd hF
      refine ldF hx hb hK hP (ra_800 _ _ _) (rA σ 800 p1.toNatClampNeg) g_17 rfl dX8_byteAt_17 ?_
      refine lv_goto (tgt := 22) hx hb dX8_byteAt_18 (by decide) ?_
      exact rrM hx hb hr hlocks hF dX8_byteAt_22
def wsR_X5_readSign : List Cond := Cond.code yX5_readSign cX5_readSign 3 (some .int) :: wRa
theorem cw_X5_X8_byteAt_40 {R : Room} {s : State} {args : Array Value} {y : MethodName} {c : ByteArray} {n : Nat} {r : Option FieldType} (hts : ∀ w ∈ (Cond.code y c n r :: wRa), w.before args s = true) (hR : 0 + 1 ≤ R.frames ∧ 8 + (2 + 11) + 0 ≤ R.locals) : CallW R s args RX5 RX8 40 yX8_byteAt cX8_byteAt 2 (some .int) wsR_X8_byteAt { frames := 0, cells := 0, slots := 0, locals := 0 } 0 0 1 := cwV 1 hts (goodV wRa_good rm_X5_40 ri_X8_byteAt rs_X8_byteAt rn_X8 rc_X8_byteAt) rfl rfl rfl (by decide +kernel) hR
def FR_X5_readSign (σ : RS) : Option (Int32 × RS) := ((FR_X8_byteAt σ (rI σ 501)).bind fun q_5 => (if q_5 < (60 : Int32) then (some ((-1 : Int32), σ)) else (if q_5 ≤ (62 : Int32) then (some ((q_5 - (60 : Int32)), (ri σ 501 ((rI σ 501) + (1 : Int32))))) else (some ((-1 : Int32), σ)))))
set_option maxHeartbeats 4000000 in
set_option maxRecDepth 100000 in
theorem cR_X5_readSign (l : Launch) (D : va_G) (cs : Nat → ClassId) (ad tb : Nat → Nat) (A : Nat → Prop) (σ : RS) (q : (Int32 × RS)) (hF : FR_X5_readSign σ = some q) : Met l yX5_readSign wsR_X5_readSign { frames := 1, cells := 0, slots := 0, locals := 21 } (va_Pc [.ref (ad 1005), .ref (ad 1008)] (preQ D cs ad tb A σ)) (va_Qi (fun x u => x = q.1 ∧ u = q.2) (posQ D cs ad A) A) 0 0 A := by
  refine Met.ofW (cc := cX5_readSign) (maxL := 3) (ret := (some .int)) (by decide) rfl ?_
  intro p e s m args below meth c s₁ B hml hv
  obtain ⟨rfl, hP, hK, hD, hZ⟩ := hv
  have hx := B.exec
  have hb := B.bytes
  have hr := B.returns
  have hts : ∀ w ∈ (Cond.code yX5_readSign cX5_readSign 3 (some .int) :: wRa), w.before ([.ref (ad 1005), .ref (ad 1008)] : List Value).toArray s = true := atoms_spec (ws := wsR_X5_readSign) B.pre
  have hin : ∀ w ∈ wRa, w ∈ (Cond.code yX5_readSign cX5_readSign 3 (some .int) :: wRa) := fun w hw => List.mem_cons_of_mem _ hw
  have hown : s.vm.findClass RX5 = some m.cls := findClass_of_methodNamed B.named
  have hlocks := B.notSynchronized
  have hS : va_S A s.heap s.heap [] := va_S.rf
  have hl := lv_entry ([.ref (ad 1005), .ref (ad 1008)]) (n := 3) (Nat.le_of_ble_eq_true rfl)
  rw [lg_entry_eq]
  generalize (lg_sl ([.ref (ad 1005), .ref (ad 1008)]) ++ List.replicate (3 - (lg_sl ([.ref (ad 1005), .ref (ad 1008)])).length) Slot.unset).toArray = ls at hl ⊢
  have hl : lv_has ls 3 [(0, .ref (ad 1005)), (1, .ref (ad 1008))] := hl
  unfold FR_X5_readSign at hF
  refine lv_aload_n hx hb dX5_readSign_0 rfl (lv_at hl 1 rfl) ?_
  refine lv_aload_n hx hb dX5_readSign_1 rfl (lv_at hl 0 rfl) ?_
  refine gF hx hb hts hin wo_5 rfl hown hK hP (ob_5 _ _ _) 1 (.int (rI σ 501)) (by decide) rf_X5_27 rfl dX5_readSign_2 ?_
  obtain ⟨q_5, e_5, hF⟩ := ob_bd hF
  refine crR (As := [.int (rI σ 501)]) (rest := []) ⟨hx, hb, hml, hown, hts⟩ (cR_X8_byteAt l D cs ad tb A σ (rI σ 501) _ e_5) (cw_X5_X8_byteAt_40 hts ⟨Nat.le_of_ble_eq_true rfl, Nat.le_of_ble_eq_true rfl⟩) ⟨Nat.zero_le _, Nat.zero_le _⟩ (rcF hK hP (ci := 8) rfl (ob_8 _ _ _)) hK hP hD hS hZ rfl hl.1 rfl (lv_room (Nat.le_of_ble_eq_true rfl)) dX5_readSign_5 ?_
  refine lv_istore_n (i := 2) (lv' := [(2, .int q_5), (0, .ref (ad 1005)), (1, .ref (ad 1008))]) hx hb dX5_readSign_8 rfl hl (by decide) rfl (fun ls hl => ?_)
  refine lv_iload_n hx hb dX5_readSign_9 rfl (lv_at hl 0 rfl) ?_
  refine lv_bipush (v := (60 : Int32)) hx hb dX5_readSign_10 (by decide) ?_
  refine lv_icmp_lt (tgt := 21) hx hb dX5_readSign_12 (by decide) (fun c_12 => ?_) (fun c_12 => ?_)
  · have hF := ob_t c_12 hF
    refine lv_iconst (v := (-1 : Int32)) hx hb dX5_readSign_21 (by decide) ?_
    exact rwR hx hb hr hlocks hF hK hP hD hS dX5_readSign_22
  · have hF := ob_f c_12 hF
    refine lv_iload_n hx hb dX5_readSign_15 rfl (lv_at hl 0 rfl) ?_
    refine lv_bipush (v := (62 : Int32)) hx hb dX5_readSign_16 (by decide) ?_
    refine lv_icmp_le (tgt := 23) hx hb dX5_readSign_18 (by decide) (fun c_18 => ?_) (fun c_18 => ?_)
    · have hF := ob_t c_18 hF
      refine lv_aload_n hx hb dX5_readSign_23 rfl (lv_at hl 1 rfl) ?_
      refine lv_dup hx hb dX5_readSign_24 rfl ?_
      refine gF hx hb hts hin wo_5 rfl hown hK hP (ob_5 _ _ _) 1 (.int (rI σ 501)) (by decide) rf_X5_27 rfl dX5_readSign_25 ?_
      refine lv_iconst (v := (1 : Int32)) hx hb dX5_readSign_28 (by decide) ?_
      refine lv_iadd hx hb dX5_readSign_29 ?_
      refine pF (ty := .int) hx hb hts hin wo_5 rfl tyX5 tyX5_ok nmX5 hown hK hP hD hS (ob_5 _ _ _) 1 (by decide) rf_X5_27 rfl (by decide +kernel) rfl rfl (Nat.le_of_ble_eq_true rfl) (rp_501 _ _ _ _) dX5_readSign_30 (fun H locs hP hD hS => ?_)
      refine lv_iload_n hx hb dX5_readSign_33 rfl (lv_at hl 0 rfl) ?_
      refine lv_bipush (v := (60 : Int32)) hx hb dX5_readSign_34 (by decide) ?_
      refine lv_isub hx hb dX5_readSign_36 ?_
      exact rwR hx hb hr hlocks hF hK hP hD hS dX5_readSign_37
    · have hF := ob_f c_18 hF
      refine lv_iconst (v := (-1 : Int32)) hx hb dX5_readSign_21 (by decide) ?_
      exact rwR hx hb hr hlocks hF hK hP hD hS dX5_readSign_22
def wsR_X8_isDigitAt : List Cond := Cond.code yX8_isDigitAt cX8_isDigitAt 3 (some .boolean) :: wRa
theorem cw_X8_X8_byteAt_24 {R : Room} {s : State} {args : Array Value} {y : MethodName} {c : ByteArray} {n : Nat} {r : Option FieldType} (hts : ∀ w ∈ (Cond.code y c n r :: wRa), w.before args s = true) (hR : 0 + 1 ≤ R.frames ∧ 8 + (2 + 11) + 0 ≤ R.locals) : CallW R s args RX8 RX8 24 yX8_byteAt cX8_byteAt 2 (some .int) wsR_X8_byteAt { frames := 0, cells := 0, slots := 0, locals := 0 } 0 0 1 := cwV 1 hts (goodV wRa_good rm_X8_24 ri_X8_byteAt rs_X8_byteAt rn_X8 rc_X8_byteAt) rfl rfl rfl (by decide +kernel) hR
def FR_X8_isDigitAt (σ : RS) (p1 : Int32) : Option Int32 := ((FR_X8_byteAt σ p1).bind fun q_2 => (if q_2 < (48 : Int32) then (some (0 : Int32)) else (if (57 : Int32) < q_2 then (some (0 : Int32)) else (some (1 : Int32)))))
set_option maxHeartbeats 4000000 in
set_option maxRecDepth 100000 in
theorem cR_X8_isDigitAt (l : Launch) (D : va_G) (cs : Nat → ClassId) (ad tb : Nat → Nat) (A : Nat → Prop) (σ : RS) (p1 : Int32) (q : Int32) (hF : FR_X8_isDigitAt σ p1 = some q) : Met l yX8_isDigitAt wsR_X8_isDigitAt { frames := 1, cells := 0, slots := 0, locals := 21 } (va_Pc [.ref (ad 1008), .int p1] (preQ D cs ad tb A σ)) (vp_Si (fun x => x = q)) 0 0 (fun _ => False) := by
  refine Met.ofW (cc := cX8_isDigitAt) (maxL := 3) (ret := (some .boolean)) (by decide) rfl ?_
  intro p e s m args below meth c s₁ B hml hv
  obtain ⟨rfl, hP, hK, hD, hZ⟩ := hv
  have hx := B.exec
  have hb := B.bytes
  have hr := B.returns
  have hts : ∀ w ∈ (Cond.code yX8_isDigitAt cX8_isDigitAt 3 (some .boolean) :: wRa), w.before ([.ref (ad 1008), .int p1] : List Value).toArray s = true := atoms_spec (ws := wsR_X8_isDigitAt) B.pre
  have hin : ∀ w ∈ wRa, w ∈ (Cond.code yX8_isDigitAt cX8_isDigitAt 3 (some .boolean) :: wRa) := fun w hw => List.mem_cons_of_mem _ hw
  have hown : s.vm.findClass RX8 = some m.cls := findClass_of_methodNamed B.named
  have hlocks := B.notSynchronized
  have hS : va_S A s.heap s.heap [] := va_S.rf
  have hl := lv_entry ([.ref (ad 1008), .int p1]) (n := 3) (Nat.le_of_ble_eq_true rfl)
  rw [lg_entry_eq]
  generalize (lg_sl ([.ref (ad 1008), .int p1]) ++ List.replicate (3 - (lg_sl ([.ref (ad 1008), .int p1])).length) Slot.unset).toArray = ls at hl ⊢
  have hl : lv_has ls 3 [(0, .ref (ad 1008)), (1, .int p1)] := hl
  unfold FR_X8_isDigitAt at hF
  refine lv_aload_n hx hb dX8_isDigitAt_0 rfl (lv_at hl 0 rfl) ?_
  refine lv_iload_n hx hb dX8_isDigitAt_1 rfl (lv_at hl 1 rfl) ?_
  obtain ⟨q_2, e_2, hF⟩ := ob_bd hF
  refine crR (As := [.int p1]) (rest := []) ⟨hx, hb, hml, hown, hts⟩ (cR_X8_byteAt l D cs ad tb A σ p1 _ e_2) (cw_X8_X8_byteAt_24 hts ⟨Nat.le_of_ble_eq_true rfl, Nat.le_of_ble_eq_true rfl⟩) ⟨Nat.zero_le _, Nat.zero_le _⟩ (rcF hK hP (ci := 8) rfl (ob_8 _ _ _)) hK hP hD hS hZ rfl hl.1 rfl (lv_room (Nat.le_of_ble_eq_true rfl)) dX8_isDigitAt_2 ?_
  refine lv_istore_n (i := 2) (lv' := [(2, .int q_2), (0, .ref (ad 1008)), (1, .int p1)]) hx hb dX8_isDigitAt_5 rfl hl (by decide) rfl (fun ls hl => ?_)
  refine lv_iload_n hx hb dX8_isDigitAt_6 rfl (lv_at hl 0 rfl) ?_
  refine lv_bipush (v := (48 : Int32)) hx hb dX8_isDigitAt_7 (by decide) ?_
  refine lv_icmp_lt (tgt := 22) hx hb dX8_isDigitAt_9 (by decide) (fun c_9 => ?_) (fun c_9 => ?_)
  · have hF := ob_t c_9 hF
    refine lv_iconst (v := (0 : Int32)) hx hb dX8_isDigitAt_22 (by decide) ?_
    exact rzM hx hb hr hlocks rfl hF dX8_isDigitAt_23
  · have hF := ob_f c_9 hF
    refine lv_iload_n hx hb dX8_isDigitAt_12 rfl (lv_at hl 0 rfl) ?_
    refine lv_bipush (v := (57 : Int32)) hx hb dX8_isDigitAt_13 (by decide) ?_
    refine lv_icmp_gt (tgt := 22) hx hb dX8_isDigitAt_15 (by decide) (fun c_15 => ?_) (fun c_15 => ?_)
    · have hF := ob_t c_15 hF
      refine lv_iconst (v := (0 : Int32)) hx hb dX8_isDigitAt_22 (by decide) ?_
      exact rzM hx hb hr hlocks rfl hF dX8_isDigitAt_23
    · have hF := ob_f c_15 hF
      refine lv_iconst (v := (1 : Int32)) hx hb dX8_isDigitAt_18 (by decide) ?_
      refine lv_goto (tgt := 23) hx hb dX8_isDigitAt_19 (by decide) ?_
      exact rzM hx hb hr hlocks rfl hF dX8_isDigitAt_23
def wsR_X5_readNumber : List Cond := Cond.code yX5_readNumber cX5_readNumber 3 (some .int) :: wRa
theorem cw_X5_X8_isDigitAt_77 {R : Room} {s : State} {args : Array Value} {y : MethodName} {c : ByteArray} {n : Nat} {r : Option FieldType} (hts : ∀ w ∈ (Cond.code y c n r :: wRa), w.before args s = true) (hR : 1 + 1 ≤ R.frames ∧ 8 + (3 + 11) + 21 ≤ R.locals) : CallW R s args RX5 RX8 77 yX8_isDigitAt cX8_isDigitAt 3 (some .boolean) wsR_X8_isDigitAt { frames := 1, cells := 0, slots := 0, locals := 21 } 0 0 1 := cwV 1 hts (goodV wRa_good rm_X5_77 ri_X8_isDigitAt rs_X8_isDigitAt rn_X8 rc_X8_isDigitAt) rfl rfl rfl (by decide +kernel) hR
def FR_X5_readNumber (σ : RS) : Option (Int32 × RS) := ((FR_X8_isDigitAt σ (rI σ 501)).bind fun q_5 => (if q_5 = 0 then (some ((-1 : Int32), σ)) else ((FR_X8_byteAt σ (rI σ 501)).bind fun q_18 => (if (q_18 - (48 : Int32)) ≤ 0 then (some ((q_18 - (48 : Int32)), (ri σ 501 ((rI σ 501) + (1 : Int32))))) else ((FR_X8_isDigitAt (ri σ 501 ((rI σ 501) + (1 : Int32))) (rI (ri σ 501 ((rI σ 501) + (1 : Int32))) 501)).bind fun q_44 => (if q_44 = 0 then (some ((q_18 - (48 : Int32)), (ri σ 501 ((rI σ 501) + (1 : Int32))))) else ((FR_X8_byteAt (ri σ 501 ((rI σ 501) + (1 : Int32))) (rI (ri σ 501 ((rI σ 501) + (1 : Int32))) 501)).bind fun q_59 => (some (((((10 : Int32) * (q_18 - (48 : Int32))) + q_59) - (48 : Int32)), (ri (ri σ 501 ((rI σ 501) + (1 : Int32))) 501 ((rI (ri σ 501 ((rI σ 501) + (1 : Int32))) 501) + (1 : Int32))))))))))))
set_option maxHeartbeats 4000000 in
set_option maxRecDepth 100000 in
theorem cR_X5_readNumber (l : Launch) (D : va_G) (cs : Nat → ClassId) (ad tb : Nat → Nat) (A : Nat → Prop) (σ : RS) (q : (Int32 × RS)) (hF : FR_X5_readNumber σ = some q) : Met l yX5_readNumber wsR_X5_readNumber { frames := 2, cells := 0, slots := 0, locals := 43 } (va_Pc [.ref (ad 1005), .ref (ad 1008)] (preQ D cs ad tb A σ)) (va_Qi (fun x u => x = q.1 ∧ u = q.2) (posQ D cs ad A) A) 0 0 A := by
  refine Met.ofW (cc := cX5_readNumber) (maxL := 3) (ret := (some .int)) (by decide) rfl ?_
  intro p e s m args below meth c s₁ B hml hv
  obtain ⟨rfl, hP, hK, hD, hZ⟩ := hv
  have hx := B.exec
  have hb := B.bytes
  have hr := B.returns
  have hts : ∀ w ∈ (Cond.code yX5_readNumber cX5_readNumber 3 (some .int) :: wRa), w.before ([.ref (ad 1005), .ref (ad 1008)] : List Value).toArray s = true := atoms_spec (ws := wsR_X5_readNumber) B.pre
  have hin : ∀ w ∈ wRa, w ∈ (Cond.code yX5_readNumber cX5_readNumber 3 (some .int) :: wRa) := fun w hw => List.mem_cons_of_mem _ hw
  have hown : s.vm.findClass RX5 = some m.cls := findClass_of_methodNamed B.named
  have hlocks := B.notSynchronized
  have hS : va_S A s.heap s.heap [] := va_S.rf
  have hl := lv_entry ([.ref (ad 1005), .ref (ad 1008)]) (n := 3) (Nat.le_of_ble_eq_true rfl)
  rw [lg_entry_eq]
  generalize (lg_sl ([.ref (ad 1005), .ref (ad 1008)]) ++ List.replicate (3 - (lg_sl ([.ref (ad 1005), .ref (ad 1008)])).length) Slot.unset).toArray = ls at hl ⊢
  have hl : lv_has ls 3 [(0, .ref (ad 1005)), (1, .ref (ad 1008))] := hl
  unfold FR_X5_readNumber at hF
  refine lv_aload_n hx hb dX5_readNumber_0 rfl (lv_at hl 1 rfl) ?_
  refine lv_aload_n hx hb dX5_readNumber_1 rfl (lv_at hl 0 rfl) ?_
  refine gF hx hb hts hin wo_5 rfl hown hK hP (ob_5 _ _ _) 1 (.int (rI σ 501)) (by decide) rf_X5_27 rfl dX5_readNumber_2 ?_
  obtain ⟨q_5, e_5, hF⟩ := ob_bd hF
  refine crR (As := [.int (rI σ 501)]) (rest := []) ⟨hx, hb, hml, hown, hts⟩ (cR_X8_isDigitAt l D cs ad tb A σ (rI σ 501) _ e_5) (cw_X5_X8_isDigitAt_77 hts ⟨Nat.le_of_ble_eq_true rfl, Nat.le_of_ble_eq_true rfl⟩) ⟨Nat.zero_le _, Nat.zero_le _⟩ (rcF hK hP (ci := 8) rfl (ob_8 _ _ _)) hK hP hD hS hZ rfl hl.1 rfl (lv_room (Nat.le_of_ble_eq_true rfl)) dX5_readNumber_5 ?_
  refine lv_if_ne (tgt := 13) hx hb dX5_readNumber_8 (by decide) (fun c_8 => ?_) (fun c_8 => ?_)
  · have hF := ob_f c_8 hF
    refine lv_aload_n hx hb dX5_readNumber_13 rfl (lv_at hl 1 rfl) ?_
    refine lv_aload_n hx hb dX5_readNumber_14 rfl (lv_at hl 0 rfl) ?_
    refine gF hx hb hts hin wo_5 rfl hown hK hP (ob_5 _ _ _) 1 (.int (rI σ 501)) (by decide) rf_X5_27 rfl dX5_readNumber_15 ?_
    obtain ⟨q_18, e_18, hF⟩ := ob_bd hF
    refine crR (As := [.int (rI σ 501)]) (rest := []) ⟨hx, hb, hml, hown, hts⟩ (cR_X8_byteAt l D cs ad tb A σ (rI σ 501) _ e_18) (cw_X5_X8_byteAt_40 hts ⟨Nat.le_of_ble_eq_true rfl, Nat.le_of_ble_eq_true rfl⟩) ⟨Nat.zero_le _, Nat.zero_le _⟩ (rcF hK hP (ci := 8) rfl (ob_8 _ _ _)) hK hP hD hS hZ rfl hl.1 rfl (lv_room (Nat.le_of_ble_eq_true rfl)) dX5_readNumber_18 ?_
    refine lv_bipush (v := (48 : Int32)) hx hb dX5_readNumber_21 (by decide) ?_
    refine lv_isub hx hb dX5_readNumber_23 ?_
    refine lv_istore_n (i := 2) (lv' := [(2, .int (q_18 - (48 : Int32))), (0, .ref (ad 1005)), (1, .ref (ad 1008))]) hx hb dX5_readNumber_24 rfl hl (by decide) rfl (fun ls hl => ?_)
    refine lv_aload_n hx hb dX5_readNumber_25 rfl (lv_at hl 1 rfl) ?_
    refine lv_dup hx hb dX5_readNumber_26 rfl ?_
    refine gF hx hb hts hin wo_5 rfl hown hK hP (ob_5 _ _ _) 1 (.int (rI σ 501)) (by decide) rf_X5_27 rfl dX5_readNumber_27 ?_
    refine lv_iconst (v := (1 : Int32)) hx hb dX5_readNumber_30 (by decide) ?_
    refine lv_iadd hx hb dX5_readNumber_31 ?_
    refine pF (ty := .int) hx hb hts hin wo_5 rfl tyX5 tyX5_ok nmX5 hown hK hP hD hS (ob_5 _ _ _) 1 (by decide) rf_X5_27 rfl (by decide +kernel) rfl rfl (Nat.le_of_ble_eq_true rfl) (rp_501 _ _ _ _) dX5_readNumber_32 (fun H locs hP hD hS => ?_)
    refine lv_iload_n hx hb dX5_readNumber_35 rfl (lv_at hl 0 rfl) ?_
    refine lv_if_le (tgt := 77) hx hb dX5_readNumber_36 (by decide) (fun c_36 => ?_) (fun c_36 => ?_)
    · have hF := ob_t c_36 hF
      refine lv_iload_n hx hb dX5_readNumber_77 rfl (lv_at hl 0 rfl) ?_
      exact rwR hx hb hr hlocks hF hK hP hD hS dX5_readNumber_78
    · have hF := ob_f c_36 hF
      refine lv_aload_n hx hb dX5_readNumber_39 rfl (lv_at hl 2 rfl) ?_
      refine lv_aload_n hx hb dX5_readNumber_40 rfl (lv_at hl 1 rfl) ?_
      refine gF hx hb hts hin wo_5 rfl hown hK hP (ob_5 _ _ _) 1 (.int (rI (ri σ 501 ((rI σ 501) + (1 : Int32))) 501)) (by decide) rf_X5_27 rfl dX5_readNumber_41 ?_
      obtain ⟨q_44, e_44, hF⟩ := ob_bd hF
      refine crR (As := [.int (rI (ri σ 501 ((rI σ 501) + (1 : Int32))) 501)]) (rest := []) ⟨hx, hb, hml, hown, hts⟩ (cR_X8_isDigitAt l D cs ad tb A (ri σ 501 ((rI σ 501) + (1 : Int32))) (rI (ri σ 501 ((rI σ 501) + (1 : Int32))) 501) _ e_44) (cw_X5_X8_isDigitAt_77 hts ⟨Nat.le_of_ble_eq_true rfl, Nat.le_of_ble_eq_true rfl⟩) ⟨Nat.zero_le _, Nat.zero_le _⟩ (rcF hK hP (ci := 8) rfl (ob_8 _ _ _)) hK hP hD hS hZ rfl hl.1 rfl (lv_room (Nat.le_of_ble_eq_true rfl)) dX5_readNumber_44 ?_
      refine lv_if_eq (tgt := 77) hx hb dX5_readNumber_47 (by decide) (fun c_47 => ?_) (fun c_47 => ?_)
      · have hF := ob_t c_47 hF
        refine lv_iload_n hx hb dX5_readNumber_77 rfl (lv_at hl 0 rfl) ?_
        exact rwR hx hb hr hlocks hF hK hP hD hS dX5_readNumber_78
      · have hF := ob_f c_47 hF
        refine lv_bipush (v := (10 : Int32)) hx hb dX5_readNumber_50 (by decide) ?_
        refine lv_iload_n hx hb dX5_readNumber_52 rfl (lv_at hl 0 rfl) ?_
        refine lv_imul hx hb dX5_readNumber_53 ?_
        refine lv_aload_n hx hb dX5_readNumber_54 rfl (lv_at hl 2 rfl) ?_
        refine lv_aload_n hx hb dX5_readNumber_55 rfl (lv_at hl 1 rfl) ?_
        refine gF hx hb hts hin wo_5 rfl hown hK hP (ob_5 _ _ _) 1 (.int (rI (ri σ 501 ((rI σ 501) + (1 : Int32))) 501)) (by decide) rf_X5_27 rfl dX5_readNumber_56 ?_
        obtain ⟨q_59, e_59, hF⟩ := ob_bd hF
        refine crR (As := [.int (rI (ri σ 501 ((rI σ 501) + (1 : Int32))) 501)]) (rest := [.int ((10 : Int32) * (q_18 - (48 : Int32)))]) ⟨hx, hb, hml, hown, hts⟩ (cR_X8_byteAt l D cs ad tb A (ri σ 501 ((rI σ 501) + (1 : Int32))) (rI (ri σ 501 ((rI σ 501) + (1 : Int32))) 501) _ e_59) (cw_X5_X8_byteAt_40 hts ⟨Nat.le_of_ble_eq_true rfl, Nat.le_of_ble_eq_true rfl⟩) ⟨Nat.zero_le _, Nat.zero_le _⟩ (rcF hK hP (ci := 8) rfl (ob_8 _ _ _)) hK hP hD hS hZ rfl hl.1 rfl (lv_room (Nat.le_of_ble_eq_true rfl)) dX5_readNumber_59 ?_
        refine lv_iadd hx hb dX5_readNumber_62 ?_
        refine lv_bipush (v := (48 : Int32)) hx hb dX5_readNumber_63 (by decide) ?_
        refine lv_isub hx hb dX5_readNumber_65 ?_
        refine lv_istore_n (i := 2) (lv' := [(2, .int ((((10 : Int32) * (q_18 - (48 : Int32))) + q_59) - (48 : Int32))), (0, .ref (ad 1005)), (1, .ref (ad 1008))]) hx hb dX5_readNumber_66 rfl hl (by decide) rfl (fun ls hl => ?_)
        refine lv_aload_n hx hb dX5_readNumber_67 rfl (lv_at hl 1 rfl) ?_
        refine lv_dup hx hb dX5_readNumber_68 rfl ?_
        refine gF hx hb hts hin wo_5 rfl hown hK hP (ob_5 _ _ _) 1 (.int (rI (ri σ 501 ((rI σ 501) + (1 : Int32))) 501)) (by decide) rf_X5_27 rfl dX5_readNumber_69 ?_
        refine lv_iconst (v := (1 : Int32)) hx hb dX5_readNumber_72 (by decide) ?_
        refine lv_iadd hx hb dX5_readNumber_73 ?_
        refine pF (ty := .int) hx hb hts hin wo_5 rfl tyX5 tyX5_ok nmX5 hown hK hP hD hS (ob_5 _ _ _) 1 (by decide) rf_X5_27 rfl (by decide +kernel) rfl rfl (Nat.le_of_ble_eq_true rfl) (rp_501 _ _ _ _) dX5_readNumber_74 (fun H locs hP hD hS => ?_)
        refine lv_iload_n hx hb dX5_readNumber_77 rfl (lv_at hl 0 rfl) ?_
        exact rwR hx hb hr hlocks hF hK hP hD hS dX5_readNumber_78
  · have hF := ob_t c_8 hF
    refine lv_iconst (v := (-1 : Int32)) hx hb dX5_readNumber_11 (by decide) ?_
    exact rwR hx hb hr hlocks hF hK hP hD hS dX5_readNumber_12
def wsR_X6_hold : List Cond := Cond.code yX6_hold cX6_hold 3 (some .boolean) :: wRa
theorem cw_X6_X5_holds_31 {R : Room} {s : State} {args : Array Value} {y : MethodName} {c : ByteArray} {n : Nat} {r : Option FieldType} (hts : ∀ w ∈ (Cond.code y c n r :: wRa), w.before args s = true) (hR : 0 + 1 ≤ R.frames ∧ 8 + (4 + 11) + 0 ≤ R.locals) : CallB R s args RX6 31 yX5_holds cX5_holds 4 (some .boolean) wsR_X5_holds { frames := 0, cells := 0, slots := 0, locals := 0 } 0 0 2 ∧ (Cond.static yX5_holds).before args s = true := va_cwS 2 hts (goodS wRa_good rm_X6_31 rt_X5_holds rn_X5 rc_X5_holds) rfl rfl rfl (by decide +kernel) hR
def FR_X6_hold_2 (σ : RS) (x0_2 : Nat) : Nat → Int32 → Option Int32
  | 0, _ => none
  | n_2 + 1, x2_2 => (gd (isK σ x0_2 6) (if (pI σ x0_2 1) ≤ x2_2 then (some (1 : Int32)) else ((pR σ x0_2 0).bind fun r_11 => (gd (isK σ r_11 11) (gd (inb x2_2 (pN σ r_11)) ((FR_X5_holds σ (pA σ r_11 x2_2.toNatClampNeg)).bind fun q_17 => (if q_17 = 0 then (some (0 : Int32)) else (FR_X6_hold_2 σ  x0_2 n_2 (x2_2 + (1 : Int32))))))))))
def FR_X6_hold (σ : RS) (a0 : Nat) : Option Int32 := (FR_X6_hold_2 σ a0 fu (0 : Int32))
set_option maxHeartbeats 4000000 in
set_option maxRecDepth 100000 in
theorem cR_X6_hold (l : Launch) (D : va_G) (cs : Nat → ClassId) (ad tb : Nat → Nat) (A : Nat → Prop) (σ : RS) (a0 : Nat) (q : Int32) (hF : FR_X6_hold σ a0 = some q) : Met l yX6_hold wsR_X6_hold { frames := 1, cells := 0, slots := 0, locals := 23 } (va_Pc [.ref a0, .ref (ad 916)] (preQ D cs ad tb A σ)) (vp_Si (fun x => x = q)) 0 0 (fun _ => False) := by
  refine Met.ofW (cc := cX6_hold) (maxL := 3) (ret := (some .boolean)) (by decide) rfl ?_
  intro p e s m args below meth c s₁ B hml hv
  obtain ⟨rfl, hP, hK, hD, hZ⟩ := hv
  have hx := B.exec
  have hb := B.bytes
  have hr := B.returns
  have hts : ∀ w ∈ (Cond.code yX6_hold cX6_hold 3 (some .boolean) :: wRa), w.before ([.ref a0, .ref (ad 916)] : List Value).toArray s = true := atoms_spec (ws := wsR_X6_hold) B.pre
  have hin : ∀ w ∈ wRa, w ∈ (Cond.code yX6_hold cX6_hold 3 (some .boolean) :: wRa) := fun w hw => List.mem_cons_of_mem _ hw
  have hown : s.vm.findClass RX6 = some m.cls := findClass_of_methodNamed B.named
  have hlocks := B.notSynchronized
  have hS : va_S A s.heap s.heap [] := va_S.rf
  have b_2 : ∀ (x0_2 : Nat) (n_2 : Nat) (x2_2 : Int32) (ls : Array Slot), FR_X6_hold_2 σ x0_2 n_2 x2_2 = some q → lv_has ls 3 [(0, .ref x0_2), (1, .ref (ad 916)), (2, .int x2_2)] → W p l e (headSpec wsR_X6_hold { frames := 1, cells := 0, slots := 0, locals := 23 }).room s m ([.ref a0, .ref (ad 916)] : List Value).toArray below meth c s.heap [] 0 0 (MQ below (vp_Si (fun x => x = q)) ([.ref a0, .ref (ad 916)] : List Value).toArray s 0 0 (fun _ => False)) (F0 m 2 ls []) := by
    intro x0_2
    intro n_2
    induction n_2 with
    | zero =>
      intro x2_2 ls hF hl
      exact absurd hF (by simp [FR_X6_hold_2])
    | succ n_2 ih_2 =>
      intro x2_2 ls hF hl
      rw [FR_X6_hold_2] at hF
      refine lv_iload_n hx hb dX6_hold_2 rfl (lv_at hl 2 rfl) ?_
      refine lv_aload_n hx hb dX6_hold_3 rfl (lv_at hl 0 rfl) ?_
      obtain ⟨k_4_1, hF⟩ := ob_gd hF
      refine gP hx hb hts hin wo_6 rfl hown hK hP k_4_1 (pf_6 (isK_K k_4_1)) 1 (.int (pI σ x0_2 1)) (by decide) rf_X6_21 rfl dX6_hold_4 ?_
      refine lv_icmp_ge (tgt := 31) hx hb dX6_hold_7 (by decide) (fun c_7 => ?_) (fun c_7 => ?_)
      · have hF := ob_t c_7 hF
        refine lv_iconst (v := (1 : Int32)) hx hb dX6_hold_31 (by decide) ?_
        exact rzM hx hb hr hlocks rfl hF dX6_hold_32
      · have hF := ob_f c_7 hF
        refine lv_aload_n hx hb dX6_hold_10 rfl (lv_at hl 0 rfl) ?_
        refine gP hx hb hts hin wo_6 rfl hown hK hP k_4_1 (pf_6 (isK_K k_4_1)) 0 (va_rf (pR σ x0_2 0)) (by decide) rf_X6_9 rfl dX6_hold_11 ?_
        obtain ⟨r_11, o_11, hF⟩ := ob_bd hF
        refine rfS o_11 ?_
        refine lv_iload_n hx hb dX6_hold_14 rfl (lv_at hl 2 rfl) ?_
        obtain ⟨k_15_2, hF⟩ := ob_gd hF
        obtain ⟨g_15, hF⟩ := ob_gd hF
        refine ldP hx hb hK hP k_15_2 (pA σ r_11 x2_2.toNatClampNeg) g_15 rfl dX6_hold_15 ?_
        refine lv_aload_n hx hb dX6_hold_16 rfl (lv_at hl 1 rfl) ?_
        obtain ⟨q_17, e_17, hF⟩ := ob_bd hF
        refine ctR (As := [.int (pA σ r_11 x2_2.toNatClampNeg), .ref (ad 916)]) (rest := []) ⟨hx, hb, hml, hown, hts⟩ (cR_X5_holds l D cs ad tb A σ (pA σ r_11 x2_2.toNatClampNeg) _ e_17) (cw_X6_X5_holds_31 hts ⟨Nat.le_of_ble_eq_true rfl, Nat.le_of_ble_eq_true rfl⟩) ⟨Nat.zero_le _, Nat.zero_le _⟩ hK hP hD hS hZ rfl hl.1 rfl (lv_room (Nat.le_of_ble_eq_true rfl)) dX6_hold_17 ?_
        refine lv_if_ne (tgt := 25) hx hb dX6_hold_20 (by decide) (fun c_20 => ?_) (fun c_20 => ?_)
        · have hF := ob_f c_20 hF
          refine lv_iinc (v := x2_2 + (1 : Int32)) (lv' := [(2, .int (x2_2 + (1 : Int32))), (0, .ref x0_2), (1, .ref (ad 916))]) hx hb dX6_hold_25 hl (k := 2) rfl rfl (by decide) rfl (fun ls hl => ?_)
          refine lv_goto (tgt := 2) hx hb dX6_hold_28 (by decide) ?_
          exact ih_2 (x2_2 + (1 : Int32)) _ hF (lv_sub hl [1, 2, 0] rfl)
        · have hF := ob_t c_20 hF
          refine lv_iconst (v := (0 : Int32)) hx hb dX6_hold_23 (by decide) ?_
          exact rzM hx hb hr hlocks rfl hF dX6_hold_24
  have hl := lv_entry ([.ref a0, .ref (ad 916)]) (n := 3) (Nat.le_of_ble_eq_true rfl)
  rw [lg_entry_eq]
  generalize (lg_sl ([.ref a0, .ref (ad 916)]) ++ List.replicate (3 - (lg_sl ([.ref a0, .ref (ad 916)])).length) Slot.unset).toArray = ls at hl ⊢
  have hl : lv_has ls 3 [(0, .ref a0), (1, .ref (ad 916))] := hl
  unfold FR_X6_hold at hF
  refine lv_iconst (v := (0 : Int32)) hx hb dX6_hold_0 (by decide) ?_
  refine lv_istore_n (i := 2) (lv' := [(2, .int (0 : Int32)), (0, .ref a0), (1, .ref (ad 916))]) hx hb dX6_hold_1 rfl hl (by decide) rfl (fun ls hl => ?_)
  exact b_2 a0 fu (0 : Int32) _ hF (lv_sub hl [1, 2, 0] rfl)
def wsR_X8_push : List Cond := Cond.code yX8_push cX8_push 5 none :: wRa
def FR_X8_push_8 (x1_8 : Int64) : Nat → Int32 → RS → Option RS
  | 0, _, _ => none
  | n_8 + 1, x4_8, σ_8 => (if x4_8 < 0 then (some σ_8) else (if (130 : Int32) ≤ (rI σ_8 801) then (some σ_8) else (gd (inb (rI σ_8 801) 130) (FR_X8_push_8  x1_8 n_8 (x4_8 + (-8 : Int32)) (ri (ra σ_8 800 (rI σ_8 801) (((x1_8 >>> (x4_8.toInt64 &&& 63)) &&& (255 : Int64)).toInt32)) 801 ((rI (ra σ_8 800 (rI σ_8 801) (((x1_8 >>> (x4_8.toInt64 &&& 63)) &&& (255 : Int64)).toInt32)) 801) + (1 : Int32)))))))
def FR_X8_push (σ : RS) (p1 : Int64) (p3 : Int32) : Option RS := (FR_X8_push_8 p1 fu ((8 : Int32) * (p3 - (1 : Int32))) σ)
set_option maxHeartbeats 4000000 in
set_option maxRecDepth 100000 in
theorem cR_X8_push (l : Launch) (D : va_G) (cs : Nat → ClassId) (ad tb : Nat → Nat) (A : Nat → Prop) (σ : RS) (p1 : Int64) (p3 : Int32) (q : RS) (hF : FR_X8_push σ p1 p3 = some q) : Met l yX8_push wsR_X8_push { frames := 0, cells := 0, slots := 0, locals := 0 } (va_Pc [.ref (ad 1008), .long p1, .int p3] (preQ D cs ad tb A σ)) (va_Qv (fun u => u = q) (posQ D cs ad A) A) 0 0 A := by
  refine Met.ofW (cc := cX8_push) (maxL := 5) (ret := none) (by decide) rfl ?_
  intro p e s m args below meth c s₁ B hml hv
  obtain ⟨rfl, hP, hK, hD, hZ⟩ := hv
  have hx := B.exec
  have hb := B.bytes
  have hr := B.returns
  have hts : ∀ w ∈ (Cond.code yX8_push cX8_push 5 none :: wRa), w.before ([.ref (ad 1008), .long p1, .int p3] : List Value).toArray s = true := atoms_spec (ws := wsR_X8_push) B.pre
  have hin : ∀ w ∈ wRa, w ∈ (Cond.code yX8_push cX8_push 5 none :: wRa) := fun w hw => List.mem_cons_of_mem _ hw
  have hown : s.vm.findClass RX8 = some m.cls := findClass_of_methodNamed B.named
  have hlocks := B.notSynchronized
  have hS : va_S A s.heap s.heap [] := va_S.rf
  have b_8 : ∀ (x1_8 : Int64) (n_8 : Nat) (x4_8 : Int32) (σ_8 : RS) (H : Heap) (locs : List Loc) (ls : Array Slot), FR_X8_push_8 x1_8 n_8 x4_8 σ_8 = some q → va_P D vwCl (wR cs ad σ_8) H → va_D A (wR cs ad σ_8) → va_S A s.heap H locs → lv_has ls 5 [(0, .ref (ad 1008)), (1, .long x1_8), (4, .int x4_8)] → W p l e (headSpec wsR_X8_push { frames := 0, cells := 0, slots := 0, locals := 0 }).room s m ([.ref (ad 1008), .long p1, .int p3] : List Value).toArray below meth c H locs 0 0 (MQ below (va_Qv (fun u => u = q) (posQ D cs ad A) A) ([.ref (ad 1008), .long p1, .int p3] : List Value).toArray s 0 0 A) (F0 m 8 ls []) := by
    intro x1_8
    intro n_8
    induction n_8 with
    | zero =>
      intro x4_8 σ_8 H locs ls hF hP hD hS hl
      exact absurd hF (by simp [FR_X8_push_8])
    | succ n_8 ih_8 =>
      intro x4_8 σ_8 H locs ls hF hP hD hS hl
      rw [FR_X8_push_8] at hF
      refine lv_iload hx hb dX8_push_8 (lv_at hl 2 rfl) ?_
      refine lv_if_lt (tgt := 57) hx hb dX8_push_10 (by decide) (fun c_10 => ?_) (fun c_10 => ?_)
      · have hF := ob_t c_10 hF
        exact rvR hx hb hr hlocks hF hK hP hD hS dX8_push_57
      · have hF := ob_f c_10 hF
        refine lv_aload_n hx hb dX8_push_13 rfl (lv_at hl 0 rfl) ?_
        refine gF hx hb hts hin wo_8 rfl hown hK hP (ob_8 _ _ _) 1 (.int (rI σ_8 801)) (by decide) rf_X8_18 rfl dX8_push_14 ?_
        refine lv_sipush (v := (130 : Int32)) hx hb dX8_push_17 (by decide) ?_
        refine lv_icmp_ge (tgt := 57) hx hb dX8_push_20 (by decide) (fun c_20 => ?_) (fun c_20 => ?_)
        · have hF := ob_t c_20 hF
          exact rvR hx hb hr hlocks hF hK hP hD hS dX8_push_57
        · have hF := ob_f c_20 hF
          refine lv_aload_n hx hb dX8_push_23 rfl (lv_at hl 0 rfl) ?_
          refine gF hx hb hts hin wo_8 rfl hown hK hP (ob_8 _ _ _) 0 (.ref (ad 800)) (by decide) rf_X8_9 rfl dX8_push_24 ?_
          refine lv_aload_n hx hb dX8_push_27 rfl (lv_at hl 0 rfl) ?_
          refine gF hx hb hts hin wo_8 rfl hown hK hP (ob_8 _ _ _) 1 (.int (rI σ_8 801)) (by decide) rf_X8_18 rfl dX8_push_28 ?_
          refine lv_lload_n hx hb dX8_push_31 rfl (lv_at hl 1 rfl) ?_
          refine lv_iload hx hb dX8_push_32 (lv_at hl 2 rfl) ?_
          refine lv_lshr (v := (x1_8 >>> (x4_8.toInt64 &&& 63))) hx hb dX8_push_34 rfl ?_
          refine lv_ldc2 (v := (255 : Int64)) hx hb hown (hts _ (hin _ rk_X8_22)) dX8_push_35 ?_
          refine lv_land hx hb dX8_push_38 ?_
          refine lv_l2i (v := ((x1_8 >>> (x4_8.toInt64 &&& 63)) &&& (255 : Int64)).toInt32) hx hb dX8_push_39 rfl ?_
          obtain ⟨g_40, hF⟩ := ob_gd hF
          refine stF hx hb hK hP hD hS (ra_800 _ _ _) (rs_800 _ _ _ _ _) g_40 dX8_push_40 (fun H locs hP hD hS => ?_)
          refine lv_aload_n hx hb dX8_push_41 rfl (lv_at hl 0 rfl) ?_
          refine lv_dup hx hb dX8_push_42 rfl ?_
          refine gF hx hb hts hin wo_8 rfl hown hK hP (ob_8 _ _ _) 1 (.int (rI (ra σ_8 800 (rI σ_8 801) (((x1_8 >>> (x4_8.toInt64 &&& 63)) &&& (255 : Int64)).toInt32)) 801)) (by decide) rf_X8_18 rfl dX8_push_43 ?_
          refine lv_iconst (v := (1 : Int32)) hx hb dX8_push_46 (by decide) ?_
          refine lv_iadd hx hb dX8_push_47 ?_
          refine pF (ty := .int) hx hb hts hin wo_8 rfl tyX8 tyX8_ok nmX8 hown hK hP hD hS (ob_8 _ _ _) 1 (by decide) rf_X8_18 rfl (by decide +kernel) rfl rfl (Nat.le_of_ble_eq_true rfl) (rp_801 _ _ _ _) dX8_push_48 (fun H locs hP hD hS => ?_)
          refine lv_iinc (v := x4_8 + (-8 : Int32)) (lv' := [(4, .int (x4_8 + (-8 : Int32))), (0, .ref (ad 1008)), (1, .long x1_8)]) hx hb dX8_push_51 hl (k := 2) rfl rfl (by decide) rfl (fun ls hl => ?_)
          refine lv_goto (tgt := 8) hx hb dX8_push_54 (by decide) ?_
          exact ih_8 (x4_8 + (-8 : Int32)) (ri (ra σ_8 800 (rI σ_8 801) (((x1_8 >>> (x4_8.toInt64 &&& 63)) &&& (255 : Int64)).toInt32)) 801 ((rI (ra σ_8 800 (rI σ_8 801) (((x1_8 >>> (x4_8.toInt64 &&& 63)) &&& (255 : Int64)).toInt32)) 801) + (1 : Int32))) _ _ _ hF hP hD hS (lv_sub hl [1, 2, 0] rfl)
  have hl := lv_entry ([.ref (ad 1008), .long p1, .int p3]) (n := 5) (Nat.le_of_ble_eq_true rfl)
  rw [lg_entry_eq]
  generalize (lg_sl ([.ref (ad 1008), .long p1, .int p3]) ++ List.replicate (5 - (lg_sl ([.ref (ad 1008), .long p1, .int p3])).length) Slot.unset).toArray = ls at hl ⊢
  have hl : lv_has ls 5 [(0, .ref (ad 1008)), (1, .long p1), (3, .int p3)] := hl
  unfold FR_X8_push at hF
  refine lv_bipush (v := (8 : Int32)) hx hb dX8_push_0 (by decide) ?_
  refine lv_iload_n hx hb dX8_push_2 rfl (lv_at hl 2 rfl) ?_
  refine lv_iconst (v := (1 : Int32)) hx hb dX8_push_3 (by decide) ?_
  refine lv_isub hx hb dX8_push_4 ?_
  refine lv_imul hx hb dX8_push_5 ?_
  refine lv_istore (i := 4) (lv' := [(4, .int ((8 : Int32) * (p3 - (1 : Int32)))), (0, .ref (ad 1008)), (1, .long p1), (3, .int p3)]) hx hb dX8_push_6 hl (by decide) rfl (fun ls hl => ?_)
  exact b_8 p1 fu ((8 : Int32) * (p3 - (1 : Int32))) σ _ _ _ hF hP hD hS (lv_sub hl [1, 2, 0] rfl)
def wsR_X8_readRows : List Cond := Cond.code yX8_readRows cX8_readRows 3 (some .int) :: wRa
theorem cw_X8_X8_isDigitAt_28 {R : Room} {s : State} {args : Array Value} {y : MethodName} {c : ByteArray} {n : Nat} {r : Option FieldType} (hts : ∀ w ∈ (Cond.code y c n r :: wRa), w.before args s = true) (hR : 1 + 1 ≤ R.frames ∧ 8 + (3 + 11) + 21 ≤ R.locals) : CallW R s args RX8 RX8 28 yX8_isDigitAt cX8_isDigitAt 3 (some .boolean) wsR_X8_isDigitAt { frames := 1, cells := 0, slots := 0, locals := 21 } 0 0 1 := cwV 1 hts (goodV wRa_good rm_X8_28 ri_X8_isDigitAt rs_X8_isDigitAt rn_X8 rc_X8_isDigitAt) rfl rfl rfl (by decide +kernel) hR
def FR_X8_readRows_46 (K_4 : Int32 → Int32 → RS → Option (Int32 × RS)) (x1_46 : Int32) (x2_46 : Int32) (σ_46 : RS) : Option (Int32 × RS) := ((FR_X8_byteAt σ_46 x2_46).bind fun q_48 => (if q_48 = (33 : Int32) then (if x1_46 ≤ 0 then (some (((-10 : Int32) - x2_46), σ_46)) else (gd (inb (x1_46 - (1 : Int32)) 120) (if ((rA σ_46 802 (x1_46 - (1 : Int32)).toNatClampNeg) &&& (16 : Int32)) = 0 then (gd (inb (x1_46 - (1 : Int32)) 120) (gd (inb (x1_46 - (1 : Int32)) 120) (K_4 x1_46 (x2_46 + (1 : Int32)) (ra σ_46 802 (x1_46 - (1 : Int32)) ((rA σ_46 802 (x1_46 - (1 : Int32)).toNatClampNeg) ||| (16 : Int32)))))) else (some (((-10 : Int32) - x2_46), σ_46))))) else (some (((-10 : Int32) - x2_46), σ_46))))
def FR_X8_readRows_4 (K_101 : Int32 → RS → Option (Int32 × RS)) : Nat → Int32 → Int32 → RS → Option (Int32 × RS)
  | 0, _, _, _ => none
  | n_4 + 1, x1_4, x2_4, σ_4 => (if (rI σ_4 801) ≤ x2_4 then (K_101 x1_4 σ_4) else ((FR_X8_isDigitAt σ_4 x2_4).bind fun q_14 => (if q_14 = 0 then (FR_X8_readRows_46 (fun x1_4 x2_4 σ_4 => FR_X8_readRows_4 K_101 n_4 x1_4 x2_4 σ_4) x1_4 x2_4 σ_4) else (if (120 : Int32) ≤ x1_4 then (FR_X8_readRows_46 (fun x1_4 x2_4 σ_4 => FR_X8_readRows_4 K_101 n_4 x1_4 x2_4 σ_4) x1_4 x2_4 σ_4) else ((FR_X8_byteAt σ_4 x2_4).bind fun q_33 => (gd (inb x1_4 120) (FR_X8_readRows_4 K_101 n_4 (x1_4 + (1 : Int32)) (x2_4 + (1 : Int32)) (ra σ_4 802 x1_4 (q_33 - (48 : Int32))))))))))
def FR_X8_readRows_101 (x1_101 : Int32) (σ_101 : RS) : Option (Int32 × RS) := (if x1_101 ≤ 0 then (some (((-10 : Int32) - (rI σ_101 801)), σ_101)) else (some (x1_101, σ_101)))
def FR_X8_readRows (σ : RS) : Option (Int32 × RS) := (FR_X8_readRows_4 (fun x1_101 σ_101 => FR_X8_readRows_101 x1_101 σ_101) fu (0 : Int32) (0 : Int32) σ)
set_option maxHeartbeats 4000000 in
set_option maxRecDepth 100000 in
theorem cR_X8_readRows (l : Launch) (D : va_G) (cs : Nat → ClassId) (ad tb : Nat → Nat) (A : Nat → Prop) (σ : RS) (q : (Int32 × RS)) (hF : FR_X8_readRows σ = some q) : Met l yX8_readRows wsR_X8_readRows { frames := 2, cells := 0, slots := 0, locals := 43 } (va_Pc [.ref (ad 1008)] (preQ D cs ad tb A σ)) (va_Qi (fun x u => x = q.1 ∧ u = q.2) (posQ D cs ad A) A) 0 0 A := by
  refine Met.ofW (cc := cX8_readRows) (maxL := 3) (ret := (some .int)) (by decide) rfl ?_
  intro p e s m args below meth c s₁ B hml hv
  obtain ⟨rfl, hP, hK, hD, hZ⟩ := hv
  have hx := B.exec
  have hb := B.bytes
  have hr := B.returns
  have hts : ∀ w ∈ (Cond.code yX8_readRows cX8_readRows 3 (some .int) :: wRa), w.before ([.ref (ad 1008)] : List Value).toArray s = true := atoms_spec (ws := wsR_X8_readRows) B.pre
  have hin : ∀ w ∈ wRa, w ∈ (Cond.code yX8_readRows cX8_readRows 3 (some .int) :: wRa) := fun w hw => List.mem_cons_of_mem _ hw
  have hown : s.vm.findClass RX8 = some m.cls := findClass_of_methodNamed B.named
  have hlocks := B.notSynchronized
  have hS : va_S A s.heap s.heap [] := va_S.rf
  have b_46 : ∀ (x1_46 : Int32) (x2_46 : Int32) (K_4 : Int32 → Int32 → RS → Option (Int32 × RS)) (k_4 : ∀ (x1_4 : Int32) (x2_4 : Int32) (σ_4 : RS) (H : Heap) (locs : List Loc) (ls : Array Slot), K_4 x1_4 x2_4 σ_4 = some q → va_P D vwCl (wR cs ad σ_4) H → va_D A (wR cs ad σ_4) → va_S A s.heap H locs → lv_has ls 3 [(0, .ref (ad 1008)), (1, .int x1_4), (2, .int x2_4)] → W p l e (headSpec wsR_X8_readRows { frames := 2, cells := 0, slots := 0, locals := 43 }).room s m ([.ref (ad 1008)] : List Value).toArray below meth c H locs 0 0 (MQ below (va_Qi (fun x u => x = q.1 ∧ u = q.2) (posQ D cs ad A) A) ([.ref (ad 1008)] : List Value).toArray s 0 0 A) (F0 m 4 ls [])) (σ_46 : RS) (H : Heap) (locs : List Loc) (ls : Array Slot), FR_X8_readRows_46 K_4 x1_46 x2_46 σ_46 = some q → va_P D vwCl (wR cs ad σ_46) H → va_D A (wR cs ad σ_46) → va_S A s.heap H locs → lv_has ls 3 [(0, .ref (ad 1008)), (1, .int x1_46), (2, .int x2_46)] → W p l e (headSpec wsR_X8_readRows { frames := 2, cells := 0, slots := 0, locals := 43 }).room s m ([.ref (ad 1008)] : List Value).toArray below meth c H locs 0 0 (MQ below (va_Qi (fun x u => x = q.1 ∧ u = q.2) (posQ D cs ad A) A) ([.ref (ad 1008)] : List Value).toArray s 0 0 A) (F0 m 46 ls []) := by
    intro x1_46 x2_46 K_4 k_4 σ_46 H locs ls hF hP hD hS hl
    unfold FR_X8_readRows_46 at hF
    refine lv_aload_n hx hb dX8_readRows_46 rfl (lv_at hl 0 rfl) ?_
    refine lv_iload_n hx hb dX8_readRows_47 rfl (lv_at hl 2 rfl) ?_
    obtain ⟨q_48, e_48, hF⟩ := ob_bd hF
    refine crR (As := [.int x2_46]) (rest := []) ⟨hx, hb, hml, hown, hts⟩ (cR_X8_byteAt l D cs ad tb A σ_46 x2_46 _ e_48) (cw_X8_X8_byteAt_24 hts ⟨Nat.le_of_ble_eq_true rfl, Nat.le_of_ble_eq_true rfl⟩) ⟨Nat.zero_le _, Nat.zero_le _⟩ (rcF hK hP (ci := 8) rfl (ob_8 _ _ _)) hK hP hD hS hZ rfl hl.1 rfl (lv_room (Nat.le_of_ble_eq_true rfl)) dX8_readRows_48 ?_
    refine lv_bipush (v := (33 : Int32)) hx hb dX8_readRows_51 (by decide) ?_
    refine lv_icmp_ne (tgt := 90) hx hb dX8_readRows_53 (by decide) (fun c_53 => ?_) (fun c_53 => ?_)
    · have hF := ob_f c_53 hF
      refine lv_bipush (v := (-10 : Int32)) hx hb dX8_readRows_90 (by decide) ?_
      refine lv_iload_n hx hb dX8_readRows_92 rfl (lv_at hl 2 rfl) ?_
      refine lv_isub hx hb dX8_readRows_93 ?_
      exact rwR hx hb hr hlocks hF hK hP hD hS dX8_readRows_94
    · have hF := ob_t c_53 hF
      refine lv_iload_n hx hb dX8_readRows_56 rfl (lv_at hl 1 rfl) ?_
      refine lv_if_le (tgt := 90) hx hb dX8_readRows_57 (by decide) (fun c_57 => ?_) (fun c_57 => ?_)
      · have hF := ob_t c_57 hF
        refine lv_bipush (v := (-10 : Int32)) hx hb dX8_readRows_90 (by decide) ?_
        refine lv_iload_n hx hb dX8_readRows_92 rfl (lv_at hl 2 rfl) ?_
        refine lv_isub hx hb dX8_readRows_93 ?_
        exact rwR hx hb hr hlocks hF hK hP hD hS dX8_readRows_94
      · have hF := ob_f c_57 hF
        refine lv_aload_n hx hb dX8_readRows_60 rfl (lv_at hl 0 rfl) ?_
        refine gF hx hb hts hin wo_8 rfl hown hK hP (ob_8 _ _ _) 2 (.ref (ad 802)) (by decide) rf_X8_15 rfl dX8_readRows_61 ?_
        refine lv_iload_n hx hb dX8_readRows_64 rfl (lv_at hl 1 rfl) ?_
        refine lv_iconst (v := (1 : Int32)) hx hb dX8_readRows_65 (by decide) ?_
        refine lv_isub hx hb dX8_readRows_66 ?_
        obtain ⟨g_67, hF⟩ := ob_gd hF
        refine ldF hx hb hK hP (ra_802 _ _ _) (rA σ_46 802 (x1_46 - (1 : Int32)).toNatClampNeg) g_67 rfl dX8_readRows_67 ?_
        refine lv_bipush (v := (16 : Int32)) hx hb dX8_readRows_68 (by decide) ?_
        refine lv_iand hx hb dX8_readRows_70 ?_
        refine lv_if_ne (tgt := 90) hx hb dX8_readRows_71 (by decide) (fun c_71 => ?_) (fun c_71 => ?_)
        · have hF := ob_f c_71 hF
          refine lv_bipush (v := (-10 : Int32)) hx hb dX8_readRows_90 (by decide) ?_
          refine lv_iload_n hx hb dX8_readRows_92 rfl (lv_at hl 2 rfl) ?_
          refine lv_isub hx hb dX8_readRows_93 ?_
          exact rwR hx hb hr hlocks hF hK hP hD hS dX8_readRows_94
        · have hF := ob_t c_71 hF
          refine lv_aload_n hx hb dX8_readRows_74 rfl (lv_at hl 0 rfl) ?_
          refine gF hx hb hts hin wo_8 rfl hown hK hP (ob_8 _ _ _) 2 (.ref (ad 802)) (by decide) rf_X8_15 rfl dX8_readRows_75 ?_
          refine lv_iload_n hx hb dX8_readRows_78 rfl (lv_at hl 1 rfl) ?_
          refine lv_iconst (v := (1 : Int32)) hx hb dX8_readRows_79 (by decide) ?_
          refine lv_isub hx hb dX8_readRows_80 ?_
          refine lv_dup2_11 hx hb dX8_readRows_81 rfl rfl ?_
          obtain ⟨g_82, hF⟩ := ob_gd hF
          refine ldF hx hb hK hP (ra_802 _ _ _) (rA σ_46 802 (x1_46 - (1 : Int32)).toNatClampNeg) g_82 rfl dX8_readRows_82 ?_
          refine lv_bipush (v := (16 : Int32)) hx hb dX8_readRows_83 (by decide) ?_
          refine lv_ior hx hb dX8_readRows_85 ?_
          obtain ⟨g_86, hF⟩ := ob_gd hF
          refine stF hx hb hK hP hD hS (ra_802 _ _ _) (rs_802 _ _ _ _ _) g_86 dX8_readRows_86 (fun H locs hP hD hS => ?_)
          refine lv_goto (tgt := 95) hx hb dX8_readRows_87 (by decide) ?_
          refine lv_iinc (v := x2_46 + (1 : Int32)) (lv' := [(2, .int (x2_46 + (1 : Int32))), (0, .ref (ad 1008)), (1, .int x1_46)]) hx hb dX8_readRows_95 hl (k := 2) rfl rfl (by decide) rfl (fun ls hl => ?_)
          refine lv_goto (tgt := 4) hx hb dX8_readRows_98 (by decide) ?_
          exact k_4 x1_46 (x2_46 + (1 : Int32)) (ra σ_46 802 (x1_46 - (1 : Int32)) ((rA σ_46 802 (x1_46 - (1 : Int32)).toNatClampNeg) ||| (16 : Int32))) _ _ _ hF hP hD hS (lv_sub hl [1, 2, 0] rfl)
  have b_4 : ∀ (K_101 : Int32 → RS → Option (Int32 × RS)) (k_101 : ∀ (x1_101 : Int32) (σ_101 : RS) (H : Heap) (locs : List Loc) (ls : Array Slot), K_101 x1_101 σ_101 = some q → va_P D vwCl (wR cs ad σ_101) H → va_D A (wR cs ad σ_101) → va_S A s.heap H locs → lv_has ls 3 [(0, .ref (ad 1008)), (1, .int x1_101)] → W p l e (headSpec wsR_X8_readRows { frames := 2, cells := 0, slots := 0, locals := 43 }).room s m ([.ref (ad 1008)] : List Value).toArray below meth c H locs 0 0 (MQ below (va_Qi (fun x u => x = q.1 ∧ u = q.2) (posQ D cs ad A) A) ([.ref (ad 1008)] : List Value).toArray s 0 0 A) (F0 m 101 ls [])) (n_4 : Nat) (x1_4 : Int32) (x2_4 : Int32) (σ_4 : RS) (H : Heap) (locs : List Loc) (ls : Array Slot), FR_X8_readRows_4 K_101 n_4 x1_4 x2_4 σ_4 = some q → va_P D vwCl (wR cs ad σ_4) H → va_D A (wR cs ad σ_4) → va_S A s.heap H locs → lv_has ls 3 [(0, .ref (ad 1008)), (1, .int x1_4), (2, .int x2_4)] → W p l e (headSpec wsR_X8_readRows { frames := 2, cells := 0, slots := 0, locals := 43 }).room s m ([.ref (ad 1008)] : List Value).toArray below meth c H locs 0 0 (MQ below (va_Qi (fun x u => x = q.1 ∧ u = q.2) (posQ D cs ad A) A) ([.ref (ad 1008)] : List Value).toArray s 0 0 A) (F0 m 4 ls []) := by
    intro K_101 k_101
    intro n_4
    induction n_4 with
    | zero =>
      intro x1_4 x2_4 σ_4 H locs ls hF hP hD hS hl
      exact absurd hF (by simp [FR_X8_readRows_4])
    | succ n_4 ih_4 =>
      intro x1_4 x2_4 σ_4 H locs ls hF hP hD hS hl
      rw [FR_X8_readRows_4] at hF
      refine lv_iload_n hx hb dX8_readRows_4 rfl (lv_at hl 2 rfl) ?_
      refine lv_aload_n hx hb dX8_readRows_5 rfl (lv_at hl 0 rfl) ?_
      refine gF hx hb hts hin wo_8 rfl hown hK hP (ob_8 _ _ _) 1 (.int (rI σ_4 801)) (by decide) rf_X8_18 rfl dX8_readRows_6 ?_
      refine lv_icmp_ge (tgt := 101) hx hb dX8_readRows_9 (by decide) (fun c_9 => ?_) (fun c_9 => ?_)
      · have hF := ob_t c_9 hF
        exact k_101 x1_4 σ_4 _ _ _ hF hP hD hS (lv_sub hl [0, 1] rfl)
      · have hF := ob_f c_9 hF
        refine lv_aload_n hx hb dX8_readRows_12 rfl (lv_at hl 0 rfl) ?_
        refine lv_iload_n hx hb dX8_readRows_13 rfl (lv_at hl 2 rfl) ?_
        obtain ⟨q_14, e_14, hF⟩ := ob_bd hF
        refine crR (As := [.int x2_4]) (rest := []) ⟨hx, hb, hml, hown, hts⟩ (cR_X8_isDigitAt l D cs ad tb A σ_4 x2_4 _ e_14) (cw_X8_X8_isDigitAt_28 hts ⟨Nat.le_of_ble_eq_true rfl, Nat.le_of_ble_eq_true rfl⟩) ⟨Nat.zero_le _, Nat.zero_le _⟩ (rcF hK hP (ci := 8) rfl (ob_8 _ _ _)) hK hP hD hS hZ rfl hl.1 rfl (lv_room (Nat.le_of_ble_eq_true rfl)) dX8_readRows_14 ?_
        refine lv_if_eq (tgt := 46) hx hb dX8_readRows_17 (by decide) (fun c_17 => ?_) (fun c_17 => ?_)
        · have hF := ob_t c_17 hF
          exact b_46 x1_4 x2_4 (fun x1_4 x2_4 σ_4 => FR_X8_readRows_4 K_101 n_4 x1_4 x2_4 σ_4) ih_4 σ_4 _ _ _ hF hP hD hS hl
        · have hF := ob_f c_17 hF
          refine lv_iload_n hx hb dX8_readRows_20 rfl (lv_at hl 1 rfl) ?_
          refine lv_bipush (v := (120 : Int32)) hx hb dX8_readRows_21 (by decide) ?_
          refine lv_icmp_ge (tgt := 46) hx hb dX8_readRows_23 (by decide) (fun c_23 => ?_) (fun c_23 => ?_)
          · have hF := ob_t c_23 hF
            exact b_46 x1_4 x2_4 (fun x1_4 x2_4 σ_4 => FR_X8_readRows_4 K_101 n_4 x1_4 x2_4 σ_4) ih_4 σ_4 _ _ _ hF hP hD hS hl
          · have hF := ob_f c_23 hF
            refine lv_aload_n hx hb dX8_readRows_26 rfl (lv_at hl 0 rfl) ?_
            refine gF hx hb hts hin wo_8 rfl hown hK hP (ob_8 _ _ _) 2 (.ref (ad 802)) (by decide) rf_X8_15 rfl dX8_readRows_27 ?_
            refine lv_iload_n hx hb dX8_readRows_30 rfl (lv_at hl 1 rfl) ?_
            refine lv_aload_n hx hb dX8_readRows_31 rfl (lv_at hl 0 rfl) ?_
            refine lv_iload_n hx hb dX8_readRows_32 rfl (lv_at hl 2 rfl) ?_
            obtain ⟨q_33, e_33, hF⟩ := ob_bd hF
            refine crR (As := [.int x2_4]) (rest := [.int x1_4, .ref (ad 802)]) ⟨hx, hb, hml, hown, hts⟩ (cR_X8_byteAt l D cs ad tb A σ_4 x2_4 _ e_33) (cw_X8_X8_byteAt_24 hts ⟨Nat.le_of_ble_eq_true rfl, Nat.le_of_ble_eq_true rfl⟩) ⟨Nat.zero_le _, Nat.zero_le _⟩ (rcF hK hP (ci := 8) rfl (ob_8 _ _ _)) hK hP hD hS hZ rfl hl.1 rfl (lv_room (Nat.le_of_ble_eq_true rfl)) dX8_readRows_33 ?_
            refine lv_bipush (v := (48 : Int32)) hx hb dX8_readRows_36 (by decide) ?_
            refine lv_isub hx hb dX8_readRows_38 ?_
            obtain ⟨g_39, hF⟩ := ob_gd hF
            refine stF hx hb hK hP hD hS (ra_802 _ _ _) (rs_802 _ _ _ _ _) g_39 dX8_readRows_39 (fun H locs hP hD hS => ?_)
            refine lv_iinc (v := x1_4 + (1 : Int32)) (lv' := [(1, .int (x1_4 + (1 : Int32))), (0, .ref (ad 1008)), (2, .int x2_4)]) hx hb dX8_readRows_40 hl (k := 1) rfl rfl (by decide) rfl (fun ls hl => ?_)
            refine lv_goto (tgt := 95) hx hb dX8_readRows_43 (by decide) ?_
            refine lv_iinc (v := x2_4 + (1 : Int32)) (lv' := [(2, .int (x2_4 + (1 : Int32))), (1, .int (x1_4 + (1 : Int32))), (0, .ref (ad 1008))]) hx hb dX8_readRows_95 hl (k := 2) rfl rfl (by decide) rfl (fun ls hl => ?_)
            refine lv_goto (tgt := 4) hx hb dX8_readRows_98 (by decide) ?_
            exact ih_4 (x1_4 + (1 : Int32)) (x2_4 + (1 : Int32)) (ra σ_4 802 x1_4 (q_33 - (48 : Int32))) _ _ _ hF hP hD hS (lv_sub hl [2, 1, 0] rfl)
  have b_101 : ∀ (x1_101 : Int32) (σ_101 : RS) (H : Heap) (locs : List Loc) (ls : Array Slot), FR_X8_readRows_101 x1_101 σ_101 = some q → va_P D vwCl (wR cs ad σ_101) H → va_D A (wR cs ad σ_101) → va_S A s.heap H locs → lv_has ls 3 [(0, .ref (ad 1008)), (1, .int x1_101)] → W p l e (headSpec wsR_X8_readRows { frames := 2, cells := 0, slots := 0, locals := 43 }).room s m ([.ref (ad 1008)] : List Value).toArray below meth c H locs 0 0 (MQ below (va_Qi (fun x u => x = q.1 ∧ u = q.2) (posQ D cs ad A) A) ([.ref (ad 1008)] : List Value).toArray s 0 0 A) (F0 m 101 ls []) := by
    intro x1_101 σ_101 H locs ls hF hP hD hS hl
    unfold FR_X8_readRows_101 at hF
    refine lv_iload_n hx hb dX8_readRows_101 rfl (lv_at hl 1 rfl) ?_
    refine lv_if_le (tgt := 109) hx hb dX8_readRows_102 (by decide) (fun c_102 => ?_) (fun c_102 => ?_)
    · have hF := ob_t c_102 hF
      refine lv_bipush (v := (-10 : Int32)) hx hb dX8_readRows_109 (by decide) ?_
      refine lv_aload_n hx hb dX8_readRows_111 rfl (lv_at hl 0 rfl) ?_
      refine gF hx hb hts hin wo_8 rfl hown hK hP (ob_8 _ _ _) 1 (.int (rI σ_101 801)) (by decide) rf_X8_18 rfl dX8_readRows_112 ?_
      refine lv_isub hx hb dX8_readRows_115 ?_
      exact rwR hx hb hr hlocks hF hK hP hD hS dX8_readRows_116
    · have hF := ob_f c_102 hF
      refine lv_iload_n hx hb dX8_readRows_105 rfl (lv_at hl 1 rfl) ?_
      refine lv_goto (tgt := 116) hx hb dX8_readRows_106 (by decide) ?_
      exact rwR hx hb hr hlocks hF hK hP hD hS dX8_readRows_116
  have hl := lv_entry ([.ref (ad 1008)]) (n := 3) (Nat.le_of_ble_eq_true rfl)
  rw [lg_entry_eq]
  generalize (lg_sl ([.ref (ad 1008)]) ++ List.replicate (3 - (lg_sl ([.ref (ad 1008)])).length) Slot.unset).toArray = ls at hl ⊢
  have hl : lv_has ls 3 [(0, .ref (ad 1008))] := hl
  unfold FR_X8_readRows at hF
  refine lv_iconst (v := (0 : Int32)) hx hb dX8_readRows_0 (by decide) ?_
  refine lv_istore_n (i := 1) (lv' := [(1, .int (0 : Int32)), (0, .ref (ad 1008))]) hx hb dX8_readRows_1 rfl hl (by decide) rfl (fun ls hl => ?_)
  refine lv_iconst (v := (0 : Int32)) hx hb dX8_readRows_2 (by decide) ?_
  refine lv_istore_n (i := 2) (lv' := [(2, .int (0 : Int32)), (1, .int (0 : Int32)), (0, .ref (ad 1008))]) hx hb dX8_readRows_3 rfl hl (by decide) rfl (fun ls hl => ?_)
  exact b_4 (fun x1_101 σ_101 => FR_X8_readRows_101 x1_101 σ_101) (fun x1_101 σ_101 => b_101 x1_101 σ_101) fu (0 : Int32) (0 : Int32) σ _ _ _ hF hP hD hS (lv_sub hl [2, 1, 0] rfl)
