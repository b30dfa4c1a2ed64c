def mr (n j a : Nat) : Value := if j < n then Value.ref a else .null
def fMc (n : Nat) (ad : Nat → Nat) (σ : MS) : List Value := [.int (σ.1 0), mr n 0 (ad 1), mr n 1 (ad 2), mr n 2 (ad 3), mr n 3 (ad 4), mr n 4 (ad 5), .int (σ.1 6), mr n 5 (ad 7), mr n 6 (ad 8), mr n 7 (ad 9), mr n 8 (ad 10), mr n 9 (ad 11), mr n 10 (ad 12), mr n 11 (ad 13), mr n 12 (ad 14), mr n 13 (ad 15), mr n 14 (ad 16), mr n 15 (ad 17), mr n 16 (ad 18), mr n 17 (ad 19), mr n 18 (ad 20), .int (σ.1 21), .int (σ.1 22), .int (σ.1 23), .int (σ.1 24), .int (σ.1 25), mr n 19 (ad 26), mr n 20 (ad 27), mr n 21 (ad 28), mr n 22 (ad 29), mr n 23 (ad 30), .int (σ.1 31), mr n 24 (ad 32), mr n 25 (ad 33), mr n 26 (ad 34), mr n 27 (ad 35), .int (σ.1 36), .int (σ.1 37), .int (σ.1 38), .int (σ.1 39), mr n 28 (ad 40), mr n 29 (ad 41), mr n 30 (ad 42), mr n 31 (ad 43), mr n 32 (ad 44), mr n 33 (ad 45), mr n 34 (ad 46), mr n 35 (ad 47), mr n 36 (ad 48)]
def tM (cI cZ : ClassId) (ad : Nat → Nat) (σ : MS) : va_W := [(ad 1, .inl (cZ, 40, .inl (σ.2 1))), (ad 2, .inl (cI, 40, .inl (σ.2 2))), (ad 3, .inl (cI, 40, .inl (σ.2 3))), (ad 4, .inl (cI, 40, .inl (σ.2 4))), (ad 5, .inl (cI, 4800, .inl (σ.2 5))), (ad 7, .inl (cZ, 30, .inl (σ.2 7))), (ad 8, .inl (cI, 30, .inl (σ.2 8))), (ad 9, .inl (cI, 30, .inl (σ.2 9))), (ad 10, .inl (cI, 30, .inl (σ.2 10))), (ad 11, .inl (cI, 30, .inl (σ.2 11))), (ad 12, .inl (cI, 30, .inl (σ.2 12))), (ad 13, .inl (cI, 30, .inl (σ.2 13))), (ad 14, .inl (cI, 3600, .inl (σ.2 14))), (ad 15, .inl (cZ, 30, .inl (σ.2 15))), (ad 16, .inl (cI, 30, .inl (σ.2 16))), (ad 17, .inl (cI, 30, .inl (σ.2 17))), (ad 18, .inl (cI, 3600, .inl (σ.2 18))), (ad 19, .inl (cI, 30, .inl (σ.2 19))), (ad 20, .inl (cI, 30, .inl (σ.2 20))), (ad 26, .inl (cI, 10, .inl (σ.2 26))), (ad 27, .inl (cI, 10, .inl (σ.2 27))), (ad 28, .inl (cI, 4, .inl (σ.2 28))), (ad 29, .inl (cI, 72, .inl (σ.2 29))), (ad 30, .inl (cI, 130, .inl (σ.2 30))), (ad 32, .inl (cI, 6, .inl (σ.2 32))), (ad 33, .inl (cI, 6, .inl (σ.2 33))), (ad 34, .inl (cI, 120, .inl (σ.2 34))), (ad 35, .inl (cI, 6, .inl (σ.2 35))), (ad 40, .inl (cI, 18, .inl (σ.2 40))), (ad 41, .inl (cI, 10, .inl (σ.2 41))), (ad 42, .inl (cI, 30, .inl (σ.2 42))), (ad 43, .inl (cI, 10, .inl (σ.2 43))), (ad 44, .inl (cI, 30, .inl (σ.2 44))), (ad 45, .inl (cI, 11, .inl (σ.2 45))), (ad 46, .inl (cZ, 30, .inl (σ.2 46))), (ad 47, .inl (cI, 10, .inl (σ.2 47))), (ad 48, .inl (cI, 10, .inl (σ.2 48)))]
def wMc (n : Nat) (cI cZ : ClassId) (h : Nat) (ad : Nat → Nat) (σ : MS) : va_W := (h, .inr (10, fMc n ad σ)) :: (tM cI cZ ad σ).take n
def mM1 : Nat → Int32 := (upd (upd (upd (upd (upd (upd (upd (upd (upd (upd (fun _ => 0) (0 : Int32).toNatClampNeg (-1)) (1 : Int32).toNatClampNeg (-1)) (2 : Int32).toNatClampNeg (-1)) (3 : Int32).toNatClampNeg (-1)) (4 : Int32).toNatClampNeg (-1)) (5 : Int32).toNatClampNeg (-1)) (6 : Int32).toNatClampNeg (-1)) (7 : Int32).toNatClampNeg (-1)) (8 : Int32).toNatClampNeg (-1)) (9 : Int32).toNatClampNeg (-1))
def mA0 (k : Nat) : Nat → Int32 := if k = 26 then mM1 else if k = 43 then mM1 else fun _ => 0
def mS0 : MS := (fun _ => 0, mA0)
def wsM_init : List Cond := Cond.code yX10_init cX10_init 1 none :: wMa
def mSI : MS := (si (si (si (si (si mS0 21 (4)) 22 (2)) 23 (2)) 25 (2)) 36 (-1))
set_option maxHeartbeats 40000000 in
set_option maxRecDepth 100000 in
theorem cM_init (l : Launch) (D : va_G) (cI cZ : ClassId) (h : Nat) (A : Nat → Prop) (sz : Nat) (hA0 : ∀ q, sz ≤ q → A q) : Met l yX10_init wsM_init { frames := 1, cells := 37, slots := 13043, locals := 20 } (va_Pc [.ref h] (fun U => U.heap.size = sz ∧ va_P D vwCl [(h, .inr (10, [.int 0, .null, .null, .null, .null, .null, .int 0, .null, .null, .null, .null, .null, .null, .null, .null, .null, .null, .null, .null, .null, .null, .int 0, .int 0, .int 0, .int 0, .int 0, .null, .null, .null, .null, .null, .int 0, .null, .null, .null, .null, .int 0, .int 0, .int 0, .int 0, .null, .null, .null, .null, .null, .null, .null, .null, .null]))] U.heap ∧ va_K D vwCl (tyM cI cZ) U ∧ va_D A [(h, .inr (10, [.int 0, .null, .null, .null, .null, .null, .int 0, .null, .null, .null, .null, .null, .null, .null, .null, .null, .null, .null, .null, .null, .null, .int 0, .int 0, .int 0, .int 0, .int 0, .null, .null, .null, .null, .null, .int 0, .null, .null, .null, .null, .int 0, .int 0, .int 0, .int 0, .null, .null, .null, .null, .null, .null, .null, .null, .null]))])) (va_Qv (fun _ : Unit => True) (fun _ t => ∃ ad, preM D cI cZ h ad A mSI t) A) 37 13043 A := by
  refine Met.ofW (cc := cX10_init) (maxL := 1) (ret := none) (by decide) rfl ?_
  intro p e s m args below meth c s₁ B hml hv
  obtain ⟨rfl, hsz, hP, hK, hD⟩ := hv
  have hx := B.exec
  have hb := B.bytes
  have hr := B.returns
  have hts : ∀ w ∈ (Cond.code yX10_init cX10_init 1 none :: wMa), w.before ([.ref h] : List Value).toArray s = true := atoms_spec (ws := wsM_init) B.pre
  have hin : ∀ w ∈ wMa, w ∈ (Cond.code yX10_init cX10_init 1 none :: wMa) := fun w hw => List.mem_cons_of_mem _ hw
  have hown : s.vm.findClass RX10 = some m.cls := findClass_of_methodNamed B.named
  have hlocks := B.notSynchronized
  have hin2 : meth.name = "<init>" := (name_of_methodNamed B.named B.method).1
  have hS : va_S A s.heap s.heap [] := va_S.rf
  have hA : ∀ q, s.heap.size ≤ q → A q := by rw [hsz]; exact hA0
  have ad : Nat → Nat := fun _ => 0
  have hP : va_P D vwCl (wMc 0 cI cZ h ad mS0) s.heap := hP
  have hD : va_D A (wMc 0 cI cZ h ad mS0) := hD
  have hl := lv_entry ([.ref h]) (n := 1) (Nat.le_of_ble_eq_true rfl)
  rw [lg_entry_eq]
  generalize (lg_sl ([.ref h]) ++ List.replicate (1 - (lg_sl ([.ref h])).length) Slot.unset).toArray = ls at hl ⊢
  have hl : lv_has ls 1 [(0, .ref h)] := hl
  refine lv_aload_n hx hb dX10_init_0 rfl (lv_at hl 0 rfl) ?_
  refine W.objInit hx hb hown (hts _ (hin _ mm_1)) (hts _ (hin _ mo_1)) (hts _ (hin _ mo_2)) rfl (by rw [hml]; exact hl.1) rfl dX10_init_1 (Nat.le_of_ble_eq_true rfl) (Nat.le_of_ble_eq_true rfl) ?_
  refine W.eq (g2 := F0 m 4 ls []) rfl ?_
  refine lv_aload_n hx hb dX10_init_4 rfl (lv_at hl 0 rfl) ?_
  refine lv_bipush (v := (40 : Int32)) hx hb dX10_init_5 (by decide) ?_
  refine va_newa (atype := .boolean) (ty := .boolean) (N' := 40) (a0 := (40, .inl (fun _ => 0))) hx hb (hts _ (hin _ mo_3)) rfl hK hP hD hS hA (fun _ => rfl) (by decide) rfl (by decide) (Nat.le_of_ble_eq_true rfl) (Nat.le_of_ble_eq_true rfl) dX10_init_7 (fun q cA H hK2 hP hD hS => ?_)
  obtain rfl : cZ = cA := Option.some.inj ((hK.2 1 (cZ, .boolean) rfl).2.symm.trans (hK2.2 2 (cA, .boolean) rfl).2)
  clear hK2
  refine W.widen (k := 1) (n := 40) (Nat.le_of_ble_eq_true rfl) (Nat.le_of_ble_eq_true rfl) ?_
  refine va_putF (D := D) (ci := 10) (v := .ref q) (ty := .array .boolean) (C := RX10) (T := TX10) (N := 49) hx hb hts (fun w hw => hin w (wMa_own w hw)) tyX10 tyX10_ok nmX10 hown hK hP hD hS 0 rfl rfl 1 (by decide) (hts _ (hin _ mf_7)) (fun _ h9 => h9) rfl hin2 rfl (by decide +kernel) rfl rfl (Nat.le_of_ble_eq_true rfl) dX10_init_9 (fun H locs hP hD hS => ?_)
  have hP : va_P D vwCl (wMc 1 cI cZ h (va_up ad 1 q) mS0) H := hP
  have hD : va_D A (wMc 1 cI cZ h (va_up ad 1 q) mS0) := hD
  generalize va_up ad 1 q = ad at hP hD
  refine lv_aload_n hx hb dX10_init_12 rfl (lv_at hl 0 rfl) ?_
  refine lv_bipush (v := (40 : Int32)) hx hb dX10_init_13 (by decide) ?_
  refine va_newa (atype := .int) (ty := .int) (N' := 40) (a0 := (40, .inl (fun _ => 0))) hx hb (hts _ (hin _ mo_5)) rfl hK hP hD hS hA (fun _ => rfl) (by decide) rfl (by decide) (Nat.le_of_ble_eq_true rfl) (Nat.le_of_ble_eq_true rfl) dX10_init_15 (fun q cA H hK2 hP hD hS => ?_)
  obtain rfl : cI = cA := Option.some.inj ((hK.2 0 (cI, .int) rfl).2.symm.trans (hK2.2 2 (cA, .int) rfl).2)
  clear hK2
  refine W.widen (k := 2) (n := 80) (Nat.le_of_ble_eq_true rfl) (Nat.le_of_ble_eq_true rfl) ?_
  refine va_putF (D := D) (ci := 10) (v := .ref q) (ty := .array .int) (C := RX10) (T := TX10) (N := 49) hx hb hts (fun w hw => hin w (wMa_own w hw)) tyX10 tyX10_ok nmX10 hown hK hP hD hS 0 rfl rfl 2 (by decide) (hts _ (hin _ mf_13)) (fun _ h9 => h9) rfl hin2 rfl (by decide +kernel) rfl rfl (Nat.le_of_ble_eq_true rfl) dX10_init_17 (fun H locs hP hD hS => ?_)
  have hP : va_P D vwCl (wMc 2 cI cZ h (va_up ad 2 q) mS0) H := hP
  have hD : va_D A (wMc 2 cI cZ h (va_up ad 2 q) mS0) := hD
  generalize va_up ad 2 q = ad at hP hD
  refine lv_aload_n hx hb dX10_init_20 rfl (lv_at hl 0 rfl) ?_
  refine lv_bipush (v := (40 : Int32)) hx hb dX10_init_21 (by decide) ?_
  refine va_newa (atype := .int) (ty := .int) (N' := 40) (a0 := (40, .inl (fun _ => 0))) hx hb (hts _ (hin _ mo_5)) rfl hK hP hD hS hA (fun _ => rfl) (by decide) rfl (by decide) (Nat.le_of_ble_eq_true rfl) (Nat.le_of_ble_eq_true rfl) dX10_init_23 (fun q cA H hK2 hP hD hS => ?_)
  obtain rfl : cI = cA := Option.some.inj ((hK.2 0 (cI, .int) rfl).2.symm.trans (hK2.2 2 (cA, .int) rfl).2)
  clear hK2
  refine W.widen (k := 3) (n := 120) (Nat.le_of_ble_eq_true rfl) (Nat.le_of_ble_eq_true rfl) ?_
  refine va_putF (D := D) (ci := 10) (v := .ref q) (ty := .array .int) (C := RX10) (T := TX10) (N := 49) hx hb hts (fun w hw => hin w (wMa_own w hw)) tyX10 tyX10_ok nmX10 hown hK hP hD hS 0 rfl rfl 3 (by decide) (hts _ (hin _ mf_17)) (fun _ h9 => h9) rfl hin2 rfl (by decide +kernel) rfl rfl (Nat.le_of_ble_eq_true rfl) dX10_init_25 (fun H locs hP hD hS => ?_)
  have hP : va_P D vwCl (wMc 3 cI cZ h (va_up ad 3 q) mS0) H := hP
  have hD : va_D A (wMc 3 cI cZ h (va_up ad 3 q) mS0) := hD
  generalize va_up ad 3 q = ad at hP hD
  refine lv_aload_n hx hb dX10_init_28 rfl (lv_at hl 0 rfl) ?_
  refine lv_bipush (v := (40 : Int32)) hx hb dX10_init_29 (by decide) ?_
  refine va_newa (atype := .int) (ty := .int) (N' := 40) (a0 := (40, .inl (fun _ => 0))) hx hb (hts _ (hin _ mo_5)) rfl hK hP hD hS hA (fun _ => rfl) (by decide) rfl (by decide) (Nat.le_of_ble_eq_true rfl) (Nat.le_of_ble_eq_true rfl) dX10_init_31 (fun q cA H hK2 hP hD hS => ?_)
  obtain rfl : cI = cA := Option.some.inj ((hK.2 0 (cI, .int) rfl).2.symm.trans (hK2.2 2 (cA, .int) rfl).2)
  clear hK2
  refine W.widen (k := 4) (n := 160) (Nat.le_of_ble_eq_true rfl) (Nat.le_of_ble_eq_true rfl) ?_
  refine va_putF (D := D) (ci := 10) (v := .ref q) (ty := .array .int) (C := RX10) (T := TX10) (N := 49) hx hb hts (fun w hw => hin w (wMa_own w hw)) tyX10 tyX10_ok nmX10 hown hK hP hD hS 0 rfl rfl 4 (by decide) (hts _ (hin _ mf_20)) (fun _ h9 => h9) rfl hin2 rfl (by decide +kernel) rfl rfl (Nat.le_of_ble_eq_true rfl) dX10_init_33 (fun H locs hP hD hS => ?_)
  have hP : va_P D vwCl (wMc 4 cI cZ h (va_up ad 4 q) mS0) H := hP
  have hD : va_D A (wMc 4 cI cZ h (va_up ad 4 q) mS0) := hD
  generalize va_up ad 4 q = ad at hP hD
  refine lv_aload_n hx hb dX10_init_36 rfl (lv_at hl 0 rfl) ?_
  refine lv_sipush (v := (4800 : Int32)) hx hb dX10_init_37 (by decide) ?_
  refine va_newa (atype := .int) (ty := .int) (N' := 4800) (a0 := (4800, .inl (fun _ => 0))) hx hb (hts _ (hin _ mo_5)) rfl hK hP hD hS hA (fun _ => rfl) (by decide) rfl (by decide) (Nat.le_of_ble_eq_true rfl) (Nat.le_of_ble_eq_true rfl) dX10_init_40 (fun q cA H hK2 hP hD hS => ?_)
  obtain rfl : cI = cA := Option.some.inj ((hK.2 0 (cI, .int) rfl).2.symm.trans (hK2.2 2 (cA, .int) rfl).2)
  clear hK2
  refine W.widen (k := 5) (n := 4960) (Nat.le_of_ble_eq_true rfl) (Nat.le_of_ble_eq_true rfl) ?_
  refine va_putF (D := D) (ci := 10) (v := .ref q) (ty := .array .int) (C := RX10) (T := TX10) (N := 49) hx hb hts (fun w hw => hin w (wMa_own w hw)) tyX10 tyX10_ok nmX10 hown hK hP hD hS 0 rfl rfl 5 (by decide) (hts _ (hin _ mf_23)) (fun _ h9 => h9) rfl hin2 rfl (by decide +kernel) rfl rfl (Nat.le_of_ble_eq_true rfl) dX10_init_42 (fun H locs hP hD hS => ?_)
  have hP : va_P D vwCl (wMc 5 cI cZ h (va_up ad 5 q) mS0) H := hP
  have hD : va_D A (wMc 5 cI cZ h (va_up ad 5 q) mS0) := hD
  generalize va_up ad 5 q = ad at hP hD
  refine lv_aload_n hx hb dX10_init_45 rfl (lv_at hl 0 rfl) ?_
  refine lv_bipush (v := (30 : Int32)) hx hb dX10_init_46 (by decide) ?_
  refine va_newa (atype := .boolean) (ty := .boolean) (N' := 30) (a0 := (30, .inl (fun _ => 0))) hx hb (hts _ (hin _ mo_3)) rfl hK hP hD hS hA (fun _ => rfl) (by decide) rfl (by decide) (Nat.le_of_ble_eq_true rfl) (Nat.le_of_ble_eq_true rfl) dX10_init_48 (fun q cA H hK2 hP hD hS => ?_)
  obtain rfl : cZ = cA := Option.some.inj ((hK.2 1 (cZ, .boolean) rfl).2.symm.trans (hK2.2 2 (cA, .boolean) rfl).2)
  clear hK2
  refine W.widen (k := 6) (n := 4990) (Nat.le_of_ble_eq_true rfl) (Nat.le_of_ble_eq_true rfl) ?_
  refine va_putF (D := D) (ci := 10) (v := .ref q) (ty := .array .boolean) (C := RX10) (T := TX10) (N := 49) hx hb hts (fun w hw => hin w (wMa_own w hw)) tyX10 tyX10_ok nmX10 hown hK hP hD hS 0 rfl rfl 7 (by decide) (hts _ (hin _ mf_26)) (fun _ h9 => h9) rfl hin2 rfl (by decide +kernel) rfl rfl (Nat.le_of_ble_eq_true rfl) dX10_init_50 (fun H locs hP hD hS => ?_)
  have hP : va_P D vwCl (wMc 6 cI cZ h (va_up ad 7 q) mS0) H := hP
  have hD : va_D A (wMc 6 cI cZ h (va_up ad 7 q) mS0) := hD
  generalize va_up ad 7 q = ad at hP hD
  refine lv_aload_n hx hb dX10_init_53 rfl (lv_at hl 0 rfl) ?_
  refine lv_bipush (v := (30 : Int32)) hx hb dX10_init_54 (by decide) ?_
  refine va_newa (atype := .int) (ty := .int) (N' := 30) (a0 := (30, .inl (fun _ => 0))) hx hb (hts _ (hin _ mo_5)) rfl hK hP hD hS hA (fun _ => rfl) (by decide) rfl (by decide) (Nat.le_of_ble_eq_true rfl) (Nat.le_of_ble_eq_true rfl) dX10_init_56 (fun q cA H hK2 hP hD hS => ?_)
  obtain rfl : cI = cA := Option.some.inj ((hK.2 0 (cI, .int) rfl).2.symm.trans (hK2.2 2 (cA, .int) rfl).2)
  clear hK2
  refine W.widen (k := 7) (n := 5020) (Nat.le_of_ble_eq_true rfl) (Nat.le_of_ble_eq_true rfl) ?_
  refine va_putF (D := D) (ci := 10) (v := .ref q) (ty := .array .int) (C := RX10) (T := TX10) (N := 49) hx hb hts (fun w hw => hin w (wMa_own w hw)) tyX10 tyX10_ok nmX10 hown hK hP hD hS 0 rfl rfl 8 (by decide) (hts _ (hin _ mf_29)) (fun _ h9 => h9) rfl hin2 rfl (by decide +kernel) rfl rfl (Nat.le_of_ble_eq_true rfl) dX10_init_58 (fun H locs hP hD hS => ?_)
  have hP : va_P D vwCl (wMc 7 cI cZ h (va_up ad 8 q) mS0) H := hP
  have hD : va_D A (wMc 7 cI cZ h (va_up ad 8 q) mS0) := hD
  generalize va_up ad 8 q = ad at hP hD
  refine lv_aload_n hx hb dX10_init_61 rfl (lv_at hl 0 rfl) ?_
  refine lv_bipush (v := (30 : Int32)) hx hb dX10_init_62 (by decide) ?_
  refine va_newa (atype := .int) (ty := .int) (N' := 30) (a0 := (30, .inl (fun _ => 0))) hx hb (hts _ (hin _ mo_5)) rfl hK hP hD hS hA (fun _ => rfl) (by decide) rfl (by decide) (Nat.le_of_ble_eq_true rfl) (Nat.le_of_ble_eq_true rfl) dX10_init_64 (fun q cA H hK2 hP hD hS => ?_)
  obtain rfl : cI = cA := Option.some.inj ((hK.2 0 (cI, .int) rfl).2.symm.trans (hK2.2 2 (cA, .int) rfl).2)
  clear hK2
  refine W.widen (k := 8) (n := 5050) (Nat.le_of_ble_eq_true rfl) (Nat.le_of_ble_eq_true rfl) ?_
  refine va_putF (D := D) (ci := 10) (v := .ref q) (ty := .array .int) (C := RX10) (T := TX10) (N := 49) hx hb hts (fun w hw => hin w (wMa_own w hw)) tyX10 tyX10_ok nmX10 hown hK hP hD hS 0 rfl rfl 9 (by decide) (hts _ (hin _ mf_32)) (fun _ h9 => h9) rfl hin2 rfl (by decide +kernel) rfl rfl (Nat.le_of_ble_eq_true rfl) dX10_init_66 (fun H locs hP hD hS => ?_)
  have hP : va_P D vwCl (wMc 8 cI cZ h (va_up ad 9 q) mS0) H := hP
  have hD : va_D A (wMc 8 cI cZ h (va_up ad 9 q) mS0) := hD
  generalize va_up ad 9 q = ad at hP hD
  refine lv_aload_n hx hb dX10_init_69 rfl (lv_at hl 0 rfl) ?_
  refine lv_bipush (v := (30 : Int32)) hx hb dX10_init_70 (by decide) ?_
  refine va_newa (atype := .int) (ty := .int) (N' := 30) (a0 := (30, .inl (fun _ => 0))) hx hb (hts _ (hin _ mo_5)) rfl hK hP hD hS hA (fun _ => rfl) (by decide) rfl (by decide) (Nat.le_of_ble_eq_true rfl) (Nat.le_of_ble_eq_true rfl) dX10_init_72 (fun q cA H hK2 hP hD hS => ?_)
  obtain rfl : cI = cA := Option.some.inj ((hK.2 0 (cI, .int) rfl).2.symm.trans (hK2.2 2 (cA, .int) rfl).2)
  clear hK2
  refine W.widen (k := 9) (n := 5080) (Nat.le_of_ble_eq_true rfl) (Nat.le_of_ble_eq_true rfl) ?_
  refine va_putF (D := D) (ci := 10) (v := .ref q) (ty := .array .int) (C := RX10) (T := TX10) (N := 49) hx hb hts (fun w hw => hin w (wMa_own w hw)) tyX10 tyX10_ok nmX10 hown hK hP hD hS 0 rfl rfl 10 (by decide) (hts _ (hin _ mf_35)) (fun _ h9 => h9) rfl hin2 rfl (by decide +kernel) rfl rfl (Nat.le_of_ble_eq_true rfl) dX10_init_74 (fun H locs hP hD hS => ?_)
  have hP : va_P D vwCl (wMc 9 cI cZ h (va_up ad 10 q) mS0) H := hP
  have hD : va_D A (wMc 9 cI cZ h (va_up ad 10 q) mS0) := hD
  generalize va_up ad 10 q = ad at hP hD
  refine lv_aload_n hx hb dX10_init_77 rfl (lv_at hl 0 rfl) ?_
  refine lv_bipush (v := (30 : Int32)) hx hb dX10_init_78 (by decide) ?_
  refine va_newa (atype := .int) (ty := .int) (N' := 30) (a0 := (30, .inl (fun _ => 0))) hx hb (hts _ (hin _ mo_5)) rfl hK hP hD hS hA (fun _ => rfl) (by decide) rfl (by decide) (Nat.le_of_ble_eq_true rfl) (Nat.le_of_ble_eq_true rfl) dX10_init_80 (fun q cA H hK2 hP hD hS => ?_)
  obtain rfl : cI = cA := Option.some.inj ((hK.2 0 (cI, .int) rfl).2.symm.trans (hK2.2 2 (cA, .int) rfl).2)
  clear hK2
  refine W.widen (k := 10) (n := 5110) (Nat.le_of_ble_eq_true rfl) (Nat.le_of_ble_eq_true rfl) ?_
  refine va_putF (D := D) (ci := 10) (v := .ref q) (ty := .array .int) (C := RX10) (T := TX10) (N := 49) hx hb hts (fun w hw => hin w (wMa_own w hw)) tyX10 tyX10_ok nmX10 hown hK hP hD hS 0 rfl rfl 11 (by decide) (hts _ (hin _ mf_38)) (fun _ h9 => h9) rfl hin2 rfl (by decide +kernel) rfl rfl (Nat.le_of_ble_eq_true rfl) dX10_init_82 (fun H locs hP hD hS => ?_)
  have hP : va_P D vwCl (wMc 10 cI cZ h (va_up ad 11 q) mS0) H := hP
  have hD : va_D A (wMc 10 cI cZ h (va_up ad 11 q) mS0) := hD
  generalize va_up ad 11 q = ad at hP hD
  refine lv_aload_n hx hb dX10_init_85 rfl (lv_at hl 0 rfl) ?_
  refine lv_bipush (v := (30 : Int32)) hx hb dX10_init_86 (by decide) ?_
  refine va_newa (atype := .int) (ty := .int) (N' := 30) (a0 := (30, .inl (fun _ => 0))) hx hb (hts _ (hin _ mo_5)) rfl hK hP hD hS hA (fun _ => rfl) (by decide) rfl (by decide) (Nat.le_of_ble_eq_true rfl) (Nat.le_of_ble_eq_true rfl) dX10_init_88 (fun q cA H hK2 hP hD hS => ?_)
  obtain rfl : cI = cA := Option.some.inj ((hK.2 0 (cI, .int) rfl).2.symm.trans (hK2.2 2 (cA, .int) rfl).2)
  clear hK2
  refine W.widen (k := 11) (n := 5140) (Nat.le_of_ble_eq_true rfl) (Nat.le_of_ble_eq_true rfl) ?_
  refine va_putF (D := D) (ci := 10) (v := .ref q) (ty := .array .int) (C := RX10) (T := TX10) (N := 49) hx hb hts (fun w hw => hin w (wMa_own w hw)) tyX10 tyX10_ok nmX10 hown hK hP hD hS 0 rfl rfl 12 (by decide) (hts _ (hin _ mf_41)) (fun _ h9 => h9) rfl hin2 rfl (by decide +kernel) rfl rfl (Nat.le_of_ble_eq_true rfl) dX10_init_90 (fun H locs hP hD hS => ?_)
  have hP : va_P D vwCl (wMc 11 cI cZ h (va_up ad 12 q) mS0) H := hP
  have hD : va_D A (wMc 11 cI cZ h (va_up ad 12 q) mS0) := hD
  generalize va_up ad 12 q = ad at hP hD
  refine lv_aload_n hx hb dX10_init_93 rfl (lv_at hl 0 rfl) ?_
  refine lv_bipush (v := (30 : Int32)) hx hb dX10_init_94 (by decide) ?_
  refine va_newa (atype := .int) (ty := .int) (N' := 30) (a0 := (30, .inl (fun _ => 0))) hx hb (hts _ (hin _ mo_5)) rfl hK hP hD hS hA (fun _ => rfl) (by decide) rfl (by decide) (Nat.le_of_ble_eq_true rfl) (Nat.le_of_ble_eq_true rfl) dX10_init_96 (fun q cA H hK2 hP hD hS => ?_)
  obtain rfl : cI = cA := Option.some.inj ((hK.2 0 (cI, .int) rfl).2.symm.trans (hK2.2 2 (cA, .int) rfl).2)
  clear hK2
  refine W.widen (k := 12) (n := 5170) (Nat.le_of_ble_eq_true rfl) (Nat.le_of_ble_eq_true rfl) ?_
  refine va_putF (D := D) (ci := 10) (v := .ref q) (ty := .array .int) (C := RX10) (T := TX10) (N := 49) hx hb hts (fun w hw => hin w (wMa_own w hw)) tyX10 tyX10_ok nmX10 hown hK hP hD hS 0 rfl rfl 13 (by decide) (hts _ (hin _ mf_44)) (fun _ h9 => h9) rfl hin2 rfl (by decide +kernel) rfl rfl (Nat.le_of_ble_eq_true rfl) dX10_init_98 (fun H locs hP hD hS => ?_)
  have hP : va_P D vwCl (wMc 12 cI cZ h (va_up ad 13 q) mS0) H := hP
  have hD : va_D A (wMc 12 cI cZ h (va_up ad 13 q) mS0) := hD
  generalize va_up ad 13 q = ad at hP hD
  refine lv_aload_n hx hb dX10_init_101 rfl (lv_at hl 0 rfl) ?_
  refine lv_sipush (v := (3600 : Int32)) hx hb dX10_init_102 (by decide) ?_
  refine va_newa (atype := .int) (ty := .int) (N' := 3600) (a0 := (3600, .inl (fun _ => 0))) hx hb (hts _ (hin _ mo_5)) rfl hK hP hD hS hA (fun _ => rfl) (by decide) rfl (by decide) (Nat.le_of_ble_eq_true rfl) (Nat.le_of_ble_eq_true rfl) dX10_init_105 (fun q cA H hK2 hP hD hS => ?_)
  obtain rfl : cI = cA := Option.some.inj ((hK.2 0 (cI, .int) rfl).2.symm.trans (hK2.2 2 (cA, .int) rfl).2)
  clear hK2
  refine W.widen (k := 13) (n := 8770) (Nat.le_of_ble_eq_true rfl) (Nat.le_of_ble_eq_true rfl) ?_
  refine va_putF (D := D) (ci := 10) (v := .ref q) (ty := .array .int) (C := RX10) (T := TX10) (N := 49) hx hb hts (fun w hw => hin w (wMa_own w hw)) tyX10 tyX10_ok nmX10 hown hK hP hD hS 0 rfl rfl 14 (by decide) (hts _ (hin _ mf_47)) (fun _ h9 => h9) rfl hin2 rfl (by decide +kernel) rfl rfl (Nat.le_of_ble_eq_true rfl) dX10_init_107 (fun H locs hP hD hS => ?_)
  have hP : va_P D vwCl (wMc 13 cI cZ h (va_up ad 14 q) mS0) H := hP
  have hD : va_D A (wMc 13 cI cZ h (va_up ad 14 q) mS0) := hD
  generalize va_up ad 14 q = ad at hP hD
  refine lv_aload_n hx hb dX10_init_110 rfl (lv_at hl 0 rfl) ?_
  refine lv_bipush (v := (30 : Int32)) hx hb dX10_init_111 (by decide) ?_
  refine va_newa (atype := .boolean) (ty := .boolean) (N' := 30) (a0 := (30, .inl (fun _ => 0))) hx hb (hts _ (hin _ mo_3)) rfl hK hP hD hS hA (fun _ => rfl) (by decide) rfl (by decide) (Nat.le_of_ble_eq_true rfl) (Nat.le_of_ble_eq_true rfl) dX10_init_113 (fun q cA H hK2 hP hD hS => ?_)
  obtain rfl : cZ = cA := Option.some.inj ((hK.2 1 (cZ, .boolean) rfl).2.symm.trans (hK2.2 2 (cA, .boolean) rfl).2)
  clear hK2
  refine W.widen (k := 14) (n := 8800) (Nat.le_of_ble_eq_true rfl) (Nat.le_of_ble_eq_true rfl) ?_
  refine va_putF (D := D) (ci := 10) (v := .ref q) (ty := .array .boolean) (C := RX10) (T := TX10) (N := 49) hx hb hts (fun w hw => hin w (wMa_own w hw)) tyX10 tyX10_ok nmX10 hown hK hP hD hS 0 rfl rfl 15 (by decide) (hts _ (hin _ mf_50)) (fun _ h9 => h9) rfl hin2 rfl (by decide +kernel) rfl rfl (Nat.le_of_ble_eq_true rfl) dX10_init_115 (fun H locs hP hD hS => ?_)
  have hP : va_P D vwCl (wMc 14 cI cZ h (va_up ad 15 q) mS0) H := hP
  have hD : va_D A (wMc 14 cI cZ h (va_up ad 15 q) mS0) := hD
  generalize va_up ad 15 q = ad at hP hD
  refine lv_aload_n hx hb dX10_init_118 rfl (lv_at hl 0 rfl) ?_
  refine lv_bipush (v := (30 : Int32)) hx hb dX10_init_119 (by decide) ?_
  refine va_newa (atype := .int) (ty := .int) (N' := 30) (a0 := (30, .inl (fun _ => 0))) hx hb (hts _ (hin _ mo_5)) rfl hK hP hD hS hA (fun _ => rfl) (by decide) rfl (by decide) (Nat.le_of_ble_eq_true rfl) (Nat.le_of_ble_eq_true rfl) dX10_init_121 (fun q cA H hK2 hP hD hS => ?_)
  obtain rfl : cI = cA := Option.some.inj ((hK.2 0 (cI, .int) rfl).2.symm.trans (hK2.2 2 (cA, .int) rfl).2)
  clear hK2
  refine W.widen (k := 15) (n := 8830) (Nat.le_of_ble_eq_true rfl) (Nat.le_of_ble_eq_true rfl) ?_
  refine va_putF (D := D) (ci := 10) (v := .ref q) (ty := .array .int) (C := RX10) (T := TX10) (N := 49) hx hb hts (fun w hw => hin w (wMa_own w hw)) tyX10 tyX10_ok nmX10 hown hK hP hD hS 0 rfl rfl 16 (by decide) (hts _ (hin _ mf_53)) (fun _ h9 => h9) rfl hin2 rfl (by decide +kernel) rfl rfl (Nat.le_of_ble_eq_true rfl) dX10_init_123 (fun H locs hP hD hS => ?_)
  have hP : va_P D vwCl (wMc 15 cI cZ h (va_up ad 16 q) mS0) H := hP
  have hD : va_D A (wMc 15 cI cZ h (va_up ad 16 q) mS0) := hD
  generalize va_up ad 16 q = ad at hP hD
  refine lv_aload_n hx hb dX10_init_126 rfl (lv_at hl 0 rfl) ?_
  refine lv_bipush (v := (30 : Int32)) hx hb dX10_init_127 (by decide) ?_
  refine va_newa (atype := .int) (ty := .int) (N' := 30) (a0 := (30, .inl (fun _ => 0))) hx hb (hts _ (hin _ mo_5)) rfl hK hP hD hS hA (fun _ => rfl) (by decide) rfl (by decide) (Nat.le_of_ble_eq_true rfl) (Nat.le_of_ble_eq_true rfl) dX10_init_129 (fun q cA H hK2 hP hD hS => ?_)
  obtain rfl : cI = cA := Option.some.inj ((hK.2 0 (cI, .int) rfl).2.symm.trans (hK2.2 2 (cA, .int) rfl).2)
  clear hK2
  refine W.widen (k := 16) (n := 8860) (Nat.le_of_ble_eq_true rfl) (Nat.le_of_ble_eq_true rfl) ?_
  refine va_putF (D := D) (ci := 10) (v := .ref q) (ty := .array .int) (C := RX10) (T := TX10) (N := 49) hx hb hts (fun w hw => hin w (wMa_own w hw)) tyX10 tyX10_ok nmX10 hown hK hP hD hS 0 rfl rfl 17 (by decide) (hts _ (hin _ mf_56)) (fun _ h9 => h9) rfl hin2 rfl (by decide +kernel) rfl rfl (Nat.le_of_ble_eq_true rfl) dX10_init_131 (fun H locs hP hD hS => ?_)
  have hP : va_P D vwCl (wMc 16 cI cZ h (va_up ad 17 q) mS0) H := hP
  have hD : va_D A (wMc 16 cI cZ h (va_up ad 17 q) mS0) := hD
  generalize va_up ad 17 q = ad at hP hD
  refine lv_aload_n hx hb dX10_init_134 rfl (lv_at hl 0 rfl) ?_
  refine lv_sipush (v := (3600 : Int32)) hx hb dX10_init_135 (by decide) ?_
  refine va_newa (atype := .int) (ty := .int) (N' := 3600) (a0 := (3600, .inl (fun _ => 0))) hx hb (hts _ (hin _ mo_5)) rfl hK hP hD hS hA (fun _ => rfl) (by decide) rfl (by decide) (Nat.le_of_ble_eq_true rfl) (Nat.le_of_ble_eq_true rfl) dX10_init_138 (fun q cA H hK2 hP hD hS => ?_)
  obtain rfl : cI = cA := Option.some.inj ((hK.2 0 (cI, .int) rfl).2.symm.trans (hK2.2 2 (cA, .int) rfl).2)
  clear hK2
  refine W.widen (k := 17) (n := 12460) (Nat.le_of_ble_eq_true rfl) (Nat.le_of_ble_eq_true rfl) ?_
  refine va_putF (D := D) (ci := 10) (v := .ref q) (ty := .array .int) (C := RX10) (T := TX10) (N := 49) hx hb hts (fun w hw => hin w (wMa_own w hw)) tyX10 tyX10_ok nmX10 hown hK hP hD hS 0 rfl rfl 18 (by decide) (hts _ (hin _ mf_59)) (fun _ h9 => h9) rfl hin2 rfl (by decide +kernel) rfl rfl (Nat.le_of_ble_eq_true rfl) dX10_init_140 (fun H locs hP hD hS => ?_)
  have hP : va_P D vwCl (wMc 17 cI cZ h (va_up ad 18 q) mS0) H := hP
  have hD : va_D A (wMc 17 cI cZ h (va_up ad 18 q) mS0) := hD
  generalize va_up ad 18 q = ad at hP hD
  refine lv_aload_n hx hb dX10_init_143 rfl (lv_at hl 0 rfl) ?_
  refine lv_bipush (v := (30 : Int32)) hx hb dX10_init_144 (by decide) ?_
  refine va_newa (atype := .int) (ty := .int) (N' := 30) (a0 := (30, .inl (fun _ => 0))) hx hb (hts _ (hin _ mo_5)) rfl hK hP hD hS hA (fun _ => rfl) (by decide) rfl (by decide) (Nat.le_of_ble_eq_true rfl) (Nat.le_of_ble_eq_true rfl) dX10_init_146 (fun q cA H hK2 hP hD hS => ?_)
  obtain rfl : cI = cA := Option.some.inj ((hK.2 0 (cI, .int) rfl).2.symm.trans (hK2.2 2 (cA, .int) rfl).2)
  clear hK2
  refine W.widen (k := 18) (n := 12490) (Nat.le_of_ble_eq_true rfl) (Nat.le_of_ble_eq_true rfl) ?_
  refine va_putF (D := D) (ci := 10) (v := .ref q) (ty := .array .int) (C := RX10) (T := TX10) (N := 49) hx hb hts (fun w hw => hin w (wMa_own w hw)) tyX10 tyX10_ok nmX10 hown hK hP hD hS 0 rfl rfl 19 (by decide) (hts _ (hin _ mf_62)) (fun _ h9 => h9) rfl hin2 rfl (by decide +kernel) rfl rfl (Nat.le_of_ble_eq_true rfl) dX10_init_148 (fun H locs hP hD hS => ?_)
  have hP : va_P D vwCl (wMc 18 cI cZ h (va_up ad 19 q) mS0) H := hP
  have hD : va_D A (wMc 18 cI cZ h (va_up ad 19 q) mS0) := hD
  generalize va_up ad 19 q = ad at hP hD
  refine lv_aload_n hx hb dX10_init_151 rfl (lv_at hl 0 rfl) ?_
  refine lv_bipush (v := (30 : Int32)) hx hb dX10_init_152 (by decide) ?_
  refine va_newa (atype := .int) (ty := .int) (N' := 30) (a0 := (30, .inl (fun _ => 0))) hx hb (hts _ (hin _ mo_5)) rfl hK hP hD hS hA (fun _ => rfl) (by decide) rfl (by decide) (Nat.le_of_ble_eq_true rfl) (Nat.le_of_ble_eq_true rfl) dX10_init_154 (fun q cA H hK2 hP hD hS => ?_)
  obtain rfl : cI = cA := Option.some.inj ((hK.2 0 (cI, .int) rfl).2.symm.trans (hK2.2 2 (cA, .int) rfl).2)
  clear hK2
  refine W.widen (k := 19) (n := 12520) (Nat.le_of_ble_eq_true rfl) (Nat.le_of_ble_eq_true rfl) ?_
  refine va_putF (D := D) (ci := 10) (v := .ref q) (ty := .array .int) (C := RX10) (T := TX10) (N := 49) hx hb hts (fun w hw => hin w (wMa_own w hw)) tyX10 tyX10_ok nmX10 hown hK hP hD hS 0 rfl rfl 20 (by decide) (hts _ (hin _ mf_65)) (fun _ h9 => h9) rfl hin2 rfl (by decide +kernel) rfl rfl (Nat.le_of_ble_eq_true rfl) dX10_init_156 (fun H locs hP hD hS => ?_)
  have hP : va_P D vwCl (wMc 19 cI cZ h (va_up ad 20 q) mS0) H := hP
  have hD : va_D A (wMc 19 cI cZ h (va_up ad 20 q) mS0) := hD
  generalize va_up ad 20 q = ad at hP hD
  refine lv_aload_n hx hb dX10_init_159 rfl (lv_at hl 0 rfl) ?_
  refine lv_iconst (v := (4 : Int32)) hx hb dX10_init_160 (by decide) ?_
  refine va_put (D := D) (ci := 10) (v := .int (4 : Int32)) (ty := .int) (C := RX10) (T := TX10) (N := 49) hx hb hts (fun w hw => hin w (wMa_own w hw)) tyX10 tyX10_ok nmX10 hown hK hP hD hS 0 rfl rfl 21 (by decide) (hts _ (hin _ mf_68)) (fun _ h9 => h9) rfl (by decide +kernel) rfl rfl (Nat.le_of_ble_eq_true rfl) dX10_init_161 (fun H locs hP hD hS => ?_)
  have hP : va_P D vwCl (wMc 19 cI cZ h ad (si mS0 21 (4))) H := hP
  have hD : va_D A (wMc 19 cI cZ h ad (si mS0 21 (4))) := hD
  refine lv_aload_n hx hb dX10_init_164 rfl (lv_at hl 0 rfl) ?_
  refine lv_iconst (v := (2 : Int32)) hx hb dX10_init_165 (by decide) ?_
  refine va_put (D := D) (ci := 10) (v := .int (2 : Int32)) (ty := .int) (C := RX10) (T := TX10) (N := 49) hx hb hts (fun w hw => hin w (wMa_own w hw)) tyX10 tyX10_ok nmX10 hown hK hP hD hS 0 rfl rfl 22 (by decide) (hts _ (hin _ mf_72)) (fun _ h9 => h9) rfl (by decide +kernel) rfl rfl (Nat.le_of_ble_eq_true rfl) dX10_init_166 (fun H locs hP hD hS => ?_)
  have hP : va_P D vwCl (wMc 19 cI cZ h ad (si (si mS0 21 (4)) 22 (2))) H := hP
  have hD : va_D A (wMc 19 cI cZ h ad (si (si mS0 21 (4)) 22 (2))) := hD
  refine lv_aload_n hx hb dX10_init_169 rfl (lv_at hl 0 rfl) ?_
  refine lv_iconst (v := (2 : Int32)) hx hb dX10_init_170 (by decide) ?_
  refine va_put (D := D) (ci := 10) (v := .int (2 : Int32)) (ty := .int) (C := RX10) (T := TX10) (N := 49) hx hb hts (fun w hw => hin w (wMa_own w hw)) tyX10 tyX10_ok nmX10 hown hK hP hD hS 0 rfl rfl 23 (by decide) (hts _ (hin _ mf_75)) (fun _ h9 => h9) rfl (by decide +kernel) rfl rfl (Nat.le_of_ble_eq_true rfl) dX10_init_171 (fun H locs hP hD hS => ?_)
  have hP : va_P D vwCl (wMc 19 cI cZ h ad (si (si (si mS0 21 (4)) 22 (2)) 23 (2))) H := hP
  have hD : va_D A (wMc 19 cI cZ h ad (si (si (si mS0 21 (4)) 22 (2)) 23 (2))) := hD
  refine lv_aload_n hx hb dX10_init_174 rfl (lv_at hl 0 rfl) ?_
  refine lv_iconst (v := (2 : Int32)) hx hb dX10_init_175 (by decide) ?_
  refine va_put (D := D) (ci := 10) (v := .int (2 : Int32)) (ty := .int) (C := RX10) (T := TX10) (N := 49) hx hb hts (fun w hw => hin w (wMa_own w hw)) tyX10 tyX10_ok nmX10 hown hK hP hD hS 0 rfl rfl 25 (by decide) (hts _ (hin _ mf_78)) (fun _ h9 => h9) rfl (by decide +kernel) rfl rfl (Nat.le_of_ble_eq_true rfl) dX10_init_176 (fun H locs hP hD hS => ?_)
  have hP : va_P D vwCl (wMc 19 cI cZ h ad (si (si (si (si mS0 21 (4)) 22 (2)) 23 (2)) 25 (2))) H := hP
  have hD : va_D A (wMc 19 cI cZ h ad (si (si (si (si mS0 21 (4)) 22 (2)) 23 (2)) 25 (2))) := hD
  refine lv_aload_n hx hb dX10_init_179 rfl (lv_at hl 0 rfl) ?_
  refine lv_bipush (v := (10 : Int32)) hx hb dX10_init_180 (by decide) ?_
  refine va_newa (atype := .int) (ty := .int) (N' := 10) (a0 := (10, .inl (fun _ => 0))) hx hb (hts _ (hin _ mo_5)) rfl hK hP hD hS hA (fun _ => rfl) (by decide) rfl (by decide) (Nat.le_of_ble_eq_true rfl) (Nat.le_of_ble_eq_true rfl) dX10_init_182 (fun q cA H hK2 hP hD hS => ?_)
  obtain rfl : cI = cA := Option.some.inj ((hK.2 0 (cI, .int) rfl).2.symm.trans (hK2.2 2 (cA, .int) rfl).2)
  clear hK2
  refine W.widen (k := 20) (n := 12530) (Nat.le_of_ble_eq_true rfl) (Nat.le_of_ble_eq_true rfl) ?_
  refine lv_dup hx hb dX10_init_184 rfl ?_
  refine lv_iconst (v := (0 : Int32)) hx hb dX10_init_185 (by decide) ?_
  refine lv_iconst (v := (-1 : Int32)) hx hb dX10_init_186 (by decide) ?_
  refine va_iast (f := (fun _ => 0)) hx hb hK hP hD hS 20 0 rfl rfl (vp_in_nI (n := 0) (by decide) (by decide)) dX10_init_187 (fun H locs hP hD hS => ?_)
  have hP : va_P D vwCl (wMc 19 cI cZ h ad (si (si (si (si mS0 21 (4)) 22 (2)) 23 (2)) 25 (2)) ++ [(q, .inl (cI, 10, .inl (upd (fun _ => 0) (0 : Int32).toNatClampNeg (-1))))]) H := hP
  have hD : va_D A (wMc 19 cI cZ h ad (si (si (si (si mS0 21 (4)) 22 (2)) 23 (2)) 25 (2)) ++ [(q, .inl (cI, 10, .inl (upd (fun _ => 0) (0 : Int32).toNatClampNeg (-1))))]) := hD
  refine lv_dup hx hb dX10_init_188 rfl ?_
  refine lv_iconst (v := (1 : Int32)) hx hb dX10_init_189 (by decide) ?_
  refine lv_iconst (v := (-1 : Int32)) hx hb dX10_init_190 (by decide) ?_
  refine va_iast (f := (upd (fun _ => 0) (0 : Int32).toNatClampNeg (-1))) hx hb hK hP hD hS 20 0 rfl rfl (vp_in_nI (n := 1) (by decide) (by decide)) dX10_init_191 (fun H locs hP hD hS => ?_)
  have hP : va_P D vwCl (wMc 19 cI cZ h ad (si (si (si (si mS0 21 (4)) 22 (2)) 23 (2)) 25 (2)) ++ [(q, .inl (cI, 10, .inl (upd (upd (fun _ => 0) (0 : Int32).toNatClampNeg (-1)) (1 : Int32).toNatClampNeg (-1))))]) H := hP
  have hD : va_D A (wMc 19 cI cZ h ad (si (si (si (si mS0 21 (4)) 22 (2)) 23 (2)) 25 (2)) ++ [(q, .inl (cI, 10, .inl (upd (upd (fun _ => 0) (0 : Int32).toNatClampNeg (-1)) (1 : Int32).toNatClampNeg (-1))))]) := hD
  refine lv_dup hx hb dX10_init_192 rfl ?_
  refine lv_iconst (v := (2 : Int32)) hx hb dX10_init_193 (by decide) ?_
  refine lv_iconst (v := (-1 : Int32)) hx hb dX10_init_194 (by decide) ?_
  refine va_iast (f := (upd (upd (fun _ => 0) (0 : Int32).toNatClampNeg (-1)) (1 : Int32).toNatClampNeg (-1))) hx hb hK hP hD hS 20 0 rfl rfl (vp_in_nI (n := 2) (by decide) (by decide)) dX10_init_195 (fun H locs hP hD hS => ?_)
  have hP : va_P D vwCl (wMc 19 cI cZ h ad (si (si (si (si mS0 21 (4)) 22 (2)) 23 (2)) 25 (2)) ++ [(q, .inl (cI, 10, .inl (upd (upd (upd (fun _ => 0) (0 : Int32).toNatClampNeg (-1)) (1 : Int32).toNatClampNeg (-1)) (2 : Int32).toNatClampNeg (-1))))]) H := hP
  have hD : va_D A (wMc 19 cI cZ h ad (si (si (si (si mS0 21 (4)) 22 (2)) 23 (2)) 25 (2)) ++ [(q, .inl (cI, 10, .inl (upd (upd (upd (fun _ => 0) (0 : Int32).toNatClampNeg (-1)) (1 : Int32).toNatClampNeg (-1)) (2 : Int32).toNatClampNeg (-1))))]) := hD
  refine lv_dup hx hb dX10_init_196 rfl ?_
  refine lv_iconst (v := (3 : Int32)) hx hb dX10_init_197 (by decide) ?_
  refine lv_iconst (v := (-1 : Int32)) hx hb dX10_init_198 (by decide) ?_
  refine va_iast (f := (upd (upd (upd (fun _ => 0) (0 : Int32).toNatClampNeg (-1)) (1 : Int32).toNatClampNeg (-1)) (2 : Int32).toNatClampNeg (-1))) hx hb hK hP hD hS 20 0 rfl rfl (vp_in_nI (n := 3) (by decide) (by decide)) dX10_init_199 (fun H locs hP hD hS => ?_)
  have hP : va_P D vwCl (wMc 19 cI cZ h ad (si (si (si (si mS0 21 (4)) 22 (2)) 23 (2)) 25 (2)) ++ [(q, .inl (cI, 10, .inl (upd (upd (upd (upd (fun _ => 0) (0 : Int32).toNatClampNeg (-1)) (1 : Int32).toNatClampNeg (-1)) (2 : Int32).toNatClampNeg (-1)) (3 : Int32).toNatClampNeg (-1))))]) H := hP
  have hD : va_D A (wMc 19 cI cZ h ad (si (si (si (si mS0 21 (4)) 22 (2)) 23 (2)) 25 (2)) ++ [(q, .inl (cI, 10, .inl (upd (upd (upd (upd (fun _ => 0) (0 : Int32).toNatClampNeg (-1)) (1 : Int32).toNatClampNeg (-1)) (2 : Int32).toNatClampNeg (-1)) (3 : Int32).toNatClampNeg (-1))))]) := hD
  refine lv_dup hx hb dX10_init_200 rfl ?_
  refine lv_iconst (v := (4 : Int32)) hx hb dX10_init_201 (by decide) ?_
  refine lv_iconst (v := (-1 : Int32)) hx hb dX10_init_202 (by decide) ?_
  refine va_iast (f := (upd (upd (upd (upd (fun _ => 0) (0 : Int32).toNatClampNeg (-1)) (1 : Int32).toNatClampNeg (-1)) (2 : Int32).toNatClampNeg (-1)) (3 : Int32).toNatClampNeg (-1))) hx hb hK hP hD hS 20 0 rfl rfl (vp_in_nI (n := 4) (by decide) (by decide)) dX10_init_203 (fun H locs hP hD hS => ?_)
  have hP : va_P D vwCl (wMc 19 cI cZ h ad (si (si (si (si mS0 21 (4)) 22 (2)) 23 (2)) 25 (2)) ++ [(q, .inl (cI, 10, .inl (upd (upd (upd (upd (upd (fun _ => 0) (0 : Int32).toNatClampNeg (-1)) (1 : Int32).toNatClampNeg (-1)) (2 : Int32).toNatClampNeg (-1)) (3 : Int32).toNatClampNeg (-1)) (4 : Int32).toNatClampNeg (-1))))]) H := hP
  have hD : va_D A (wMc 19 cI cZ h ad (si (si (si (si mS0 21 (4)) 22 (2)) 23 (2)) 25 (2)) ++ [(q, .inl (cI, 10, .inl (upd (upd (upd (upd (upd (fun _ => 0) (0 : Int32).toNatClampNeg (-1)) (1 : Int32).toNatClampNeg (-1)) (2 : Int32).toNatClampNeg (-1)) (3 : Int32).toNatClampNeg (-1)) (4 : Int32).toNatClampNeg (-1))))]) := hD
  refine lv_dup hx hb dX10_init_204 rfl ?_
  refine lv_iconst (v := (5 : Int32)) hx hb dX10_init_205 (by decide) ?_
  refine lv_iconst (v := (-1 : Int32)) hx hb dX10_init_206 (by decide) ?_
  refine va_iast (f := (upd (upd (upd (upd (upd (fun _ => 0) (0 : Int32).toNatClampNeg (-1)) (1 : Int32).toNatClampNeg (-1)) (2 : Int32).toNatClampNeg (-1)) (3 : Int32).toNatClampNeg (-1)) (4 : Int32).toNatClampNeg (-1))) hx hb hK hP hD hS 20 0 rfl rfl (vp_in_nI (n := 5) (by decide) (by decide)) dX10_init_207 (fun H locs hP hD hS => ?_)
  have hP : va_P D vwCl (wMc 19 cI cZ h ad (si (si (si (si mS0 21 (4)) 22 (2)) 23 (2)) 25 (2)) ++ [(q, .inl (cI, 10, .inl (upd (upd (upd (upd (upd (upd (fun _ => 0) (0 : Int32).toNatClampNeg (-1)) (1 : Int32).toNatClampNeg (-1)) (2 : Int32).toNatClampNeg (-1)) (3 : Int32).toNatClampNeg (-1)) (4 : Int32).toNatClampNeg (-1)) (5 : Int32).toNatClampNeg (-1))))]) H := hP
  have hD : va_D A (wMc 19 cI cZ h ad (si (si (si (si mS0 21 (4)) 22 (2)) 23 (2)) 25 (2)) ++ [(q, .inl (cI, 10, .inl (upd (upd (upd (upd (upd (upd (fun _ => 0) (0 : Int32).toNatClampNeg (-1)) (1 : Int32).toNatClampNeg (-1)) (2 : Int32).toNatClampNeg (-1)) (3 : Int32).toNatClampNeg (-1)) (4 : Int32).toNatClampNeg (-1)) (5 : Int32).toNatClampNeg (-1))))]) := hD
  refine lv_dup hx hb dX10_init_208 rfl ?_
  refine lv_bipush (v := (6 : Int32)) hx hb dX10_init_209 (by decide) ?_
  refine lv_iconst (v := (-1 : Int32)) hx hb dX10_init_211 (by decide) ?_
  refine va_iast (f := (upd (upd (upd (upd (upd (upd (fun _ => 0) (0 : Int32).toNatClampNeg (-1)) (1 : Int32).toNatClampNeg (-1)) (2 : Int32).toNatClampNeg (-1)) (3 : Int32).toNatClampNeg (-1)) (4 : Int32).toNatClampNeg (-1)) (5 : Int32).toNatClampNeg (-1))) hx hb hK hP hD hS 20 0 rfl rfl (vp_in_nI (n := 6) (by decide) (by decide)) dX10_init_212 (fun H locs hP hD hS => ?_)
  have hP : va_P D vwCl (wMc 19 cI cZ h ad (si (si (si (si mS0 21 (4)) 22 (2)) 23 (2)) 25 (2)) ++ [(q, .inl (cI, 10, .inl (upd (upd (upd (upd (upd (upd (upd (fun _ => 0) (0 : Int32).toNatClampNeg (-1)) (1 : Int32).toNatClampNeg (-1)) (2 : Int32).toNatClampNeg (-1)) (3 : Int32).toNatClampNeg (-1)) (4 : Int32).toNatClampNeg (-1)) (5 : Int32).toNatClampNeg (-1)) (6 : Int32).toNatClampNeg (-1))))]) H := hP
  have hD : va_D A (wMc 19 cI cZ h ad (si (si (si (si mS0 21 (4)) 22 (2)) 23 (2)) 25 (2)) ++ [(q, .inl (cI, 10, .inl (upd (upd (upd (upd (upd (upd (upd (fun _ => 0) (0 : Int32).toNatClampNeg (-1)) (1 : Int32).toNatClampNeg (-1)) (2 : Int32).toNatClampNeg (-1)) (3 : Int32).toNatClampNeg (-1)) (4 : Int32).toNatClampNeg (-1)) (5 : Int32).toNatClampNeg (-1)) (6 : Int32).toNatClampNeg (-1))))]) := hD
  refine lv_dup hx hb dX10_init_213 rfl ?_
  refine lv_bipush (v := (7 : Int32)) hx hb dX10_init_214 (by decide) ?_
  refine lv_iconst (v := (-1 : Int32)) hx hb dX10_init_216 (by decide) ?_
  refine va_iast (f := (upd (upd (upd (upd (upd (upd (upd (fun _ => 0) (0 : Int32).toNatClampNeg (-1)) (1 : Int32).toNatClampNeg (-1)) (2 : Int32).toNatClampNeg (-1)) (3 : Int32).toNatClampNeg (-1)) (4 : Int32).toNatClampNeg (-1)) (5 : Int32).toNatClampNeg (-1)) (6 : Int32).toNatClampNeg (-1))) hx hb hK hP hD hS 20 0 rfl rfl (vp_in_nI (n := 7) (by decide) (by decide)) dX10_init_217 (fun H locs hP hD hS => ?_)
  have hP : va_P D vwCl (wMc 19 cI cZ h ad (si (si (si (si mS0 21 (4)) 22 (2)) 23 (2)) 25 (2)) ++ [(q, .inl (cI, 10, .inl (upd (upd (upd (upd (upd (upd (upd (upd (fun _ => 0) (0 : Int32).toNatClampNeg (-1)) (1 : Int32).toNatClampNeg (-1)) (2 : Int32).toNatClampNeg (-1)) (3 : Int32).toNatClampNeg (-1)) (4 : Int32).toNatClampNeg (-1)) (5 : Int32).toNatClampNeg (-1)) (6 : Int32).toNatClampNeg (-1)) (7 : Int32).toNatClampNeg (-1))))]) H := hP
  have hD : va_D A (wMc 19 cI cZ h ad (si (si (si (si mS0 21 (4)) 22 (2)) 23 (2)) 25 (2)) ++ [(q, .inl (cI, 10, .inl (upd (upd (upd (upd (upd (upd (upd (upd (fun _ => 0) (0 : Int32).toNatClampNeg (-1)) (1 : Int32).toNatClampNeg (-1)) (2 : Int32).toNatClampNeg (-1)) (3 : Int32).toNatClampNeg (-1)) (4 : Int32).toNatClampNeg (-1)) (5 : Int32).toNatClampNeg (-1)) (6 : Int32).toNatClampNeg (-1)) (7 : Int32).toNatClampNeg (-1))))]) := hD
  refine lv_dup hx hb dX10_init_218 rfl ?_
  refine lv_bipush (v := (8 : Int32)) hx hb dX10_init_219 (by decide) ?_
  refine lv_iconst (v := (-1 : Int32)) hx hb dX10_init_221 (by decide) ?_
  refine va_iast (f := (upd (upd (upd (upd (upd (upd (upd (upd (fun _ => 0) (0 : Int32).toNatClampNeg (-1)) (1 : Int32).toNatClampNeg (-1)) (2 : Int32).toNatClampNeg (-1)) (3 : Int32).toNatClampNeg (-1)) (4 : Int32).toNatClampNeg (-1)) (5 : Int32).toNatClampNeg (-1)) (6 : Int32).toNatClampNeg (-1)) (7 : Int32).toNatClampNeg (-1))) hx hb hK hP hD hS 20 0 rfl rfl (vp_in_nI (n := 8) (by decide) (by decide)) dX10_init_222 (fun H locs hP hD hS => ?_)
  have hP : va_P D vwCl (wMc 19 cI cZ h ad (si (si (si (si mS0 21 (4)) 22 (2)) 23 (2)) 25 (2)) ++ [(q, .inl (cI, 10, .inl (upd (upd (upd (upd (upd (upd (upd (upd (upd (fun _ => 0) (0 : Int32).toNatClampNeg (-1)) (1 : Int32).toNatClampNeg (-1)) (2 : Int32).toNatClampNeg (-1)) (3 : Int32).toNatClampNeg (-1)) (4 : Int32).toNatClampNeg (-1)) (5 : Int32).toNatClampNeg (-1)) (6 : Int32).toNatClampNeg (-1)) (7 : Int32).toNatClampNeg (-1)) (8 : Int32).toNatClampNeg (-1))))]) H := hP
  have hD : va_D A (wMc 19 cI cZ h ad (si (si (si (si mS0 21 (4)) 22 (2)) 23 (2)) 25 (2)) ++ [(q, .inl (cI, 10, .inl (upd (upd (upd (upd (upd (upd (upd (upd (upd (fun _ => 0) (0 : Int32).toNatClampNeg (-1)) (1 : Int32).toNatClampNeg (-1)) (2 : Int32).toNatClampNeg (-1)) (3 : Int32).toNatClampNeg (-1)) (4 : Int32).toNatClampNeg (-1)) (5 : Int32).toNatClampNeg (-1)) (6 : Int32).toNatClampNeg (-1)) (7 : Int32).toNatClampNeg (-1)) (8 : Int32).toNatClampNeg (-1))))]) := hD
  refine lv_dup hx hb dX10_init_223 rfl ?_
  refine lv_bipush (v := (9 : Int32)) hx hb dX10_init_224 (by decide) ?_
  refine lv_iconst (v := (-1 : Int32)) hx hb dX10_init_226 (by decide) ?_
  refine va_iast (f := (upd (upd (upd (upd (upd (upd (upd (upd (upd (fun _ => 0) (0 : Int32).toNatClampNeg (-1)) (1 : Int32).toNatClampNeg (-1)) (2 : Int32).toNatClampNeg (-1)) (3 : Int32).toNatClampNeg (-1)) (4 : Int32).toNatClampNeg (-1)) (5 : Int32).toNatClampNeg (-1)) (6 : Int32).toNatClampNeg (-1)) (7 : Int32).toNatClampNeg (-1)) (8 : Int32).toNatClampNeg (-1))) hx hb hK hP hD hS 20 0 rfl rfl (vp_in_nI (n := 9) (by decide) (by decide)) dX10_init_227 (fun H locs hP hD hS => ?_)
  have hP : va_P D vwCl (wMc 19 cI cZ h ad (si (si (si (si mS0 21 (4)) 22 (2)) 23 (2)) 25 (2)) ++ [(q, .inl (cI, 10, .inl (upd (upd (upd (upd (upd (upd (upd (upd (upd (upd (fun _ => 0) (0 : Int32).toNatClampNeg (-1)) (1 : Int32).toNatClampNeg (-1)) (2 : Int32).toNatClampNeg (-1)) (3 : Int32).toNatClampNeg (-1)) (4 : Int32).toNatClampNeg (-1)) (5 : Int32).toNatClampNeg (-1)) (6 : Int32).toNatClampNeg (-1)) (7 : Int32).toNatClampNeg (-1)) (8 : Int32).toNatClampNeg (-1)) (9 : Int32).toNatClampNeg (-1))))]) H := hP
  have hD : va_D A (wMc 19 cI cZ h ad (si (si (si (si mS0 21 (4)) 22 (2)) 23 (2)) 25 (2)) ++ [(q, .inl (cI, 10, .inl (upd (upd (upd (upd (upd (upd (upd (upd (upd (upd (fun _ => 0) (0 : Int32).toNatClampNeg (-1)) (1 : Int32).toNatClampNeg (-1)) (2 : Int32).toNatClampNeg (-1)) (3 : Int32).toNatClampNeg (-1)) (4 : Int32).toNatClampNeg (-1)) (5 : Int32).toNatClampNeg (-1)) (6 : Int32).toNatClampNeg (-1)) (7 : Int32).toNatClampNeg (-1)) (8 : Int32).toNatClampNeg (-1)) (9 : Int32).toNatClampNeg (-1))))]) := hD
  refine va_putF (D := D) (ci := 10) (v := .ref q) (ty := .array .int) (C := RX10) (T := TX10) (N := 49) hx hb hts (fun w hw => hin w (wMa_own w hw)) tyX10 tyX10_ok nmX10 hown hK hP hD hS 0 rfl rfl 26 (by decide) (hts _ (hin _ mf_81)) (fun _ h9 => h9) rfl hin2 rfl (by decide +kernel) rfl rfl (Nat.le_of_ble_eq_true rfl) dX10_init_228 (fun H locs hP hD hS => ?_)
  have hP : va_P D vwCl (wMc 20 cI cZ h (va_up ad 26 q) (si (si (si (si mS0 21 (4)) 22 (2)) 23 (2)) 25 (2))) H := hP
  have hD : va_D A (wMc 20 cI cZ h (va_up ad 26 q) (si (si (si (si mS0 21 (4)) 22 (2)) 23 (2)) 25 (2))) := hD
  generalize va_up ad 26 q = ad at hP hD
  refine lv_aload_n hx hb dX10_init_231 rfl (lv_at hl 0 rfl) ?_
  refine lv_bipush (v := (10 : Int32)) hx hb dX10_init_232 (by decide) ?_
  refine va_newa (atype := .int) (ty := .int) (N' := 10) (a0 := (10, .inl (fun _ => 0))) hx hb (hts _ (hin _ mo_5)) rfl hK hP hD hS hA (fun _ => rfl) (by decide) rfl (by decide) (Nat.le_of_ble_eq_true rfl) (Nat.le_of_ble_eq_true rfl) dX10_init_234 (fun q cA H hK2 hP hD hS => ?_)
  obtain rfl : cI = cA := Option.some.inj ((hK.2 0 (cI, .int) rfl).2.symm.trans (hK2.2 2 (cA, .int) rfl).2)
  clear hK2
  refine W.widen (k := 21) (n := 12540) (Nat.le_of_ble_eq_true rfl) (Nat.le_of_ble_eq_true rfl) ?_
  refine va_putF (D := D) (ci := 10) (v := .ref q) (ty := .array .int) (C := RX10) (T := TX10) (N := 49) hx hb hts (fun w hw => hin w (wMa_own w hw)) tyX10 tyX10_ok nmX10 hown hK hP hD hS 0 rfl rfl 27 (by decide) (hts _ (hin _ mf_84)) (fun _ h9 => h9) rfl hin2 rfl (by decide +kernel) rfl rfl (Nat.le_of_ble_eq_true rfl) dX10_init_236 (fun H locs hP hD hS => ?_)
  have hP : va_P D vwCl (wMc 21 cI cZ h (va_up ad 27 q) (si (si (si (si mS0 21 (4)) 22 (2)) 23 (2)) 25 (2))) H := hP
  have hD : va_D A (wMc 21 cI cZ h (va_up ad 27 q) (si (si (si (si mS0 21 (4)) 22 (2)) 23 (2)) 25 (2))) := hD
  generalize va_up ad 27 q = ad at hP hD
  refine lv_aload_n hx hb dX10_init_239 rfl (lv_at hl 0 rfl) ?_
  refine lv_iconst (v := (4 : Int32)) hx hb dX10_init_240 (by decide) ?_
  refine va_newa (atype := .int) (ty := .int) (N' := 4) (a0 := (4, .inl (fun _ => 0))) hx hb (hts _ (hin _ mo_5)) rfl hK hP hD hS hA (fun _ => rfl) (by decide) rfl (by decide) (Nat.le_of_ble_eq_true rfl) (Nat.le_of_ble_eq_true rfl) dX10_init_241 (fun q cA H hK2 hP hD hS => ?_)
  obtain rfl : cI = cA := Option.some.inj ((hK.2 0 (cI, .int) rfl).2.symm.trans (hK2.2 2 (cA, .int) rfl).2)
  clear hK2
  refine W.widen (k := 22) (n := 12544) (Nat.le_of_ble_eq_true rfl) (Nat.le_of_ble_eq_true rfl) ?_
  refine va_putF (D := D) (ci := 10) (v := .ref q) (ty := .array .int) (C := RX10) (T := TX10) (N := 49) hx hb hts (fun w hw => hin w (wMa_own w hw)) tyX10 tyX10_ok nmX10 hown hK hP hD hS 0 rfl rfl 28 (by decide) (hts _ (hin _ mf_87)) (fun _ h9 => h9) rfl hin2 rfl (by decide +kernel) rfl rfl (Nat.le_of_ble_eq_true rfl) dX10_init_243 (fun H locs hP hD hS => ?_)
  have hP : va_P D vwCl (wMc 22 cI cZ h (va_up ad 28 q) (si (si (si (si mS0 21 (4)) 22 (2)) 23 (2)) 25 (2))) H := hP
  have hD : va_D A (wMc 22 cI cZ h (va_up ad 28 q) (si (si (si (si mS0 21 (4)) 22 (2)) 23 (2)) 25 (2))) := hD
  generalize va_up ad 28 q = ad at hP hD
  refine lv_aload_n hx hb dX10_init_246 rfl (lv_at hl 0 rfl) ?_
  refine lv_bipush (v := (72 : Int32)) hx hb dX10_init_247 (by decide) ?_
  refine va_newa (atype := .int) (ty := .int) (N' := 72) (a0 := (72, .inl (fun _ => 0))) hx hb (hts _ (hin _ mo_5)) rfl hK hP hD hS hA (fun _ => rfl) (by decide) rfl (by decide) (Nat.le_of_ble_eq_true rfl) (Nat.le_of_ble_eq_true rfl) dX10_init_249 (fun q cA H hK2 hP hD hS => ?_)
  obtain rfl : cI = cA := Option.some.inj ((hK.2 0 (cI, .int) rfl).2.symm.trans (hK2.2 2 (cA, .int) rfl).2)
  clear hK2
  refine W.widen (k := 23) (n := 12616) (Nat.le_of_ble_eq_true rfl) (Nat.le_of_ble_eq_true rfl) ?_
  refine va_putF (D := D) (ci := 10) (v := .ref q) (ty := .array .int) (C := RX10) (T := TX10) (N := 49) hx hb hts (fun w hw => hin w (wMa_own w hw)) tyX10 tyX10_ok nmX10 hown hK hP hD hS 0 rfl rfl 29 (by decide) (hts _ (hin _ mf_90)) (fun _ h9 => h9) rfl hin2 rfl (by decide +kernel) rfl rfl (Nat.le_of_ble_eq_true rfl) dX10_init_251 (fun H locs hP hD hS => ?_)
  have hP : va_P D vwCl (wMc 23 cI cZ h (va_up ad 29 q) (si (si (si (si mS0 21 (4)) 22 (2)) 23 (2)) 25 (2))) H := hP
  have hD : va_D A (wMc 23 cI cZ h (va_up ad 29 q) (si (si (si (si mS0 21 (4)) 22 (2)) 23 (2)) 25 (2))) := hD
  generalize va_up ad 29 q = ad at hP hD
  refine lv_aload_n hx hb dX10_init_254 rfl (lv_at hl 0 rfl) ?_
  refine lv_sipush (v := (130 : Int32)) hx hb dX10_init_255 (by decide) ?_
  refine va_newa (atype := .int) (ty := .int) (N' := 130) (a0 := (130, .inl (fun _ => 0))) hx hb (hts _ (hin _ mo_5)) rfl hK hP hD hS hA (fun _ => rfl) (by decide) rfl (by decide) (Nat.le_of_ble_eq_true rfl) (Nat.le_of_ble_eq_true rfl) dX10_init_258 (fun q cA H hK2 hP hD hS => ?_)
  obtain rfl : cI = cA := Option.some.inj ((hK.2 0 (cI, .int) rfl).2.symm.trans (hK2.2 2 (cA, .int) rfl).2)
  clear hK2
  refine W.widen (k := 24) (n := 12746) (Nat.le_of_ble_eq_true rfl) (Nat.le_of_ble_eq_true rfl) ?_
  refine va_putF (D := D) (ci := 10) (v := .ref q) (ty := .array .int) (C := RX10) (T := TX10) (N := 49) hx hb hts (fun w hw => hin w (wMa_own w hw)) tyX10 tyX10_ok nmX10 hown hK hP hD hS 0 rfl rfl 30 (by decide) (hts _ (hin _ mf_93)) (fun _ h9 => h9) rfl hin2 rfl (by decide +kernel) rfl rfl (Nat.le_of_ble_eq_true rfl) dX10_init_260 (fun H locs hP hD hS => ?_)
  have hP : va_P D vwCl (wMc 24 cI cZ h (va_up ad 30 q) (si (si (si (si mS0 21 (4)) 22 (2)) 23 (2)) 25 (2))) H := hP
  have hD : va_D A (wMc 24 cI cZ h (va_up ad 30 q) (si (si (si (si mS0 21 (4)) 22 (2)) 23 (2)) 25 (2))) := hD
  generalize va_up ad 30 q = ad at hP hD
  refine lv_aload_n hx hb dX10_init_263 rfl (lv_at hl 0 rfl) ?_
  refine lv_bipush (v := (6 : Int32)) hx hb dX10_init_264 (by decide) ?_
  refine va_newa (atype := .int) (ty := .int) (N' := 6) (a0 := (6, .inl (fun _ => 0))) hx hb (hts _ (hin _ mo_5)) rfl hK hP hD hS hA (fun _ => rfl) (by decide) rfl (by decide) (Nat.le_of_ble_eq_true rfl) (Nat.le_of_ble_eq_true rfl) dX10_init_266 (fun q cA H hK2 hP hD hS => ?_)
  obtain rfl : cI = cA := Option.some.inj ((hK.2 0 (cI, .int) rfl).2.symm.trans (hK2.2 2 (cA, .int) rfl).2)
  clear hK2
  refine W.widen (k := 25) (n := 12752) (Nat.le_of_ble_eq_true rfl) (Nat.le_of_ble_eq_true rfl) ?_
  refine va_putF (D := D) (ci := 10) (v := .ref q) (ty := .array .int) (C := RX10) (T := TX10) (N := 49) hx hb hts (fun w hw => hin w (wMa_own w hw)) tyX10 tyX10_ok nmX10 hown hK hP hD hS 0 rfl rfl 32 (by decide) (hts _ (hin _ mf_96)) (fun _ h9 => h9) rfl hin2 rfl (by decide +kernel) rfl rfl (Nat.le_of_ble_eq_true rfl) dX10_init_268 (fun H locs hP hD hS => ?_)
  have hP : va_P D vwCl (wMc 25 cI cZ h (va_up ad 32 q) (si (si (si (si mS0 21 (4)) 22 (2)) 23 (2)) 25 (2))) H := hP
  have hD : va_D A (wMc 25 cI cZ h (va_up ad 32 q) (si (si (si (si mS0 21 (4)) 22 (2)) 23 (2)) 25 (2))) := hD
  generalize va_up ad 32 q = ad at hP hD
  refine lv_aload_n hx hb dX10_init_271 rfl (lv_at hl 0 rfl) ?_
  refine lv_bipush (v := (6 : Int32)) hx hb dX10_init_272 (by decide) ?_
  refine va_newa (atype := .int) (ty := .int) (N' := 6) (a0 := (6, .inl (fun _ => 0))) hx hb (hts _ (hin _ mo_5)) rfl hK hP hD hS hA (fun _ => rfl) (by decide) rfl (by decide) (Nat.le_of_ble_eq_true rfl) (Nat.le_of_ble_eq_true rfl) dX10_init_274 (fun q cA H hK2 hP hD hS => ?_)
  obtain rfl : cI = cA := Option.some.inj ((hK.2 0 (cI, .int) rfl).2.symm.trans (hK2.2 2 (cA, .int) rfl).2)
  clear hK2
  refine W.widen (k := 26) (n := 12758) (Nat.le_of_ble_eq_true rfl) (Nat.le_of_ble_eq_true rfl) ?_
  refine va_putF (D := D) (ci := 10) (v := .ref q) (ty := .array .int) (C := RX10) (T := TX10) (N := 49) hx hb hts (fun w hw => hin w (wMa_own w hw)) tyX10 tyX10_ok nmX10 hown hK hP hD hS 0 rfl rfl 33 (by decide) (hts _ (hin _ mf_99)) (fun _ h9 => h9) rfl hin2 rfl (by decide +kernel) rfl rfl (Nat.le_of_ble_eq_true rfl) dX10_init_276 (fun H locs hP hD hS => ?_)
  have hP : va_P D vwCl (wMc 26 cI cZ h (va_up ad 33 q) (si (si (si (si mS0 21 (4)) 22 (2)) 23 (2)) 25 (2))) H := hP
  have hD : va_D A (wMc 26 cI cZ h (va_up ad 33 q) (si (si (si (si mS0 21 (4)) 22 (2)) 23 (2)) 25 (2))) := hD
  generalize va_up ad 33 q = ad at hP hD
  refine lv_aload_n hx hb dX10_init_279 rfl (lv_at hl 0 rfl) ?_
  refine lv_bipush (v := (120 : Int32)) hx hb dX10_init_280 (by decide) ?_
  refine va_newa (atype := .int) (ty := .int) (N' := 120) (a0 := (120, .inl (fun _ => 0))) hx hb (hts _ (hin _ mo_5)) rfl hK hP hD hS hA (fun _ => rfl) (by decide) rfl (by decide) (Nat.le_of_ble_eq_true rfl) (Nat.le_of_ble_eq_true rfl) dX10_init_282 (fun q cA H hK2 hP hD hS => ?_)
  obtain rfl : cI = cA := Option.some.inj ((hK.2 0 (cI, .int) rfl).2.symm.trans (hK2.2 2 (cA, .int) rfl).2)
  clear hK2
  refine W.widen (k := 27) (n := 12878) (Nat.le_of_ble_eq_true rfl) (Nat.le_of_ble_eq_true rfl) ?_
  refine va_putF (D := D) (ci := 10) (v := .ref q) (ty := .array .int) (C := RX10) (T := TX10) (N := 49) hx hb hts (fun w hw => hin w (wMa_own w hw)) tyX10 tyX10_ok nmX10 hown hK hP hD hS 0 rfl rfl 34 (by decide) (hts _ (hin _ mf_102)) (fun _ h9 => h9) rfl hin2 rfl (by decide +kernel) rfl rfl (Nat.le_of_ble_eq_true rfl) dX10_init_284 (fun H locs hP hD hS => ?_)
  have hP : va_P D vwCl (wMc 27 cI cZ h (va_up ad 34 q) (si (si (si (si mS0 21 (4)) 22 (2)) 23 (2)) 25 (2))) H := hP
  have hD : va_D A (wMc 27 cI cZ h (va_up ad 34 q) (si (si (si (si mS0 21 (4)) 22 (2)) 23 (2)) 25 (2))) := hD
  generalize va_up ad 34 q = ad at hP hD
  refine lv_aload_n hx hb dX10_init_287 rfl (lv_at hl 0 rfl) ?_
  refine lv_bipush (v := (6 : Int32)) hx hb dX10_init_288 (by decide) ?_
  refine va_newa (atype := .int) (ty := .int) (N' := 6) (a0 := (6, .inl (fun _ => 0))) hx hb (hts _ (hin _ mo_5)) rfl hK hP hD hS hA (fun _ => rfl) (by decide) rfl (by decide) (Nat.le_of_ble_eq_true rfl) (Nat.le_of_ble_eq_true rfl) dX10_init_290 (fun q cA H hK2 hP hD hS => ?_)
  obtain rfl : cI = cA := Option.some.inj ((hK.2 0 (cI, .int) rfl).2.symm.trans (hK2.2 2 (cA, .int) rfl).2)
  clear hK2
  refine W.widen (k := 28) (n := 12884) (Nat.le_of_ble_eq_true rfl) (Nat.le_of_ble_eq_true rfl) ?_
  refine va_putF (D := D) (ci := 10) (v := .ref q) (ty := .array .int) (C := RX10) (T := TX10) (N := 49) hx hb hts (fun w hw => hin w (wMa_own w hw)) tyX10 tyX10_ok nmX10 hown hK hP hD hS 0 rfl rfl 35 (by decide) (hts _ (hin _ mf_105)) (fun _ h9 => h9) rfl hin2 rfl (by decide +kernel) rfl rfl (Nat.le_of_ble_eq_true rfl) dX10_init_292 (fun H locs hP hD hS => ?_)
  have hP : va_P D vwCl (wMc 28 cI cZ h (va_up ad 35 q) (si (si (si (si mS0 21 (4)) 22 (2)) 23 (2)) 25 (2))) H := hP
  have hD : va_D A (wMc 28 cI cZ h (va_up ad 35 q) (si (si (si (si mS0 21 (4)) 22 (2)) 23 (2)) 25 (2))) := hD
  generalize va_up ad 35 q = ad at hP hD
  refine lv_aload_n hx hb dX10_init_295 rfl (lv_at hl 0 rfl) ?_
  refine lv_iconst (v := (-1 : Int32)) hx hb dX10_init_296 (by decide) ?_
  refine va_put (D := D) (ci := 10) (v := .int (-1 : Int32)) (ty := .int) (C := RX10) (T := TX10) (N := 49) hx hb hts (fun w hw => hin w (wMa_own w hw)) tyX10 tyX10_ok nmX10 hown hK hP hD hS 0 rfl rfl 36 (by decide) (hts _ (hin _ mf_108)) (fun _ h9 => h9) rfl (by decide +kernel) rfl rfl (Nat.le_of_ble_eq_true rfl) dX10_init_297 (fun H locs hP hD hS => ?_)
  have hP : va_P D vwCl (wMc 28 cI cZ h ad (si (si (si (si (si mS0 21 (4)) 22 (2)) 23 (2)) 25 (2)) 36 (-1))) H := hP
  have hD : va_D A (wMc 28 cI cZ h ad (si (si (si (si (si mS0 21 (4)) 22 (2)) 23 (2)) 25 (2)) 36 (-1))) := hD
  refine lv_aload_n hx hb dX10_init_300 rfl (lv_at hl 0 rfl) ?_
  refine lv_bipush (v := (18 : Int32)) hx hb dX10_init_301 (by decide) ?_
  refine va_newa (atype := .int) (ty := .int) (N' := 18) (a0 := (18, .inl (fun _ => 0))) hx hb (hts _ (hin _ mo_5)) rfl hK hP hD hS hA (fun _ => rfl) (by decide) rfl (by decide) (Nat.le_of_ble_eq_true rfl) (Nat.le_of_ble_eq_true rfl) dX10_init_303 (fun q cA H hK2 hP hD hS => ?_)
  obtain rfl : cI = cA := Option.some.inj ((hK.2 0 (cI, .int) rfl).2.symm.trans (hK2.2 2 (cA, .int) rfl).2)
  clear hK2
  refine W.widen (k := 29) (n := 12902) (Nat.le_of_ble_eq_true rfl) (Nat.le_of_ble_eq_true rfl) ?_
  refine va_putF (D := D) (ci := 10) (v := .ref q) (ty := .array .int) (C := RX10) (T := TX10) (N := 49) hx hb hts (fun w hw => hin w (wMa_own w hw)) tyX10 tyX10_ok nmX10 hown hK hP hD hS 0 rfl rfl 40 (by decide) (hts _ (hin _ mf_111)) (fun _ h9 => h9) rfl hin2 rfl (by decide +kernel) rfl rfl (Nat.le_of_ble_eq_true rfl) dX10_init_305 (fun H locs hP hD hS => ?_)
  have hP : va_P D vwCl (wMc 29 cI cZ h (va_up ad 40 q) (si (si (si (si (si mS0 21 (4)) 22 (2)) 23 (2)) 25 (2)) 36 (-1))) H := hP
  have hD : va_D A (wMc 29 cI cZ h (va_up ad 40 q) (si (si (si (si (si mS0 21 (4)) 22 (2)) 23 (2)) 25 (2)) 36 (-1))) := hD
  generalize va_up ad 40 q = ad at hP hD
  refine lv_aload_n hx hb dX10_init_308 rfl (lv_at hl 0 rfl) ?_
  refine lv_bipush (v := (10 : Int32)) hx hb dX10_init_309 (by decide) ?_
  refine va_newa (atype := .int) (ty := .int) (N' := 10) (a0 := (10, .inl (fun _ => 0))) hx hb (hts _ (hin _ mo_5)) rfl hK hP hD hS hA (fun _ => rfl) (by decide) rfl (by decide) (Nat.le_of_ble_eq_true rfl) (Nat.le_of_ble_eq_true rfl) dX10_init_311 (fun q cA H hK2 hP hD hS => ?_)
  obtain rfl : cI = cA := Option.some.inj ((hK.2 0 (cI, .int) rfl).2.symm.trans (hK2.2 2 (cA, .int) rfl).2)
  clear hK2
  refine W.widen (k := 30) (n := 12912) (Nat.le_of_ble_eq_true rfl) (Nat.le_of_ble_eq_true rfl) ?_
  refine va_putF (D := D) (ci := 10) (v := .ref q) (ty := .array .int) (C := RX10) (T := TX10) (N := 49) hx hb hts (fun w hw => hin w (wMa_own w hw)) tyX10 tyX10_ok nmX10 hown hK hP hD hS 0 rfl rfl 41 (by decide) (hts _ (hin _ mf_114)) (fun _ h9 => h9) rfl hin2 rfl (by decide +kernel) rfl rfl (Nat.le_of_ble_eq_true rfl) dX10_init_313 (fun H locs hP hD hS => ?_)
  have hP : va_P D vwCl (wMc 30 cI cZ h (va_up ad 41 q) (si (si (si (si (si mS0 21 (4)) 22 (2)) 23 (2)) 25 (2)) 36 (-1))) H := hP
  have hD : va_D A (wMc 30 cI cZ h (va_up ad 41 q) (si (si (si (si (si mS0 21 (4)) 22 (2)) 23 (2)) 25 (2)) 36 (-1))) := hD
  generalize va_up ad 41 q = ad at hP hD
  refine lv_aload_n hx hb dX10_init_316 rfl (lv_at hl 0 rfl) ?_
  refine lv_bipush (v := (30 : Int32)) hx hb dX10_init_317 (by decide) ?_
  refine va_newa (atype := .int) (ty := .int) (N' := 30) (a0 := (30, .inl (fun _ => 0))) hx hb (hts _ (hin _ mo_5)) rfl hK hP hD hS hA (fun _ => rfl) (by decide) rfl (by decide) (Nat.le_of_ble_eq_true rfl) (Nat.le_of_ble_eq_true rfl) dX10_init_319 (fun q cA H hK2 hP hD hS => ?_)
  obtain rfl : cI = cA := Option.some.inj ((hK.2 0 (cI, .int) rfl).2.symm.trans (hK2.2 2 (cA, .int) rfl).2)
  clear hK2
  refine W.widen (k := 31) (n := 12942) (Nat.le_of_ble_eq_true rfl) (Nat.le_of_ble_eq_true rfl) ?_
  refine va_putF (D := D) (ci := 10) (v := .ref q) (ty := .array .int) (C := RX10) (T := TX10) (N := 49) hx hb hts (fun w hw => hin w (wMa_own w hw)) tyX10 tyX10_ok nmX10 hown hK hP hD hS 0 rfl rfl 42 (by decide) (hts _ (hin _ mf_117)) (fun _ h9 => h9) rfl hin2 rfl (by decide +kernel) rfl rfl (Nat.le_of_ble_eq_true rfl) dX10_init_321 (fun H locs hP hD hS => ?_)
  have hP : va_P D vwCl (wMc 31 cI cZ h (va_up ad 42 q) (si (si (si (si (si mS0 21 (4)) 22 (2)) 23 (2)) 25 (2)) 36 (-1))) H := hP
  have hD : va_D A (wMc 31 cI cZ h (va_up ad 42 q) (si (si (si (si (si mS0 21 (4)) 22 (2)) 23 (2)) 25 (2)) 36 (-1))) := hD
  generalize va_up ad 42 q = ad at hP hD
  refine lv_aload_n hx hb dX10_init_324 rfl (lv_at hl 0 rfl) ?_
  refine lv_bipush (v := (10 : Int32)) hx hb dX10_init_325 (by decide) ?_
  refine va_newa (atype := .int) (ty := .int) (N' := 10) (a0 := (10, .inl (fun _ => 0))) hx hb (hts _ (hin _ mo_5)) rfl hK hP hD hS hA (fun _ => rfl) (by decide) rfl (by decide) (Nat.le_of_ble_eq_true rfl) (Nat.le_of_ble_eq_true rfl) dX10_init_327 (fun q cA H hK2 hP hD hS => ?_)
  obtain rfl : cI = cA := Option.some.inj ((hK.2 0 (cI, .int) rfl).2.symm.trans (hK2.2 2 (cA, .int) rfl).2)
  clear hK2
  refine W.widen (k := 32) (n := 12952) (Nat.le_of_ble_eq_true rfl) (Nat.le_of_ble_eq_true rfl) ?_
  refine lv_dup hx hb dX10_init_329 rfl ?_
  refine lv_iconst (v := (0 : Int32)) hx hb dX10_init_330 (by decide) ?_
  refine lv_iconst (v := (-1 : Int32)) hx hb dX10_init_331 (by decide) ?_
  refine va_iast (f := (fun _ => 0)) hx hb hK hP hD hS 32 0 rfl rfl (vp_in_nI (n := 0) (by decide) (by decide)) dX10_init_332 (fun H locs hP hD hS => ?_)
  have hP : va_P D vwCl (wMc 31 cI cZ h ad (si (si (si (si (si mS0 21 (4)) 22 (2)) 23 (2)) 25 (2)) 36 (-1)) ++ [(q, .inl (cI, 10, .inl (upd (fun _ => 0) (0 : Int32).toNatClampNeg (-1))))]) H := hP
  have hD : va_D A (wMc 31 cI cZ h ad (si (si (si (si (si mS0 21 (4)) 22 (2)) 23 (2)) 25 (2)) 36 (-1)) ++ [(q, .inl (cI, 10, .inl (upd (fun _ => 0) (0 : Int32).toNatClampNeg (-1))))]) := hD
  refine lv_dup hx hb dX10_init_333 rfl ?_
  refine lv_iconst (v := (1 : Int32)) hx hb dX10_init_334 (by decide) ?_
  refine lv_iconst (v := (-1 : Int32)) hx hb dX10_init_335 (by decide) ?_
  refine va_iast (f := (upd (fun _ => 0) (0 : Int32).toNatClampNeg (-1))) hx hb hK hP hD hS 32 0 rfl rfl (vp_in_nI (n := 1) (by decide) (by decide)) dX10_init_336 (fun H locs hP hD hS => ?_)
  have hP : va_P D vwCl (wMc 31 cI cZ h ad (si (si (si (si (si mS0 21 (4)) 22 (2)) 23 (2)) 25 (2)) 36 (-1)) ++ [(q, .inl (cI, 10, .inl (upd (upd (fun _ => 0) (0 : Int32).toNatClampNeg (-1)) (1 : Int32).toNatClampNeg (-1))))]) H := hP
  have hD : va_D A (wMc 31 cI cZ h ad (si (si (si (si (si mS0 21 (4)) 22 (2)) 23 (2)) 25 (2)) 36 (-1)) ++ [(q, .inl (cI, 10, .inl (upd (upd (fun _ => 0) (0 : Int32).toNatClampNeg (-1)) (1 : Int32).toNatClampNeg (-1))))]) := hD
  refine lv_dup hx hb dX10_init_337 rfl ?_
  refine lv_iconst (v := (2 : Int32)) hx hb dX10_init_338 (by decide) ?_
  refine lv_iconst (v := (-1 : Int32)) hx hb dX10_init_339 (by decide) ?_
  refine va_iast (f := (upd (upd (fun _ => 0) (0 : Int32).toNatClampNeg (-1)) (1 : Int32).toNatClampNeg (-1))) hx hb hK hP hD hS 32 0 rfl rfl (vp_in_nI (n := 2) (by decide) (by decide)) dX10_init_340 (fun H locs hP hD hS => ?_)
  have hP : va_P D vwCl (wMc 31 cI cZ h ad (si (si (si (si (si mS0 21 (4)) 22 (2)) 23 (2)) 25 (2)) 36 (-1)) ++ [(q, .inl (cI, 10, .inl (upd (upd (upd (fun _ => 0) (0 : Int32).toNatClampNeg (-1)) (1 : Int32).toNatClampNeg (-1)) (2 : Int32).toNatClampNeg (-1))))]) H := hP
  have hD : va_D A (wMc 31 cI cZ h ad (si (si (si (si (si mS0 21 (4)) 22 (2)) 23 (2)) 25 (2)) 36 (-1)) ++ [(q, .inl (cI, 10, .inl (upd (upd (upd (fun _ => 0) (0 : Int32).toNatClampNeg (-1)) (1 : Int32).toNatClampNeg (-1)) (2 : Int32).toNatClampNeg (-1))))]) := hD
  refine lv_dup hx hb dX10_init_341 rfl ?_
  refine lv_iconst (v := (3 : Int32)) hx hb dX10_init_342 (by decide) ?_
  refine lv_iconst (v := (-1 : Int32)) hx hb dX10_init_343 (by decide) ?_
  refine va_iast (f := (upd (upd (upd (fun _ => 0) (0 : Int32).toNatClampNeg (-1)) (1 : Int32).toNatClampNeg (-1)) (2 : Int32).toNatClampNeg (-1))) hx hb hK hP hD hS 32 0 rfl rfl (vp_in_nI (n := 3) (by decide) (by decide)) dX10_init_344 (fun H locs hP hD hS => ?_)
  have hP : va_P D vwCl (wMc 31 cI cZ h ad (si (si (si (si (si mS0 21 (4)) 22 (2)) 23 (2)) 25 (2)) 36 (-1)) ++ [(q, .inl (cI, 10, .inl (upd (upd (upd (upd (fun _ => 0) (0 : Int32).toNatClampNeg (-1)) (1 : Int32).toNatClampNeg (-1)) (2 : Int32).toNatClampNeg (-1)) (3 : Int32).toNatClampNeg (-1))))]) H := hP
  have hD : va_D A (wMc 31 cI cZ h ad (si (si (si (si (si mS0 21 (4)) 22 (2)) 23 (2)) 25 (2)) 36 (-1)) ++ [(q, .inl (cI, 10, .inl (upd (upd (upd (upd (fun _ => 0) (0 : Int32).toNatClampNeg (-1)) (1 : Int32).toNatClampNeg (-1)) (2 : Int32).toNatClampNeg (-1)) (3 : Int32).toNatClampNeg (-1))))]) := hD
  refine lv_dup hx hb dX10_init_345 rfl ?_
  refine lv_iconst (v := (4 : Int32)) hx hb dX10_init_346 (by decide) ?_
  refine lv_iconst (v := (-1 : Int32)) hx hb dX10_init_347 (by decide) ?_
  refine va_iast (f := (upd (upd (upd (upd (fun _ => 0) (0 : Int32).toNatClampNeg (-1)) (1 : Int32).toNatClampNeg (-1)) (2 : Int32).toNatClampNeg (-1)) (3 : Int32).toNatClampNeg (-1))) hx hb hK hP hD hS 32 0 rfl rfl (vp_in_nI (n := 4) (by decide) (by decide)) dX10_init_348 (fun H locs hP hD hS => ?_)
  have hP : va_P D vwCl (wMc 31 cI cZ h ad (si (si (si (si (si mS0 21 (4)) 22 (2)) 23 (2)) 25 (2)) 36 (-1)) ++ [(q, .inl (cI, 10, .inl (upd (upd (upd (upd (upd (fun _ => 0) (0 : Int32).toNatClampNeg (-1)) (1 : Int32).toNatClampNeg (-1)) (2 : Int32).toNatClampNeg (-1)) (3 : Int32).toNatClampNeg (-1)) (4 : Int32).toNatClampNeg (-1))))]) H := hP
  have hD : va_D A (wMc 31 cI cZ h ad (si (si (si (si (si mS0 21 (4)) 22 (2)) 23 (2)) 25 (2)) 36 (-1)) ++ [(q, .inl (cI, 10, .inl (upd (upd (upd (upd (upd (fun _ => 0) (0 : Int32).toNatClampNeg (-1)) (1 : Int32).toNatClampNeg (-1)) (2 : Int32).toNatClampNeg (-1)) (3 : Int32).toNatClampNeg (-1)) (4 : Int32).toNatClampNeg (-1))))]) := hD
  refine lv_dup hx hb dX10_init_349 rfl ?_
  refine lv_iconst (v := (5 : Int32)) hx hb dX10_init_350 (by decide) ?_
  refine lv_iconst (v := (-1 : Int32)) hx hb dX10_init_351 (by decide) ?_
  refine va_iast (f := (upd (upd (upd (upd (upd (fun _ => 0) (0 : Int32).toNatClampNeg (-1)) (1 : Int32).toNatClampNeg (-1)) (2 : Int32).toNatClampNeg (-1)) (3 : Int32).toNatClampNeg (-1)) (4 : Int32).toNatClampNeg (-1))) hx hb hK hP hD hS 32 0 rfl rfl (vp_in_nI (n := 5) (by decide) (by decide)) dX10_init_352 (fun H locs hP hD hS => ?_)
  have hP : va_P D vwCl (wMc 31 cI cZ h ad (si (si (si (si (si mS0 21 (4)) 22 (2)) 23 (2)) 25 (2)) 36 (-1)) ++ [(q, .inl (cI, 10, .inl (upd (upd (upd (upd (upd (upd (fun _ => 0) (0 : Int32).toNatClampNeg (-1)) (1 : Int32).toNatClampNeg (-1)) (2 : Int32).toNatClampNeg (-1)) (3 : Int32).toNatClampNeg (-1)) (4 : Int32).toNatClampNeg (-1)) (5 : Int32).toNatClampNeg (-1))))]) H := hP
  have hD : va_D A (wMc 31 cI cZ h ad (si (si (si (si (si mS0 21 (4)) 22 (2)) 23 (2)) 25 (2)) 36 (-1)) ++ [(q, .inl (cI, 10, .inl (upd (upd (upd (upd (upd (upd (fun _ => 0) (0 : Int32).toNatClampNeg (-1)) (1 : Int32).toNatClampNeg (-1)) (2 : Int32).toNatClampNeg (-1)) (3 : Int32).toNatClampNeg (-1)) (4 : Int32).toNatClampNeg (-1)) (5 : Int32).toNatClampNeg (-1))))]) := hD
  refine lv_dup hx hb dX10_init_353 rfl ?_
  refine lv_bipush (v := (6 : Int32)) hx hb dX10_init_354 (by decide) ?_
  refine lv_iconst (v := (-1 : Int32)) hx hb dX10_init_356 (by decide) ?_
  refine va_iast (f := (upd (upd (upd (upd (upd (upd (fun _ => 0) (0 : Int32).toNatClampNeg (-1)) (1 : Int32).toNatClampNeg (-1)) (2 : Int32).toNatClampNeg (-1)) (3 : Int32).toNatClampNeg (-1)) (4 : Int32).toNatClampNeg (-1)) (5 : Int32).toNatClampNeg (-1))) hx hb hK hP hD hS 32 0 rfl rfl (vp_in_nI (n := 6) (by decide) (by decide)) dX10_init_357 (fun H locs hP hD hS => ?_)
  have hP : va_P D vwCl (wMc 31 cI cZ h ad (si (si (si (si (si mS0 21 (4)) 22 (2)) 23 (2)) 25 (2)) 36 (-1)) ++ [(q, .inl (cI, 10, .inl (upd (upd (upd (upd (upd (upd (upd (fun _ => 0) (0 : Int32).toNatClampNeg (-1)) (1 : Int32).toNatClampNeg (-1)) (2 : Int32).toNatClampNeg (-1)) (3 : Int32).toNatClampNeg (-1)) (4 : Int32).toNatClampNeg (-1)) (5 : Int32).toNatClampNeg (-1)) (6 : Int32).toNatClampNeg (-1))))]) H := hP
  have hD : va_D A (wMc 31 cI cZ h ad (si (si (si (si (si mS0 21 (4)) 22 (2)) 23 (2)) 25 (2)) 36 (-1)) ++ [(q, .inl (cI, 10, .inl (upd (upd (upd (upd (upd (upd (upd (fun _ => 0) (0 : Int32).toNatClampNeg (-1)) (1 : Int32).toNatClampNeg (-1)) (2 : Int32).toNatClampNeg (-1)) (3 : Int32).toNatClampNeg (-1)) (4 : Int32).toNatClampNeg (-1)) (5 : Int32).toNatClampNeg (-1)) (6 : Int32).toNatClampNeg (-1))))]) := hD
  refine lv_dup hx hb dX10_init_358 rfl ?_
  refine lv_bipush (v := (7 : Int32)) hx hb dX10_init_359 (by decide) ?_
  refine lv_iconst (v := (-1 : Int32)) hx hb dX10_init_361 (by decide) ?_
  refine va_iast (f := (upd (upd (upd (upd (upd (upd (upd (fun _ => 0) (0 : Int32).toNatClampNeg (-1)) (1 : Int32).toNatClampNeg (-1)) (2 : Int32).toNatClampNeg (-1)) (3 : Int32).toNatClampNeg (-1)) (4 : Int32).toNatClampNeg (-1)) (5 : Int32).toNatClampNeg (-1)) (6 : Int32).toNatClampNeg (-1))) hx hb hK hP hD hS 32 0 rfl rfl (vp_in_nI (n := 7) (by decide) (by decide)) dX10_init_362 (fun H locs hP hD hS => ?_)
  have hP : va_P D vwCl (wMc 31 cI cZ h ad (si (si (si (si (si mS0 21 (4)) 22 (2)) 23 (2)) 25 (2)) 36 (-1)) ++ [(q, .inl (cI, 10, .inl (upd (upd (upd (upd (upd (upd (upd (upd (fun _ => 0) (0 : Int32).toNatClampNeg (-1)) (1 : Int32).toNatClampNeg (-1)) (2 : Int32).toNatClampNeg (-1)) (3 : Int32).toNatClampNeg (-1)) (4 : Int32).toNatClampNeg (-1)) (5 : Int32).toNatClampNeg (-1)) (6 : Int32).toNatClampNeg (-1)) (7 : Int32).toNatClampNeg (-1))))]) H := hP
  have hD : va_D A (wMc 31 cI cZ h ad (si (si (si (si (si mS0 21 (4)) 22 (2)) 23 (2)) 25 (2)) 36 (-1)) ++ [(q, .inl (cI, 10, .inl (upd (upd (upd (upd (upd (upd (upd (upd (fun _ => 0) (0 : Int32).toNatClampNeg (-1)) (1 : Int32).toNatClampNeg (-1)) (2 : Int32).toNatClampNeg (-1)) (3 : Int32).toNatClampNeg (-1)) (4 : Int32).toNatClampNeg (-1)) (5 : Int32).toNatClampNeg (-1)) (6 : Int32).toNatClampNeg (-1)) (7 : Int32).toNatClampNeg (-1))))]) := hD
  refine lv_dup hx hb dX10_init_363 rfl ?_
  refine lv_bipush (v := (8 : Int32)) hx hb dX10_init_364 (by decide) ?_
  refine lv_iconst (v := (-1 : Int32)) hx hb dX10_init_366 (by decide) ?_
  refine va_iast (f := (upd (upd (upd (upd (upd (upd (upd (upd (fun _ => 0) (0 : Int32).toNatClampNeg (-1)) (1 : Int32).toNatClampNeg (-1)) (2 : Int32).toNatClampNeg (-1)) (3 : Int32).toNatClampNeg (-1)) (4 : Int32).toNatClampNeg (-1)) (5 : Int32).toNatClampNeg (-1)) (6 : Int32).toNatClampNeg (-1)) (7 : Int32).toNatClampNeg (-1))) hx hb hK hP hD hS 32 0 rfl rfl (vp_in_nI (n := 8) (by decide) (by decide)) dX10_init_367 (fun H locs hP hD hS => ?_)
  have hP : va_P D vwCl (wMc 31 cI cZ h ad (si (si (si (si (si mS0 21 (4)) 22 (2)) 23 (2)) 25 (2)) 36 (-1)) ++ [(q, .inl (cI, 10, .inl (upd (upd (upd (upd (upd (upd (upd (upd (upd (fun _ => 0) (0 : Int32).toNatClampNeg (-1)) (1 : Int32).toNatClampNeg (-1)) (2 : Int32).toNatClampNeg (-1)) (3 : Int32).toNatClampNeg (-1)) (4 : Int32).toNatClampNeg (-1)) (5 : Int32).toNatClampNeg (-1)) (6 : Int32).toNatClampNeg (-1)) (7 : Int32).toNatClampNeg (-1)) (8 : Int32).toNatClampNeg (-1))))]) H := hP
  have hD : va_D A (wMc 31 cI cZ h ad (si (si (si (si (si mS0 21 (4)) 22 (2)) 23 (2)) 25 (2)) 36 (-1)) ++ [(q, .inl (cI, 10, .inl (upd (upd (upd (upd (upd (upd (upd (upd (upd (fun _ => 0) (0 : Int32).toNatClampNeg (-1)) (1 : Int32).toNatClampNeg (-1)) (2 : Int32).toNatClampNeg (-1)) (3 : Int32).toNatClampNeg (-1)) (4 : Int32).toNatClampNeg (-1)) (5 : Int32).toNatClampNeg (-1)) (6 : Int32).toNatClampNeg (-1)) (7 : Int32).toNatClampNeg (-1)) (8 : Int32).toNatClampNeg (-1))))]) := hD
  refine lv_dup hx hb dX10_init_368 rfl ?_
  refine lv_bipush (v := (9 : Int32)) hx hb dX10_init_369 (by decide) ?_
  refine lv_iconst (v := (-1 : Int32)) hx hb dX10_init_371 (by decide) ?_
  refine va_iast (f := (upd (upd (upd (upd (upd (upd (upd (upd (upd (fun _ => 0) (0 : Int32).toNatClampNeg (-1)) (1 : Int32).toNatClampNeg (-1)) (2 : Int32).toNatClampNeg (-1)) (3 : Int32).toNatClampNeg (-1)) (4 : Int32).toNatClampNeg (-1)) (5 : Int32).toNatClampNeg (-1)) (6 : Int32).toNatClampNeg (-1)) (7 : Int32).toNatClampNeg (-1)) (8 : Int32).toNatClampNeg (-1))) hx hb hK hP hD hS 32 0 rfl rfl (vp_in_nI (n := 9) (by decide) (by decide)) dX10_init_372 (fun H locs hP hD hS => ?_)
  have hP : va_P D vwCl (wMc 31 cI cZ h ad (si (si (si (si (si mS0 21 (4)) 22 (2)) 23 (2)) 25 (2)) 36 (-1)) ++ [(q, .inl (cI, 10, .inl (upd (upd (upd (upd (upd (upd (upd (upd (upd (upd (fun _ => 0) (0 : Int32).toNatClampNeg (-1)) (1 : Int32).toNatClampNeg (-1)) (2 : Int32).toNatClampNeg (-1)) (3 : Int32).toNatClampNeg (-1)) (4 : Int32).toNatClampNeg (-1)) (5 : Int32).toNatClampNeg (-1)) (6 : Int32).toNatClampNeg (-1)) (7 : Int32).toNatClampNeg (-1)) (8 : Int32).toNatClampNeg (-1)) (9 : Int32).toNatClampNeg (-1))))]) H := hP
  have hD : va_D A (wMc 31 cI cZ h ad (si (si (si (si (si mS0 21 (4)) 22 (2)) 23 (2)) 25 (2)) 36 (-1)) ++ [(q, .inl (cI, 10, .inl (upd (upd (upd (upd (upd (upd (upd (upd (upd (upd (fun _ => 0) (0 : Int32).toNatClampNeg (-1)) (1 : Int32).toNatClampNeg (-1)) (2 : Int32).toNatClampNeg (-1)) (3 : Int32).toNatClampNeg (-1)) (4 : Int32).toNatClampNeg (-1)) (5 : Int32).toNatClampNeg (-1)) (6 : Int32).toNatClampNeg (-1)) (7 : Int32).toNatClampNeg (-1)) (8 : Int32).toNatClampNeg (-1)) (9 : Int32).toNatClampNeg (-1))))]) := hD
  refine va_putF (D := D) (ci := 10) (v := .ref q) (ty := .array .int) (C := RX10) (T := TX10) (N := 49) hx hb hts (fun w hw => hin w (wMa_own w hw)) tyX10 tyX10_ok nmX10 hown hK hP hD hS 0 rfl rfl 43 (by decide) (hts _ (hin _ mf_120)) (fun _ h9 => h9) rfl hin2 rfl (by decide +kernel) rfl rfl (Nat.le_of_ble_eq_true rfl) dX10_init_373 (fun H locs hP hD hS => ?_)
  have hP : va_P D vwCl (wMc 32 cI cZ h (va_up ad 43 q) (si (si (si (si (si mS0 21 (4)) 22 (2)) 23 (2)) 25 (2)) 36 (-1))) H := hP
  have hD : va_D A (wMc 32 cI cZ h (va_up ad 43 q) (si (si (si (si (si mS0 21 (4)) 22 (2)) 23 (2)) 25 (2)) 36 (-1))) := hD
  generalize va_up ad 43 q = ad at hP hD
  refine lv_aload_n hx hb dX10_init_376 rfl (lv_at hl 0 rfl) ?_
  refine lv_bipush (v := (30 : Int32)) hx hb dX10_init_377 (by decide) ?_
  refine va_newa (atype := .int) (ty := .int) (N' := 30) (a0 := (30, .inl (fun _ => 0))) hx hb (hts _ (hin _ mo_5)) rfl hK hP hD hS hA (fun _ => rfl) (by decide) rfl (by decide) (Nat.le_of_ble_eq_true rfl) (Nat.le_of_ble_eq_true rfl) dX10_init_379 (fun q cA H hK2 hP hD hS => ?_)
  obtain rfl : cI = cA := Option.some.inj ((hK.2 0 (cI, .int) rfl).2.symm.trans (hK2.2 2 (cA, .int) rfl).2)
  clear hK2
  refine W.widen (k := 33) (n := 12982) (Nat.le_of_ble_eq_true rfl) (Nat.le_of_ble_eq_true rfl) ?_
  refine va_putF (D := D) (ci := 10) (v := .ref q) (ty := .array .int) (C := RX10) (T := TX10) (N := 49) hx hb hts (fun w hw => hin w (wMa_own w hw)) tyX10 tyX10_ok nmX10 hown hK hP hD hS 0 rfl rfl 44 (by decide) (hts _ (hin _ mf_123)) (fun _ h9 => h9) rfl hin2 rfl (by decide +kernel) rfl rfl (Nat.le_of_ble_eq_true rfl) dX10_init_381 (fun H locs hP hD hS => ?_)
  have hP : va_P D vwCl (wMc 33 cI cZ h (va_up ad 44 q) (si (si (si (si (si mS0 21 (4)) 22 (2)) 23 (2)) 25 (2)) 36 (-1))) H := hP
  have hD : va_D A (wMc 33 cI cZ h (va_up ad 44 q) (si (si (si (si (si mS0 21 (4)) 22 (2)) 23 (2)) 25 (2)) 36 (-1))) := hD
  generalize va_up ad 44 q = ad at hP hD
  refine lv_aload_n hx hb dX10_init_384 rfl (lv_at hl 0 rfl) ?_
  refine lv_bipush (v := (11 : Int32)) hx hb dX10_init_385 (by decide) ?_
  refine va_newa (atype := .int) (ty := .int) (N' := 11) (a0 := (11, .inl (fun _ => 0))) hx hb (hts _ (hin _ mo_5)) rfl hK hP hD hS hA (fun _ => rfl) (by decide) rfl (by decide) (Nat.le_of_ble_eq_true rfl) (Nat.le_of_ble_eq_true rfl) dX10_init_387 (fun q cA H hK2 hP hD hS => ?_)
  obtain rfl : cI = cA := Option.some.inj ((hK.2 0 (cI, .int) rfl).2.symm.trans (hK2.2 2 (cA, .int) rfl).2)
  clear hK2
  refine W.widen (k := 34) (n := 12993) (Nat.le_of_ble_eq_true rfl) (Nat.le_of_ble_eq_true rfl) ?_
  refine va_putF (D := D) (ci := 10) (v := .ref q) (ty := .array .int) (C := RX10) (T := TX10) (N := 49) hx hb hts (fun w hw => hin w (wMa_own w hw)) tyX10 tyX10_ok nmX10 hown hK hP hD hS 0 rfl rfl 45 (by decide) (hts _ (hin _ mf_126)) (fun _ h9 => h9) rfl hin2 rfl (by decide +kernel) rfl rfl (Nat.le_of_ble_eq_true rfl) dX10_init_389 (fun H locs hP hD hS => ?_)
  have hP : va_P D vwCl (wMc 34 cI cZ h (va_up ad 45 q) (si (si (si (si (si mS0 21 (4)) 22 (2)) 23 (2)) 25 (2)) 36 (-1))) H := hP
  have hD : va_D A (wMc 34 cI cZ h (va_up ad 45 q) (si (si (si (si (si mS0 21 (4)) 22 (2)) 23 (2)) 25 (2)) 36 (-1))) := hD
  generalize va_up ad 45 q = ad at hP hD
  refine lv_aload_n hx hb dX10_init_392 rfl (lv_at hl 0 rfl) ?_
  refine lv_bipush (v := (30 : Int32)) hx hb dX10_init_393 (by decide) ?_
  refine va_newa (atype := .boolean) (ty := .boolean) (N' := 30) (a0 := (30, .inl (fun _ => 0))) hx hb (hts _ (hin _ mo_3)) rfl hK hP hD hS hA (fun _ => rfl) (by decide) rfl (by decide) (Nat.le_of_ble_eq_true rfl) (Nat.le_of_ble_eq_true rfl) dX10_init_395 (fun q cA H hK2 hP hD hS => ?_)
  obtain rfl : cZ = cA := Option.some.inj ((hK.2 1 (cZ, .boolean) rfl).2.symm.trans (hK2.2 2 (cA, .boolean) rfl).2)
  clear hK2
  refine W.widen (k := 35) (n := 13023) (Nat.le_of_ble_eq_true rfl) (Nat.le_of_ble_eq_true rfl) ?_
  refine va_putF (D := D) (ci := 10) (v := .ref q) (ty := .array .boolean) (C := RX10) (T := TX10) (N := 49) hx hb hts (fun w hw => hin w (wMa_own w hw)) tyX10 tyX10_ok nmX10 hown hK hP hD hS 0 rfl rfl 46 (by decide) (hts _ (hin _ mf_129)) (fun _ h9 => h9) rfl hin2 rfl (by decide +kernel) rfl rfl (Nat.le_of_ble_eq_true rfl) dX10_init_397 (fun H locs hP hD hS => ?_)
  have hP : va_P D vwCl (wMc 35 cI cZ h (va_up ad 46 q) (si (si (si (si (si mS0 21 (4)) 22 (2)) 23 (2)) 25 (2)) 36 (-1))) H := hP
  have hD : va_D A (wMc 35 cI cZ h (va_up ad 46 q) (si (si (si (si (si mS0 21 (4)) 22 (2)) 23 (2)) 25 (2)) 36 (-1))) := hD
  generalize va_up ad 46 q = ad at hP hD
  refine lv_aload_n hx hb dX10_init_400 rfl (lv_at hl 0 rfl) ?_
  refine lv_bipush (v := (10 : Int32)) hx hb dX10_init_401 (by decide) ?_
  refine va_newa (atype := .int) (ty := .int) (N' := 10) (a0 := (10, .inl (fun _ => 0))) hx hb (hts _ (hin _ mo_5)) rfl hK hP hD hS hA (fun _ => rfl) (by decide) rfl (by decide) (Nat.le_of_ble_eq_true rfl) (Nat.le_of_ble_eq_true rfl) dX10_init_403 (fun q cA H hK2 hP hD hS => ?_)
  obtain rfl : cI = cA := Option.some.inj ((hK.2 0 (cI, .int) rfl).2.symm.trans (hK2.2 2 (cA, .int) rfl).2)
  clear hK2
  refine W.widen (k := 36) (n := 13033) (Nat.le_of_ble_eq_true rfl) (Nat.le_of_ble_eq_true rfl) ?_
  refine va_putF (D := D) (ci := 10) (v := .ref q) (ty := .array .int) (C := RX10) (T := TX10) (N := 49) hx hb hts (fun w hw => hin w (wMa_own w hw)) tyX10 tyX10_ok nmX10 hown hK hP hD hS 0 rfl rfl 47 (by decide) (hts _ (hin _ mf_132)) (fun _ h9 => h9) rfl hin2 rfl (by decide +kernel) rfl rfl (Nat.le_of_ble_eq_true rfl) dX10_init_405 (fun H locs hP hD hS => ?_)
  have hP : va_P D vwCl (wMc 36 cI cZ h (va_up ad 47 q) (si (si (si (si (si mS0 21 (4)) 22 (2)) 23 (2)) 25 (2)) 36 (-1))) H := hP
  have hD : va_D A (wMc 36 cI cZ h (va_up ad 47 q) (si (si (si (si (si mS0 21 (4)) 22 (2)) 23 (2)) 25 (2)) 36 (-1))) := hD
  generalize va_up ad 47 q = ad at hP hD
  refine lv_aload_n hx hb dX10_init_408 rfl (lv_at hl 0 rfl) ?_
  refine lv_bipush (v := (10 : Int32)) hx hb dX10_init_409 (by decide) ?_
  refine va_newa (atype := .int) (ty := .int) (N' := 10) (a0 := (10, .inl (fun _ => 0))) hx hb (hts _ (hin _ mo_5)) rfl hK hP hD hS hA (fun _ => rfl) (by decide) rfl (by decide) (Nat.le_of_ble_eq_true rfl) (Nat.le_of_ble_eq_true rfl) dX10_init_411 (fun q cA H hK2 hP hD hS => ?_)
  obtain rfl : cI = cA := Option.some.inj ((hK.2 0 (cI, .int) rfl).2.symm.trans (hK2.2 2 (cA, .int) rfl).2)
  clear hK2
  refine W.widen (k := 37) (n := 13043) (Nat.le_of_ble_eq_true rfl) (Nat.le_of_ble_eq_true rfl) ?_
  refine va_putF (D := D) (ci := 10) (v := .ref q) (ty := .array .int) (C := RX10) (T := TX10) (N := 49) hx hb hts (fun w hw => hin w (wMa_own w hw)) tyX10 tyX10_ok nmX10 hown hK hP hD hS 0 rfl rfl 48 (by decide) (hts _ (hin _ mf_135)) (fun _ h9 => h9) rfl hin2 rfl (by decide +kernel) rfl rfl (Nat.le_of_ble_eq_true rfl) dX10_init_413 (fun H locs hP hD hS => ?_)
  have hP : va_P D vwCl (wMc 37 cI cZ h (va_up ad 48 q) (si (si (si (si (si mS0 21 (4)) 22 (2)) 23 (2)) 25 (2)) 36 (-1))) H := hP
  have hD : va_D A (wMc 37 cI cZ h (va_up ad 48 q) (si (si (si (si (si mS0 21 (4)) 22 (2)) 23 (2)) 25 (2)) 36 (-1))) := hD
  generalize va_up ad 48 q = ad at hP hD
  exact W.vret hx hb hr (fun t ht hW => ⟨⟨(), rfl, trivial, ad, by rw [ht]; exact hP, va_K.moved hW.alike hK, hD⟩, hS.F ht⟩) hS.2.2 dX10_init_416 hlocks
