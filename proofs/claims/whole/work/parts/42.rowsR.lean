/-- as Met.ofW, for a class of which some members are run by an entry instead, but not this one -/
theorem ofWF {l : Launch} {y : MethodName} {ws ws' : List Cond} {rm : Room} {Pc : Array Value → State → Prop} {Qc : Array Value → State → Outcome → State → Prop} {mc ms : Nat} {free : Addr → Prop} {cc : ByteArray} {maxL : Nat} {ret : Option FieldType}
    (hy : plainFor y = true) (hw : ws = Cond.code y cc maxL ret :: ws')
    (body : ∀ p e s m args below meth c s₁, BodyLoose p l y (headSpec ws rm) cc maxL ret e s m args below meth c s₁ → c.maxLocals = maxL → Pc args s →
      W p l e (headSpec ws rm).room s m args below meth c s.heap [] 0 0 (MQ below Qc args s mc ms free) (entryFrame m args maxL)) : Met l y ws rm Pc Qc mc ms free := by
  refine MetFree.of_bodySF (code := cc) (maxLocals := maxL) (ret := ret) hy ?_ ?_
  · intro args s m h hn
    obtain ⟨meth, c, h1, h2, h3, h4, h5, h6, -, -⟩ := Cond.code_spec hn (atoms_spec (ws := ws) h _ (by rw [hw]; exact List.mem_cons_self))
    exact ⟨meth, c, h1, h2, h3, h4, h5, h6⟩
  · intro p e s m args below meth c s₁ B hml hP _
    have hh0 : s₁.heap = s.heap := by rw [B.state]; rfl
    obtain ⟨t, a1, o, b1, b2, b3⟩ := body p e s m args below meth c s₁ B hml hP s₁ hh0 (Stand.of_body B)
    exact ⟨t, o, a1, b1, b2, ⟨b3.1, b3.2⟩⟩
theorem goodC {T : List Cond} (hT : T.all goodWord = true) {y z : MethodName} {c zc : ByteArray} {n zn : Nat} {r zr : Option FieldType} (h4 : Cond.code z zc zn zr ∈ T) : GoodIn (Cond.code y c n r :: T) (Cond.code z zc zn zr :: T) := by
  have k : ∀ w, w ∈ T → w ∈ (Cond.code y c n r :: T) ∧ ((w.onTables && w.keeps) = true ∨ ∃ ty, w = .arrayClass ty) := fun w h => ⟨List.mem_cons_of_mem _ h, good_of_word (List.all_eq_true.mp hT w h)⟩
  intro w hw
  rcases List.mem_cons.mp hw with rfl | hw
  · exact k _ h4
  · exact k _ hw
theorem isK_ri {ρ : RS} {k : Nat} {v : Int32} {b c : Nat} (h : isK ρ b c = true) : isK (ri ρ k v) b c = true := h
theorem isK_ra {ρ : RS} {k : Nat} {i v : Int32} {b c : Nat} (h : isK ρ b c = true) : isK (ra ρ k i v) b c = true := h
theorem isK_rq {ρ : RS} {k : Nat} {i : Int32} {o : Option Nat} {b c : Nat} (h : isK ρ b c = true) : isK (rq ρ k i o) b c = true := h
theorem isK_rv {ρ : RS} {k : Nat} {o : Option Nat} {b c : Nat} (h : isK ρ b c = true) : isK (rv ρ k o) b c = true := h
theorem isK_wi {ρ : RS} {a k : Nat} {v : Int32} {b c : Nat} (h : isK ρ b c = true) : isK (wi ρ a k v) b c = true := h
theorem isK_wr {ρ : RS} {a k : Nat} {o : Option Nat} {b c : Nat} (h : isK ρ b c = true) : isK (wr ρ a k o) b c = true := h
theorem isK_wa {ρ : RS} {a : Nat} {i v : Int32} {b c : Nat} (h : isK ρ b c = true) : isK (wa ρ a i v) b c = true := h
theorem xR_wi (cs : Nat → ClassId) (ad : Nat → Nat) (ρ : RS) (a k : Nat) (v : Int32) : xR cs ad (wi ρ a k v) = xR cs ad ρ := rfl
theorem xR_wr (cs : Nat → ClassId) (ad : Nat → Nat) (ρ : RS) (a k : Nat) (o : Option Nat) : xR cs ad (wr ρ a k o) = xR cs ad ρ := rfl
theorem pL_wi (ρ : RS) (a k : Nat) (v : Int32) : pL (wi ρ a k v) = pL ρ := rfl
theorem pL_wr (ρ : RS) (a k : Nat) (o : Option Nat) : pL (wr ρ a k o) = pL ρ := rfl
theorem rf_cat (o : Option Nat) : (va_rf o).category = 1 := by cases o <;> rfl
section ROWSR
variable {p : Program} {l : Launch} {e : Env} {R : Room} {s : State} {m : MethodId} {args : Array Value} {below : List Frame} {meth : Method} {c : Code} {H : Heap} {locs : List Loc} {cells slots : Nat} {Q : State → Prop}
variable {cc : ByteArray} {pc nL : Nat} {ls : Array Slot} {rest : List Value} {D : va_G} {A : Nat → Prop} {H0 : Heap} {cs : Nat → ClassId} {ad tb : Nat → Nat} {ρ : RS} {Ts : List Cond}
theorem rfS {o : Option Nat} {a : Nat} (ho : o = some a) (k : W p l e R s m args below meth c H locs cells slots Q (F0 m pc ls (.ref a :: rest))) : W p l e R s m args below meth c H locs cells slots Q (F0 m pc ls (va_rf o :: rest)) := by
  subst ho; exact k
theorem alQ_n {o : Option Nat} (hexec : p.tables.exec = Jvm.exec) (hb : c.code = cc) {k : Fin 4} {i : Nat} (hdg : decode cc pc = .ok (.aload_n k, 1)) (hi : (k : Nat) = i) (hl : ls[i]? = some (.val (va_rf o)))
    (kk : W p l e R s m args below meth c H locs cells slots Q (F0 m (pc + 1) ls (va_rf o :: rest))) : W p l e R s m args below meth c H locs cells slots Q (F0 m pc ls rest) := by
  cases o with
  | none => exact lv_aload_nN hexec hb hdg hi hl kk
  | some a => exact lv_aload_n hexec hb hdg hi hl kk
theorem alQ {o : Option Nat} (hexec : p.tables.exec = Jvm.exec) (hb : c.code = cc) {i : Nat} (hdg : decode cc pc = .ok (.aload i, 2)) (hl : ls[i]? = some (.val (va_rf o)))
    (kk : W p l e R s m args below meth c H locs cells slots Q (F0 m (pc + 2) ls (va_rf o :: rest))) : W p l e R s m args below meth c H locs cells slots Q (F0 m pc ls rest) := by
  cases o with
  | none => exact lv_aloadN hexec hb hdg hl kk
  | some a => exact lv_aload hexec hb hdg hl kk
theorem asQ_n {o : Option Nat} (hexec : p.tables.exec = Jvm.exec) (hb : c.code = cc) {k : Fin 4} {i : Nat} {lv lv' : List (Nat × Value)} (hdg : decode cc pc = .ok (.astore_n k, 1)) (hi : (k : Nat) = i) (h : lv_has ls nL lv) (hn : i < nL) (hl : (i, va_rf o) :: lv.filter (fun q => !(q.1 == i) && !(q.1 + 1 == i && q.2.category == 2)) = lv')
    (kk : ∀ ls' : Array Slot, lv_has ls' nL lv' → W p l e R s m args below meth c H locs cells slots Q (F0 m (pc + 1) ls' rest)) : W p l e R s m args below meth c H locs cells slots Q (F0 m pc ls (va_rf o :: rest)) := by
  cases o with
  | none => exact lv_astore_nN hexec hb hdg hi h hn hl kk
  | some a => exact lv_astore_n hexec hb hdg hi h hn hl kk
theorem asQ {o : Option Nat} (hexec : p.tables.exec = Jvm.exec) (hb : c.code = cc) {i : Nat} {lv lv' : List (Nat × Value)} (hdg : decode cc pc = .ok (.astore i, 2)) (h : lv_has ls nL lv) (hn : i < nL) (hl : (i, va_rf o) :: lv.filter (fun q => !(q.1 == i) && !(q.1 + 1 == i && q.2.category == 2)) = lv')
    (kk : ∀ ls' : Array Slot, lv_has ls' nL lv' → W p l e R s m args below meth c H locs cells slots Q (F0 m (pc + 2) ls' rest)) : W p l e R s m args below meth c H locs cells slots Q (F0 m pc ls (va_rf o :: rest)) := by
  cases o with
  | none => exact lv_astoreN hexec hb hdg h hn hl kk
  | some a => exact lv_astore hexec hb hdg h hn hl kk
theorem nlQ {o : Option Nat} (hexec : p.tables.exec = Jvm.exec) (hb : c.code = cc) {off : Int} {tgt : Nat} (hdg : decode cc pc = .ok (.ifnull off, 3)) (ht : (pc : Int) + off = (tgt : Int)) (kt : o = none → W p l e R s m args below meth c H locs cells slots Q (F0 m tgt ls rest)) (kf : ∀ a, o = some a → W p l e R s m args below meth c H locs cells slots Q (F0 m (pc + 3) ls rest)) : W p l e R s m args below meth c H locs cells slots Q (F0 m pc ls (va_rf o :: rest)) := by
  cases o with
  | none => exact lv_ifnullN hexec hb hdg ht (kt rfl)
  | some a => exact lv_ifnull hexec hb hdg (kf a rfl)
theorem nnQ {o : Option Nat} (hexec : p.tables.exec = Jvm.exec) (hb : c.code = cc) {off : Int} {tgt : Nat} (hdg : decode cc pc = .ok (.ifnonnull off, 3)) (ht : (pc : Int) + off = (tgt : Int)) (kt : ∀ a, o = some a → W p l e R s m args below meth c H locs cells slots Q (F0 m tgt ls rest)) (kf : o = none → W p l e R s m args below meth c H locs cells slots Q (F0 m (pc + 3) ls rest)) : W p l e R s m args below meth c H locs cells slots Q (F0 m pc ls (va_rf o :: rest)) := by
  cases o with
  | none => exact lv_ifnonnullN hexec hb hdg (kf rfl)
  | some a => exact lv_ifnonnull hexec hb hdg ht (kt a rfl)
/-- a field of one of the house's own objects -/
theorem gF (hexec : p.tables.exec = Jvm.exec) (hb : c.code = cc) (hts : ∀ w ∈ Ts, w.before args s = true) (hin : ∀ w ∈ wRa, w ∈ Ts) {own C : String} {T : u_T} {N ci a pl : Nat} {fs : List Value} (hw : ∀ w ∈ u_ws C T N, w ∈ wRa) (hc : vwCl[ci]? = some (C, T, N)) (hown : s.vm.findClass own = some m.cls) (hK : va_K D vwCl (tyR cs) s) (hP : va_P D vwCl (wR cs ad ρ) H) (ha : (wR cs ad ρ)[pl]? = some (a, .inr (ci, fs))) (k : Nat) {index : Nat} (v : Value) (hk : k < N) (hlink : (Cond.fieldLink own index (T k).1 (T k).2.1 (T k).2.2.1) ∈ wRa) (hv : fs[k]? = some v) (hdg : decode cc pc = .ok (.getfield index, 3))
    (kk : W p l e R s m args below meth c H locs cells slots Q (F0 m (pc + 3) ls (v :: rest))) : W p l e R s m args below meth c H locs cells slots Q (F0 m pc ls (.ref a :: rest)) :=
  va_get (D := D) (ci := ci) (v := v) (C := C) (T := T) (N := N) hexec hb hts (fun w h => hin w (hw w h)) hown hK hP pl ha hc k hk (hts _ (hin _ hlink)) (fun _ h9 => h9) hv hdg kk
theorem pF (hexec : p.tables.exec = Jvm.exec) (hb : c.code = cc) (hts : ∀ w ∈ Ts, w.before args s = true) (hin : ∀ w ∈ wRa, w ∈ Ts) {own C : String} {T : u_T} {N ci a pl : Nat} {fs : List Value} (hw : ∀ w ∈ u_ws C T N, w ∈ wRa) (hc : vwCl[ci]? = some (C, T, N)) (ty0 : Nat → FieldType) (hty : ∀ k, k < N → parseFieldDescriptor (T k).2.2.1 = some (ty0 k)) (hnm : ∀ a, a < N → ∀ b, b < N → a ≠ b → (T a).2.1 ≠ (T b).2.1) (hown : s.vm.findClass own = some m.cls) (hK : va_K D vwCl (tyR cs) s) (hP : va_P D vwCl (wR cs ad ρ) H) (hD : va_D A (wR cs ad ρ)) (hS : va_S A H0 H locs) (ha : (wR cs ad ρ)[pl]? = some (a, .inr (ci, fs))) (k : Nat) {index : Nat} {v : Value} {ty : FieldType} (hk : k < N) (hlink : (Cond.fieldLink own index (T k).1 (T k).2.1 (T k).2.2.1) ∈ wRa) (hfin : (T k).2.2.2 = false) (hd : parseFieldDescriptor (T k).2.2.1 = some ty) (hn : narrow ty v = v) (hfit : fits ty v = true) (hl : k < fs.length) {ρ2 : RS} (he : (wR cs ad ρ).set pl (a, .inr (ci, fs.set k v)) = wR cs ad ρ2) (hdg : decode cc pc = .ok (.putfield index, 3))
    (kk : ∀ (H1 : Heap) (locs1 : List Loc), va_P D vwCl (wR cs ad ρ2) H1 → va_D A (wR cs ad ρ2) → va_S A H0 H1 locs1 → W p l e R s m args below meth c H1 locs1 cells slots Q (F0 m (pc + 3) ls rest)) : W p l e R s m args below meth c H locs cells slots Q (F0 m pc ls (v :: .ref a :: rest)) :=
  va_put (D := D) (ci := ci) (v := v) (ty := ty) (C := C) (T := T) (N := N) hexec hb hts (fun w h => hin w (hw w h)) ty0 hty hnm hown hK hP hD hS pl ha hc k hk (hts _ (hin _ hlink)) (fun _ h9 => h9) hfin hd hn hfit hl hdg (fun H1 locs1 hP1 hD1 hS1 => kk H1 locs1 (he ▸ hP1) (he ▸ hD1) hS1)
/-- int arrays of the house's own -/
theorem ldF (hexec : p.tables.exec = Jvm.exec) (hb : c.code = cc) (hK : va_K D vwCl (tyR cs) s) (hP : va_P D vwCl (wR cs ad ρ) H) {k pl n : Nat} (ha : (wR cs ad ρ)[pl]? = some (ad k, .inl (cs 0, n, .inl (rA ρ k)))) {i : Int32} (v : Int32) (hin : inb i n = true) (hv : rA ρ k i.toNatClampNeg = v) (hdg : decode cc pc = .ok (.iaload, 1))
    (kk : W p l e R s m args below meth c H locs cells slots Q (F0 m (pc + 1) ls (.int v :: rest))) : W p l e R s m args below meth c H locs cells slots Q (F0 m pc ls (.int i :: .ref (ad k) :: rest)) := by
  subst hv
  exact va_iald hexec hb hK hP pl 0 ha rfl (inb_in hin) hdg kk
theorem stF (hexec : p.tables.exec = Jvm.exec) (hb : c.code = cc) (hK : va_K D vwCl (tyR cs) s) (hP : va_P D vwCl (wR cs ad ρ) H) (hD : va_D A (wR cs ad ρ)) (hS : va_S A H0 H locs) {k pl n : Nat} (ha : (wR cs ad ρ)[pl]? = some (ad k, .inl (cs 0, n, .inl (rA ρ k)))) {i x : Int32} (he : (wR cs ad ρ).set pl (ad k, .inl (cs 0, n, .inl (upd (rA ρ k) i.toNatClampNeg x))) = wR cs ad (ra ρ k i x)) (hin : inb i n = true) (hdg : decode cc pc = .ok (.iastore, 1))
    (kk : ∀ (H1 : Heap) (locs1 : List Loc), va_P D vwCl (wR cs ad (ra ρ k i x)) H1 → va_D A (wR cs ad (ra ρ k i x)) → va_S A H0 H1 locs1 → W p l e R s m args below meth c H1 locs1 cells slots Q (F0 m (pc + 1) ls rest)) : W p l e R s m args below meth c H locs cells slots Q (F0 m pc ls (.int x :: .int i :: .ref (ad k) :: rest)) :=
  va_iast hexec hb hK hP hD hS pl 0 ha rfl (inb_in hin) hdg (fun H1 locs1 hP1 hD1 hS1 => kk H1 locs1 (he ▸ hP1) (he ▸ hD1) hS1)
theorem lnF (hexec : p.tables.exec = Jvm.exec) (hb : c.code = cc) (hK : va_K D vwCl (tyR cs) s) (hP : va_P D vwCl (wR cs ad ρ) H) {k pl n : Nat} {f : Nat → Int32} (ha : (wR cs ad ρ)[pl]? = some (ad k, .inl (cs 0, n, .inl f))) {v : Int32} (hv : Int32.ofNat n = v) (hdg : decode cc pc = .ok (.arraylength, 1))
    (kk : W p l e R s m args below meth c H locs cells slots Q (F0 m (pc + 1) ls (.int v :: rest))) : W p l e R s m args below meth c H locs cells slots Q (F0 m pc ls (.ref (ad k) :: rest)) :=
  va_alen hexec hb hK hP pl 0 ha rfl hv hdg kk
/-- arrays of references -/
theorem lnA (hexec : p.tables.exec = Jvm.exec) (hb : c.code = cc) (hK : va_K D vwCl (tyR cs) s) (hP : va_P D vwCl (wR cs ad ρ) H) {k pl n t : Nat} {C : String} (ha : (wR cs ad ρ)[pl]? = some (ad k, .inl (cs t, n, .inr (.inr (.inr (.inr (rQ ρ k))))))) (ht : (tyR cs)[t]? = some (cs t, .object C)) {v : Int32} (hv : Int32.ofNat n = v) (hdg : decode cc pc = .ok (.arraylength, 1))
    (kk : W p l e R s m args below meth c H locs cells slots Q (F0 m (pc + 1) ls (.int v :: rest))) : W p l e R s m args below meth c H locs cells slots Q (F0 m pc ls (.ref (ad k) :: rest)) :=
  va_alen hexec hb hK hP pl t ha ht hv hdg kk
theorem ldA (hexec : p.tables.exec = Jvm.exec) (hb : c.code = cc) (hK : va_K D vwCl (tyR cs) s) (hP : va_P D vwCl (wR cs ad ρ) H) {k pl n t : Nat} {C : String} (ha : (wR cs ad ρ)[pl]? = some (ad k, .inl (cs t, n, .inr (.inr (.inr (.inr (rQ ρ k))))))) (ht : (tyR cs)[t]? = some (cs t, .object C)) {i : Int32} (v : Option Nat) (hin : inb i n = true) (hv : rQ ρ k i.toNatClampNeg = v) (hdg : decode cc pc = .ok (.aaload, 1))
    (kk : W p l e R s m args below meth c H locs cells slots Q (F0 m (pc + 1) ls (va_rf v :: rest))) : W p l e R s m args below meth c H locs cells slots Q (F0 m pc ls (.int i :: .ref (ad k) :: rest)) := by
  subst hv
  exact va_aldq hexec hb hK hP pl t ha ht (inb_in hin) hdg kk
theorem snA (hexec : p.tables.exec = Jvm.exec) (hb : c.code = cc) (hK : va_K D vwCl (tyR cs) s) (hP : va_P D vwCl (wR cs ad ρ) H) (hD : va_D A (wR cs ad ρ)) (hS : va_S A H0 H locs) {k pl n t : Nat} {C : String} (ha : (wR cs ad ρ)[pl]? = some (ad k, .inl (cs t, n, .inr (.inr (.inr (.inr (rQ ρ k))))))) (ht : (tyR cs)[t]? = some (cs t, .object C)) {i : Int32} (he : (wR cs ad ρ).set pl (ad k, .inl (cs t, n, .inr (.inr (.inr (.inr (va_up (rQ ρ k) i.toNatClampNeg none)))))) = wR cs ad (rq ρ k i none)) (hin : inb i n = true) (hdg : decode cc pc = .ok (.aastore, 1))
    (kk : ∀ (H1 : Heap) (locs1 : List Loc), va_P D vwCl (wR cs ad (rq ρ k i none)) H1 → va_D A (wR cs ad (rq ρ k i none)) → va_S A H0 H1 locs1 → W p l e R s m args below meth c H1 locs1 cells slots Q (F0 m (pc + 1) ls rest)) : W p l e R s m args below meth c H locs cells slots Q (F0 m pc ls (.null :: .int i :: .ref (ad k) :: rest)) :=
  va_astqN hexec hb hK hP hD hS pl t ha ht (inb_in hin) hdg (fun H1 locs1 hP1 hD1 hS1 => kk H1 locs1 (he ▸ hP1) (he ▸ hD1) hS1)
theorem stA (hexec : p.tables.exec = Jvm.exec) (hb : c.code = cc) (hK : va_K D vwCl (tyR cs) s) (hP : va_P D vwCl (wR cs ad ρ) H) (hD : va_D A (wR cs ad ρ)) (hS : va_S A H0 H locs) {k pl n t ci v : Nat} {r : vw_C} {fs : List Value} (ha : (wR cs ad ρ)[pl]? = some (ad k, .inl (cs t, n, .inr (.inr (.inr (.inr (rQ ρ k))))))) (ht : (tyR cs)[t]? = some (cs t, .object r.1)) (hc : vwCl[ci]? = some r) (hv : isK ρ v ci = true) (hf : pf (cs 0) ρ v = .inr (ci, fs)) {i : Int32} (he : (wR cs ad ρ).set pl (ad k, .inl (cs t, n, .inr (.inr (.inr (.inr (va_up (rQ ρ k) i.toNatClampNeg (some v))))))) = wR cs ad (rq ρ k i (some v))) (hin : inb i n = true) (hdg : decode cc pc = .ok (.aastore, 1))
    (kk : ∀ (H1 : Heap) (locs1 : List Loc), va_P D vwCl (wR cs ad (rq ρ k i (some v))) H1 → va_D A (wR cs ad (rq ρ k i (some v))) → va_S A H0 H1 locs1 → W p l e R s m args below meth c H1 locs1 cells slots Q (F0 m (pc + 1) ls rest)) : W p l e R s m args below meth c H locs cells slots Q (F0 m pc ls (.ref v :: .int i :: .ref (ad k) :: rest)) := by
  obtain ⟨j, hj⟩ := va_pl_get (X := xR cs ad ρ) (f := pf (cs 0) ρ) (isK_L hv)
  rw [hf] at hj
  exact va_astq hexec hb hK hP hD hS pl t j ci ha ht hj hc (inb_in hin) hdg (fun H1 locs1 hP1 hD1 hS1 => kk H1 locs1 (he ▸ hP1) (he ▸ hD1) hS1)
/-- an object of the pool -/
theorem gP (hexec : p.tables.exec = Jvm.exec) (hb : c.code = cc) (hts : ∀ w ∈ Ts, w.before args s = true) (hin : ∀ w ∈ wRa, w ∈ Ts) {own C : String} {T : u_T} {N ci a : Nat} {fs : List Value} (hw : ∀ w ∈ u_ws C T N, w ∈ wRa) (hc : vwCl[ci]? = some (C, T, N)) (hown : s.vm.findClass own = some m.cls) (hK : va_K D vwCl (tyR cs) s) (hP : va_P D vwCl (wR cs ad ρ) H) (hv0 : isK ρ a ci = true) (hf : pf (cs 0) ρ a = .inr (ci, fs)) (k : Nat) {index : Nat} (v : Value) (hk : k < N) (hlink : (Cond.fieldLink own index (T k).1 (T k).2.1 (T k).2.2.1) ∈ wRa) (hv : fs[k]? = some v) (hdg : decode cc pc = .ok (.getfield index, 3))
    (kk : W p l e R s m args below meth c H locs cells slots Q (F0 m (pc + 3) ls (v :: rest))) : W p l e R s m args below meth c H locs cells slots Q (F0 m pc ls (.ref a :: rest)) := by
  obtain ⟨j, hj⟩ := va_pl_get (X := xR cs ad ρ) (f := pf (cs 0) ρ) (isK_L hv0)
  rw [hf] at hj
  exact va_get (D := D) (ci := ci) (v := v) (C := C) (T := T) (N := N) hexec hb hts (fun w h => hin w (hw w h)) hown hK hP j hj hc k hk (hts _ (hin _ hlink)) (fun _ h9 => h9) hv hdg kk
theorem pP (hexec : p.tables.exec = Jvm.exec) (hb : c.code = cc) (hts : ∀ w ∈ Ts, w.before args s = true) (hin : ∀ w ∈ wRa, w ∈ Ts) {own C : String} {T : u_T} {N ci a : Nat} {fs : List Value} (hw : ∀ w ∈ u_ws C T N, w ∈ wRa) (hc : vwCl[ci]? = some (C, T, N)) (ty0 : Nat → FieldType) (hty : ∀ k, k < N → parseFieldDescriptor (T k).2.2.1 = some (ty0 k)) (hnm : ∀ a, a < N → ∀ b, b < N → a ≠ b → (T a).2.1 ≠ (T b).2.1) (hown : s.vm.findClass own = some m.cls) (hK : va_K D vwCl (tyR cs) s) (hP : va_P D vwCl (wR cs ad ρ) H) (hD : va_D A (wR cs ad ρ)) (hS : va_S A H0 H locs) (hv0 : isK ρ a ci = true) (hf : pf (cs 0) ρ a = .inr (ci, fs)) (k : Nat) {index : Nat} {v : Value} {ty : FieldType} (hk : k < N) (hlink : (Cond.fieldLink own index (T k).1 (T k).2.1 (T k).2.2.1) ∈ wRa) (hfin : (T k).2.2.2 = false) (hd : parseFieldDescriptor (T k).2.2.1 = some ty) (hn : narrow ty v = v) (hfit : fits ty v = true) (hl : k < fs.length) {ρ2 : RS} (hx2 : xR cs ad ρ2 = xR cs ad ρ) (hL2 : pL ρ2 = pL ρ) (he : ∀ b, va_up (pf (cs 0) ρ) a (.inr (ci, fs.set k v)) b = pf (cs 0) ρ2 b) (hdg : decode cc pc = .ok (.putfield index, 3))
    (kk : ∀ (H1 : Heap) (locs1 : List Loc), va_P D vwCl (wR cs ad ρ2) H1 → va_D A (wR cs ad ρ2) → va_S A H0 H1 locs1 → W p l e R s m args below meth c H1 locs1 cells slots Q (F0 m (pc + 3) ls rest)) : W p l e R s m args below meth c H locs cells slots Q (F0 m pc ls (v :: .ref a :: rest)) := by
  obtain ⟨j, hj⟩ := va_pl_get (X := xR cs ad ρ) (f := pf (cs 0) ρ) (isK_L hv0)
  have hset := va_pl_set (e := .inr (ci, fs.set k v)) hD (isK_L hv0) hj
  have e2 : xR cs ad ρ ++ va_pl (pL ρ) (va_up (pf (cs 0) ρ) a (.inr (ci, fs.set k v))) = wR cs ad ρ2 := by
    unfold wR
    rw [hx2, hL2]
    exact congrArg (fun q => xR cs ad ρ ++ q) (va_pl_congr he)
  rw [hf] at hj
  refine va_put (D := D) (ci := ci) (v := v) (ty := ty) (C := C) (T := T) (N := N) hexec hb hts (fun w h => hin w (hw w h)) ty0 hty hnm hown hK hP hD hS j hj hc k hk (hts _ (hin _ hlink)) (fun _ h9 => h9) hfin hd hn hfit hl hdg (fun H1 locs1 hP1 hD1 hS1 => ?_)
  have hP2 : va_P D vwCl ((xR cs ad ρ ++ va_pl (pL ρ) (pf (cs 0) ρ)).set j (a, .inr (ci, fs.set k v))) H1 := hP1
  have hD2 : va_D A ((xR cs ad ρ ++ va_pl (pL ρ) (pf (cs 0) ρ)).set j (a, .inr (ci, fs.set k v))) := hD1
  rw [hset, e2] at hP2 hD2
  exact kk H1 locs1 hP2 hD2 hS1
theorem ldP (hexec : p.tables.exec = Jvm.exec) (hb : c.code = cc) (hK : va_K D vwCl (tyR cs) s) (hP : va_P D vwCl (wR cs ad ρ) H) {a : Nat} (hv0 : isK ρ a 11 = true) {i : Int32} (v : Int32) (hin : inb i (pN ρ a) = true) (hv : pA ρ a i.toNatClampNeg = v) (hdg : decode cc pc = .ok (.iaload, 1))
    (kk : W p l e R s m args below meth c H locs cells slots Q (F0 m (pc + 1) ls (.int v :: rest))) : W p l e R s m args below meth c H locs cells slots Q (F0 m pc ls (.int i :: .ref a :: rest)) := by
  subst hv
  obtain ⟨j, hj⟩ := va_pl_get (X := xR cs ad ρ) (f := pf (cs 0) ρ) (isK_L hv0)
  rw [pf_11 (isK_K hv0)] at hj
  exact va_iald hexec hb hK hP j 0 hj rfl (inb_in hin) hdg kk
theorem lnP (hexec : p.tables.exec = Jvm.exec) (hb : c.code = cc) (hK : va_K D vwCl (tyR cs) s) (hP : va_P D vwCl (wR cs ad ρ) H) {a : Nat} (hv0 : isK ρ a 11 = true) {v : Int32} (hv : Int32.ofNat (pN ρ a) = v) (hdg : decode cc pc = .ok (.arraylength, 1))
    (kk : W p l e R s m args below meth c H locs cells slots Q (F0 m (pc + 1) ls (.int v :: rest))) : W p l e R s m args below meth c H locs cells slots Q (F0 m pc ls (.ref a :: rest)) := by
  obtain ⟨j, hj⟩ := va_pl_get (X := xR cs ad ρ) (f := pf (cs 0) ρ) (isK_L hv0)
  rw [pf_11 (isK_K hv0)] at hj
  exact va_alen hexec hb hK hP j 0 hj rfl hv hdg kk
theorem stP (hexec : p.tables.exec = Jvm.exec) (hb : c.code = cc) (hK : va_K D vwCl (tyR cs) s) (hP : va_P D vwCl (wR cs ad ρ) H) (hD : va_D A (wR cs ad ρ)) (hS : va_S A H0 H locs) {a : Nat} (hv0 : isK ρ a 11 = true) {i x : Int32} (hin : inb i (pN ρ a) = true) (hdg : decode cc pc = .ok (.iastore, 1))
    (kk : ∀ (H1 : Heap) (locs1 : List Loc), va_P D vwCl (wR cs ad (wa ρ a i x)) H1 → va_D A (wR cs ad (wa ρ a i x)) → va_S A H0 H1 locs1 → W p l e R s m args below meth c H1 locs1 cells slots Q (F0 m (pc + 1) ls rest)) : W p l e R s m args below meth c H locs cells slots Q (F0 m pc ls (.int x :: .int i :: .ref a :: rest)) := by
  obtain ⟨j, hj⟩ := va_pl_get (X := xR cs ad ρ) (f := pf (cs 0) ρ) (isK_L hv0)
  have hset := va_pl_set (e := .inl (cs 0, pN ρ a, .inl (upd (pA ρ a) i.toNatClampNeg x))) hD (isK_L hv0) hj
  have e2 : xR cs ad ρ ++ va_pl (pL ρ) (va_up (pf (cs 0) ρ) a (.inl (cs 0, pN ρ a, .inl (upd (pA ρ a) i.toNatClampNeg x)))) = wR cs ad (wa ρ a i x) :=
    congrArg (fun q => xR cs ad ρ ++ q) (va_pl_congr (pw_11 (isK_K hv0) i x))
  rw [pf_11 (isK_K hv0)] at hj
  refine va_iast hexec hb hK hP hD hS j 0 hj rfl (inb_in hin) hdg (fun H1 locs1 hP1 hD1 hS1 => ?_)
  have hP2 : va_P D vwCl ((xR cs ad ρ ++ va_pl (pL ρ) (pf (cs 0) ρ)).set j (a, .inl (cs 0, pN ρ a, .inl (upd (pA ρ a) i.toNatClampNeg x)))) H1 := hP1
  have hD2 : va_D A ((xR cs ad ρ ++ va_pl (pL ρ) (pf (cs 0) ρ)).set j (a, .inl (cs 0, pN ρ a, .inl (upd (pA ρ a) i.toNatClampNeg x)))) := hD1
  rw [hset, e2] at hP2 hD2
  exact kk H1 locs1 hP2 hD2 hS1
theorem rcF {ci a pl : Nat} {r : vw_C} {fs : List Value} (hK : va_K D vwCl (tyR cs) s) (hP : va_P D vwCl (wR cs ad ρ) H) (hc : vwCl[ci]? = some r) (ha : (wR cs ad ρ)[pl]? = some (a, .inr (ci, fs))) : ∃ cell : Cell, H[a]? = some cell ∧ cell.vm.isStatics = false ∧ s.vm.findClass r.1 = some cell.cls := va_recv hK hP hc ha
theorem rcP {ci a : Nat} {r : vw_C} {fs : List Value} (hK : va_K D vwCl (tyR cs) s) (hP : va_P D vwCl (wR cs ad ρ) H) (hc : vwCl[ci]? = some r) (hv0 : isK ρ a ci = true) (hf : pf (cs 0) ρ a = .inr (ci, fs)) : ∃ cell : Cell, H[a]? = some cell ∧ cell.vm.isStatics = false ∧ s.vm.findClass r.1 = some cell.cls := by
  obtain ⟨j, hj⟩ := va_pl_get (X := xR cs ad ρ) (f := pf (cs 0) ρ) (isK_L hv0)
  rw [hf] at hj
  exact va_recv hK hP hc hj
theorem blQ {av : List Value} : FrameBlind (va_Pc av (preQ D cs ad tb A ρ)) := fun a U g mk q => by
  obtain ⟨q0, qP, qK, qD, h1, h2, h3, h4, h5, h6, ⟨n1, n2, n3, n4, n5⟩, hj⟩ := q
  have h0 : U.vm.Alike (U.calling g mk a).vm := Vm.Alike.refl U.vm
  have e0 : U.vm = (U.calling g mk a).vm := rfl
  exact ⟨q0, qP, va_K.moved (u := U) (U := U.calling g mk a) h0 qK, qD, h1, h2, h3.moved h0, h4.moved h0, h5.moved h0, h6.moved h0, ⟨n1.same rfl e0, n2.same rfl e0, n3.same rfl e0, n4.same rfl e0, n5.same rfl e0⟩, hj.same h0 rfl⟩
theorem preQ.at (hK : va_K D vwCl (tyR cs) s) (hP : va_P D vwCl (wR cs ad ρ) H) (hD : va_D A (wR cs ad ρ)) (hS : va_S A s.heap H locs) (hZ : stR tb A s s.heap) {U : State} (hU : U.heap = H) (hW : s.WarmedH U.vm) : preQ D cs ad tb A ρ U := ⟨by rw [hU]; exact hP, va_K.moved hW.alike hK, hD, hZ.at hS hU hW⟩
variable {y : MethodName} {bytes : ByteArray} {maxL n index : Nat} {ret : Option FieldType} {ws : List Cond} {rm : Room} {As : List Value} {st0 : List Value} {own C : String} {b : Nat}
/-- calls on an object: a method that only reads (int; reference), one that writes (int; void) -/
theorem crR {r : Int32} (S : CallFix p m c cc nL s args Ts own) (hM : Met l y ws rm (va_Pc (.ref b :: As) (preQ D cs ad tb A ρ)) (vp_Si (fun x => x = r)) 0 0 (fun _ => False)) (cw : CallW R s args own C index y bytes maxL ret ws rm 0 0 n) (hR : cells ≤ R.cells ∧ slots ≤ R.slots) (hrec : ∃ cell : Cell, H[b]? = some cell ∧ cell.vm.isStatics = false ∧ s.vm.findClass C = some cell.cls) (hK : va_K D vwCl (tyR cs) s) (hP : va_P D vwCl (wR cs ad ρ) H) (hD : va_D A (wR cs ad ρ)) (hS : va_S A s.heap H locs) (hZ : stR tb A s s.heap) (hn : As.length = n) (hsize : ls.size = nL) (hstack : st0 = As.reverse ++ .ref b :: rest) (hW : 2 * (F0 m pc ls st0).monitorRoom + (rest.map fun v => v.category).sum ≤ 8) (hdg : decode cc pc = .ok (.invokevirtual index, 3))
    (kk : W p l e R s m args below meth c H locs cells slots Q (F0 m (pc + 3) ls (.int r :: rest))) : W p l e R s m args below meth c H locs cells slots Q (F0 m pc ls st0) := by
  refine vp_callSi (post := fun x => x = r) (rest := rest) (va_Run.run (va_runV (As := As) (rest := rest) S hM cw ⟨blQ, hrec, fun U hU hW => ⟨rfl, preQ.at hK hP hD hS hZ hU hW⟩⟩ rfl hn hsize hstack hW hdg hR)) (fun x hx => ?_)
  subst hx
  exact kk
theorem cqR {r : Option Nat} (S : CallFix p m c cc nL s args Ts own) (hM : Met l y ws rm (va_Pc (.ref b :: As) (preQ D cs ad tb A ρ)) (va_Sq (fun x => x = r)) 0 0 (fun _ => False)) (cw : CallW R s args own C index y bytes maxL ret ws rm 0 0 n) (hR : cells ≤ R.cells ∧ slots ≤ R.slots) (hrec : ∃ cell : Cell, H[b]? = some cell ∧ cell.vm.isStatics = false ∧ s.vm.findClass C = some cell.cls) (hK : va_K D vwCl (tyR cs) s) (hP : va_P D vwCl (wR cs ad ρ) H) (hD : va_D A (wR cs ad ρ)) (hS : va_S A s.heap H locs) (hZ : stR tb A s s.heap) (hn : As.length = n) (hsize : ls.size = nL) (hstack : st0 = As.reverse ++ .ref b :: rest) (hW : 2 * (F0 m pc ls st0).monitorRoom + (rest.map fun v => v.category).sum ≤ 8) (hdg : decode cc pc = .ok (.invokevirtual index, 3))
    (kk : W p l e R s m args below meth c H locs cells slots Q (F0 m (pc + 3) ls (va_rf r :: rest))) : W p l e R s m args below meth c H locs cells slots Q (F0 m pc ls st0) := by
  refine va_csq (post := fun x => x = r) (rest := rest) (va_Run.run (va_runV (As := As) (rest := rest) S hM cw ⟨blQ, hrec, fun U hU hW => ⟨rfl, preQ.at hK hP hD hS hZ hU hW⟩⟩ rfl hn hsize hstack hW hdg hR)) (fun x hx => ?_)
  subst hx
  exact kk
theorem cwR {q : Int32 × RS} (S : CallFix p m c cc nL s args Ts own) (hM : Met l y ws rm (va_Pc (.ref b :: As) (preQ D cs ad tb A ρ)) (va_Qi (fun x u => x = q.1 ∧ u = q.2) (posQ D cs ad A) A) 0 0 A) (cw : CallW R s args own C index y bytes maxL ret ws rm 0 0 n) (hR : cells ≤ R.cells ∧ slots ≤ R.slots) (hrec : ∃ cell : Cell, H[b]? = some cell ∧ cell.vm.isStatics = false ∧ s.vm.findClass C = some cell.cls) (hK : va_K D vwCl (tyR cs) s) (hP : va_P D vwCl (wR cs ad ρ) H) (hD : va_D A (wR cs ad ρ)) (hS : va_S A s.heap H locs) (hZ : stR tb A s s.heap) (hn : As.length = n) (hsize : ls.size = nL) (hstack : st0 = As.reverse ++ .ref b :: rest) (hW : 2 * (F0 m pc ls st0).monitorRoom + (rest.map fun v => v.category).sum ≤ 8) (hdg : decode cc pc = .ok (.invokevirtual index, 3))
    (kk : ∀ (H1 : Heap) (locs1 : List Loc), va_P D vwCl (wR cs ad q.2) H1 → va_D A (wR cs ad q.2) → va_S A s.heap H1 locs1 → W p l e R s m args below meth c H1 locs1 cells slots Q (F0 m (pc + 3) ls (.int q.1 :: rest))) : W p l e R s m args below meth c H locs cells slots Q (F0 m pc ls st0) := by
  refine va_calli (va_runV (As := As) (rest := rest) S hM cw ⟨blQ, hrec, fun U hU hW => ⟨rfl, preQ.at hK hP hD hS hZ hU hW⟩⟩ rfl hn hsize hstack hW hdg hR) hS (fun _ _ h => h) (fun _ h => h) (fun r u t H1 locs1 ht hvm hw hB hz1 hk1 hS1 => ?_)
  obtain ⟨rfl, rfl⟩ := hw
  exact kk H1 locs1 (by rw [← ht]; exact hB.1) hB.2.2 hS1
theorem cvR {q : RS} (S : CallFix p m c cc nL s args Ts own) (hM : Met l y ws rm (va_Pc (.ref b :: As) (preQ D cs ad tb A ρ)) (va_Qv (fun u => u = q) (posQ D cs ad A) A) 0 0 A) (cw : CallW R s args own C index y bytes maxL ret ws rm 0 0 n) (hR : cells ≤ R.cells ∧ slots ≤ R.slots) (hrec : ∃ cell : Cell, H[b]? = some cell ∧ cell.vm.isStatics = false ∧ s.vm.findClass C = some cell.cls) (hK : va_K D vwCl (tyR cs) s) (hP : va_P D vwCl (wR cs ad ρ) H) (hD : va_D A (wR cs ad ρ)) (hS : va_S A s.heap H locs) (hZ : stR tb A s s.heap) (hn : As.length = n) (hsize : ls.size = nL) (hstack : st0 = As.reverse ++ .ref b :: rest) (hW : 2 * (F0 m pc ls st0).monitorRoom + (rest.map fun v => v.category).sum ≤ 8) (hdg : decode cc pc = .ok (.invokevirtual index, 3))
    (kk : ∀ (H1 : Heap) (locs1 : List Loc), va_P D vwCl (wR cs ad q) H1 → va_D A (wR cs ad q) → va_S A s.heap H1 locs1 → W p l e R s m args below meth c H1 locs1 cells slots Q (F0 m (pc + 3) ls rest)) : W p l e R s m args below meth c H locs cells slots Q (F0 m pc ls st0) := by
  refine va_callv (va_runV (As := As) (rest := rest) S hM cw ⟨blQ, hrec, fun U hU hW => ⟨rfl, preQ.at hK hP hD hS hZ hU hW⟩⟩ rfl hn hsize hstack hW hdg hR) hS (fun _ _ h => h) (fun _ h => h) (fun u t H1 locs1 ht hvm hw hB hz1 hk1 hS1 => ?_)
  subst hw
  exact kk H1 locs1 (by rw [← ht]; exact hB.1) hB.2.2 hS1
/-- static calls: without a world; with it (reads; writes, void) -/
theorem csR {r : Int32} (S : CallFix p m c cc nL s args Ts own) (hM : Met l y ws rm (va_Pc As (fun _ => True)) (vp_Si (fun x => x = r)) 0 0 (fun _ => False)) (cw : CallB R s args own index y bytes maxL ret ws rm 0 0 n ∧ (Cond.static y).before args s = true) (hR : cells ≤ R.cells ∧ slots ≤ R.slots) (hn : As.length = n) (hsize : ls.size = nL) (hstack : st0 = As.reverse ++ rest) (hW : 2 * (F0 m pc ls st0).monitorRoom + (rest.map fun v => v.category).sum ≤ 8) (hdg : decode cc pc = .ok (.invokestatic index, 3))
    (kk : W p l e R s m args below meth c H locs cells slots Q (F0 m (pc + 3) ls (.int r :: rest))) : W p l e R s m args below meth c H locs cells slots Q (F0 m pc ls st0) := by
  refine vp_callSi (post := fun x => x = r) (rest := rest) (va_Run.run (va_runS (As := As) (rest := rest) S hM cw ⟨fun a U g mk q => q, fun U hU hW => ⟨rfl, trivial⟩⟩ rfl hn hsize hstack hW hdg hR)) (fun x hx => ?_)
  subst hx
  exact kk
theorem ctR {r : Int32} (S : CallFix p m c cc nL s args Ts own) (hM : Met l y ws rm (va_Pc As (preQ D cs ad tb A ρ)) (vp_Si (fun x => x = r)) 0 0 (fun _ => False)) (cw : CallB R s args own index y bytes maxL ret ws rm 0 0 n ∧ (Cond.static y).before args s = true) (hR : cells ≤ R.cells ∧ slots ≤ R.slots) (hK : va_K D vwCl (tyR cs) s) (hP : va_P D vwCl (wR cs ad ρ) H) (hD : va_D A (wR cs ad ρ)) (hS : va_S A s.heap H locs) (hZ : stR tb A s s.heap) (hn : As.length = n) (hsize : ls.size = nL) (hstack : st0 = As.reverse ++ rest) (hW : 2 * (F0 m pc ls st0).monitorRoom + (rest.map fun v => v.category).sum ≤ 8) (hdg : decode cc pc = .ok (.invokestatic index, 3))
    (kk : W p l e R s m args below meth c H locs cells slots Q (F0 m (pc + 3) ls (.int r :: rest))) : W p l e R s m args below meth c H locs cells slots Q (F0 m pc ls st0) := by
  refine vp_callSi (post := fun x => x = r) (rest := rest) (va_Run.run (va_runS (As := As) (rest := rest) S hM cw ⟨blQ, fun U hU hW => ⟨rfl, preQ.at hK hP hD hS hZ hU hW⟩⟩ rfl hn hsize hstack hW hdg hR)) (fun x hx => ?_)
  subst hx
  exact kk
theorem cnR {r : Int32} {host : String} (S : CallFix p m c cc nL s args Ts own) (hM : Met l y ws rm (va_Pc As (preQ D cs ad tb A ρ)) (vp_Si (fun x => x = r)) 0 0 (fun _ => False)) (cw : va_CN R s args own index y host bytes maxL ret ws rm 0 0 n ∧ (Cond.static y).before args s = true ∧ True) (hR : cells ≤ R.cells ∧ slots ≤ R.slots) (hK : va_K D vwCl (tyR cs) s) (hP : va_P D vwCl (wR cs ad ρ) H) (hD : va_D A (wR cs ad ρ)) (hS : va_S A s.heap H locs) (hZ : stR tb A s s.heap) (hn : As.length = n) (hsize : ls.size = nL) (hstack : st0 = As.reverse ++ rest) (hW : 2 * (F0 m pc ls st0).monitorRoom + (rest.map fun v => v.category).sum ≤ 8) (hdg : decode cc pc = .ok (.invokestatic index, 3))
    (kk : W p l e R s m args below meth c H locs cells slots Q (F0 m (pc + 3) ls (.int r :: rest))) : W p l e R s m args below meth c H locs cells slots Q (F0 m pc ls st0) := by
  refine vp_callSi (post := fun x => x = r) (rest := rest) (va_Run.run (va_runSN (As := As) (rest := rest) S hM cw ⟨blQ, fun U hU hW => ⟨rfl, preQ.at hK hP hD hS hZ hU hW⟩⟩ rfl hn hsize hstack hW hdg hR)) (fun x hx => ?_)
  subst hx
  exact kk
theorem cuR {q : RS} (S : CallFix p m c cc nL s args Ts own) (hM : Met l y ws rm (va_Pc As (preQ D cs ad tb A ρ)) (va_Qv (fun u => u = q) (posQ D cs ad A) A) 0 0 A) (cw : CallB R s args own index y bytes maxL ret ws rm 0 0 n ∧ (Cond.static y).before args s = true) (hR : cells ≤ R.cells ∧ slots ≤ R.slots) (hK : va_K D vwCl (tyR cs) s) (hP : va_P D vwCl (wR cs ad ρ) H) (hD : va_D A (wR cs ad ρ)) (hS : va_S A s.heap H locs) (hZ : stR tb A s s.heap) (hn : As.length = n) (hsize : ls.size = nL) (hstack : st0 = As.reverse ++ rest) (hW : 2 * (F0 m pc ls st0).monitorRoom + (rest.map fun v => v.category).sum ≤ 8) (hdg : decode cc pc = .ok (.invokestatic index, 3))
    (kk : ∀ (H1 : Heap) (locs1 : List Loc), va_P D vwCl (wR cs ad q) H1 → va_D A (wR cs ad q) → va_S A s.heap H1 locs1 → W p l e R s m args below meth c H1 locs1 cells slots Q (F0 m (pc + 3) ls rest)) : W p l e R s m args below meth c H locs cells slots Q (F0 m pc ls st0) := by
  refine va_callv (va_runS (As := As) (rest := rest) S hM cw ⟨blQ, fun U hU hW => ⟨rfl, preQ.at hK hP hD hS hZ hU hW⟩⟩ rfl hn hsize hstack hW hdg hR) hS (fun _ _ h => h) (fun _ h => h) (fun u t H1 locs1 ht hvm hw hB hz1 hk1 hS1 => ?_)
  subst hw
  exact kk H1 locs1 (by rw [← ht]; exact hB.1) hB.2.2 hS1
/-- answers -/
theorem rqR {o r : Option Nat} {rt : FieldType} (hexec : p.tables.exec = Jvm.exec) (hb : c.code = cc) (hr : meth.sig.returnType = some rt) (hrt : (∃ n, rt = .object n) ∨ ∃ t, rt = .array t) (hlocks : meth.locks = false) (hE : some o = some r) (hdg : decode cc pc = .ok (.areturn, 1)) : W p l e R s m args below meth c s.heap [] 0 0 (MQ below (va_Sq (fun x => x = r)) args s 0 0 (fun _ => False)) (F0 m pc ls [va_rf o]) :=
  W.aret hexec hb hr hrt (va_rf_or o) (fun t ht _ => ⟨o, rfl, Option.some.inj hE, ht⟩) (fun q hq => by cases hq) hdg hlocks
theorem rwR {v : Int32} {q : Int32 × RS} (hexec : p.tables.exec = Jvm.exec) (hb : c.code = cc) (hr : meth.sig.returnType = some .int) (hlocks : meth.locks = false) (hE : some (v, ρ) = some q) (hK : va_K D vwCl (tyR cs) s) (hP : va_P D vwCl (wR cs ad ρ) H) (hD : va_D A (wR cs ad ρ)) (hS : va_S A s.heap H locs) (hdg : decode cc pc = .ok (.ireturn, 1)) : W p l e R s m args below meth c H locs 0 0 (MQ below (va_Qi (fun x u => x = q.1 ∧ u = q.2) (posQ D cs ad A) A) args s 0 0 A) (F0 m pc ls [.int v]) :=
  W.iret hexec hb hr (fun t ht hW => ⟨⟨v, ρ, rfl, ⟨congrArg Prod.fst (Option.some.inj hE), congrArg Prod.snd (Option.some.inj hE)⟩, by rw [ht]; exact hP, va_K.moved hW.alike hK, hD⟩, hS.F ht⟩) hS.2.2 hdg hlocks
theorem rxR {v : Int32} {q : Int32 × RS} {ty : FieldType} (hexec : p.tables.exec = Jvm.exec) (hb : c.code = cc) (hr : meth.sig.returnType = some ty) (hlocks : meth.locks = false) (hn : narrow ty (.int v) = .int v) (hE : some (v, ρ) = some q) (hK : va_K D vwCl (tyR cs) s) (hP : va_P D vwCl (wR cs ad ρ) H) (hD : va_D A (wR cs ad ρ)) (hS : va_S A s.heap H locs) (hdg : decode cc pc = .ok (.ireturn, 1)) : W p l e R s m args below meth c H locs 0 0 (MQ below (va_Qi (fun x u => x = q.1 ∧ u = q.2) (posQ D cs ad A) A) args s 0 0 A) (F0 m pc ls [.int v]) :=
  W.zret hexec hb hr hn (fun t ht hW => ⟨⟨v, ρ, rfl, ⟨congrArg Prod.fst (Option.some.inj hE), congrArg Prod.snd (Option.some.inj hE)⟩, by rw [ht]; exact hP, va_K.moved hW.alike hK, hD⟩, hS.F ht⟩) hS.2.2 hdg hlocks
theorem rvR {q : RS} (hexec : p.tables.exec = Jvm.exec) (hb : c.code = cc) (hr : meth.sig.returnType = none) (hlocks : meth.locks = false) (hE : some ρ = some q) (hK : va_K D vwCl (tyR cs) s) (hP : va_P D vwCl (wR cs ad ρ) H) (hD : va_D A (wR cs ad ρ)) (hS : va_S A s.heap H locs) (hdg : decode cc pc = .ok (.return_, 1)) : W p l e R s m args below meth c H locs 0 0 (MQ below (va_Qv (fun u => u = q) (posQ D cs ad A) A) args s 0 0 A) (F0 m pc ls []) :=
  W.vret hexec hb hr (fun t ht hW => ⟨⟨ρ, rfl, Option.some.inj hE, by rw [ht]; exact hP, va_K.moved hW.alike hK, hD⟩, hS.F ht⟩) hS.2.2 hdg hlocks
end ROWSR
