def inc (n : Int32) (cap : Nat) : Bool := decide (¬ n < 0 ∧ n.toNatClampNeg ≤ cap)
theorem isK_nO (ρ : RS) (a k : Nat) : isK (nO ρ a k) a k = true := by simp [isK, pL, pK, nO, rp, va_up]
theorem isK_nA (ρ : RS) (a n : Nat) (g : Nat → Int32) : isK (nA ρ a n g) a 11 = true := by simp [isK, pL, pK, nA, rp, va_up]
theorem pf_nO {cI : ClassId} {ρ : RS} {a k : Nat} {fs : List Value} (hf : pf cI (nO ρ a k) a = .inr (k, fs)) (b : Nat) : va_up (pf cI ρ) a (.inr (k, fs)) b = pf cI (nO ρ a k) b := by
  by_cases hb : b = a
  · subst hb; rw [va_up_self, hf]
  · rw [va_up_ne _ _ hb]
    exact Eq.symm (pf_cong (ρ := ρ) (ρ2 := nO ρ a k) (by simp [pK, nO, rp, va_up, hb]) (fun j => by simp [pI, nO, rp, va_up, hb]) (fun j => by simp [pR, nO, rp, va_up, hb]) rfl rfl)
theorem pf_nA {cI : ClassId} {ρ : RS} {a n : Nat} {g : Nat → Int32} (b : Nat) : va_up (pf cI ρ) a (.inl (cI, n, .inl g)) b = pf cI (nA ρ a n g) b := by
  by_cases hb : b = a
  · subst hb; rw [va_up_self, pf_11 (ρ := nA ρ b n g) (by simp [pK, nA, rp, va_up])]; simp [pN, pA, nA, rp, va_up]
  · rw [va_up_ne _ _ hb]
    exact Eq.symm (pf_cong (ρ := ρ) (ρ2 := nA ρ a n g) (by simp [pK, nA, rp, va_up, hb]) (fun j => rfl) (fun j => rfl) (by simp [pN, nA, rp, va_up, hb]) (by simp [pA, nA, rp, va_up, hb]))
theorem df_0 {cI : ClassId} (ρ : RS) (a : Nat) : pf cI (nO ρ a 0) a = .inr (0, [.null, .int 0, .int 0]) := by rw [pf_0 (by simp [pK, nO, rp, va_up])]; simp [fP0, pI, pR, nO, rp, va_up, va_rf]
theorem df_4 {cI : ClassId} (ρ : RS) (a : Nat) : pf cI (nO ρ a 4) a = .inr (4, [.null, .null, .null, .int 0, .int 0]) := by rw [pf_4 (by simp [pK, nO, rp, va_up])]; simp [fP4, pI, pR, nO, rp, va_up, va_rf]
theorem df_3 {cI : ClassId} (ρ : RS) (a : Nat) : pf cI (nO ρ a 3) a = .inr (3, [.int 0, .int 0, .int 0, .int 0]) := by rw [pf_3 (by simp [pK, nO, rp, va_up])]; simp [fP3, pI, pR, nO, rp, va_up, va_rf]
theorem df_6 {cI : ClassId} (ρ : RS) (a : Nat) : pf cI (nO ρ a 6) a = .inr (6, [.null, .int 0]) := by rw [pf_6 (by simp [pK, nO, rp, va_up])]; simp [fP6, pI, pR, nO, rp, va_up, va_rf]
def preN (N : Nat) (D : va_G) (cs : Nat → ClassId) (ad tb : Nat → Nat) (A : Nat → Prop) (ρ : RS) (U : State) : Prop := U.heap.size = N ∧ preQ D cs ad tb A ρ U
section ROWSN
variable {p : Program} {l : Launch} {e : Env} {R : Room} {s : State} {m : MethodId} {args : Array Value} {below : List Frame} {meth : Method} {c : Code} {H : Heap} {locs : List Loc} {cells slots : Nat} {Q : State → Prop}
variable {cc : ByteArray} {pc nL : Nat} {ls : Array Slot} {rest : List Value} {D : va_G} {A : Nat → Prop} {H0 : Heap} {cs : Nat → ClassId} {ad tb : Nat → Nat} {ρ : RS} {Ts : List Cond}
theorem Wsz {g : JFrame} (k : s.heap.size ≤ H.size → H.size ≤ s.heap.size + cells → W p l e R s m args below meth c H locs cells slots Q g) : W p l e R s m args below meth c H locs cells slots Q g := fun T hT X => k (by rw [← hT]; exact X.same.2.1) (by rw [← hT]; exact X.same.2.2.1) T hT X
theorem isK_low {a k : Nat} (hP : va_P D vwCl (wR cs ad ρ) H) (h : isK ρ a k = true) : a + 1 ≤ H.size := va_pl_lt hP (isK_L h)
theorem wR_nO {a k : Nat} {fs : List Value} (ha : a ∉ pL ρ) (hf : pf (cs 0) (nO ρ a k) a = .inr (k, fs)) : wR cs ad ρ ++ [(a, .inr (k, fs))] = wR cs ad (nO ρ a k) := by
  unfold wR
  rw [List.append_assoc, va_pl_push ha, va_pl_congr (pf_nO hf)]
  rfl
theorem wR_nA {a n : Nat} {g : Nat → Int32} (ha : a ∉ pL ρ) : wR cs ad ρ ++ [(a, .inl (cs 0, n, .inl g))] = wR cs ad (nA ρ a n g) := by
  unfold wR
  rw [List.append_assoc, va_pl_push ha, va_pl_congr (pf_nA (cI := cs 0) (ρ := ρ) (a := a) (n := n) (g := g))]
  rfl
/-- a new object of the pool: at the heap's end -/
theorem neO {c0 : Code} (hexec : p.tables.exec = Jvm.exec) (hb : c0.code = cc) (hts : ∀ w ∈ Ts, w.before args s = true) (hin : ∀ w ∈ wRa, w ∈ Ts) {own C : String} {T : u_T} {N ci index a : Nat} (hw : ∀ w ∈ u_ws C T N, w ∈ wRa) (hc : vwCl[ci]? = some (C, T, N)) (ty : Nat → FieldType) (hty : ∀ k, k < N → parseFieldDescriptor (T k).2.2.1 = some (ty k)) (hown : s.vm.findClass own = some m.cls) (hcl : Cond.classLink own index C ∈ wRa) (hinst : Cond.instantiable C N ∈ wRa) (hini : Cond.initialized C ∈ wRa)
    (hK : va_K D vwCl (tyR cs) s) (hP : va_P D vwCl (wR cs ad ρ) H) (hD : va_D A (wR cs ad ρ)) (hS : va_S A s.heap H locs) (hA : ∀ q, s.heap.size ≤ q → A q) {fs : List Value} (hfs : ∀ j, j < N → defaultValue (ty j) = vp_V fs j) (hf : pf (cs 0) (nO ρ a ci) a = .inr (ci, fs)) (hlow : s.heap.size + cells ≤ H.size) (ha : s.heap.size + cells = a) (hcells : cells + 1 ≤ R.cells) (hslots : slots + N ≤ R.slots) (hdg : decode cc pc = .ok (.new index, 3))
    (kk : ∀ (H1 : Heap), va_P D vwCl (wR cs ad (nO ρ a ci)) H1 → va_D A (wR cs ad (nO ρ a ci)) → va_S A s.heap H1 locs → W p l e R s m args below meth c0 H1 locs (cells + 1) (slots + N) Q (F0 m (pc + 3) ls (.ref a :: rest))) : W p l e R s m args below meth c0 H locs cells slots Q (F0 m pc ls rest) := by
  refine Wsz (fun h1 h2 => ?_)
  have hz : H.size = a := by omega
  have hKn := hK.1 ci _ hc
  refine W.newcK hexec hb hown (hts _ (hin _ hcl)) (hts _ (hin _ hinst)) (hts _ (hin _ hini)) rfl hdg hcells hslots hKn.2.1 rfl fun H1 kC hkC e1 z1 o1 => ?_
  have hk : ∀ (k : Nat) (x : Nat × va_E), (wR cs ad ρ)[k]? = some x → H1[x.1]? = H[x.1]? := fun k x hx => o1 x.1 ((hP k x hx).lt)
  have hP1 : va_P D vwCl (wR cs ad ρ ++ [(H.size, .inr (ci, fs))]) H1 := by
    refine (hP.kept hk).app (fun k x hx => ?_)
    have hz : k < 1 := (List.getElem?_eq_some_iff.mp hx).1
    rw [show k = 0 by omega] at hx
    cases hx
    exact ⟨_, hc, (u_born ty hts (fun w h => hin w (hw w h)) hKn hkC e1 hty).to hfs⟩
  have hD1 : va_D A (wR cs ad ρ ++ [(H.size, .inr (ci, fs))]) := hD.push hP rfl (hA _ hS.1)
  have hfr : a ∉ pL ρ := va_pl_fresh (X := xR cs ad ρ) (f := pf (cs 0) ρ) hP (by omega)
  rw [hz, wR_nO hfr hf] at hP1 hD1
  rw [hz]
  exact kk H1 hP1 hD1 ⟨Nat.le_trans hS.1 (by omega), fun x h1 h2 => (o1 x (Nat.lt_of_lt_of_le h1 hS.1)).trans (hS.2.1 x h1 h2), hS.2.2⟩
/-- a new int array -/
theorem neA (hexec : p.tables.exec = Jvm.exec) (hb : c.code = cc) (hts : ∀ w ∈ Ts, w.before args s = true) (hin : ∀ w ∈ wRa, w ∈ Ts) (hK : va_K D vwCl (tyR cs) s) (hP : va_P D vwCl (wR cs ad ρ) H) (hD : va_D A (wR cs ad ρ)) (hS : va_S A s.heap H locs) (hA : ∀ q, s.heap.size ≤ q → A q) {n : Int32} {a cap : Nat} (hn : inc n cap = true) (hcap : cap ≤ 100000) (hlow : s.heap.size + cells ≤ H.size) (ha : s.heap.size + cells = a) (hcells : cells + 1 ≤ R.cells) (hslots : slots + cap ≤ R.slots) (hdg : decode cc pc = .ok (.newarray .int, 2))
    (kk : ∀ (H1 : Heap), va_P D vwCl (wR cs ad (nA ρ a n.toNatClampNeg (fun _ => 0))) H1 → va_D A (wR cs ad (nA ρ a n.toNatClampNeg (fun _ => 0))) → va_S A s.heap H1 locs → W p l e R s m args below meth c H1 locs (cells + 1) (slots + cap) Q (F0 m (pc + 2) ls (.ref a :: rest))) : W p l e R s m args below meth c H locs cells slots Q (F0 m pc ls (.int n :: rest)) := by
  obtain ⟨hn0, hn1⟩ := of_decide_eq_true hn
  refine Wsz (fun h1 h2 => ?_)
  have hz : H.size = a := by omega
  refine va_newaK (atype := .int) hexec hb (hts _ (hin _ rx_8)) rfl hdg rfl hn0 rfl (by show n.toNatClampNeg * 4 ≤ 536870912; omega) hcells (by omega) rfl fun H1 cA e1 z1 o1 hAr hNm => ?_
  have hcA : cA = cs 0 := by
    have h0 : s.vm.findClass ("[" ++ FieldType.int.toString) = some (cs 0) := (hK.2 0 (cs 0, .int) rfl).2
    exact Option.some.inj (hNm.symm.trans h0)
  subst hcA
  have hk : ∀ (k : Nat) (x : Nat × va_E), (wR cs ad ρ)[k]? = some x → H1[x.1]? = H[x.1]? := fun k x hx => o1 x.1 ((hP k x hx).lt)
  have hP1 : va_P D vwCl (wR cs ad ρ ++ [(H.size, .inl (cs 0, n.toNatClampNeg, .inl (fun _ => 0)))]) H1 := by
    refine (hP.kept hk).app (fun k x hx => ?_)
    have hz : k < 1 := (List.getElem?_eq_some_iff.mp hx).1
    rw [show k = 0 by omega] at hx
    cases hx
    exact e1
  have hD1 : va_D A (wR cs ad ρ ++ [(H.size, .inl (cs 0, n.toNatClampNeg, .inl (fun _ => 0)))]) := hD.push hP rfl (hA _ hS.1)
  have hfr : a ∉ pL ρ := va_pl_fresh (X := xR cs ad ρ) (f := pf (cs 0) ρ) hP (by omega)
  rw [hz, wR_nA hfr] at hP1 hD1
  rw [hz]
  exact W.widen (Nat.le_refl _) (by omega) (kk H1 hP1 hD1 ⟨Nat.le_trans hS.1 (by omega), fun x h1 h2 => (o1 x (Nat.lt_of_lt_of_le h1 hS.1)).trans (hS.2.1 x h1 h2), hS.2.2⟩)
theorem blN {N : Nat} {av : List Value} : FrameBlind (va_Pc av (preN N D cs ad tb A ρ)) := fun a U g mk q => ⟨q.1, q.2.1, (blQ a U g mk ⟨q.1, q.2.2⟩).2⟩
variable {y : MethodName} {bytes : ByteArray} {maxL n index mc ms N : Nat} {ret : Option FieldType} {ws : List Cond} {rm : Room} {As : List Value} {st0 : List Value} {own C : String} {b : Nat}
/-- a call that makes cells and answers a reference -/
theorem caR {q : Nat × RS} (S : CallFix p m c cc nL s args Ts own) (hM : Met l y ws rm (va_Pc (.ref b :: As) (preN N D cs ad tb A ρ)) (va_Qq (fun x u => x = some q.1 ∧ u = q.2) (posQ D cs ad A) A) mc ms A) (cw : CallW R s args own C index y bytes maxL ret ws rm mc ms n) (hR : cells + mc ≤ R.cells ∧ slots + ms ≤ R.slots) (hrec : ∃ cell : Cell, H[b]? = some cell ∧ cell.vm.isStatics = false ∧ s.vm.findClass C = some cell.cls) (hK : va_K D vwCl (tyR cs) s) (hP : va_P D vwCl (wR cs ad ρ) H) (hD : va_D A (wR cs ad ρ)) (hS : va_S A s.heap H locs) (hZ : stR tb A s s.heap) (hlow : s.heap.size + cells ≤ H.size) (hN : s.heap.size + cells = N) (hn : As.length = n) (hsize : ls.size = nL) (hstack : st0 = As.reverse ++ .ref b :: rest) (hW : 2 * (F0 m pc ls st0).monitorRoom + (rest.map fun v => v.category).sum ≤ 8) (hdg : decode cc pc = .ok (.invokevirtual index, 3))
    (kk : ∀ (H1 : Heap) (locs1 : List Loc), va_P D vwCl (wR cs ad q.2) H1 → va_D A (wR cs ad q.2) → va_S A s.heap H1 locs1 → W p l e R s m args below meth c H1 locs1 (cells + mc) (slots + ms) Q (F0 m (pc + 3) ls (.ref q.1 :: rest))) : W p l e R s m args below meth c H locs cells slots Q (F0 m pc ls st0) := by
  refine Wsz (fun h1 h2 => ?_)
  refine va_callq (va_runV (As := As) (rest := rest) S hM cw ⟨blN, hrec, fun U hU hW => ⟨rfl, by rw [hU]; omega, preQ.at hK hP hD hS hZ hU hW⟩⟩ rfl hn hsize hstack hW hdg hR) hS (fun _ _ h => h) (fun _ h => h) (fun r u t H1 locs1 ht hvm hw hB hz1 hk1 hS1 => ?_)
  obtain ⟨rfl, rfl⟩ := hw
  exact kk H1 locs1 (by rw [← ht]; exact hB.1) hB.2.2 hS1
theorem cbR {q : Nat × RS} (S : CallFix p m c cc nL s args Ts own) (hM : Met l y ws rm (va_Pc As (preN N D cs ad tb A ρ)) (va_Qq (fun x u => x = some q.1 ∧ u = q.2) (posQ D cs ad A) A) mc ms A) (cw : CallB R s args own index y bytes maxL ret ws rm mc ms n ∧ (Cond.static y).before args s = true) (hR : cells + mc ≤ R.cells ∧ slots + ms ≤ R.slots) (hK : va_K D vwCl (tyR cs) s) (hP : va_P D vwCl (wR cs ad ρ) H) (hD : va_D A (wR cs ad ρ)) (hS : va_S A s.heap H locs) (hZ : stR tb A s s.heap) (hlow : s.heap.size + cells ≤ H.size) (hN : s.heap.size + cells = N) (hn : As.length = n) (hsize : ls.size = nL) (hstack : st0 = As.reverse ++ rest) (hW : 2 * (F0 m pc ls st0).monitorRoom + (rest.map fun v => v.category).sum ≤ 8) (hdg : decode cc pc = .ok (.invokestatic index, 3))
    (kk : ∀ (H1 : Heap) (locs1 : List Loc), va_P D vwCl (wR cs ad q.2) H1 → va_D A (wR cs ad q.2) → va_S A s.heap H1 locs1 → W p l e R s m args below meth c H1 locs1 (cells + mc) (slots + ms) Q (F0 m (pc + 3) ls (.ref q.1 :: rest))) : W p l e R s m args below meth c H locs cells slots Q (F0 m pc ls st0) := by
  refine Wsz (fun h1 h2 => ?_)
  refine va_callq (va_runS (As := As) (rest := rest) S hM cw ⟨blN, fun U hU hW => ⟨rfl, by rw [hU]; omega, preQ.at hK hP hD hS hZ hU hW⟩⟩ rfl hn hsize hstack hW hdg hR) hS (fun _ _ h => h) (fun _ h => h) (fun r u t H1 locs1 ht hvm hw hB hz1 hk1 hS1 => ?_)
  obtain ⟨rfl, rfl⟩ := hw
  exact kk H1 locs1 (by rw [← ht]; exact hB.1) hB.2.2 hS1
/-- a constructor -/
theorem ciR {q : RS} (S : CallFix p m c cc nL s args Ts own) (hM : Met l y ws rm (va_Pc (.ref b :: As) (preQ D cs ad tb A ρ)) (va_Qv (fun u => u = q) (posQ D cs ad A) A) 0 0 A) (cw : CallB R s args own index y bytes maxL none ws rm 0 0 n ∧ y.name = "<init>" ∧ (Cond.instanceMethod y).before args s = true) (hR : cells ≤ R.cells ∧ slots ≤ R.slots) (hK : va_K D vwCl (tyR cs) s) (hP : va_P D vwCl (wR cs ad ρ) H) (hD : va_D A (wR cs ad ρ)) (hS : va_S A s.heap H locs) (hZ : stR tb A s s.heap) (hn : As.length = n) (hsize : ls.size = nL) (hstack : st0 = As.reverse ++ .ref b :: rest) (hW : 2 * (F0 m pc ls st0).monitorRoom + (rest.map fun v => v.category).sum ≤ 8) (hdg : decode cc pc = .ok (.invokespecial index, 3))
    (kk : ∀ (H1 : Heap) (locs1 : List Loc), va_P D vwCl (wR cs ad q) H1 → va_D A (wR cs ad q) → va_S A s.heap H1 locs1 → W p l e R s m args below meth c H1 locs1 cells slots Q (F0 m (pc + 3) ls rest)) : W p l e R s m args below meth c H locs cells slots Q (F0 m pc ls st0) := by
  refine va_callv (va_runI (As := As) (rest := rest) S hM cw ⟨blQ, fun U hU hW => ⟨rfl, preQ.at hK hP hD hS hZ hU hW⟩⟩ rfl hn hsize hstack hW hdg hR) hS (fun _ _ h => h) (fun _ h => h) (fun u t H1 locs1 ht hvm hw hB hz1 hk1 hS1 => ?_)
  subst hw
  exact kk H1 locs1 (by rw [← ht]; exact hB.1) hB.2.2 hS1
/-- a final field of a pooled object, in its constructor -/
theorem pPF (hexec : p.tables.exec = Jvm.exec) (hb : c.code = cc) (hts : ∀ w ∈ Ts, w.before args s = true) (hin : ∀ w ∈ wRa, w ∈ Ts) {own C : String} {T : u_T} {N ci a : Nat} {fs : List Value} (hw : ∀ w ∈ u_ws C T N, w ∈ wRa) (hc : vwCl[ci]? = some (C, T, N)) (ty0 : Nat → FieldType) (hty : ∀ k, k < N → parseFieldDescriptor (T k).2.2.1 = some (ty0 k)) (hnm : ∀ a, a < N → ∀ b, b < N → a ≠ b → (T a).2.1 ≠ (T b).2.1) (hown : s.vm.findClass own = some m.cls) (hK : va_K D vwCl (tyR cs) s) (hP : va_P D vwCl (wR cs ad ρ) H) (hD : va_D A (wR cs ad ρ)) (hS : va_S A H0 H locs) (hv0 : isK ρ a ci = true) (hf : pf (cs 0) ρ a = .inr (ci, fs)) (k : Nat) {index : Nat} {v : Value} {ty : FieldType} (hk : k < N) (hlink : (Cond.fieldLink own index (T k).1 (T k).2.1 (T k).2.2.1) ∈ wRa) (hfin : (T k).2.2.2 = true) (hin2 : meth.name = "<init>") (hdecl : (T k).1 = own) (hd : parseFieldDescriptor (T k).2.2.1 = some ty) (hn : narrow ty v = v) (hfit : fits ty v = true) (hl : k < fs.length) {ρ2 : RS} (hx2 : xR cs ad ρ2 = xR cs ad ρ) (hL2 : pL ρ2 = pL ρ) (he : ∀ b, va_up (pf (cs 0) ρ) a (.inr (ci, fs.set k v)) b = pf (cs 0) ρ2 b) (hdg : decode cc pc = .ok (.putfield index, 3))
    (kk : ∀ (H1 : Heap) (locs1 : List Loc), va_P D vwCl (wR cs ad ρ2) H1 → va_D A (wR cs ad ρ2) → va_S A H0 H1 locs1 → W p l e R s m args below meth c H1 locs1 cells slots Q (F0 m (pc + 3) ls rest)) : W p l e R s m args below meth c H locs cells slots Q (F0 m pc ls (v :: .ref a :: rest)) := by
  obtain ⟨j, hj⟩ := va_pl_get (X := xR cs ad ρ) (f := pf (cs 0) ρ) (isK_L hv0)
  have hset := va_pl_set (e := .inr (ci, fs.set k v)) hD (isK_L hv0) hj
  have e2 : xR cs ad ρ ++ va_pl (pL ρ) (va_up (pf (cs 0) ρ) a (.inr (ci, fs.set k v))) = wR cs ad ρ2 := by
    unfold wR
    rw [hx2, hL2]
    exact congrArg (fun q => xR cs ad ρ ++ q) (va_pl_congr he)
  rw [hf] at hj
  refine va_putF (D := D) (ci := ci) (v := v) (ty := ty) (C := C) (T := T) (N := N) hexec hb hts (fun w h => hin w (hw w h)) ty0 hty hnm hown hK hP hD hS j hj hc k hk (hts _ (hin _ hlink)) (fun _ h9 => h9) hfin hin2 hdecl hd hn hfit hl hdg (fun H1 locs1 hP1 hD1 hS1 => ?_)
  have hP2 : va_P D vwCl ((xR cs ad ρ ++ va_pl (pL ρ) (pf (cs 0) ρ)).set j (a, .inr (ci, fs.set k v))) H1 := hP1
  have hD2 : va_D A ((xR cs ad ρ ++ va_pl (pL ρ) (pf (cs 0) ρ)).set j (a, .inr (ci, fs.set k v))) := hD1
  rw [hset, e2] at hP2 hD2
  exact kk H1 locs1 hP2 hD2 hS1
/-- answers of methods that make cells -/
theorem rqN {a : Nat} {q : Nat × RS} {rt : FieldType} (hexec : p.tables.exec = Jvm.exec) (hb : c.code = cc) (hr : meth.sig.returnType = some rt) (hrt : (∃ n, rt = .object n) ∨ ∃ t, rt = .array t) (hlocks : meth.locks = false) (hE : some (a, ρ) = some q) (hK : va_K D vwCl (tyR cs) s) (hP : va_P D vwCl (wR cs ad ρ) H) (hD : va_D A (wR cs ad ρ)) (hS : va_S A s.heap H locs) (hc : cells ≤ mc) (hs : slots ≤ ms) (hdg : decode cc pc = .ok (.areturn, 1)) : W p l e R s m args below meth c H locs cells slots (MQ below (va_Qq (fun x u => x = some q.1 ∧ u = q.2) (posQ D cs ad A) A) args s mc ms A) (F0 m pc ls [.ref a]) :=
  W.widen hc hs (W.aret hexec hb hr hrt (Or.inr ⟨a, rfl⟩) (fun t ht hW => ⟨⟨some a, ρ, rfl, ⟨congrArg some (congrArg Prod.fst (Option.some.inj hE)), congrArg Prod.snd (Option.some.inj hE)⟩, by rw [ht]; exact hP, va_K.moved hW.alike hK, hD⟩, hS.F ht⟩) hS.2.2 hdg hlocks)
theorem rwN {v : Int32} {q : Int32 × RS} (hexec : p.tables.exec = Jvm.exec) (hb : c.code = cc) (hr : meth.sig.returnType = some .int) (hlocks : meth.locks = false) (hE : some (v, ρ) = some q) (hK : va_K D vwCl (tyR cs) s) (hP : va_P D vwCl (wR cs ad ρ) H) (hD : va_D A (wR cs ad ρ)) (hS : va_S A s.heap H locs) (hc : cells ≤ mc) (hs : slots ≤ ms) (hdg : decode cc pc = .ok (.ireturn, 1)) : W p l e R s m args below meth c H locs cells slots (MQ below (va_Qi (fun x u => x = q.1 ∧ u = q.2) (posQ D cs ad A) A) args s mc ms A) (F0 m pc ls [.int v]) :=
  W.widen hc hs (W.iret hexec hb hr (fun t ht hW => ⟨⟨v, ρ, rfl, ⟨congrArg Prod.fst (Option.some.inj hE), congrArg Prod.snd (Option.some.inj hE)⟩, by rw [ht]; exact hP, va_K.moved hW.alike hK, hD⟩, hS.F ht⟩) hS.2.2 hdg hlocks)
end ROWSN
theorem isK_nAo {ρ : RS} {a n b k : Nat} {g : Nat → Int32} (h : isK ρ b k = true) (hb : b ≠ a) : isK (nA ρ a n g) b k = true := by
  have h1 := isK_L h
  have h2 := isK_K h
  simp only [isK, pL, pK, nA, rp, va_up] at h1 h2 ⊢
  simp [h1, h2, hb]
def wc (ρ : RS) (a : Nat) (g : Nat → Int32) : RS := rp ρ (ρ.2.2.2.2.1, ρ.2.2.2.2.2.1, ρ.2.2.2.2.2.2.1, ρ.2.2.2.2.2.2.2.1, ρ.2.2.2.2.2.2.2.2.1, va_up ρ.2.2.2.2.2.2.2.2.2 a g)
theorem isK_wc {ρ : RS} {a : Nat} {g : Nat → Int32} {b c : Nat} (h : isK ρ b c = true) : isK (wc ρ a g) b c = true := h
theorem pw_c {cI : ClassId} {ρ : RS} {a : Nat} (h : pK ρ a = 11) (g : Nat → Int32) (b : Nat) : va_up (pf cI ρ) a (.inl (cI, pN ρ a, .inl g)) b = pf cI (wc ρ a g) b := by
  by_cases hb : b = a
  · subst hb; rw [va_up_self, pf_11 (ρ := wc ρ b g) h]; simp [pN, pA, wc, rp, va_up]
  · rw [va_up_ne _ _ hb]; exact Eq.symm (pf_cong (ρ := ρ) (ρ2 := wc ρ a g) rfl (fun _ => rfl) (fun _ => rfl) rfl (by simp [pA, wc, rp, va_up, hb]))
def cpo (sp dp n : Int32) (n0 n1 : Nat) : Bool := decide (¬ sp < 0 ∧ ¬ dp < 0 ∧ ¬ n < 0 ∧ sp.toNatClampNeg + n.toNatClampNeg ≤ n0 ∧ dp.toNatClampNeg + n.toNatClampNeg ≤ n1)
section ROWSC
variable {p : Program} {l : Launch} {e : Env} {R : Room} {s : State} {m : MethodId} {args : Array Value} {below : List Frame} {meth : Method} {c : Code} {H : Heap} {locs : List Loc} {cells slots : Nat} {Q : State → Prop}
variable {cc : ByteArray} {pc nL : Nat} {ls : Array Slot} {rest : List Value} {D : va_G} {A : Nat → Prop} {H0 : Heap} {cs : Nat → ClassId} {ad tb : Nat → Nat} {ρ : RS} {Ts : List Cond}
theorem fnI (hK : va_K D vwCl (tyR cs) s) : s.vm.findClass "[I" = some (cs 0) := by
  have h0 : s.vm.findClass ("[" ++ FieldType.int.toString) = some (cs 0) := (hK.2 0 (cs 0, .int) rfl).2
  rw [show ("[I" : String) = "[" ++ FieldType.int.toString from by decide +kernel]
  exact h0
/-- the clone of an int array lies at the heap's end -/
theorem clW (hexec : p.tables.exec = Jvm.exec) (hb : c.code = cc) (hml : c.maxLocals = ls.size) {own : String} {index : Nat} (hown : s.vm.findClass own = some m.cls)
    (hts : ∀ w ∈ Ts, w.before args s = true) (hin : ∀ w ∈ wRa, w ∈ Ts) (hlink : (Cond.methodLink own index ⟨"[I", "clone", "()Ljava/lang/Object;"⟩) ∈ wRa) (hcl : va_Nw (.castable "[I" "java/lang/Cloneable") s)
    {a n : Nat} {cA : ClassId} {f : Nat → Int32} (hcell : H[a]? = some (vp_cell cA (n, .inl f))) (hArr : ArrOfT s cA .int) (hnm : s.vm.findClass "[I" = some cA)
    (hframes : 1 ≤ R.frames) (hlocals : (rest.map fun v => v.category).sum + 14 ≤ R.locals) (hcells : cells + 1 ≤ R.cells) (hslots : slots + n ≤ R.slots) (hdg : decode cc pc = .ok (.invokevirtual index, 3))
    (kk : W p l e R s m args below meth c (H.push (vp_cell cA (n, .inl f))) locs (cells + 1) (slots + n) Q (F0 m (pc + 3) ls (.ref H.size :: rest))) : W p l e R s m args below meth c H locs cells slots Q (F0 m pc ls (.ref a :: rest)) := by
  intro T hT X
  obtain ⟨c0, t0, f1, f2, f3⟩ := Cond.castable_spec (va_Nw.use (A := args) rfl hcl)
  cases hnm.symm.trans f1
  have hcT : T.heap[a]? = some (vp_cell cA (n, .inl f)) := by rw [hT]; exact hcell
  have hsz : (vp_cell cA (n, .inl f)).slots.size = n := arrV_size _ _ _
  obtain ⟨-, kA, hkA, comp, hkind⟩ := State.isArrayOf_alike X.warmed.alike (hArr 0 (fun _ => .null))
  obtain ⟨-, kS, hkS, compS, hkindS⟩ := hArr 0 (fun _ => .null)
  have hfit : ∀ (i : Nat) (v : Value), (vp_cell cA (n, .inl f)).slots[i]? = some v → T.fitsSlot cA .none i v = true := by
    intro i v hv
    have hk' : T.vm.classes[cA]? = some kA := hkA
    have hi : i < n := by
      have := (Array.getElem?_eq_some_iff.mp hv).1
      rwa [hsz] at this
    have hv2 : (arrV cA n (fun j => .int (f j))).slots[i]? = some v := hv
    rw [arrV_read _ _ hi] at hv2
    cases hv2
    simp [State.fitsSlot, State.slotType?, hk', hkind, fits]
  obtain ⟨vm', X', st⟩ := X.cloneArray hexec hown (hts _ (hin _ hlink)) (hts _ (hin _ rx_482)) (hts _ (hin _ rx_483)) (hts _ (hin _ rx_310)) (hts _ (hin _ rx_311)) (a := a) (cell := vp_cell cA (n, .inl f)) hcT (fun k h => by cases h) (fun h => by cases h) hnm f2 f3 hfit
    (g := F0 m pc ls (.ref a :: rest)) rfl (by rw [hml]) rfl (by rw [hb]; exact hdg) hframes (by show 2 * 0 + _ + 14 ≤ _; omega) hcells (by rw [hsz]; exact hslots) (hloader := Vm.clonesLoader_of_array hkS hkindS)
  rw [hsz] at X'
  obtain ⟨t, b1, b2⟩ := kk ((T.setVm vm').pushCell (vp_cell cA (n, .inl f))) (by rw [← hT]; rfl) X'
  refine ⟨t, st t ?_, b2⟩
  rw [hT]
  exact b1
theorem clP (hexec : p.tables.exec = Jvm.exec) (hb : c.code = cc) (hml : c.maxLocals = ls.size) {own : String} {index : Nat} (hown : s.vm.findClass own = some m.cls) (hts : ∀ w ∈ Ts, w.before args s = true) (hin : ∀ w ∈ wRa, w ∈ Ts) (hlink : (Cond.methodLink own index ⟨"[I", "clone", "()Ljava/lang/Object;"⟩) ∈ wRa) (hZ : stR tb A s s.heap)
    (hK : va_K D vwCl (tyR cs) s) (hP : va_P D vwCl (wR cs ad ρ) H) (hD : va_D A (wR cs ad ρ)) (hS : va_S A s.heap H locs) (hA : ∀ q, s.heap.size ≤ q → A q) {b a pl n cap : Nat} {f : Nat → Int32} (hv0 : (wR cs ad ρ)[pl]? = some (b, .inl (cs 0, n, .inl f))) (hn : n ≤ cap) (hlow : s.heap.size + cells ≤ H.size) (ha : s.heap.size + cells = a)
    (hframes : 1 ≤ R.frames) (hlocals : (rest.map fun v => v.category).sum + 14 ≤ R.locals) (hcells : cells + 1 ≤ R.cells) (hslots : slots + cap ≤ R.slots) (hdg : decode cc pc = .ok (.invokevirtual index, 3))
    (kk : ∀ (H1 : Heap), va_P D vwCl (wR cs ad (nA ρ a n f)) H1 → va_D A (wR cs ad (nA ρ a n f)) → va_S A s.heap H1 locs → W p l e R s m args below meth c H1 locs (cells + 1) (slots + cap) Q (F0 m (pc + 3) ls (.ref a :: rest))) : W p l e R s m args below meth c H locs cells slots Q (F0 m pc ls (.ref b :: rest)) := by
  refine Wsz (fun h1 h2 => ?_)
  have hz : H.size = a := by omega
  have hcell : H[b]? = some (vp_cell (cs 0) (n, .inl f)) := hP pl _ hv0
  refine clW hexec hb hml hown hts hin hlink hZ.2.2.2.2.2.2.1.2.2.2.2 hcell (hK.2 0 (cs 0, .int) rfl).1 (fnI hK) hframes hlocals hcells (by omega) hdg ?_
  generalize hH1 : H.push (vp_cell (cs 0) (n, .inl f)) = H1
  have z1 : H1.size = H.size + 1 := by rw [← hH1, Array.size_push]
  have e1 : H1[H.size]? = some (vp_cell (cs 0) (n, .inl f)) := by rw [← hH1, Array.getElem?_push_size]
  have o1 : ∀ q : Nat, q < H.size → H1[q]? = H[q]? := fun q hq => by rw [← hH1, Array.getElem?_push, if_neg (Nat.ne_of_lt hq)]
  have hk : ∀ (k : Nat) (x : Nat × va_E), (wR cs ad ρ)[k]? = some x → H1[x.1]? = H[x.1]? := fun k x hx => o1 x.1 ((hP k x hx).lt)
  have hP1 : va_P D vwCl (wR cs ad ρ ++ [(H.size, .inl (cs 0, n, .inl f))]) H1 := by
    refine (hP.kept hk).app (fun k x hx => ?_)
    have hz : k < 1 := (List.getElem?_eq_some_iff.mp hx).1
    rw [show k = 0 by omega] at hx
    cases hx
    exact e1
  have hD1 : va_D A (wR cs ad ρ ++ [(H.size, .inl (cs 0, n, .inl f))]) := hD.push hP rfl (hA _ hS.1)
  have hfr : a ∉ pL ρ := va_pl_fresh (X := xR cs ad ρ) (f := pf (cs 0) ρ) hP (by omega)
  rw [hz, wR_nA hfr] at hP1 hD1
  rw [hz]
  exact W.widen (Nat.le_refl _) (by omega) (kk H1 hP1 hD1 ⟨Nat.le_trans hS.1 (by omega), fun x h1 h2 => (o1 x (Nat.lt_of_lt_of_le h1 hS.1)).trans (hS.2.1 x h1 h2), hS.2.2⟩)
theorem ctA (hexec : p.tables.exec = Jvm.exec) (hb : c.code = cc) {own : String} {index : Nat} (hown : s.vm.findClass own = some m.cls) (hts : ∀ w ∈ Ts, w.before args s = true) (hin : ∀ w ∈ wRa, w ∈ Ts) (hlink : (Cond.classLink own index "[I") ∈ wRa) (hK : va_K D vwCl (tyR cs) s) (hP : va_P D vwCl (wR cs ad ρ) H) {a : Nat} (hv0 : isK ρ a 11 = true) (hdg : decode cc pc = .ok (.checkcast index, 3))
    (k : W p l e R s m args below meth c H locs cells slots Q (F0 m (pc + 3) ls (.ref a :: rest))) : W p l e R s m args below meth c H locs cells slots Q (F0 m pc ls (.ref a :: rest)) := by
  obtain ⟨j, hj⟩ := va_pl_get (X := xR cs ad ρ) (f := pf (cs 0) ρ) (isK_L hv0)
  rw [pf_11 (isK_K hv0)] at hj
  exact va_castA hexec hb hown (hts _ (hin _ hlink)) hP j hj (fnI hK) hdg k
theorem plP {b : Nat} (h : isK ρ b 11 = true) : ∃ pl : Nat, (wR cs ad ρ)[pl]? = some (b, .inl (cs 0, pN ρ b, .inl (pA ρ b))) := by
  obtain ⟨j, hj⟩ := va_pl_get (X := xR cs ad ρ) (f := pf (cs 0) ρ) (isK_L h)
  rw [pf_11 (isK_K h)] at hj
  exact ⟨j, hj⟩
theorem cpP (hexec : p.tables.exec = Jvm.exec) (hb : c.code = cc) (hml : c.maxLocals = ls.size) {own : String} {index : Nat} (hown : s.vm.findClass own = some m.cls) (hts : ∀ w ∈ Ts, w.before args s = true) (hin : ∀ w ∈ wRa, w ∈ Ts) (hlink : (Cond.methodLink own index arraycopyName) ∈ wRa)
    (hK : va_K D vwCl (tyR cs) s) (hP : va_P D vwCl (wR cs ad ρ) H) (hD : va_D A (wR cs ad ρ)) (hS : va_S A H0 H locs) {a0 a pl n0 : Nat} {f : Nat → Int32} (hv0 : (wR cs ad ρ)[pl]? = some (a0, .inl (cs 0, n0, .inl f))) (hv1 : isK ρ a 11 = true) {sp dp n : Int32} (hc : cpo sp dp n n0 (pN ρ a) = true)
    (hframes : 1 ≤ R.frames) (hlocals : (rest.map fun v => v.category).sum + (nativeFrameWords "java/lang/System" "arraycopy" 5 + 11) ≤ R.locals) (hdg : decode cc pc = .ok (.invokestatic index, 3))
    (kk : ∀ (H1 : Heap) (locs1 : List Loc), va_P D vwCl (wR cs ad (wc ρ a (va_cpy f (pA ρ a) sp.toNatClampNeg dp.toNatClampNeg n.toNatClampNeg))) H1 → va_D A (wR cs ad (wc ρ a (va_cpy f (pA ρ a) sp.toNatClampNeg dp.toNatClampNeg n.toNatClampNeg))) → va_S A H0 H1 locs1 → W p l e R s m args below meth c H1 locs1 cells slots Q (F0 m (pc + 3) ls rest)) : W p l e R s m args below meth c H locs cells slots Q (F0 m pc ls (.int n :: .int dp :: .ref a :: .int sp :: .ref a0 :: rest)) := by
  obtain ⟨h1, h2, h3, h4, h5⟩ := of_decide_eq_true hc
  obtain ⟨j, hj⟩ := va_pl_get (X := xR cs ad ρ) (f := pf (cs 0) ρ) (isK_L hv1)
  have hset := va_pl_set (e := .inl (cs 0, pN ρ a, .inl (va_cpy f (pA ρ a) sp.toNatClampNeg dp.toNatClampNeg n.toNatClampNeg))) hD (isK_L hv1) hj
  have e2 : xR cs ad ρ ++ va_pl (pL ρ) (va_up (pf (cs 0) ρ) a (.inl (cs 0, pN ρ a, .inl (va_cpy f (pA ρ a) sp.toNatClampNeg dp.toNatClampNeg n.toNatClampNeg)))) = wR cs ad (wc ρ a (va_cpy f (pA ρ a) sp.toNatClampNeg dp.toNatClampNeg n.toNatClampNeg)) :=
    congrArg (fun q => xR cs ad ρ ++ q) (va_pl_congr (pw_c (isK_K hv1) _))
  rw [pf_11 (isK_K hv1)] at hj
  refine va_copyi (ty := .int) hexec hb hml hown (hts _ (hin _ hlink)) (hts _ (hin _ rx_481)) (hts _ (hin _ rx_184)) (hts _ (hin _ rx_185)) hK hP hD hS pl j 0 0 hv0 hj rfl rfl rfl h1 h2 h3 h4 h5 (fun _ _ => rfl) hframes hlocals hdg (fun H1 locs1 hP1 hD1 hS1 => ?_)
  have hP2 : va_P D vwCl ((xR cs ad ρ ++ va_pl (pL ρ) (pf (cs 0) ρ)).set j (a, .inl (cs 0, pN ρ a, .inl (va_cpy f (pA ρ a) sp.toNatClampNeg dp.toNatClampNeg n.toNatClampNeg)))) H1 := hP1
  have hD2 : va_D A ((xR cs ad ρ ++ va_pl (pL ρ) (pf (cs 0) ρ)).set j (a, .inl (cs 0, pN ρ a, .inl (va_cpy f (pA ρ a) sp.toNatClampNeg dp.toNatClampNeg n.toNatClampNeg)))) := hD1
  rw [hset, e2] at hP2 hD2
  exact kk H1 locs1 hP2 hD2 hS1
theorem rvS (hexec : p.tables.exec = Jvm.exec) (hb : c.code = cc) (hr : meth.sig.returnType = none) (hlocks : meth.locks = false) (hdg : decode cc pc = .ok (.return_, 1)) : W p l e R s m args below meth c s.heap [] 0 0 (MQ below (va_Sv (fun _ => True)) args s 0 0 (fun _ => False)) (F0 m pc ls []) :=
  W.vret hexec hb hr (fun t ht _ => ⟨rfl, trivial, ht⟩) (fun q hq => by cases hq) hdg hlocks
theorem csV {y : MethodName} {bytes : ByteArray} {maxL n index : Nat} {ret : Option FieldType} {ws : List Cond} {rm : Room} {As : List Value} {st0 : List Value} {own : String} (S : CallFix p m c cc nL s args Ts own) (hM : Met l y ws rm (va_Pc As (fun _ => True)) (va_Sv (fun _ => True)) 0 0 (fun _ => False)) (cw : CallB R s args own index y bytes maxL ret ws rm 0 0 n ∧ (Cond.static y).before args s = true) (hR : cells ≤ R.cells ∧ slots ≤ R.slots) (hn : As.length = n) (hsize : ls.size = nL) (hstack : st0 = As.reverse ++ rest) (hW : 2 * (F0 m pc ls st0).monitorRoom + (rest.map fun v => v.category).sum ≤ 8) (hdg : decode cc pc = .ok (.invokestatic index, 3))
    (kk : W p l e R s m args below meth c H locs cells slots Q (F0 m (pc + 3) ls rest)) : W p l e R s m args below meth c H locs cells slots Q (F0 m pc ls st0) := by
  exact va_csv (rest := rest) (va_Run.run (va_runS (As := As) (rest := rest) S hM cw ⟨fun a U g mk q => q, fun U hU hW => ⟨rfl, trivial⟩⟩ rfl hn hsize hstack hW hdg hR)) (fun _ => kk)
end ROWSC
