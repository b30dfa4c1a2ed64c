section ROWST
variable {p : Program} {l : Launch} {e : Env} {R : Room} {s : State} {m : MethodId} {args : Array Value} {below : List Frame} {meth : Method} {c : Code} {H : Heap} {locs : List Loc} {cells slots : Nat} {Q : State → Prop}
variable {cc : ByteArray} {pc nL : Nat} {ls : Array Slot} {rest : List Value} {D : va_G} {A : Nat → Prop} {H0 : Heap} {cs : Nat → ClassId} {ad tb : Nat → Nat} {ρ : RS} {Ts : List Cond}
variable {y : MethodName} {bytes : ByteArray} {maxL n index : Nat} {ret : Option FieldType} {ws : List Cond} {rm : Room} {As : List Value} {st0 : List Value} {own C : String} {b : Nat}
/-- static calls over the world that only read: nothing answered; a text -/
theorem ctV (S : CallFix p m c cc nL s args Ts own) (hM : Met l y ws rm (va_Pc As (preQ D cs ad tb A ρ)) (va_Sv (fun _ => True)) 0 0 (fun _ => False)) (cw : CallB R s args own index y bytes maxL ret ws rm 0 0 n ∧ (Cond.static y).before args s = true) (hR : cells ≤ R.cells ∧ slots ≤ R.slots) (hK : va_K D vwCl (tyR cs) s) (hP : va_P D vwCl (wR cs ad ρ) H) (hD : va_D A (wR cs ad ρ)) (hS : va_S A s.heap H locs) (hZ : stR tb A s s.heap) (hn : As.length = n) (hsize : ls.size = nL) (hstack : st0 = As.reverse ++ rest) (hW : 2 * (F0 m pc ls st0).monitorRoom + (rest.map fun v => v.category).sum ≤ 8) (hdg : decode cc pc = .ok (.invokestatic index, 3))
    (kk : W p l e R s m args below meth c H locs cells slots Q (F0 m (pc + 3) ls rest)) : W p l e R s m args below meth c H locs cells slots Q (F0 m pc ls st0) := by
  exact va_csv (rest := rest) (va_Run.run (va_runS (As := As) (rest := rest) S hM cw ⟨blQ, fun U hU hW => ⟨rfl, preQ.at hK hP hD hS hZ hU hW⟩⟩ rfl hn hsize hstack hW hdg hR)) (fun _ => kk)
theorem ctS {r : Nat} (S : CallFix p m c cc nL s args Ts own) (hM : Met l y ws rm (va_Pc As (preQ D cs ad tb A ρ)) (va_Sr (fun x => x = r) (fun k => .ref (kdJ tb k))) 0 0 (fun _ => False)) (cw : CallB R s args own index y bytes maxL ret ws rm 0 0 n ∧ (Cond.static y).before args s = true) (hR : cells ≤ R.cells ∧ slots ≤ R.slots) (hK : va_K D vwCl (tyR cs) s) (hP : va_P D vwCl (wR cs ad ρ) H) (hD : va_D A (wR cs ad ρ)) (hS : va_S A s.heap H locs) (hZ : stR tb A s s.heap) (hn : As.length = n) (hsize : ls.size = nL) (hstack : st0 = As.reverse ++ rest) (hW : 2 * (F0 m pc ls st0).monitorRoom + (rest.map fun v => v.category).sum ≤ 8) (hdg : decode cc pc = .ok (.invokestatic index, 3))
    (kk : W p l e R s m args below meth c H locs cells slots Q (F0 m (pc + 3) ls (.ref (kdJ tb r) :: rest))) : W p l e R s m args below meth c H locs cells slots Q (F0 m pc ls st0) := by
  refine va_csr (post := fun x => x = r) (ad := fun k => .ref (kdJ tb k)) (rest := rest) (va_Run.run (va_runS (As := As) (rest := rest) S hM cw ⟨blQ, fun U hU hW => ⟨rfl, preQ.at hK hP hD hS hZ hU hW⟩⟩ rfl hn hsize hstack hW hdg hR)) (fun k hk => ?_)
  subst hk
  exact kk
theorem rsR {k r : Nat} {rt : FieldType} (hexec : p.tables.exec = Jvm.exec) (hb : c.code = cc) (hr : meth.sig.returnType = some rt) (hrt : (∃ n, rt = .object n) ∨ ∃ t, rt = .array t) (hlocks : meth.locks = false) (hE : some k = some r) (hdg : decode cc pc = .ok (.areturn, 1)) : W p l e R s m args below meth c s.heap [] 0 0 (MQ below (va_Sr (fun x => x = r) (fun k => .ref (kdJ tb k))) args s 0 0 (fun _ => False)) (F0 m pc ls [.ref (kdJ tb k)]) :=
  W.aret hexec hb hr hrt (Or.inr ⟨_, rfl⟩) (fun t ht _ => ⟨k, rfl, Option.some.inj hE, ht⟩) (fun q hq => by cases hq) hdg hlocks
end ROWST
def wsR_J0_coder : List Cond := Cond.code yJ0_coder_7d493 cJ0_coder_7d493 1 (some .byte) :: wRa
set_option maxHeartbeats 4000000 in
set_option maxRecDepth 100000 in
theorem cR_J0_coder (l : Launch) (D : va_G) (cs : Nat → ClassId) (ad tb : Nat → Nat) (A : Nat → Prop) (σ : RS) (i : Nat) (hi : i < 6) : Met l yJ0_coder_7d493 wsR_J0_coder { frames := 0, cells := 0, slots := 0, locals := 0 } (va_Pc [.ref (kdJ tb i)] (preQ D cs ad tb A σ)) (vp_Si (fun x => x = 0)) 0 0 (fun _ => False) := by
  refine Met.ofW (cc := cJ0_coder_7d493) (maxL := 1) (ret := (some .byte)) (by decide) rfl ?_
  intro p e s m args below meth c s₁ B hml hv
  obtain ⟨rfl, hP, hK, hD, hZ⟩ := hv
  have hx := B.exec
  have hb := B.bytes
  have hr := B.returns
  have hts : ∀ w ∈ (Cond.code yJ0_coder_7d493 cJ0_coder_7d493 1 (some .byte) :: wRa), w.before ([.ref (kdJ tb i)] : List Value).toArray s = true := atoms_spec (ws := wsR_J0_coder) B.pre
  have hin : ∀ w ∈ wRa, w ∈ (Cond.code yJ0_coder_7d493 cJ0_coder_7d493 1 (some .byte) :: wRa) := fun w hw => List.mem_cons_of_mem _ hw
  have hown : s.vm.findClass RJ0 = some m.cls := findClass_of_methodNamed B.named
  have hlocks := B.notSynchronized
  have hS : va_S A s.heap s.heap [] := va_S.rf
  have hl := lv_entry ([.ref (kdJ tb i)]) (n := 1) (Nat.le_of_ble_eq_true rfl)
  rw [lg_entry_eq]
  generalize (lg_sl ([.ref (kdJ tb i)]) ++ List.replicate (1 - (lg_sl ([.ref (kdJ tb i)])).length) Slot.unset).toArray = ls at hl ⊢
  have hl : lv_has ls 1 [(0, .ref (kdJ tb i))] := hl
  refine va_gets hx hb hZ.2.2.2.2.2.2.2.2.1 hS hown (hts _ (hin _ rf_J0_38)) (fun _ h9 => h9) dJ0_coder_7d493_0 ?_
  refine lv_if_eq (tgt := 13) hx hb dJ0_coder_7d493_3 (by decide) (fun c_3 => absurd c_3 (by decide)) (fun _ => ?_)
  refine lv_aload_n hx hb dJ0_coder_7d493_6 rfl (lv_at hl 0 rfl) ?_
  refine vk_getf hx hb (hZ.2.2.2.2.2.2.2.1.1 i hi).2.1 hS hown (hts _ (hin _ rf_J0_15)) (fun _ h9 => h9) dJ0_coder_7d493_7 ?_
  refine lv_goto (tgt := 14) hx hb dJ0_coder_7d493_10 (by decide) ?_
  exact rzM hx hb hr hlocks rfl rfl dJ0_coder_7d493_14
def wsR_J0_isLatin1 : List Cond := Cond.code yJ0_isLatin1_aae02 cJ0_isLatin1_aae02 1 (some .boolean) :: wRa
set_option maxHeartbeats 4000000 in
set_option maxRecDepth 100000 in
theorem cR_J0_isLatin1 (l : Launch) (D : va_G) (cs : Nat → ClassId) (ad tb : Nat → Nat) (A : Nat → Prop) (σ : RS) (i : Nat) (hi : i < 6) : Met l yJ0_isLatin1_aae02 wsR_J0_isLatin1 { frames := 0, cells := 0, slots := 0, locals := 0 } (va_Pc [.ref (kdJ tb i)] (preQ D cs ad tb A σ)) (vp_Si (fun x => x = 1)) 0 0 (fun _ => False) := by
  refine Met.ofW (cc := cJ0_isLatin1_aae02) (maxL := 1) (ret := (some .boolean)) (by decide) rfl ?_
  intro p e s m args below meth c s₁ B hml hv
  obtain ⟨rfl, hP, hK, hD, hZ⟩ := hv
  have hx := B.exec
  have hb := B.bytes
  have hr := B.returns
  have hts : ∀ w ∈ (Cond.code yJ0_isLatin1_aae02 cJ0_isLatin1_aae02 1 (some .boolean) :: wRa), w.before ([.ref (kdJ tb i)] : List Value).toArray s = true := atoms_spec (ws := wsR_J0_isLatin1) B.pre
  have hin : ∀ w ∈ wRa, w ∈ (Cond.code yJ0_isLatin1_aae02 cJ0_isLatin1_aae02 1 (some .boolean) :: wRa) := fun w hw => List.mem_cons_of_mem _ hw
  have hown : s.vm.findClass RJ0 = some m.cls := findClass_of_methodNamed B.named
  have hlocks := B.notSynchronized
  have hS : va_S A s.heap s.heap [] := va_S.rf
  have hl := lv_entry ([.ref (kdJ tb i)]) (n := 1) (Nat.le_of_ble_eq_true rfl)
  rw [lg_entry_eq]
  generalize (lg_sl ([.ref (kdJ tb i)]) ++ List.replicate (1 - (lg_sl ([.ref (kdJ tb i)])).length) Slot.unset).toArray = ls at hl ⊢
  have hl : lv_has ls 1 [(0, .ref (kdJ tb i))] := hl
  refine va_gets hx hb hZ.2.2.2.2.2.2.2.2.1 hS hown (hts _ (hin _ rf_J0_38)) (fun _ h9 => h9) dJ0_isLatin1_aae02_0 ?_
  refine lv_if_eq (tgt := 17) hx hb dJ0_isLatin1_aae02_3 (by decide) (fun c_3 => absurd c_3 (by decide)) (fun _ => ?_)
  refine lv_aload_n hx hb dJ0_isLatin1_aae02_6 rfl (lv_at hl 0 rfl) ?_
  refine vk_getf hx hb (hZ.2.2.2.2.2.2.2.1.1 i hi).2.1 hS hown (hts _ (hin _ rf_J0_15)) (fun _ h9 => h9) dJ0_isLatin1_aae02_7 ?_
  refine lv_if_ne (tgt := 17) hx hb dJ0_isLatin1_aae02_10 (by decide) (fun c_3 => absurd rfl c_3) (fun _ => ?_)
  refine lv_iconst (v := (1 : Int32)) hx hb dJ0_isLatin1_aae02_13 (by decide) ?_
  refine lv_goto (tgt := 18) hx hb dJ0_isLatin1_aae02_14 (by decide) ?_
  exact rzM hx hb hr hlocks rfl rfl dJ0_isLatin1_aae02_18
theorem cw_J0_J0_coder_335 {R : Room} {s : State} {args : Array Value} {y : MethodName} {c : ByteArray} {n : Nat} {r : Option FieldType} (hts : ∀ w ∈ (Cond.code y c n r :: wRa), w.before args s = true) (hR : 0 + 1 ≤ R.frames ∧ 8 + (1 + 11) + 0 ≤ R.locals) : CallW R s args RJ0 RJ0 335 yJ0_coder_7d493 cJ0_coder_7d493 1 (some .byte) wsR_J0_coder { frames := 0, cells := 0, slots := 0, locals := 0 } 0 0 0 := cwV 0 hts (goodV wRa_good rm_J0_335 ri_J0_coder_7d493 rs_J0_coder_7d493 rn_J0 rc_J0_coder_7d493) rfl rfl rfl (by decide +kernel) hR
def FR_len (i : Nat) : Option Int32 := if i < 6 then some (Int32.ofNat (lenJ.getD i 0)) else none
theorem FR_len_lt {i : Nat} {q : Int32} (h : FR_len i = some q) : i < 6 := by
  unfold FR_len at h
  by_cases c : i < 6
  · exact c
  · rw [if_neg c] at h; exact nomatch h
theorem FR_len_q {i : Nat} {q : Int32} (h : FR_len i = some q) : Int32.ofNat (lenJ.getD i 0) >>> (0 &&& 31) = q := by
  unfold FR_len at h
  by_cases c : i < 6
  · rw [if_pos c] at h; rw [← Option.some.inj h]; rcases (show i = 0 ∨ i = 1 ∨ i = 2 ∨ i = 3 ∨ i = 4 ∨ i = 5 by omega) with rfl | rfl | rfl | rfl | rfl | rfl <;> decide
  · rw [if_neg c] at h; exact nomatch h
def wsR_J0_length : List Cond := Cond.code yJ0_length_8abf5 cJ0_length_8abf5 1 (some .int) :: wRa
set_option maxHeartbeats 4000000 in
set_option maxRecDepth 100000 in
theorem cR_J0_length (l : Launch) (D : va_G) (cs : Nat → ClassId) (ad tb : Nat → Nat) (A : Nat → Prop) (σ : RS) (i : Nat) (q : Int32) (hF : FR_len i = some q) : Met l yJ0_length_8abf5 wsR_J0_length { frames := 1, cells := 0, slots := 0, locals := 20 } (va_Pc [.ref (kdJ tb i)] (preQ D cs ad tb A σ)) (vp_Si (fun x => x = q)) 0 0 (fun _ => False) := by
  refine Met.ofW (cc := cJ0_length_8abf5) (maxL := 1) (ret := (some .int)) (by decide) rfl ?_
  intro p e s m args below meth c s₁ B hml hv
  obtain ⟨rfl, hP, hK, hD, hZ⟩ := hv
  have hx := B.exec
  have hb := B.bytes
  have hr := B.returns
  have hts : ∀ w ∈ (Cond.code yJ0_length_8abf5 cJ0_length_8abf5 1 (some .int) :: wRa), w.before ([.ref (kdJ tb i)] : List Value).toArray s = true := atoms_spec (ws := wsR_J0_length) B.pre
  have hin : ∀ w ∈ wRa, w ∈ (Cond.code yJ0_length_8abf5 cJ0_length_8abf5 1 (some .int) :: wRa) := fun w hw => List.mem_cons_of_mem _ hw
  have hown : s.vm.findClass RJ0 = some m.cls := findClass_of_methodNamed B.named
  have hlocks := B.notSynchronized
  have hS : va_S A s.heap s.heap [] := va_S.rf
  have hl := lv_entry ([.ref (kdJ tb i)]) (n := 1) (Nat.le_of_ble_eq_true rfl)
  rw [lg_entry_eq]
  generalize (lg_sl ([.ref (kdJ tb i)]) ++ List.replicate (1 - (lg_sl ([.ref (kdJ tb i)])).length) Slot.unset).toArray = ls at hl ⊢
  have hl : lv_has ls 1 [(0, .ref (kdJ tb i))] := hl
  have hi := FR_len_lt hF
  refine lv_aload_n hx hb dJ0_length_8abf5_0 rfl (lv_at hl 0 rfl) ?_
  refine vk_getf hx hb (hZ.2.2.2.2.2.2.2.1.1 i hi).2.2.1 hS hown (hts _ (hin _ rf_J0_9)) (fun _ h9 => h9) dJ0_length_8abf5_1 ?_
  refine va_tlen (v := Int32.ofNat (lenJ.getD i 0)) hx hb (hZ.2.2.2.2.2.2.2.1.1 i hi).2.2.2 hS rfl dJ0_length_8abf5_4 ?_
  refine lv_aload_n hx hb dJ0_length_8abf5_5 rfl (lv_at hl 0 rfl) ?_
  refine crR (As := []) (rest := [.int (Int32.ofNat (lenJ.getD i 0))]) ⟨hx, hb, hml, hown, hts⟩ (cR_J0_coder l D cs ad tb A σ i hi) (cw_J0_J0_coder_335 hts ⟨Nat.le_of_ble_eq_true rfl, Nat.le_of_ble_eq_true rfl⟩) ⟨Nat.zero_le _, Nat.zero_le _⟩ (vk_recv hZ.2.2.2.2.2.2.2.1 hi hS) hK hP hD hS hZ rfl hl.1 rfl (lv_room (Nat.le_of_ble_eq_true rfl)) dJ0_length_8abf5_6 ?_
  refine lv_ishr hx hb dJ0_length_8abf5_9 ?_
  exact rrM hx hb hr hlocks (congrArg some (FR_len_q hF)) dJ0_length_8abf5_10
def wsR_J3_checkIndexN : List Cond := Cond.code yJ3_checkIndex_8e157 cJ3_checkIndex_8e157 3 (some .int) :: wRa
set_option maxHeartbeats 4000000 in
set_option maxRecDepth 100000 in
theorem cR_J3_checkIndexN (l : Launch) (p0 p1 : Int32) (h0 : ¬ p0 < 0) (h1 : p0 < p1) : Met l yJ3_checkIndex_8e157 wsR_J3_checkIndexN { frames := 0, cells := 0, slots := 0, locals := 0 } (va_Pc [.int p0, .int p1, .null] (fun _ => True)) (vp_Si (fun x => x = p0)) 0 0 (fun _ => False) := by
  refine Met.ofW (cc := cJ3_checkIndex_8e157) (maxL := 3) (ret := (some .int)) (by decide) rfl ?_
  intro p e s m args below meth c s₁ B hml hv
  obtain ⟨rfl, -⟩ := hv
  have hx := B.exec
  have hb := B.bytes
  have hr := B.returns
  have hts : ∀ w ∈ (Cond.code yJ3_checkIndex_8e157 cJ3_checkIndex_8e157 3 (some .int) :: wRa), w.before ([.int p0, .int p1, .null] : List Value).toArray s = true := atoms_spec (ws := wsR_J3_checkIndexN) B.pre
  have hin : ∀ w ∈ wRa, w ∈ (Cond.code yJ3_checkIndex_8e157 cJ3_checkIndex_8e157 3 (some .int) :: wRa) := fun w hw => List.mem_cons_of_mem _ hw
  have hown : s.vm.findClass RJ3 = some m.cls := findClass_of_methodNamed B.named
  have hlocks := B.notSynchronized
  have hl := lv_entry ([.int p0, .int p1, .null]) (n := 3) (Nat.le_of_ble_eq_true rfl)
  rw [lg_entry_eq]
  generalize (lg_sl ([.int p0, .int p1, .null]) ++ List.replicate (3 - (lg_sl ([.int p0, .int p1, .null])).length) Slot.unset).toArray = ls at hl ⊢
  have hl : lv_has ls 3 [(0, .int p0), (1, .int p1), (2, .null)] := hl
  refine lv_iload_n hx hb dJ3_checkIndex_8e157_0 rfl (lv_at hl 0 rfl) ?_
  refine lv_if_lt (tgt := 9) hx hb dJ3_checkIndex_8e157_1 (by decide) (fun c_1 => absurd c_1 h0) (fun _ => ?_)
  refine lv_iload_n hx hb dJ3_checkIndex_8e157_4 rfl (lv_at hl 0 rfl) ?_
  refine lv_iload_n hx hb dJ3_checkIndex_8e157_5 rfl (lv_at hl 1 rfl) ?_
  refine lv_icmp_lt (tgt := 16) hx hb dJ3_checkIndex_8e157_6 (by decide) (fun _ => ?_) (fun c_6 => absurd h1 c_6)
  refine lv_iload_n hx hb dJ3_checkIndex_8e157_16 rfl (lv_at hl 0 rfl) ?_
  exact rrM hx hb hr hlocks rfl dJ3_checkIndex_8e157_17
theorem cw_J0_J3_checkIndexN {R : Room} {s : State} {args : Array Value} {y : MethodName} {c : ByteArray} {n : Nat} {r : Option FieldType} (hts : ∀ w ∈ (Cond.code y c n r :: wRa), w.before args s = true) (hR : 0 + 1 ≤ R.frames ∧ 8 + (3 + 11) + 0 ≤ R.locals) : CallB R s args RJ0 1059 yJ3_checkIndex_8e157 cJ3_checkIndex_8e157 3 (some .int) wsR_J3_checkIndexN { frames := 0, cells := 0, slots := 0, locals := 0 } 0 0 3 ∧ (Cond.static yJ3_checkIndex_8e157).before args s = true := va_cwS 3 hts (goodS wRa_good rm_J0_1059 rt_J3_checkIndex_8e157 rn_J3 rc_J3_checkIndex_8e157) rfl rfl rfl (by decide +kernel) hR
def wsR_J3_checkIndexR : List Cond := Cond.code yJ3_checkIndex_8e157 cJ3_checkIndex_8e157 3 (some .int) :: wRa
set_option maxHeartbeats 4000000 in
set_option maxRecDepth 100000 in
theorem cR_J3_checkIndexR (l : Launch) (p0 p1 : Int32) (t : Nat) (h0 : ¬ p0 < 0) (h1 : p0 < p1) : Met l yJ3_checkIndex_8e157 wsR_J3_checkIndexR { frames := 0, cells := 0, slots := 0, locals := 0 } (va_Pc [.int p0, .int p1, .ref t] (fun _ => True)) (vp_Si (fun x => x = p0)) 0 0 (fun _ => False) := by
  refine Met.ofW (cc := cJ3_checkIndex_8e157) (maxL := 3) (ret := (some .int)) (by decide) rfl ?_
  intro p e s m args below meth c s₁ B hml hv
  obtain ⟨rfl, -⟩ := hv
  have hx := B.exec
  have hb := B.bytes
  have hr := B.returns
  have hts : ∀ w ∈ (Cond.code yJ3_checkIndex_8e157 cJ3_checkIndex_8e157 3 (some .int) :: wRa), w.before ([.int p0, .int p1, .ref t] : List Value).toArray s = true := atoms_spec (ws := wsR_J3_checkIndexR) B.pre
  have hin : ∀ w ∈ wRa, w ∈ (Cond.code yJ3_checkIndex_8e157 cJ3_checkIndex_8e157 3 (some .int) :: wRa) := fun w hw => List.mem_cons_of_mem _ hw
  have hown : s.vm.findClass RJ3 = some m.cls := findClass_of_methodNamed B.named
  have hlocks := B.notSynchronized
  have hl := lv_entry ([.int p0, .int p1, .ref t]) (n := 3) (Nat.le_of_ble_eq_true rfl)
  rw [lg_entry_eq]
  generalize (lg_sl ([.int p0, .int p1, .ref t]) ++ List.replicate (3 - (lg_sl ([.int p0, .int p1, .ref t])).length) Slot.unset).toArray = ls at hl ⊢
  have hl : lv_has ls 3 [(0, .int p0), (1, .int p1), (2, .ref t)] := hl
  refine lv_iload_n hx hb dJ3_checkIndex_8e157_0 rfl (lv_at hl 0 rfl) ?_
  refine lv_if_lt (tgt := 9) hx hb dJ3_checkIndex_8e157_1 (by decide) (fun c_1 => absurd c_1 h0) (fun _ => ?_)
  refine lv_iload_n hx hb dJ3_checkIndex_8e157_4 rfl (lv_at hl 0 rfl) ?_
  refine lv_iload_n hx hb dJ3_checkIndex_8e157_5 rfl (lv_at hl 1 rfl) ?_
  refine lv_icmp_lt (tgt := 16) hx hb dJ3_checkIndex_8e157_6 (by decide) (fun _ => ?_) (fun c_6 => absurd h1 c_6)
  refine lv_iload_n hx hb dJ3_checkIndex_8e157_16 rfl (lv_at hl 0 rfl) ?_
  exact rrM hx hb hr hlocks rfl dJ3_checkIndex_8e157_17
theorem cw_J0_J3_checkIndexR {R : Room} {s : State} {args : Array Value} {y : MethodName} {c : ByteArray} {n : Nat} {r : Option FieldType} (hts : ∀ w ∈ (Cond.code y c n r :: wRa), w.before args s = true) (hR : 0 + 1 ≤ R.frames ∧ 8 + (3 + 11) + 0 ≤ R.locals) : CallB R s args RJ0 1059 yJ3_checkIndex_8e157 cJ3_checkIndex_8e157 3 (some .int) wsR_J3_checkIndexR { frames := 0, cells := 0, slots := 0, locals := 0 } 0 0 3 ∧ (Cond.static yJ3_checkIndex_8e157).before args s = true := va_cwS 3 hts (goodS wRa_good rm_J0_1059 rt_J3_checkIndex_8e157 rn_J3 rc_J3_checkIndex_8e157) rfl rfl rfl (by decide +kernel) hR
def wsR_J0_checkIndex : List Cond := Cond.code yJ0_checkIndex_df160 cJ0_checkIndex_df160 2 none :: wRa
set_option maxHeartbeats 4000000 in
set_option maxRecDepth 100000 in
theorem cR_J0_checkIndex (l : Launch) (D : va_G) (cs : Nat → ClassId) (ad tb : Nat → Nat) (A : Nat → Prop) (σ : RS) (p0 p1 : Int32) (h0 : ¬ p0 < 0) (h1 : p0 < p1) : Met l yJ0_checkIndex_df160 wsR_J0_checkIndex { frames := 1, cells := 0, slots := 0, locals := 22 } (va_Pc [.int p0, .int p1] (preQ D cs ad tb A σ)) (va_Sv (fun _ => True)) 0 0 (fun _ => False) := by
  refine Met.ofW (cc := cJ0_checkIndex_df160) (maxL := 2) (ret := none) (by decide) rfl ?_
  intro p e s m args below meth c s₁ B hml hv
  obtain ⟨rfl, hP, hK, hD, hZ⟩ := hv
  have hx := B.exec
  have hb := B.bytes
  have hr := B.returns
  have hts : ∀ w ∈ (Cond.code yJ0_checkIndex_df160 cJ0_checkIndex_df160 2 none :: wRa), w.before ([.int p0, .int p1] : List Value).toArray s = true := atoms_spec (ws := wsR_J0_checkIndex) B.pre
  have hin : ∀ w ∈ wRa, w ∈ (Cond.code yJ0_checkIndex_df160 cJ0_checkIndex_df160 2 none :: wRa) := fun w hw => List.mem_cons_of_mem _ hw
  have hown : s.vm.findClass RJ0 = some m.cls := findClass_of_methodNamed B.named
  have hlocks := B.notSynchronized
  have hS : va_S A s.heap s.heap [] := va_S.rf
  have hl := lv_entry ([.int p0, .int p1]) (n := 2) (Nat.le_of_ble_eq_true rfl)
  rw [lg_entry_eq]
  generalize (lg_sl ([.int p0, .int p1]) ++ List.replicate (2 - (lg_sl ([.int p0, .int p1])).length) Slot.unset).toArray = ls at hl ⊢
  have hl : lv_has ls 2 [(0, .int p0), (1, .int p1)] := hl
  refine lv_iload_n hx hb dJ0_checkIndex_df160_0 rfl (lv_at hl 0 rfl) ?_
  refine lv_iload_n hx hb dJ0_checkIndex_df160_1 rfl (lv_at hl 1 rfl) ?_
  rcases hZ.2.2.2.2.2.2.2.2.2.1 with h | ⟨t, h⟩
  · refine va_gets hx hb h hS hown (hts _ (hin _ rf_J0_1053)) (fun _ h9 => h9) dJ0_checkIndex_df160_2 ?_
    refine csR (As := [.int p0, .int p1, .null]) (rest := []) ⟨hx, hb, hml, hown, hts⟩ (cR_J3_checkIndexN l p0 p1 h0 h1) (cw_J0_J3_checkIndexN hts ⟨Nat.le_of_ble_eq_true rfl, Nat.le_of_ble_eq_true rfl⟩) ⟨Nat.zero_le _, Nat.zero_le _⟩ rfl hl.1 rfl (lv_room (Nat.le_of_ble_eq_true rfl)) dJ0_checkIndex_df160_5 ?_
    refine lv_pop hx hb dJ0_checkIndex_df160_8 rfl ?_
    exact rvS hx hb hr hlocks dJ0_checkIndex_df160_9
  · refine va_gets hx hb h hS hown (hts _ (hin _ rf_J0_1053)) (fun _ h9 => h9) dJ0_checkIndex_df160_2 ?_
    refine csR (As := [.int p0, .int p1, .ref t]) (rest := []) ⟨hx, hb, hml, hown, hts⟩ (cR_J3_checkIndexR l p0 p1 t h0 h1) (cw_J0_J3_checkIndexR hts ⟨Nat.le_of_ble_eq_true rfl, Nat.le_of_ble_eq_true rfl⟩) ⟨Nat.zero_le _, Nat.zero_le _⟩ rfl hl.1 rfl (lv_room (Nat.le_of_ble_eq_true rfl)) dJ0_checkIndex_df160_5 ?_
    refine lv_pop hx hb dJ0_checkIndex_df160_8 rfl ?_
    exact rvS hx hb hr hlocks dJ0_checkIndex_df160_9
theorem cw_J1_J0_checkIndex_9 {R : Room} {s : State} {args : Array Value} {y : MethodName} {c : ByteArray} {n : Nat} {r : Option FieldType} (hts : ∀ w ∈ (Cond.code y c n r :: wRa), w.before args s = true) (hR : 1 + 1 ≤ R.frames ∧ 8 + (2 + 11) + 22 ≤ R.locals) : CallB R s args RJ1 9 yJ0_checkIndex_df160 cJ0_checkIndex_df160 2 none wsR_J0_checkIndex { frames := 1, cells := 0, slots := 0, locals := 22 } 0 0 2 ∧ (Cond.static yJ0_checkIndex_df160).before args s = true := va_cwS 2 hts (goodS wRa_good rm_J1_9 rt_J0_checkIndex_df160 rn_J0 rc_J0_checkIndex_df160) rfl rfl rfl (by decide +kernel) hR
def FR_chr (i : Nat) (j : Int32) : Option Int32 := if i < 6 then gd (inb j (lenJ.getD i 0)) (some ((((bytJ.getD i []).getD j.toNatClampNeg 0 &&& 255).toUInt32 % 65536).toInt32)) else none
theorem FR_chr_lt {i : Nat} {j q : Int32} (h : FR_chr i j = some q) : i < 6 := by
  unfold FR_chr at h
  by_cases c : i < 6
  · exact c
  · rw [if_neg c] at h; exact nomatch h
theorem FR_chr_in {i : Nat} {j q : Int32} (h : FR_chr i j = some q) : inb j (lenJ.getD i 0) = true ∧ some ((((bytJ.getD i []).getD j.toNatClampNeg 0 &&& 255).toUInt32 % 65536).toInt32) = some q := by
  have c := FR_chr_lt h
  unfold FR_chr at h
  rw [if_pos c] at h
  exact ob_gd h
theorem FR_chr_c {i : Nat} {j q : Int32} (h : FR_chr i j = some q) : ¬ j < 0 ∧ j < Int32.ofNat (lenJ.getD i 0) := by
  have c := FR_chr_lt h
  have h1 := vp_in_iff.mp (inb_in (FR_chr_in h).1)
  have h2 : lenJ.getD i 0 ≤ 6 := by
    rcases (show i = 0 ∨ i = 1 ∨ i = 2 ∨ i = 3 ∨ i = 4 ∨ i = 5 by omega) with rfl | rfl | rfl | rfl | rfl | rfl <;> decide
  refine ⟨fun h3 => ?_, ?_⟩
  · have := Int32.lt_iff_toInt_lt.mp h3
    simp at this
    omega
  · refine Int32.lt_iff_toInt_lt.mpr ?_
    rw [Int32.toInt_ofNat_of_lt (by omega)]
    exact h1.2
def wsR_J1_charAt : List Cond := Cond.code yJ1_charAt_3b067 cJ1_charAt_3b067 2 (some .char) :: wRa
set_option maxHeartbeats 4000000 in
set_option maxRecDepth 100000 in
theorem cR_J1_charAt (l : Launch) (D : va_G) (cs : Nat → ClassId) (ad tb : Nat → Nat) (A : Nat → Prop) (σ : RS) (i : Nat) (j q : Int32) (hF : FR_chr i j = some q) : Met l yJ1_charAt_3b067 wsR_J1_charAt { frames := 2, cells := 0, slots := 0, locals := 43 } (va_Pc [.ref (vdJ tb i), .int j] (preQ D cs ad tb A σ)) (vp_Si (fun x => x = q)) 0 0 (fun _ => False) := by
  refine Met.ofW (cc := cJ1_charAt_3b067) (maxL := 2) (ret := (some .char)) (by decide) rfl ?_
  intro p e s m args below meth c s₁ B hml hv
  obtain ⟨rfl, hP, hK, hD, hZ⟩ := hv
  have hx := B.exec
  have hb := B.bytes
  have hr := B.returns
  have hts : ∀ w ∈ (Cond.code yJ1_charAt_3b067 cJ1_charAt_3b067 2 (some .char) :: wRa), w.before ([.ref (vdJ tb i), .int j] : List Value).toArray s = true := atoms_spec (ws := wsR_J1_charAt) B.pre
  have hin : ∀ w ∈ wRa, w ∈ (Cond.code yJ1_charAt_3b067 cJ1_charAt_3b067 2 (some .char) :: wRa) := fun w hw => List.mem_cons_of_mem _ hw
  have hown : s.vm.findClass RJ1 = some m.cls := findClass_of_methodNamed B.named
  have hlocks := B.notSynchronized
  have hS : va_S A s.heap s.heap [] := va_S.rf
  have hl := lv_entry ([.ref (vdJ tb i), .int j]) (n := 2) (Nat.le_of_ble_eq_true rfl)
  rw [lg_entry_eq]
  generalize (lg_sl ([.ref (vdJ tb i), .int j]) ++ List.replicate (2 - (lg_sl ([.ref (vdJ tb i), .int j])).length) Slot.unset).toArray = ls at hl ⊢
  have hl : lv_has ls 2 [(0, .ref (vdJ tb i)), (1, .int j)] := hl
  have hi := FR_chr_lt hF
  refine lv_iload_n hx hb dJ1_charAt_3b067_0 rfl (lv_at hl 1 rfl) ?_
  refine lv_aload_n hx hb dJ1_charAt_3b067_1 rfl (lv_at hl 0 rfl) ?_
  refine va_tlen (v := Int32.ofNat (lenJ.getD i 0)) hx hb (hZ.2.2.2.2.2.2.2.1.1 i hi).2.2.2 hS rfl dJ1_charAt_3b067_2 ?_
  refine ctV (As := [.int j, .int (Int32.ofNat (lenJ.getD i 0))]) (rest := []) ⟨hx, hb, hml, hown, hts⟩ (cR_J0_checkIndex l D cs ad tb A σ j (Int32.ofNat (lenJ.getD i 0)) (FR_chr_c hF).1 (FR_chr_c hF).2) (cw_J1_J0_checkIndex_9 hts ⟨Nat.le_of_ble_eq_true rfl, Nat.le_of_ble_eq_true rfl⟩) ⟨Nat.zero_le _, Nat.zero_le _⟩ hK hP hD hS hZ rfl hl.1 rfl (lv_room (Nat.le_of_ble_eq_true rfl)) dJ1_charAt_3b067_3 ?_
  refine lv_aload_n hx hb dJ1_charAt_3b067_6 rfl (lv_at hl 0 rfl) ?_
  refine lv_iload_n hx hb dJ1_charAt_3b067_7 rfl (lv_at hl 1 rfl) ?_
  refine va_tb (v := .int ((bytJ.getD i []).getD j.toNatClampNeg 0)) hx hb (hZ.2.2.2.2.2.2.2.1.1 i hi).2.2.2 hS (inb_in (FR_chr_in hF).1) rfl dJ1_charAt_3b067_8 ?_
  refine lv_sipush (v := (255 : Int32)) hx hb dJ1_charAt_3b067_9 (by decide) ?_
  refine lv_iand hx hb dJ1_charAt_3b067_12 ?_
  refine lv_i2c (v := (((bytJ.getD i []).getD j.toNatClampNeg 0 &&& 255).toUInt32 % 65536).toInt32) hx hb dJ1_charAt_3b067_13 rfl ?_
  exact rzM hx hb hr hlocks (pk_nc _) (FR_chr_in hF).2 dJ1_charAt_3b067_14
theorem cw_J0_J1_charAt_495 {R : Room} {s : State} {args : Array Value} {y : MethodName} {c : ByteArray} {n : Nat} {r : Option FieldType} (hts : ∀ w ∈ (Cond.code y c n r :: wRa), w.before args s = true) (hR : 2 + 1 ≤ R.frames ∧ 8 + (2 + 11) + 43 ≤ R.locals) : CallB R s args RJ0 495 yJ1_charAt_3b067 cJ1_charAt_3b067 2 (some .char) wsR_J1_charAt { frames := 2, cells := 0, slots := 0, locals := 43 } 0 0 2 ∧ (Cond.static yJ1_charAt_3b067).before args s = true := va_cwS 2 hts (goodS wRa_good rm_J0_495 rt_J1_charAt_3b067 rn_J1 rc_J1_charAt_3b067) rfl rfl rfl (by decide +kernel) hR
theorem cw_J0_J0_isLatin1_492 {R : Room} {s : State} {args : Array Value} {y : MethodName} {c : ByteArray} {n : Nat} {r : Option FieldType} (hts : ∀ w ∈ (Cond.code y c n r :: wRa), w.before args s = true) (hR : 0 + 1 ≤ R.frames ∧ 8 + (1 + 11) + 0 ≤ R.locals) : CallW R s args RJ0 RJ0 492 yJ0_isLatin1_aae02 cJ0_isLatin1_aae02 1 (some .boolean) wsR_J0_isLatin1 { frames := 0, cells := 0, slots := 0, locals := 0 } 0 0 0 := cwV 0 hts (goodV wRa_good rm_J0_492 ri_J0_isLatin1_aae02 rs_J0_isLatin1_aae02 rn_J0 rc_J0_isLatin1_aae02) rfl rfl rfl (by decide +kernel) hR
def wsR_J0_charAt : List Cond := Cond.code yJ0_charAt_5068e cJ0_charAt_5068e 2 (some .char) :: wRa
set_option maxHeartbeats 4000000 in
set_option maxRecDepth 100000 in
theorem cR_J0_charAt (l : Launch) (D : va_G) (cs : Nat → ClassId) (ad tb : Nat → Nat) (A : Nat → Prop) (σ : RS) (i : Nat) (j q : Int32) (hF : FR_chr i j = some q) : Met l yJ0_charAt_5068e wsR_J0_charAt { frames := 3, cells := 0, slots := 0, locals := 64 } (va_Pc [.ref (kdJ tb i), .int j] (preQ D cs ad tb A σ)) (vp_Si (fun x => x = q)) 0 0 (fun _ => False) := by
  refine Met.ofW (cc := cJ0_charAt_5068e) (maxL := 2) (ret := (some .char)) (by decide) rfl ?_
  intro p e s m args below meth c s₁ B hml hv
  obtain ⟨rfl, hP, hK, hD, hZ⟩ := hv
  have hx := B.exec
  have hb := B.bytes
  have hr := B.returns
  have hts : ∀ w ∈ (Cond.code yJ0_charAt_5068e cJ0_charAt_5068e 2 (some .char) :: wRa), w.before ([.ref (kdJ tb i), .int j] : List Value).toArray s = true := atoms_spec (ws := wsR_J0_charAt) B.pre
  have hin : ∀ w ∈ wRa, w ∈ (Cond.code yJ0_charAt_5068e cJ0_charAt_5068e 2 (some .char) :: wRa) := fun w hw => List.mem_cons_of_mem _ hw
  have hown : s.vm.findClass RJ0 = some m.cls := findClass_of_methodNamed B.named
  have hlocks := B.notSynchronized
  have hS : va_S A s.heap s.heap [] := va_S.rf
  have hl := lv_entry ([.ref (kdJ tb i), .int j]) (n := 2) (Nat.le_of_ble_eq_true rfl)
  rw [lg_entry_eq]
  generalize (lg_sl ([.ref (kdJ tb i), .int j]) ++ List.replicate (2 - (lg_sl ([.ref (kdJ tb i), .int j])).length) Slot.unset).toArray = ls at hl ⊢
  have hl : lv_has ls 2 [(0, .ref (kdJ tb i)), (1, .int j)] := hl
  have hi := FR_chr_lt hF
  refine lv_aload_n hx hb dJ0_charAt_5068e_0 rfl (lv_at hl 0 rfl) ?_
  refine crR (As := []) (rest := []) ⟨hx, hb, hml, hown, hts⟩ (cR_J0_isLatin1 l D cs ad tb A σ i hi) (cw_J0_J0_isLatin1_492 hts ⟨Nat.le_of_ble_eq_true rfl, Nat.le_of_ble_eq_true rfl⟩) ⟨Nat.zero_le _, Nat.zero_le _⟩ (vk_recv hZ.2.2.2.2.2.2.2.1 hi hS) hK hP hD hS hZ rfl hl.1 rfl (lv_room (Nat.le_of_ble_eq_true rfl)) dJ0_charAt_5068e_1 ?_
  refine lv_if_eq (tgt := 16) hx hb dJ0_charAt_5068e_4 (by decide) (fun c_3 => absurd c_3 (by decide)) (fun _ => ?_)
  refine lv_aload_n hx hb dJ0_charAt_5068e_7 rfl (lv_at hl 0 rfl) ?_
  refine vk_getf hx hb (hZ.2.2.2.2.2.2.2.1.1 i hi).2.2.1 hS hown (hts _ (hin _ rf_J0_9)) (fun _ h9 => h9) dJ0_charAt_5068e_8 ?_
  refine lv_iload_n hx hb dJ0_charAt_5068e_11 rfl (lv_at hl 1 rfl) ?_
  refine ctR (As := [.ref (vdJ tb i), .int j]) (rest := []) ⟨hx, hb, hml, hown, hts⟩ (cR_J1_charAt l D cs ad tb A σ i j q hF) (cw_J0_J1_charAt_495 hts ⟨Nat.le_of_ble_eq_true rfl, Nat.le_of_ble_eq_true rfl⟩) ⟨Nat.zero_le _, Nat.zero_le _⟩ hK hP hD hS hZ rfl hl.1 rfl (lv_room (Nat.le_of_ble_eq_true rfl)) dJ0_charAt_5068e_12 ?_
  refine rzM hx hb hr hlocks ?_ rfl dJ0_charAt_5068e_15
  rw [← Option.some.inj (FR_chr_in hF).2]
  exact pk_nc _
theorem cw_X5_J0_length_61 {R : Room} {s : State} {args : Array Value} {y : MethodName} {c : ByteArray} {n : Nat} {r : Option FieldType} (hts : ∀ w ∈ (Cond.code y c n r :: wRa), w.before args s = true) (hR : 1 + 1 ≤ R.frames ∧ 8 + (1 + 11) + 20 ≤ R.locals) : CallW R s args RX5 RJ0 61 yJ0_length_8abf5 cJ0_length_8abf5 1 (some .int) wsR_J0_length { frames := 1, cells := 0, slots := 0, locals := 20 } 0 0 0 := cwV 0 hts (goodV wRa_good rm_X5_61 ri_J0_length_8abf5 rs_J0_length_8abf5 rn_J0 rc_J0_length_8abf5) rfl rfl rfl (by decide +kernel) hR
theorem cw_X5_J0_charAt_73 {R : Room} {s : State} {args : Array Value} {y : MethodName} {c : ByteArray} {n : Nat} {r : Option FieldType} (hts : ∀ w ∈ (Cond.code y c n r :: wRa), w.before args s = true) (hR : 3 + 1 ≤ R.frames ∧ 8 + (2 + 11) + 64 ≤ R.locals) : CallW R s args RX5 RJ0 73 yJ0_charAt_5068e cJ0_charAt_5068e 2 (some .char) wsR_J0_charAt { frames := 3, cells := 0, slots := 0, locals := 64 } 0 0 1 := cwV 1 hts (goodV wRa_good rm_X5_73 ri_J0_charAt_5068e rs_J0_charAt_5068e rn_J0 rc_J0_charAt_5068e) rfl rfl rfl (by decide +kernel) hR
