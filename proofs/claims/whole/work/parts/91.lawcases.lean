set_option maxHeartbeats 4000000 in
set_option maxRecDepth 100000 in
theorem la_feed {p : Program} {e : Env} {s : State} {m : MethodId} {below : List Frame} {meth : Method} {c : Code} (l : Launch) {b L : Nat} {xs : Nat → Int32} (hL : L ≤ 2560) (C0 : lw_At p s m meth c b L xs) (D : va_G) (cs : Nat → ClassId) (ad tb : Nat → Nat) (cZ : ClassId) (hM : Nat) (adM : Nat → Nat) (hKR : va_K D vwCl (tyR cs) s) (hKM : va_K D vwCl (tyM (cs 0) cZ) s) (hZ : stR tb (lwR s (cs 0) cZ hM adM) s s.heap) (k : Nat) (hk : 5 * k + 5 ≤ L) {H : Heap} {ρ : RS} {μ : MS} (hW : lwW D cs ad cZ hM adM s H ρ μ) (hI : Inv ρ μ) {ls : Array Slot} (hl : lv_has ls 4 [(3, .int (nI (5 * k))), (2, .ref hM), (1, .ref (ad 1009)), (0, .ref b)]) (kk : ∀ (H1 : Heap) (ρ1 : RS) (μ1 : MS), lwW D cs ad cZ hM adM s H1 ρ1 μ1 → Inv ρ1 μ1 → W p l e room_1 s m #[Value.ref b] below meth c H1 [] (84 + 4 * (k + 1)) (18955 + 250 * (k + 1)) (lw_Z below #[Value.ref b] s) (F0 m 1151 ls [])) : W p l e room_1 s m #[Value.ref b] below meth c H [] (84 + 4 * k) (18955 + 250 * k) (lw_Z below #[Value.ref b] s) (F0 m 164 ls []) := by
  obtain ⟨hx, hb, hr, hml, hown, hts, hX, hbl, hlocks, hgv⟩ := id C0
  have hbA : ¬ lwA s b := Nat.not_le.mpr hbl
  have ci : ∀ j : Nat, j < 5 → vp_in (nI (5 * k) + nI j) L := fun j hj => by rw [nI_add]; exact vp_in_nI (by omega) (by omega)
  refine lv_aload_n hx hb dL_law_164 rfl (lv_at hl 2 rfl) ?_
  refine lv_aload_n hx hb dL_law_165 rfl (lv_at hl 3 rfl) ?_
  refine lv_iload_n hx hb dL_law_166 rfl (lv_at hl 0 rfl) ?_
  refine lv_iconst (v := (1 : Int32)) hx hb dL_law_167 (by decide) ?_
  refine lv_iadd hx hb dL_law_168 ?_
  refine va_sld hx hb hX hbl hbA hW.2.2.2.2.1 (ci 1 (by decide)) dL_law_169 ?_
  refine lv_i2l (v := ((xs ((nI (5 * k)) + (1 : Int32)).toNatClampNeg)).toInt64) hx hb dL_law_170 rfl ?_
  refine lv_bipush (v := (32 : Int32)) hx hb dL_law_171 (by decide) ?_
  refine lv_lshl (v := (((((xs ((nI (5 * k)) + (1 : Int32)).toNatClampNeg)).toInt64)) <<< ((32 : Int32).toInt64 &&& 63))) hx hb dL_law_173 rfl ?_
  refine lv_aload_n hx hb dL_law_174 rfl (lv_at hl 3 rfl) ?_
  refine lv_iload_n hx hb dL_law_175 rfl (lv_at hl 0 rfl) ?_
  refine lv_iconst (v := (2 : Int32)) hx hb dL_law_176 (by decide) ?_
  refine lv_iadd hx hb dL_law_177 ?_
  refine va_sld hx hb hX hbl hbA hW.2.2.2.2.1 (ci 2 (by decide)) dL_law_178 ?_
  refine lv_i2l (v := ((xs ((nI (5 * k)) + (2 : Int32)).toNatClampNeg)).toInt64) hx hb dL_law_179 rfl ?_
  refine lv_ldc2 (v := (4294967295 : Int64)) hx hb hown (hts _ (List.mem_append_right _ (show _ ∈ tables_1_1 ++ (tables_1_2 ++ (tables_1_3 ++ (tables_1_4 ++ tables_1_5))) from (List.mem_append_right _ (List.mem_append_right _ (List.mem_append_right _ (List.mem_append_right _ (List.mem_of_getElem? (i := 226) rfl)))))))) dL_law_180 ?_
  refine lv_land hx hb dL_law_183 ?_
  refine lv_lor hx hb dL_law_184 ?_
  refine lv_aload_n hx hb dL_law_185 rfl (lv_at hl 3 rfl) ?_
  refine lv_iload_n hx hb dL_law_186 rfl (lv_at hl 0 rfl) ?_
  refine lv_iconst (v := (3 : Int32)) hx hb dL_law_187 (by decide) ?_
  refine lv_iadd hx hb dL_law_188 ?_
  refine va_sld hx hb hX hbl hbA hW.2.2.2.2.1 (ci 3 (by decide)) dL_law_189 ?_
  obtain ⟨q, ρ1, μ1, e1, e2, hI⟩ := st_feed hI (((((((xs ((nI (5 * k)) + (1 : Int32)).toNatClampNeg)).toInt64)) <<< ((32 : Int32).toInt64 &&& 63)) ||| ((((xs ((nI (5 * k)) + (2 : Int32)).toNatClampNeg)).toInt64) &&& (4294967295 : Int64)))) ((xs ((nI (5 * k)) + (3 : Int32)).toNatClampNeg))
  refine lwRw (As := [.long ((((((xs ((nI (5 * k)) + (1 : Int32)).toNatClampNeg)).toInt64)) <<< ((32 : Int32).toInt64 &&& 63)) ||| ((((xs ((nI (5 * k)) + (2 : Int32)).toNatClampNeg)).toInt64) &&& (4294967295 : Int64))), .int (xs ((nI (5 * k)) + (3 : Int32)).toNatClampNeg)]) (rest := []) ⟨hx, hb, hml, hown, hts⟩ (cR_X9_feed l D cs ad tb _ ρ (((((((xs ((nI (5 * k)) + (1 : Int32)).toNatClampNeg)).toInt64)) <<< ((32 : Int32).toInt64 &&& 63)) ||| ((((xs ((nI (5 * k)) + (2 : Int32)).toNatClampNeg)).toInt64) &&& (4294967295 : Int64)))) ((xs ((nI (5 * k)) + (3 : Int32)).toNatClampNeg)) _ e1) (lc_9_feed hts) ⟨by show _ ≤ 600000; omega, by show _ ≤ 7302250; omega⟩ hKR hZ hW rfl hl.1 rfl (lv_room (Nat.le_of_ble_eq_true rfl)) dL_law_190 (fun H hW => ?_)
  refine W.widen (k := 84 + 4 * (k + 1)) (n := 18955 + 250 * (k + 1)) (by omega) (by omega) ?_
  refine lv_aload_n hx hb dL_law_193 rfl (lv_at hl 1 rfl) ?_
  refine lv_aload_n hx hb dL_law_194 rfl (lv_at hl 3 rfl) ?_
  refine lv_iload_n hx hb dL_law_195 rfl (lv_at hl 0 rfl) ?_
  refine lv_iconst (v := (1 : Int32)) hx hb dL_law_196 (by decide) ?_
  refine lv_iadd hx hb dL_law_197 ?_
  refine va_sld hx hb hX hbl hbA hW.2.2.2.2.1 (ci 1 (by decide)) dL_law_198 ?_
  refine lv_i2l (v := ((xs ((nI (5 * k)) + (1 : Int32)).toNatClampNeg)).toInt64) hx hb dL_law_199 rfl ?_
  refine lv_bipush (v := (32 : Int32)) hx hb dL_law_200 (by decide) ?_
  refine lv_lshl (v := (((((xs ((nI (5 * k)) + (1 : Int32)).toNatClampNeg)).toInt64)) <<< ((32 : Int32).toInt64 &&& 63))) hx hb dL_law_202 rfl ?_
  refine lv_aload_n hx hb dL_law_203 rfl (lv_at hl 3 rfl) ?_
  refine lv_iload_n hx hb dL_law_204 rfl (lv_at hl 0 rfl) ?_
  refine lv_iconst (v := (2 : Int32)) hx hb dL_law_205 (by decide) ?_
  refine lv_iadd hx hb dL_law_206 ?_
  refine va_sld hx hb hX hbl hbA hW.2.2.2.2.1 (ci 2 (by decide)) dL_law_207 ?_
  refine lv_i2l (v := ((xs ((nI (5 * k)) + (2 : Int32)).toNatClampNeg)).toInt64) hx hb dL_law_208 rfl ?_
  refine lv_ldc2 (v := (4294967295 : Int64)) hx hb hown (hts _ (List.mem_append_right _ (show _ ∈ tables_1_1 ++ (tables_1_2 ++ (tables_1_3 ++ (tables_1_4 ++ tables_1_5))) from (List.mem_append_right _ (List.mem_append_right _ (List.mem_append_right _ (List.mem_append_right _ (List.mem_of_getElem? (i := 226) rfl)))))))) dL_law_209 ?_
  refine lv_land hx hb dL_law_212 ?_
  refine lv_lor hx hb dL_law_213 ?_
  refine lv_aload_n hx hb dL_law_214 rfl (lv_at hl 3 rfl) ?_
  refine lv_iload_n hx hb dL_law_215 rfl (lv_at hl 0 rfl) ?_
  refine lv_iconst (v := (3 : Int32)) hx hb dL_law_216 (by decide) ?_
  refine lv_iadd hx hb dL_law_217 ?_
  refine va_sld hx hb hX hbl hbA hW.2.2.2.2.1 (ci 3 (by decide)) dL_law_218 ?_
  refine lwMw (As := [.long ((((((xs ((nI (5 * k)) + (1 : Int32)).toNatClampNeg)).toInt64)) <<< ((32 : Int32).toInt64 &&& 63)) ||| ((((xs ((nI (5 * k)) + (2 : Int32)).toNatClampNeg)).toInt64) &&& (4294967295 : Int64))), .int (xs ((nI (5 * k)) + (3 : Int32)).toNatClampNeg)]) (rest := [.int q]) ⟨hx, hb, hml, hown, hts⟩ (cM_feed l D (cs 0) cZ hM adM _ μ (((((((xs ((nI (5 * k)) + (1 : Int32)).toNatClampNeg)).toInt64)) <<< ((32 : Int32).toInt64 &&& 63)) ||| ((((xs ((nI (5 * k)) + (2 : Int32)).toNatClampNeg)).toInt64) &&& (4294967295 : Int64)))) ((xs ((nI (5 * k)) + (3 : Int32)).toNatClampNeg)) _ e2) (lc_10_feed hts) ⟨by show _ ≤ 600000; omega, by show _ ≤ 7302250; omega⟩ hKM hW rfl hl.1 rfl (lv_room (Nat.le_of_ble_eq_true rfl)) dL_law_219 (fun H hW => ?_)
  refine lv_icmp_eq (tgt := 1151) hx hb dL_law_222 (by decide) (fun _ => ?_) (fun c9 => absurd rfl c9)
  exact kk H ρ1 μ1 hW hI
set_option maxHeartbeats 4000000 in
set_option maxRecDepth 100000 in
theorem la_bolt {p : Program} {e : Env} {s : State} {m : MethodId} {below : List Frame} {meth : Method} {c : Code} (l : Launch) {b L : Nat} {xs : Nat → Int32} (hL : L ≤ 2560) (C0 : lw_At p s m meth c b L xs) (D : va_G) (cs : Nat → ClassId) (ad tb : Nat → Nat) (cZ : ClassId) (hM : Nat) (adM : Nat → Nat) (hKR : va_K D vwCl (tyR cs) s) (hKM : va_K D vwCl (tyM (cs 0) cZ) s) (hZ : stR tb (lwR s (cs 0) cZ hM adM) s s.heap) (k : Nat) (hk : 5 * k + 5 ≤ L) {H : Heap} {ρ : RS} {μ : MS} (hW : lwW D cs ad cZ hM adM s H ρ μ) (hI : Inv ρ μ) {ls : Array Slot} (hl : lv_has ls 4 [(3, .int (nI (5 * k))), (2, .ref hM), (1, .ref (ad 1009)), (0, .ref b)]) (kk : ∀ (H1 : Heap) (ρ1 : RS) (μ1 : MS), lwW D cs ad cZ hM adM s H1 ρ1 μ1 → Inv ρ1 μ1 → W p l e room_1 s m #[Value.ref b] below meth c H1 [] (84 + 4 * (k + 1)) (18955 + 250 * (k + 1)) (lw_Z below #[Value.ref b] s) (F0 m 1151 ls [])) : W p l e room_1 s m #[Value.ref b] below meth c H [] (84 + 4 * k) (18955 + 250 * k) (lw_Z below #[Value.ref b] s) (F0 m 227 ls []) := by
  obtain ⟨hx, hb, hr, hml, hown, hts, hX, hbl, hlocks, hgv⟩ := id C0
  have hbA : ¬ lwA s b := Nat.not_le.mpr hbl
  have ci : ∀ j : Nat, j < 5 → vp_in (nI (5 * k) + nI j) L := fun j hj => by rw [nI_add]; exact vp_in_nI (by omega) (by omega)
  refine lv_aload_n hx hb dL_law_227 rfl (lv_at hl 2 rfl) ?_
  refine lv_aload_n hx hb dL_law_228 rfl (lv_at hl 3 rfl) ?_
  refine lv_iload_n hx hb dL_law_229 rfl (lv_at hl 0 rfl) ?_
  refine lv_iconst (v := (1 : Int32)) hx hb dL_law_230 (by decide) ?_
  refine lv_iadd hx hb dL_law_231 ?_
  refine va_sld hx hb hX hbl hbA hW.2.2.2.2.1 (ci 1 (by decide)) dL_law_232 ?_
  refine lv_aload_n hx hb dL_law_233 rfl (lv_at hl 3 rfl) ?_
  refine lv_iload_n hx hb dL_law_234 rfl (lv_at hl 0 rfl) ?_
  refine lv_iconst (v := (2 : Int32)) hx hb dL_law_235 (by decide) ?_
  refine lv_iadd hx hb dL_law_236 ?_
  refine va_sld hx hb hX hbl hbA hW.2.2.2.2.1 (ci 2 (by decide)) dL_law_237 ?_
  obtain ⟨q, ρ1, μ1, e1, e2, hI⟩ := st_bolt hI hW.low ((xs ((nI (5 * k)) + (1 : Int32)).toNatClampNeg)) ((xs ((nI (5 * k)) + (2 : Int32)).toNatClampNeg))
  refine lwRn (As := [.int (xs ((nI (5 * k)) + (1 : Int32)).toNatClampNeg), .int (xs ((nI (5 * k)) + (2 : Int32)).toNatClampNeg)]) (rest := []) ⟨hx, hb, hml, hown, hts⟩ (cR_X9_bolt l D cs ad tb _ H.size hW.new ρ ((xs ((nI (5 * k)) + (1 : Int32)).toNatClampNeg)) ((xs ((nI (5 * k)) + (2 : Int32)).toNatClampNeg)) _ e1) (lc_9_bolt hts) ⟨by show _ ≤ 600000; omega, by show _ ≤ 7302250; omega⟩ hKR hZ hW rfl hl.1 rfl (lv_room (Nat.le_of_ble_eq_true rfl)) dL_law_238 (fun H hW => ?_)
  refine W.widen (k := 84 + 4 * (k + 1)) (n := 18955 + 250 * (k + 1)) (by omega) (by omega) ?_
  refine lv_aload_n hx hb dL_law_241 rfl (lv_at hl 1 rfl) ?_
  refine lv_aload_n hx hb dL_law_242 rfl (lv_at hl 3 rfl) ?_
  refine lv_iload_n hx hb dL_law_243 rfl (lv_at hl 0 rfl) ?_
  refine lv_iconst (v := (1 : Int32)) hx hb dL_law_244 (by decide) ?_
  refine lv_iadd hx hb dL_law_245 ?_
  refine va_sld hx hb hX hbl hbA hW.2.2.2.2.1 (ci 1 (by decide)) dL_law_246 ?_
  refine lv_aload_n hx hb dL_law_247 rfl (lv_at hl 3 rfl) ?_
  refine lv_iload_n hx hb dL_law_248 rfl (lv_at hl 0 rfl) ?_
  refine lv_iconst (v := (2 : Int32)) hx hb dL_law_249 (by decide) ?_
  refine lv_iadd hx hb dL_law_250 ?_
  refine va_sld hx hb hX hbl hbA hW.2.2.2.2.1 (ci 2 (by decide)) dL_law_251 ?_
  refine lwMw (As := [.int (xs ((nI (5 * k)) + (1 : Int32)).toNatClampNeg), .int (xs ((nI (5 * k)) + (2 : Int32)).toNatClampNeg)]) (rest := [.int q]) ⟨hx, hb, hml, hown, hts⟩ (cM_bolt l D (cs 0) cZ hM adM _ μ ((xs ((nI (5 * k)) + (1 : Int32)).toNatClampNeg)) ((xs ((nI (5 * k)) + (2 : Int32)).toNatClampNeg)) _ e2) (lc_10_bolt hts) ⟨by show _ ≤ 600000; omega, by show _ ≤ 7302250; omega⟩ hKM hW rfl hl.1 rfl (lv_room (Nat.le_of_ble_eq_true rfl)) dL_law_252 (fun H hW => ?_)
  refine lv_icmp_eq (tgt := 1151) hx hb dL_law_255 (by decide) (fun _ => ?_) (fun c9 => absurd rfl c9)
  exact kk H ρ1 μ1 hW hI
set_option maxHeartbeats 4000000 in
set_option maxRecDepth 100000 in
theorem la_about {p : Program} {e : Env} {s : State} {m : MethodId} {below : List Frame} {meth : Method} {c : Code} (l : Launch) {b L : Nat} {xs : Nat → Int32} (hL : L ≤ 2560) (C0 : lw_At p s m meth c b L xs) (D : va_G) (cs : Nat → ClassId) (ad tb : Nat → Nat) (cZ : ClassId) (hM : Nat) (adM : Nat → Nat) (hKR : va_K D vwCl (tyR cs) s) (hKM : va_K D vwCl (tyM (cs 0) cZ) s) (hZ : stR tb (lwR s (cs 0) cZ hM adM) s s.heap) (k : Nat) (hk : 5 * k + 5 ≤ L) {H : Heap} {ρ : RS} {μ : MS} (hW : lwW D cs ad cZ hM adM s H ρ μ) (hI : Inv ρ μ) {ls : Array Slot} (hl : lv_has ls 4 [(3, .int (nI (5 * k))), (2, .ref hM), (1, .ref (ad 1009)), (0, .ref b)]) (kk : ∀ (H1 : Heap) (ρ1 : RS) (μ1 : MS), lwW D cs ad cZ hM adM s H1 ρ1 μ1 → Inv ρ1 μ1 → W p l e room_1 s m #[Value.ref b] below meth c H1 [] (84 + 4 * (k + 1)) (18955 + 250 * (k + 1)) (lw_Z below #[Value.ref b] s) (F0 m 1151 ls [])) : W p l e room_1 s m #[Value.ref b] below meth c H [] (84 + 4 * k) (18955 + 250 * k) (lw_Z below #[Value.ref b] s) (F0 m 260 ls []) := by
  obtain ⟨hx, hb, hr, hml, hown, hts, hX, hbl, hlocks, hgv⟩ := id C0
  have hbA : ¬ lwA s b := Nat.not_le.mpr hbl
  have ci : ∀ j : Nat, j < 5 → vp_in (nI (5 * k) + nI j) L := fun j hj => by rw [nI_add]; exact vp_in_nI (by omega) (by omega)
  refine lv_aload_n hx hb dL_law_260 rfl (lv_at hl 2 rfl) ?_
  refine lv_aload_n hx hb dL_law_261 rfl (lv_at hl 3 rfl) ?_
  refine lv_iload_n hx hb dL_law_262 rfl (lv_at hl 0 rfl) ?_
  refine lv_iconst (v := (1 : Int32)) hx hb dL_law_263 (by decide) ?_
  refine lv_iadd hx hb dL_law_264 ?_
  refine va_sld hx hb hX hbl hbA hW.2.2.2.2.1 (ci 1 (by decide)) dL_law_265 ?_
  refine lv_aload_n hx hb dL_law_266 rfl (lv_at hl 3 rfl) ?_
  refine lv_iload_n hx hb dL_law_267 rfl (lv_at hl 0 rfl) ?_
  refine lv_iconst (v := (2 : Int32)) hx hb dL_law_268 (by decide) ?_
  refine lv_iadd hx hb dL_law_269 ?_
  refine va_sld hx hb hX hbl hbA hW.2.2.2.2.1 (ci 2 (by decide)) dL_law_270 ?_
  obtain ⟨q, e1, e2⟩ := st_about hI ((xs ((nI (5 * k)) + (1 : Int32)).toNatClampNeg)) ((xs ((nI (5 * k)) + (2 : Int32)).toNatClampNeg))
  refine lwRr (As := [.int (xs ((nI (5 * k)) + (1 : Int32)).toNatClampNeg), .int (xs ((nI (5 * k)) + (2 : Int32)).toNatClampNeg)]) (rest := []) ⟨hx, hb, hml, hown, hts⟩ (cR_X9_about l D cs ad tb _ ρ ((xs ((nI (5 * k)) + (1 : Int32)).toNatClampNeg)) ((xs ((nI (5 * k)) + (2 : Int32)).toNatClampNeg)) _ e1) (lc_9_about hts) ⟨by show _ ≤ 600000; omega, by show _ ≤ 7302250; omega⟩ hKR hZ hW rfl hl.1 rfl (lv_room (Nat.le_of_ble_eq_true rfl)) dL_law_271 (fun H hW => ?_)
  refine W.widen (k := 84 + 4 * (k + 1)) (n := 18955 + 250 * (k + 1)) (by omega) (by omega) ?_
  refine lv_aload_n hx hb dL_law_274 rfl (lv_at hl 1 rfl) ?_
  refine lv_aload_n hx hb dL_law_275 rfl (lv_at hl 3 rfl) ?_
  refine lv_iload_n hx hb dL_law_276 rfl (lv_at hl 0 rfl) ?_
  refine lv_iconst (v := (1 : Int32)) hx hb dL_law_277 (by decide) ?_
  refine lv_iadd hx hb dL_law_278 ?_
  refine va_sld hx hb hX hbl hbA hW.2.2.2.2.1 (ci 1 (by decide)) dL_law_279 ?_
  refine lv_aload_n hx hb dL_law_280 rfl (lv_at hl 3 rfl) ?_
  refine lv_iload_n hx hb dL_law_281 rfl (lv_at hl 0 rfl) ?_
  refine lv_iconst (v := (2 : Int32)) hx hb dL_law_282 (by decide) ?_
  refine lv_iadd hx hb dL_law_283 ?_
  refine va_sld hx hb hX hbl hbA hW.2.2.2.2.1 (ci 2 (by decide)) dL_law_284 ?_
  refine lwMr (As := [.int (xs ((nI (5 * k)) + (1 : Int32)).toNatClampNeg), .int (xs ((nI (5 * k)) + (2 : Int32)).toNatClampNeg)]) (rest := [.int q]) ⟨hx, hb, hml, hown, hts⟩ (cM_about l D (cs 0) cZ hM adM μ ((xs ((nI (5 * k)) + (1 : Int32)).toNatClampNeg)) ((xs ((nI (5 * k)) + (2 : Int32)).toNatClampNeg)) _ e2) (lc_10_about hts) ⟨by show _ ≤ 600000; omega, by show _ ≤ 7302250; omega⟩ hKM hW rfl hl.1 rfl (lv_room (Nat.le_of_ble_eq_true rfl)) dL_law_285 (fun H hW => ?_)
  refine lv_icmp_eq (tgt := 1151) hx hb dL_law_288 (by decide) (fun _ => ?_) (fun c9 => absurd rfl c9)
  exact kk H ρ μ hW hI
set_option maxHeartbeats 4000000 in
set_option maxRecDepth 100000 in
theorem la_row {p : Program} {e : Env} {s : State} {m : MethodId} {below : List Frame} {meth : Method} {c : Code} (l : Launch) {b L : Nat} {xs : Nat → Int32} (hL : L ≤ 2560) (C0 : lw_At p s m meth c b L xs) (D : va_G) (cs : Nat → ClassId) (ad tb : Nat → Nat) (cZ : ClassId) (hM : Nat) (adM : Nat → Nat) (hKR : va_K D vwCl (tyR cs) s) (hKM : va_K D vwCl (tyM (cs 0) cZ) s) (hZ : stR tb (lwR s (cs 0) cZ hM adM) s s.heap) (k : Nat) (hk : 5 * k + 5 ≤ L) {H : Heap} {ρ : RS} {μ : MS} (hW : lwW D cs ad cZ hM adM s H ρ μ) (hI : Inv ρ μ) {ls : Array Slot} (hl : lv_has ls 4 [(3, .int (nI (5 * k))), (2, .ref hM), (1, .ref (ad 1009)), (0, .ref b)]) (kk : ∀ (H1 : Heap) (ρ1 : RS) (μ1 : MS), lwW D cs ad cZ hM adM s H1 ρ1 μ1 → Inv ρ1 μ1 → W p l e room_1 s m #[Value.ref b] below meth c H1 [] (84 + 4 * (k + 1)) (18955 + 250 * (k + 1)) (lw_Z below #[Value.ref b] s) (F0 m 1151 ls [])) : W p l e room_1 s m #[Value.ref b] below meth c H [] (84 + 4 * k) (18955 + 250 * k) (lw_Z below #[Value.ref b] s) (F0 m 293 ls []) := by
  obtain ⟨hx, hb, hr, hml, hown, hts, hX, hbl, hlocks, hgv⟩ := id C0
  have hbA : ¬ lwA s b := Nat.not_le.mpr hbl
  have ci : ∀ j : Nat, j < 5 → vp_in (nI (5 * k) + nI j) L := fun j hj => by rw [nI_add]; exact vp_in_nI (by omega) (by omega)
  refine lv_aload_n hx hb dL_law_293 rfl (lv_at hl 2 rfl) ?_
  refine lv_aload_n hx hb dL_law_294 rfl (lv_at hl 3 rfl) ?_
  refine lv_iload_n hx hb dL_law_295 rfl (lv_at hl 0 rfl) ?_
  refine lv_iconst (v := (1 : Int32)) hx hb dL_law_296 (by decide) ?_
  refine lv_iadd hx hb dL_law_297 ?_
  refine va_sld hx hb hX hbl hbA hW.2.2.2.2.1 (ci 1 (by decide)) dL_law_298 ?_
  refine lv_aload_n hx hb dL_law_299 rfl (lv_at hl 3 rfl) ?_
  refine lv_iload_n hx hb dL_law_300 rfl (lv_at hl 0 rfl) ?_
  refine lv_iconst (v := (2 : Int32)) hx hb dL_law_301 (by decide) ?_
  refine lv_iadd hx hb dL_law_302 ?_
  refine va_sld hx hb hX hbl hbA hW.2.2.2.2.1 (ci 2 (by decide)) dL_law_303 ?_
  refine lv_aload_n hx hb dL_law_304 rfl (lv_at hl 3 rfl) ?_
  refine lv_iload_n hx hb dL_law_305 rfl (lv_at hl 0 rfl) ?_
  refine lv_iconst (v := (3 : Int32)) hx hb dL_law_306 (by decide) ?_
  refine lv_iadd hx hb dL_law_307 ?_
  refine va_sld hx hb hX hbl hbA hW.2.2.2.2.1 (ci 3 (by decide)) dL_law_308 ?_
  obtain ⟨q, e1, e2⟩ := st_row hI ((xs ((nI (5 * k)) + (1 : Int32)).toNatClampNeg)) ((xs ((nI (5 * k)) + (2 : Int32)).toNatClampNeg)) ((xs ((nI (5 * k)) + (3 : Int32)).toNatClampNeg))
  refine lwRr (As := [.int (xs ((nI (5 * k)) + (1 : Int32)).toNatClampNeg), .int (xs ((nI (5 * k)) + (2 : Int32)).toNatClampNeg), .int (xs ((nI (5 * k)) + (3 : Int32)).toNatClampNeg)]) (rest := []) ⟨hx, hb, hml, hown, hts⟩ (cR_X9_row l D cs ad tb _ ρ ((xs ((nI (5 * k)) + (1 : Int32)).toNatClampNeg)) ((xs ((nI (5 * k)) + (2 : Int32)).toNatClampNeg)) ((xs ((nI (5 * k)) + (3 : Int32)).toNatClampNeg)) _ e1) (lc_9_row hts) ⟨by show _ ≤ 600000; omega, by show _ ≤ 7302250; omega⟩ hKR hZ hW rfl hl.1 rfl (lv_room (Nat.le_of_ble_eq_true rfl)) dL_law_309 (fun H hW => ?_)
  refine W.widen (k := 84 + 4 * (k + 1)) (n := 18955 + 250 * (k + 1)) (by omega) (by omega) ?_
  refine lv_aload_n hx hb dL_law_312 rfl (lv_at hl 1 rfl) ?_
  refine lv_aload_n hx hb dL_law_313 rfl (lv_at hl 3 rfl) ?_
  refine lv_iload_n hx hb dL_law_314 rfl (lv_at hl 0 rfl) ?_
  refine lv_iconst (v := (1 : Int32)) hx hb dL_law_315 (by decide) ?_
  refine lv_iadd hx hb dL_law_316 ?_
  refine va_sld hx hb hX hbl hbA hW.2.2.2.2.1 (ci 1 (by decide)) dL_law_317 ?_
  refine lv_aload_n hx hb dL_law_318 rfl (lv_at hl 3 rfl) ?_
  refine lv_iload_n hx hb dL_law_319 rfl (lv_at hl 0 rfl) ?_
  refine lv_iconst (v := (2 : Int32)) hx hb dL_law_320 (by decide) ?_
  refine lv_iadd hx hb dL_law_321 ?_
  refine va_sld hx hb hX hbl hbA hW.2.2.2.2.1 (ci 2 (by decide)) dL_law_322 ?_
  refine lv_aload_n hx hb dL_law_323 rfl (lv_at hl 3 rfl) ?_
  refine lv_iload_n hx hb dL_law_324 rfl (lv_at hl 0 rfl) ?_
  refine lv_iconst (v := (3 : Int32)) hx hb dL_law_325 (by decide) ?_
  refine lv_iadd hx hb dL_law_326 ?_
  refine va_sld hx hb hX hbl hbA hW.2.2.2.2.1 (ci 3 (by decide)) dL_law_327 ?_
  refine lwMr (As := [.int (xs ((nI (5 * k)) + (1 : Int32)).toNatClampNeg), .int (xs ((nI (5 * k)) + (2 : Int32)).toNatClampNeg), .int (xs ((nI (5 * k)) + (3 : Int32)).toNatClampNeg)]) (rest := [.int q]) ⟨hx, hb, hml, hown, hts⟩ (cM_row l D (cs 0) cZ hM adM μ ((xs ((nI (5 * k)) + (1 : Int32)).toNatClampNeg)) ((xs ((nI (5 * k)) + (2 : Int32)).toNatClampNeg)) ((xs ((nI (5 * k)) + (3 : Int32)).toNatClampNeg)) _ e2) (lc_10_row hts) ⟨by show _ ≤ 600000; omega, by show _ ≤ 7302250; omega⟩ hKM hW rfl hl.1 rfl (lv_room (Nat.le_of_ble_eq_true rfl)) dL_law_328 (fun H hW => ?_)
  refine lv_icmp_eq (tgt := 1151) hx hb dL_law_331 (by decide) (fun _ => ?_) (fun c9 => absurd rfl c9)
  exact kk H ρ μ hW hI
set_option maxHeartbeats 4000000 in
set_option maxRecDepth 100000 in
theorem la_wash {p : Program} {e : Env} {s : State} {m : MethodId} {below : List Frame} {meth : Method} {c : Code} (l : Launch) {b L : Nat} {xs : Nat → Int32} (hL : L ≤ 2560) (C0 : lw_At p s m meth c b L xs) (D : va_G) (cs : Nat → ClassId) (ad tb : Nat → Nat) (cZ : ClassId) (hM : Nat) (adM : Nat → Nat) (hKR : va_K D vwCl (tyR cs) s) (hKM : va_K D vwCl (tyM (cs 0) cZ) s) (hZ : stR tb (lwR s (cs 0) cZ hM adM) s s.heap) (k : Nat) (hk : 5 * k + 5 ≤ L) {H : Heap} {ρ : RS} {μ : MS} (hW : lwW D cs ad cZ hM adM s H ρ μ) (hI : Inv ρ μ) {ls : Array Slot} (hl : lv_has ls 4 [(3, .int (nI (5 * k))), (2, .ref hM), (1, .ref (ad 1009)), (0, .ref b)]) (kk : ∀ (H1 : Heap) (ρ1 : RS) (μ1 : MS), lwW D cs ad cZ hM adM s H1 ρ1 μ1 → Inv ρ1 μ1 → W p l e room_1 s m #[Value.ref b] below meth c H1 [] (84 + 4 * (k + 1)) (18955 + 250 * (k + 1)) (lw_Z below #[Value.ref b] s) (F0 m 1151 ls [])) : W p l e room_1 s m #[Value.ref b] below meth c H [] (84 + 4 * k) (18955 + 250 * k) (lw_Z below #[Value.ref b] s) (F0 m 336 ls []) := by
  obtain ⟨hx, hb, hr, hml, hown, hts, hX, hbl, hlocks, hgv⟩ := id C0
  have hbA : ¬ lwA s b := Nat.not_le.mpr hbl
  have ci : ∀ j : Nat, j < 5 → vp_in (nI (5 * k) + nI j) L := fun j hj => by rw [nI_add]; exact vp_in_nI (by omega) (by omega)
  refine lv_aload_n hx hb dL_law_336 rfl (lv_at hl 2 rfl) ?_
  refine lv_aload_n hx hb dL_law_337 rfl (lv_at hl 3 rfl) ?_
  refine lv_iload_n hx hb dL_law_338 rfl (lv_at hl 0 rfl) ?_
  refine lv_iconst (v := (1 : Int32)) hx hb dL_law_339 (by decide) ?_
  refine lv_iadd hx hb dL_law_340 ?_
  refine va_sld hx hb hX hbl hbA hW.2.2.2.2.1 (ci 1 (by decide)) dL_law_341 ?_
  obtain ⟨q, ρ1, μ1, e1, e2, hI⟩ := st_wash hI ((xs ((nI (5 * k)) + (1 : Int32)).toNatClampNeg))
  refine lwRw (As := [.int (xs ((nI (5 * k)) + (1 : Int32)).toNatClampNeg)]) (rest := []) ⟨hx, hb, hml, hown, hts⟩ (cR_X9_wash l D cs ad tb _ ρ ((xs ((nI (5 * k)) + (1 : Int32)).toNatClampNeg)) _ e1) (lc_9_wash hts) ⟨by show _ ≤ 600000; omega, by show _ ≤ 7302250; omega⟩ hKR hZ hW rfl hl.1 rfl (lv_room (Nat.le_of_ble_eq_true rfl)) dL_law_342 (fun H hW => ?_)
  refine W.widen (k := 84 + 4 * (k + 1)) (n := 18955 + 250 * (k + 1)) (by omega) (by omega) ?_
  refine lv_aload_n hx hb dL_law_345 rfl (lv_at hl 1 rfl) ?_
  refine lv_aload_n hx hb dL_law_346 rfl (lv_at hl 3 rfl) ?_
  refine lv_iload_n hx hb dL_law_347 rfl (lv_at hl 0 rfl) ?_
  refine lv_iconst (v := (1 : Int32)) hx hb dL_law_348 (by decide) ?_
  refine lv_iadd hx hb dL_law_349 ?_
  refine va_sld hx hb hX hbl hbA hW.2.2.2.2.1 (ci 1 (by decide)) dL_law_350 ?_
  refine lwMw (As := [.int (xs ((nI (5 * k)) + (1 : Int32)).toNatClampNeg)]) (rest := [.int q]) ⟨hx, hb, hml, hown, hts⟩ (cM_wash l D (cs 0) cZ hM adM _ μ ((xs ((nI (5 * k)) + (1 : Int32)).toNatClampNeg)) _ e2) (lc_10_wash hts) ⟨by show _ ≤ 600000; omega, by show _ ≤ 7302250; omega⟩ hKM hW rfl hl.1 rfl (lv_room (Nat.le_of_ble_eq_true rfl)) dL_law_351 (fun H hW => ?_)
  refine lv_icmp_eq (tgt := 1151) hx hb dL_law_354 (by decide) (fun _ => ?_) (fun c9 => absurd rfl c9)
  exact kk H ρ1 μ1 hW hI
set_option maxHeartbeats 4000000 in
set_option maxRecDepth 100000 in
theorem la_dye {p : Program} {e : Env} {s : State} {m : MethodId} {below : List Frame} {meth : Method} {c : Code} (l : Launch) {b L : Nat} {xs : Nat → Int32} (hL : L ≤ 2560) (C0 : lw_At p s m meth c b L xs) (D : va_G) (cs : Nat → ClassId) (ad tb : Nat → Nat) (cZ : ClassId) (hM : Nat) (adM : Nat → Nat) (hKR : va_K D vwCl (tyR cs) s) (hKM : va_K D vwCl (tyM (cs 0) cZ) s) (hZ : stR tb (lwR s (cs 0) cZ hM adM) s s.heap) (k : Nat) (hk : 5 * k + 5 ≤ L) {H : Heap} {ρ : RS} {μ : MS} (hW : lwW D cs ad cZ hM adM s H ρ μ) (hI : Inv ρ μ) {ls : Array Slot} (hl : lv_has ls 4 [(3, .int (nI (5 * k))), (2, .ref hM), (1, .ref (ad 1009)), (0, .ref b)]) (kk : ∀ (H1 : Heap) (ρ1 : RS) (μ1 : MS), lwW D cs ad cZ hM adM s H1 ρ1 μ1 → Inv ρ1 μ1 → W p l e room_1 s m #[Value.ref b] below meth c H1 [] (84 + 4 * (k + 1)) (18955 + 250 * (k + 1)) (lw_Z below #[Value.ref b] s) (F0 m 1151 ls [])) : W p l e room_1 s m #[Value.ref b] below meth c H [] (84 + 4 * k) (18955 + 250 * k) (lw_Z below #[Value.ref b] s) (F0 m 359 ls []) := by
  obtain ⟨hx, hb, hr, hml, hown, hts, hX, hbl, hlocks, hgv⟩ := id C0
  have hbA : ¬ lwA s b := Nat.not_le.mpr hbl
  have ci : ∀ j : Nat, j < 5 → vp_in (nI (5 * k) + nI j) L := fun j hj => by rw [nI_add]; exact vp_in_nI (by omega) (by omega)
  refine lv_aload_n hx hb dL_law_359 rfl (lv_at hl 2 rfl) ?_
  refine lv_aload_n hx hb dL_law_360 rfl (lv_at hl 3 rfl) ?_
  refine lv_iload_n hx hb dL_law_361 rfl (lv_at hl 0 rfl) ?_
  refine lv_iconst (v := (1 : Int32)) hx hb dL_law_362 (by decide) ?_
  refine lv_iadd hx hb dL_law_363 ?_
  refine va_sld hx hb hX hbl hbA hW.2.2.2.2.1 (ci 1 (by decide)) dL_law_364 ?_
  refine lv_aload_n hx hb dL_law_365 rfl (lv_at hl 3 rfl) ?_
  refine lv_iload_n hx hb dL_law_366 rfl (lv_at hl 0 rfl) ?_
  refine lv_iconst (v := (2 : Int32)) hx hb dL_law_367 (by decide) ?_
  refine lv_iadd hx hb dL_law_368 ?_
  refine va_sld hx hb hX hbl hbA hW.2.2.2.2.1 (ci 2 (by decide)) dL_law_369 ?_
  obtain ⟨q, ρ1, μ1, e1, e2, hI⟩ := st_dye hI ((xs ((nI (5 * k)) + (1 : Int32)).toNatClampNeg)) ((xs ((nI (5 * k)) + (2 : Int32)).toNatClampNeg))
  refine lwRw (As := [.int (xs ((nI (5 * k)) + (1 : Int32)).toNatClampNeg), .int (xs ((nI (5 * k)) + (2 : Int32)).toNatClampNeg)]) (rest := []) ⟨hx, hb, hml, hown, hts⟩ (cR_X9_dye l D cs ad tb _ ρ ((xs ((nI (5 * k)) + (1 : Int32)).toNatClampNeg)) ((xs ((nI (5 * k)) + (2 : Int32)).toNatClampNeg)) _ e1) (lc_9_dye hts) ⟨by show _ ≤ 600000; omega, by show _ ≤ 7302250; omega⟩ hKR hZ hW rfl hl.1 rfl (lv_room (Nat.le_of_ble_eq_true rfl)) dL_law_370 (fun H hW => ?_)
  refine W.widen (k := 84 + 4 * (k + 1)) (n := 18955 + 250 * (k + 1)) (by omega) (by omega) ?_
  refine lv_aload_n hx hb dL_law_373 rfl (lv_at hl 1 rfl) ?_
  refine lv_aload_n hx hb dL_law_374 rfl (lv_at hl 3 rfl) ?_
  refine lv_iload_n hx hb dL_law_375 rfl (lv_at hl 0 rfl) ?_
  refine lv_iconst (v := (1 : Int32)) hx hb dL_law_376 (by decide) ?_
  refine lv_iadd hx hb dL_law_377 ?_
  refine va_sld hx hb hX hbl hbA hW.2.2.2.2.1 (ci 1 (by decide)) dL_law_378 ?_
  refine lv_aload_n hx hb dL_law_379 rfl (lv_at hl 3 rfl) ?_
  refine lv_iload_n hx hb dL_law_380 rfl (lv_at hl 0 rfl) ?_
  refine lv_iconst (v := (2 : Int32)) hx hb dL_law_381 (by decide) ?_
  refine lv_iadd hx hb dL_law_382 ?_
  refine va_sld hx hb hX hbl hbA hW.2.2.2.2.1 (ci 2 (by decide)) dL_law_383 ?_
  refine lwMw (As := [.int (xs ((nI (5 * k)) + (1 : Int32)).toNatClampNeg), .int (xs ((nI (5 * k)) + (2 : Int32)).toNatClampNeg)]) (rest := [.int q]) ⟨hx, hb, hml, hown, hts⟩ (cM_dye l D (cs 0) cZ hM adM _ μ ((xs ((nI (5 * k)) + (1 : Int32)).toNatClampNeg)) ((xs ((nI (5 * k)) + (2 : Int32)).toNatClampNeg)) _ e2) (lc_10_dye hts) ⟨by show _ ≤ 600000; omega, by show _ ≤ 7302250; omega⟩ hKM hW rfl hl.1 rfl (lv_room (Nat.le_of_ble_eq_true rfl)) dL_law_384 (fun H hW => ?_)
  refine lv_icmp_eq (tgt := 1151) hx hb dL_law_387 (by decide) (fun _ => ?_) (fun c9 => absurd rfl c9)
  exact kk H ρ1 μ1 hW hI
set_option maxHeartbeats 4000000 in
set_option maxRecDepth 100000 in
theorem la_measure {p : Program} {e : Env} {s : State} {m : MethodId} {below : List Frame} {meth : Method} {c : Code} (l : Launch) {b L : Nat} {xs : Nat → Int32} (hL : L ≤ 2560) (C0 : lw_At p s m meth c b L xs) (D : va_G) (cs : Nat → ClassId) (ad tb : Nat → Nat) (cZ : ClassId) (hM : Nat) (adM : Nat → Nat) (hKR : va_K D vwCl (tyR cs) s) (hKM : va_K D vwCl (tyM (cs 0) cZ) s) (hZ : stR tb (lwR s (cs 0) cZ hM adM) s s.heap) (k : Nat) (hk : 5 * k + 5 ≤ L) {H : Heap} {ρ : RS} {μ : MS} (hW : lwW D cs ad cZ hM adM s H ρ μ) (hI : Inv ρ μ) {ls : Array Slot} (hl : lv_has ls 4 [(3, .int (nI (5 * k))), (2, .ref hM), (1, .ref (ad 1009)), (0, .ref b)]) (kk : ∀ (H1 : Heap) (ρ1 : RS) (μ1 : MS), lwW D cs ad cZ hM adM s H1 ρ1 μ1 → Inv ρ1 μ1 → W p l e room_1 s m #[Value.ref b] below meth c H1 [] (84 + 4 * (k + 1)) (18955 + 250 * (k + 1)) (lw_Z below #[Value.ref b] s) (F0 m 1151 ls [])) : W p l e room_1 s m #[Value.ref b] below meth c H [] (84 + 4 * k) (18955 + 250 * k) (lw_Z below #[Value.ref b] s) (F0 m 392 ls []) := by
  obtain ⟨hx, hb, hr, hml, hown, hts, hX, hbl, hlocks, hgv⟩ := id C0
  have hbA : ¬ lwA s b := Nat.not_le.mpr hbl
  have ci : ∀ j : Nat, j < 5 → vp_in (nI (5 * k) + nI j) L := fun j hj => by rw [nI_add]; exact vp_in_nI (by omega) (by omega)
  refine lv_aload_n hx hb dL_law_392 rfl (lv_at hl 2 rfl) ?_
  refine lv_aload_n hx hb dL_law_393 rfl (lv_at hl 3 rfl) ?_
  refine lv_iload_n hx hb dL_law_394 rfl (lv_at hl 0 rfl) ?_
  refine lv_iconst (v := (1 : Int32)) hx hb dL_law_395 (by decide) ?_
  refine lv_iadd hx hb dL_law_396 ?_
  refine va_sld hx hb hX hbl hbA hW.2.2.2.2.1 (ci 1 (by decide)) dL_law_397 ?_
  refine lv_aload_n hx hb dL_law_398 rfl (lv_at hl 3 rfl) ?_
  refine lv_iload_n hx hb dL_law_399 rfl (lv_at hl 0 rfl) ?_
  refine lv_iconst (v := (2 : Int32)) hx hb dL_law_400 (by decide) ?_
  refine lv_iadd hx hb dL_law_401 ?_
  refine va_sld hx hb hX hbl hbA hW.2.2.2.2.1 (ci 2 (by decide)) dL_law_402 ?_
  refine lv_aload_n hx hb dL_law_403 rfl (lv_at hl 3 rfl) ?_
  refine lv_iload_n hx hb dL_law_404 rfl (lv_at hl 0 rfl) ?_
  refine lv_iconst (v := (3 : Int32)) hx hb dL_law_405 (by decide) ?_
  refine lv_iadd hx hb dL_law_406 ?_
  refine va_sld hx hb hX hbl hbA hW.2.2.2.2.1 (ci 3 (by decide)) dL_law_407 ?_
  obtain ⟨q, ρ1, μ1, e1, e2, hI⟩ := st_measure hI ((xs ((nI (5 * k)) + (1 : Int32)).toNatClampNeg)) ((xs ((nI (5 * k)) + (2 : Int32)).toNatClampNeg)) ((xs ((nI (5 * k)) + (3 : Int32)).toNatClampNeg))
  refine lwRw (As := [.int (xs ((nI (5 * k)) + (1 : Int32)).toNatClampNeg), .int (xs ((nI (5 * k)) + (2 : Int32)).toNatClampNeg), .int (xs ((nI (5 * k)) + (3 : Int32)).toNatClampNeg)]) (rest := []) ⟨hx, hb, hml, hown, hts⟩ (cR_X9_measure l D cs ad tb _ ρ ((xs ((nI (5 * k)) + (1 : Int32)).toNatClampNeg)) ((xs ((nI (5 * k)) + (2 : Int32)).toNatClampNeg)) ((xs ((nI (5 * k)) + (3 : Int32)).toNatClampNeg)) _ e1) (lc_9_measure hts) ⟨by show _ ≤ 600000; omega, by show _ ≤ 7302250; omega⟩ hKR hZ hW rfl hl.1 rfl (lv_room (Nat.le_of_ble_eq_true rfl)) dL_law_408 (fun H hW => ?_)
  refine W.widen (k := 84 + 4 * (k + 1)) (n := 18955 + 250 * (k + 1)) (by omega) (by omega) ?_
  refine lv_aload_n hx hb dL_law_411 rfl (lv_at hl 1 rfl) ?_
  refine lv_aload_n hx hb dL_law_412 rfl (lv_at hl 3 rfl) ?_
  refine lv_iload_n hx hb dL_law_413 rfl (lv_at hl 0 rfl) ?_
  refine lv_iconst (v := (1 : Int32)) hx hb dL_law_414 (by decide) ?_
  refine lv_iadd hx hb dL_law_415 ?_
  refine va_sld hx hb hX hbl hbA hW.2.2.2.2.1 (ci 1 (by decide)) dL_law_416 ?_
  refine lv_aload_n hx hb dL_law_417 rfl (lv_at hl 3 rfl) ?_
  refine lv_iload_n hx hb dL_law_418 rfl (lv_at hl 0 rfl) ?_
  refine lv_iconst (v := (2 : Int32)) hx hb dL_law_419 (by decide) ?_
  refine lv_iadd hx hb dL_law_420 ?_
  refine va_sld hx hb hX hbl hbA hW.2.2.2.2.1 (ci 2 (by decide)) dL_law_421 ?_
  refine lv_aload_n hx hb dL_law_422 rfl (lv_at hl 3 rfl) ?_
  refine lv_iload_n hx hb dL_law_423 rfl (lv_at hl 0 rfl) ?_
  refine lv_iconst (v := (3 : Int32)) hx hb dL_law_424 (by decide) ?_
  refine lv_iadd hx hb dL_law_425 ?_
  refine va_sld hx hb hX hbl hbA hW.2.2.2.2.1 (ci 3 (by decide)) dL_law_426 ?_
  refine lwMw (As := [.int (xs ((nI (5 * k)) + (1 : Int32)).toNatClampNeg), .int (xs ((nI (5 * k)) + (2 : Int32)).toNatClampNeg), .int (xs ((nI (5 * k)) + (3 : Int32)).toNatClampNeg)]) (rest := [.int q]) ⟨hx, hb, hml, hown, hts⟩ (cM_measure l D (cs 0) cZ hM adM _ μ ((xs ((nI (5 * k)) + (1 : Int32)).toNatClampNeg)) ((xs ((nI (5 * k)) + (2 : Int32)).toNatClampNeg)) ((xs ((nI (5 * k)) + (3 : Int32)).toNatClampNeg)) _ e2) (lc_10_measure hts) ⟨by show _ ≤ 600000; omega, by show _ ≤ 7302250; omega⟩ hKM hW rfl hl.1 rfl (lv_room (Nat.le_of_ble_eq_true rfl)) dL_law_427 (fun H hW => ?_)
  refine lv_icmp_eq (tgt := 1151) hx hb dL_law_430 (by decide) (fun _ => ?_) (fun c9 => absurd rfl c9)
  exact kk H ρ1 μ1 hW hI
set_option maxHeartbeats 4000000 in
set_option maxRecDepth 100000 in
theorem la_set {p : Program} {e : Env} {s : State} {m : MethodId} {below : List Frame} {meth : Method} {c : Code} (l : Launch) {b L : Nat} {xs : Nat → Int32} (hL : L ≤ 2560) (C0 : lw_At p s m meth c b L xs) (D : va_G) (cs : Nat → ClassId) (ad tb : Nat → Nat) (cZ : ClassId) (hM : Nat) (adM : Nat → Nat) (hKR : va_K D vwCl (tyR cs) s) (hKM : va_K D vwCl (tyM (cs 0) cZ) s) (hZ : stR tb (lwR s (cs 0) cZ hM adM) s s.heap) (k : Nat) (hk : 5 * k + 5 ≤ L) {H : Heap} {ρ : RS} {μ : MS} (hW : lwW D cs ad cZ hM adM s H ρ μ) (hI : Inv ρ μ) {ls : Array Slot} (hl : lv_has ls 4 [(3, .int (nI (5 * k))), (2, .ref hM), (1, .ref (ad 1009)), (0, .ref b)]) (kk : ∀ (H1 : Heap) (ρ1 : RS) (μ1 : MS), lwW D cs ad cZ hM adM s H1 ρ1 μ1 → Inv ρ1 μ1 → W p l e room_1 s m #[Value.ref b] below meth c H1 [] (84 + 4 * (k + 1)) (18955 + 250 * (k + 1)) (lw_Z below #[Value.ref b] s) (F0 m 1151 ls [])) : W p l e room_1 s m #[Value.ref b] below meth c H [] (84 + 4 * k) (18955 + 250 * k) (lw_Z below #[Value.ref b] s) (F0 m 435 ls []) := by
  obtain ⟨hx, hb, hr, hml, hown, hts, hX, hbl, hlocks, hgv⟩ := id C0
  have hbA : ¬ lwA s b := Nat.not_le.mpr hbl
  have ci : ∀ j : Nat, j < 5 → vp_in (nI (5 * k) + nI j) L := fun j hj => by rw [nI_add]; exact vp_in_nI (by omega) (by omega)
  refine lv_aload_n hx hb dL_law_435 rfl (lv_at hl 2 rfl) ?_
  refine lv_aload_n hx hb dL_law_436 rfl (lv_at hl 3 rfl) ?_
  refine lv_iload_n hx hb dL_law_437 rfl (lv_at hl 0 rfl) ?_
  refine lv_iconst (v := (1 : Int32)) hx hb dL_law_438 (by decide) ?_
  refine lv_iadd hx hb dL_law_439 ?_
  refine va_sld hx hb hX hbl hbA hW.2.2.2.2.1 (ci 1 (by decide)) dL_law_440 ?_
  refine lv_aload_n hx hb dL_law_441 rfl (lv_at hl 3 rfl) ?_
  refine lv_iload_n hx hb dL_law_442 rfl (lv_at hl 0 rfl) ?_
  refine lv_iconst (v := (2 : Int32)) hx hb dL_law_443 (by decide) ?_
  refine lv_iadd hx hb dL_law_444 ?_
  refine va_sld hx hb hX hbl hbA hW.2.2.2.2.1 (ci 2 (by decide)) dL_law_445 ?_
  obtain ⟨q, ρ1, μ1, e1, e2, hI⟩ := st_set hI ((xs ((nI (5 * k)) + (1 : Int32)).toNatClampNeg)) ((xs ((nI (5 * k)) + (2 : Int32)).toNatClampNeg))
  refine lwRw (As := [.int (xs ((nI (5 * k)) + (1 : Int32)).toNatClampNeg), .int (xs ((nI (5 * k)) + (2 : Int32)).toNatClampNeg)]) (rest := []) ⟨hx, hb, hml, hown, hts⟩ (cR_X9_set l D cs ad tb _ ρ ((xs ((nI (5 * k)) + (1 : Int32)).toNatClampNeg)) ((xs ((nI (5 * k)) + (2 : Int32)).toNatClampNeg)) _ e1) (lc_9_set hts) ⟨by show _ ≤ 600000; omega, by show _ ≤ 7302250; omega⟩ hKR hZ hW rfl hl.1 rfl (lv_room (Nat.le_of_ble_eq_true rfl)) dL_law_446 (fun H hW => ?_)
  refine W.widen (k := 84 + 4 * (k + 1)) (n := 18955 + 250 * (k + 1)) (by omega) (by omega) ?_
  refine lv_aload_n hx hb dL_law_449 rfl (lv_at hl 1 rfl) ?_
  refine lv_aload_n hx hb dL_law_450 rfl (lv_at hl 3 rfl) ?_
  refine lv_iload_n hx hb dL_law_451 rfl (lv_at hl 0 rfl) ?_
  refine lv_iconst (v := (1 : Int32)) hx hb dL_law_452 (by decide) ?_
  refine lv_iadd hx hb dL_law_453 ?_
  refine va_sld hx hb hX hbl hbA hW.2.2.2.2.1 (ci 1 (by decide)) dL_law_454 ?_
  refine lv_aload_n hx hb dL_law_455 rfl (lv_at hl 3 rfl) ?_
  refine lv_iload_n hx hb dL_law_456 rfl (lv_at hl 0 rfl) ?_
  refine lv_iconst (v := (2 : Int32)) hx hb dL_law_457 (by decide) ?_
  refine lv_iadd hx hb dL_law_458 ?_
  refine va_sld hx hb hX hbl hbA hW.2.2.2.2.1 (ci 2 (by decide)) dL_law_459 ?_
  refine lwMw (As := [.int (xs ((nI (5 * k)) + (1 : Int32)).toNatClampNeg), .int (xs ((nI (5 * k)) + (2 : Int32)).toNatClampNeg)]) (rest := [.int q]) ⟨hx, hb, hml, hown, hts⟩ (cM_set l D (cs 0) cZ hM adM _ μ ((xs ((nI (5 * k)) + (1 : Int32)).toNatClampNeg)) ((xs ((nI (5 * k)) + (2 : Int32)).toNatClampNeg)) _ e2) (lc_10_set hts) ⟨by show _ ≤ 600000; omega, by show _ ≤ 7302250; omega⟩ hKM hW rfl hl.1 rfl (lv_room (Nat.le_of_ble_eq_true rfl)) dL_law_460 (fun H hW => ?_)
  refine lv_icmp_eq (tgt := 1151) hx hb dL_law_463 (by decide) (fun _ => ?_) (fun c9 => absurd rfl c9)
  exact kk H ρ1 μ1 hW hI
set_option maxHeartbeats 4000000 in
set_option maxRecDepth 100000 in
theorem la_sleeves {p : Program} {e : Env} {s : State} {m : MethodId} {below : List Frame} {meth : Method} {c : Code} (l : Launch) {b L : Nat} {xs : Nat → Int32} (hL : L ≤ 2560) (C0 : lw_At p s m meth c b L xs) (D : va_G) (cs : Nat → ClassId) (ad tb : Nat → Nat) (cZ : ClassId) (hM : Nat) (adM : Nat → Nat) (hKR : va_K D vwCl (tyR cs) s) (hKM : va_K D vwCl (tyM (cs 0) cZ) s) (hZ : stR tb (lwR s (cs 0) cZ hM adM) s s.heap) (k : Nat) (hk : 5 * k + 5 ≤ L) {H : Heap} {ρ : RS} {μ : MS} (hW : lwW D cs ad cZ hM adM s H ρ μ) (hI : Inv ρ μ) {ls : Array Slot} (hl : lv_has ls 4 [(3, .int (nI (5 * k))), (2, .ref hM), (1, .ref (ad 1009)), (0, .ref b)]) (kk : ∀ (H1 : Heap) (ρ1 : RS) (μ1 : MS), lwW D cs ad cZ hM adM s H1 ρ1 μ1 → Inv ρ1 μ1 → W p l e room_1 s m #[Value.ref b] below meth c H1 [] (84 + 4 * (k + 1)) (18955 + 250 * (k + 1)) (lw_Z below #[Value.ref b] s) (F0 m 1151 ls [])) : W p l e room_1 s m #[Value.ref b] below meth c H [] (84 + 4 * k) (18955 + 250 * k) (lw_Z below #[Value.ref b] s) (F0 m 468 ls []) := by
  obtain ⟨hx, hb, hr, hml, hown, hts, hX, hbl, hlocks, hgv⟩ := id C0
  have hbA : ¬ lwA s b := Nat.not_le.mpr hbl
  have ci : ∀ j : Nat, j < 5 → vp_in (nI (5 * k) + nI j) L := fun j hj => by rw [nI_add]; exact vp_in_nI (by omega) (by omega)
  refine lv_aload_n hx hb dL_law_468 rfl (lv_at hl 2 rfl) ?_
  refine lv_aload_n hx hb dL_law_469 rfl (lv_at hl 3 rfl) ?_
  refine lv_iload_n hx hb dL_law_470 rfl (lv_at hl 0 rfl) ?_
  refine lv_iconst (v := (1 : Int32)) hx hb dL_law_471 (by decide) ?_
  refine lv_iadd hx hb dL_law_472 ?_
  refine va_sld hx hb hX hbl hbA hW.2.2.2.2.1 (ci 1 (by decide)) dL_law_473 ?_
  obtain ⟨q, ρ1, e1, e2, hI⟩ := st_sleeves hI ((xs ((nI (5 * k)) + (1 : Int32)).toNatClampNeg))
  refine lwRw (As := [.int (xs ((nI (5 * k)) + (1 : Int32)).toNatClampNeg)]) (rest := []) ⟨hx, hb, hml, hown, hts⟩ (cR_X9_sleeves l D cs ad tb _ ρ ((xs ((nI (5 * k)) + (1 : Int32)).toNatClampNeg)) _ e1) (lc_9_sleeves hts) ⟨by show _ ≤ 600000; omega, by show _ ≤ 7302250; omega⟩ hKR hZ hW rfl hl.1 rfl (lv_room (Nat.le_of_ble_eq_true rfl)) dL_law_474 (fun H hW => ?_)
  refine W.widen (k := 84 + 4 * (k + 1)) (n := 18955 + 250 * (k + 1)) (by omega) (by omega) ?_
  refine lv_aload_n hx hb dL_law_477 rfl (lv_at hl 1 rfl) ?_
  refine lv_aload_n hx hb dL_law_478 rfl (lv_at hl 3 rfl) ?_
  refine lv_iload_n hx hb dL_law_479 rfl (lv_at hl 0 rfl) ?_
  refine lv_iconst (v := (1 : Int32)) hx hb dL_law_480 (by decide) ?_
  refine lv_iadd hx hb dL_law_481 ?_
  refine va_sld hx hb hX hbl hbA hW.2.2.2.2.1 (ci 1 (by decide)) dL_law_482 ?_
  refine lwMr (As := [.int (xs ((nI (5 * k)) + (1 : Int32)).toNatClampNeg)]) (rest := [.int q]) ⟨hx, hb, hml, hown, hts⟩ (cM_sleeves l D (cs 0) cZ hM adM μ ((xs ((nI (5 * k)) + (1 : Int32)).toNatClampNeg)) _ e2) (lc_10_sleeves hts) ⟨by show _ ≤ 600000; omega, by show _ ≤ 7302250; omega⟩ hKM hW rfl hl.1 rfl (lv_room (Nat.le_of_ble_eq_true rfl)) dL_law_483 (fun H hW => ?_)
  refine lv_icmp_eq (tgt := 1151) hx hb dL_law_486 (by decide) (fun _ => ?_) (fun c9 => absurd rfl c9)
  exact kk H ρ1 μ hW hI
set_option maxHeartbeats 4000000 in
set_option maxRecDepth 100000 in
theorem la_ugly {p : Program} {e : Env} {s : State} {m : MethodId} {below : List Frame} {meth : Method} {c : Code} (l : Launch) {b L : Nat} {xs : Nat → Int32} (hL : L ≤ 2560) (C0 : lw_At p s m meth c b L xs) (D : va_G) (cs : Nat → ClassId) (ad tb : Nat → Nat) (cZ : ClassId) (hM : Nat) (adM : Nat → Nat) (hKR : va_K D vwCl (tyR cs) s) (hKM : va_K D vwCl (tyM (cs 0) cZ) s) (hZ : stR tb (lwR s (cs 0) cZ hM adM) s s.heap) (k : Nat) (hk : 5 * k + 5 ≤ L) {H : Heap} {ρ : RS} {μ : MS} (hW : lwW D cs ad cZ hM adM s H ρ μ) (hI : Inv ρ μ) {ls : Array Slot} (hl : lv_has ls 4 [(3, .int (nI (5 * k))), (2, .ref hM), (1, .ref (ad 1009)), (0, .ref b)]) (kk : ∀ (H1 : Heap) (ρ1 : RS) (μ1 : MS), lwW D cs ad cZ hM adM s H1 ρ1 μ1 → Inv ρ1 μ1 → W p l e room_1 s m #[Value.ref b] below meth c H1 [] (84 + 4 * (k + 1)) (18955 + 250 * (k + 1)) (lw_Z below #[Value.ref b] s) (F0 m 1151 ls [])) : W p l e room_1 s m #[Value.ref b] below meth c H [] (84 + 4 * k) (18955 + 250 * k) (lw_Z below #[Value.ref b] s) (F0 m 491 ls []) := by
  obtain ⟨hx, hb, hr, hml, hown, hts, hX, hbl, hlocks, hgv⟩ := id C0
  have hbA : ¬ lwA s b := Nat.not_le.mpr hbl
  have ci : ∀ j : Nat, j < 5 → vp_in (nI (5 * k) + nI j) L := fun j hj => by rw [nI_add]; exact vp_in_nI (by omega) (by omega)
  refine lv_aload_n hx hb dL_law_491 rfl (lv_at hl 2 rfl) ?_
  refine lv_aload_n hx hb dL_law_492 rfl (lv_at hl 3 rfl) ?_
  refine lv_iload_n hx hb dL_law_493 rfl (lv_at hl 0 rfl) ?_
  refine lv_iconst (v := (1 : Int32)) hx hb dL_law_494 (by decide) ?_
  refine lv_iadd hx hb dL_law_495 ?_
  refine va_sld hx hb hX hbl hbA hW.2.2.2.2.1 (ci 1 (by decide)) dL_law_496 ?_
  refine lv_aload_n hx hb dL_law_497 rfl (lv_at hl 3 rfl) ?_
  refine lv_iload_n hx hb dL_law_498 rfl (lv_at hl 0 rfl) ?_
  refine lv_iconst (v := (2 : Int32)) hx hb dL_law_499 (by decide) ?_
  refine lv_iadd hx hb dL_law_500 ?_
  refine va_sld hx hb hX hbl hbA hW.2.2.2.2.1 (ci 2 (by decide)) dL_law_501 ?_
  refine lv_aload_n hx hb dL_law_502 rfl (lv_at hl 3 rfl) ?_
  refine lv_iload_n hx hb dL_law_503 rfl (lv_at hl 0 rfl) ?_
  refine lv_iconst (v := (3 : Int32)) hx hb dL_law_504 (by decide) ?_
  refine lv_iadd hx hb dL_law_505 ?_
  refine va_sld hx hb hX hbl hbA hW.2.2.2.2.1 (ci 3 (by decide)) dL_law_506 ?_
  obtain ⟨q, ρ1, μ1, e1, e2, hI⟩ := st_ugly hI ((xs ((nI (5 * k)) + (1 : Int32)).toNatClampNeg)) ((xs ((nI (5 * k)) + (2 : Int32)).toNatClampNeg)) ((xs ((nI (5 * k)) + (3 : Int32)).toNatClampNeg))
  refine lwRw (As := [.int (xs ((nI (5 * k)) + (1 : Int32)).toNatClampNeg), .int (xs ((nI (5 * k)) + (2 : Int32)).toNatClampNeg), .int (xs ((nI (5 * k)) + (3 : Int32)).toNatClampNeg)]) (rest := []) ⟨hx, hb, hml, hown, hts⟩ (cR_X9_ugly l D cs ad tb _ ρ ((xs ((nI (5 * k)) + (1 : Int32)).toNatClampNeg)) ((xs ((nI (5 * k)) + (2 : Int32)).toNatClampNeg)) ((xs ((nI (5 * k)) + (3 : Int32)).toNatClampNeg)) _ e1) (lc_9_ugly hts) ⟨by show _ ≤ 600000; omega, by show _ ≤ 7302250; omega⟩ hKR hZ hW rfl hl.1 rfl (lv_room (Nat.le_of_ble_eq_true rfl)) dL_law_507 (fun H hW => ?_)
  refine W.widen (k := 84 + 4 * (k + 1)) (n := 18955 + 250 * (k + 1)) (by omega) (by omega) ?_
  refine lv_aload_n hx hb dL_law_510 rfl (lv_at hl 1 rfl) ?_
  refine lv_aload_n hx hb dL_law_511 rfl (lv_at hl 3 rfl) ?_
  refine lv_iload_n hx hb dL_law_512 rfl (lv_at hl 0 rfl) ?_
  refine lv_iconst (v := (1 : Int32)) hx hb dL_law_513 (by decide) ?_
  refine lv_iadd hx hb dL_law_514 ?_
  refine va_sld hx hb hX hbl hbA hW.2.2.2.2.1 (ci 1 (by decide)) dL_law_515 ?_
  refine lv_aload_n hx hb dL_law_516 rfl (lv_at hl 3 rfl) ?_
  refine lv_iload_n hx hb dL_law_517 rfl (lv_at hl 0 rfl) ?_
  refine lv_iconst (v := (2 : Int32)) hx hb dL_law_518 (by decide) ?_
  refine lv_iadd hx hb dL_law_519 ?_
  refine va_sld hx hb hX hbl hbA hW.2.2.2.2.1 (ci 2 (by decide)) dL_law_520 ?_
  refine lv_aload_n hx hb dL_law_521 rfl (lv_at hl 3 rfl) ?_
  refine lv_iload_n hx hb dL_law_522 rfl (lv_at hl 0 rfl) ?_
  refine lv_iconst (v := (3 : Int32)) hx hb dL_law_523 (by decide) ?_
  refine lv_iadd hx hb dL_law_524 ?_
  refine va_sld hx hb hX hbl hbA hW.2.2.2.2.1 (ci 3 (by decide)) dL_law_525 ?_
  refine lwMw (As := [.int (xs ((nI (5 * k)) + (1 : Int32)).toNatClampNeg), .int (xs ((nI (5 * k)) + (2 : Int32)).toNatClampNeg), .int (xs ((nI (5 * k)) + (3 : Int32)).toNatClampNeg)]) (rest := [.int q]) ⟨hx, hb, hml, hown, hts⟩ (cM_ugly l D (cs 0) cZ hM adM _ μ ((xs ((nI (5 * k)) + (1 : Int32)).toNatClampNeg)) ((xs ((nI (5 * k)) + (2 : Int32)).toNatClampNeg)) ((xs ((nI (5 * k)) + (3 : Int32)).toNatClampNeg)) _ e2) (lc_10_ugly hts) ⟨by show _ ≤ 600000; omega, by show _ ≤ 7302250; omega⟩ hKM hW rfl hl.1 rfl (lv_room (Nat.le_of_ble_eq_true rfl)) dL_law_526 (fun H hW => ?_)
  refine lv_icmp_eq (tgt := 1151) hx hb dL_law_529 (by decide) (fun _ => ?_) (fun c9 => absurd rfl c9)
  exact kk H ρ1 μ1 hW hI
set_option maxHeartbeats 4000000 in
set_option maxRecDepth 100000 in
theorem la_best {p : Program} {e : Env} {s : State} {m : MethodId} {below : List Frame} {meth : Method} {c : Code} (l : Launch) {b L : Nat} {xs : Nat → Int32} (hL : L ≤ 2560) (C0 : lw_At p s m meth c b L xs) (D : va_G) (cs : Nat → ClassId) (ad tb : Nat → Nat) (cZ : ClassId) (hM : Nat) (adM : Nat → Nat) (hKR : va_K D vwCl (tyR cs) s) (hKM : va_K D vwCl (tyM (cs 0) cZ) s) (hZ : stR tb (lwR s (cs 0) cZ hM adM) s s.heap) (k : Nat) (hk : 5 * k + 5 ≤ L) {H : Heap} {ρ : RS} {μ : MS} (hW : lwW D cs ad cZ hM adM s H ρ μ) (hI : Inv ρ μ) {ls : Array Slot} (hl : lv_has ls 4 [(3, .int (nI (5 * k))), (2, .ref hM), (1, .ref (ad 1009)), (0, .ref b)]) (kk : ∀ (H1 : Heap) (ρ1 : RS) (μ1 : MS), lwW D cs ad cZ hM adM s H1 ρ1 μ1 → Inv ρ1 μ1 → W p l e room_1 s m #[Value.ref b] below meth c H1 [] (84 + 4 * (k + 1)) (18955 + 250 * (k + 1)) (lw_Z below #[Value.ref b] s) (F0 m 1151 ls [])) : W p l e room_1 s m #[Value.ref b] below meth c H [] (84 + 4 * k) (18955 + 250 * k) (lw_Z below #[Value.ref b] s) (F0 m 534 ls []) := by
  obtain ⟨hx, hb, hr, hml, hown, hts, hX, hbl, hlocks, hgv⟩ := id C0
  have hbA : ¬ lwA s b := Nat.not_le.mpr hbl
  have ci : ∀ j : Nat, j < 5 → vp_in (nI (5 * k) + nI j) L := fun j hj => by rw [nI_add]; exact vp_in_nI (by omega) (by omega)
  refine lv_aload_n hx hb dL_law_534 rfl (lv_at hl 2 rfl) ?_
  refine lv_aload_n hx hb dL_law_535 rfl (lv_at hl 3 rfl) ?_
  refine lv_iload_n hx hb dL_law_536 rfl (lv_at hl 0 rfl) ?_
  refine lv_iconst (v := (1 : Int32)) hx hb dL_law_537 (by decide) ?_
  refine lv_iadd hx hb dL_law_538 ?_
  refine va_sld hx hb hX hbl hbA hW.2.2.2.2.1 (ci 1 (by decide)) dL_law_539 ?_
  obtain ⟨q, ρ1, μ1, e1, e2, hI⟩ := st_best hI ((xs ((nI (5 * k)) + (1 : Int32)).toNatClampNeg))
  refine lwRw (As := [.int (xs ((nI (5 * k)) + (1 : Int32)).toNatClampNeg)]) (rest := []) ⟨hx, hb, hml, hown, hts⟩ (cR_X9_best l D cs ad tb _ ρ ((xs ((nI (5 * k)) + (1 : Int32)).toNatClampNeg)) _ e1) (lc_9_best hts) ⟨by show _ ≤ 600000; omega, by show _ ≤ 7302250; omega⟩ hKR hZ hW rfl hl.1 rfl (lv_room (Nat.le_of_ble_eq_true rfl)) dL_law_540 (fun H hW => ?_)
  refine W.widen (k := 84 + 4 * (k + 1)) (n := 18955 + 250 * (k + 1)) (by omega) (by omega) ?_
  refine lv_aload_n hx hb dL_law_543 rfl (lv_at hl 1 rfl) ?_
  refine lv_aload_n hx hb dL_law_544 rfl (lv_at hl 3 rfl) ?_
  refine lv_iload_n hx hb dL_law_545 rfl (lv_at hl 0 rfl) ?_
  refine lv_iconst (v := (1 : Int32)) hx hb dL_law_546 (by decide) ?_
  refine lv_iadd hx hb dL_law_547 ?_
  refine va_sld hx hb hX hbl hbA hW.2.2.2.2.1 (ci 1 (by decide)) dL_law_548 ?_
  refine lwMw (As := [.int (xs ((nI (5 * k)) + (1 : Int32)).toNatClampNeg)]) (rest := [.int q]) ⟨hx, hb, hml, hown, hts⟩ (cM_best l D (cs 0) cZ hM adM _ μ ((xs ((nI (5 * k)) + (1 : Int32)).toNatClampNeg)) _ e2) (lc_10_best hts) ⟨by show _ ≤ 600000; omega, by show _ ≤ 7302250; omega⟩ hKM hW rfl hl.1 rfl (lv_room (Nat.le_of_ble_eq_true rfl)) dL_law_549 (fun H hW => ?_)
  refine lv_icmp_eq (tgt := 1151) hx hb dL_law_552 (by decide) (fun _ => ?_) (fun c9 => absurd rfl c9)
  exact kk H ρ1 μ1 hW hI
set_option maxHeartbeats 4000000 in
set_option maxRecDepth 100000 in
theorem la_laid {p : Program} {e : Env} {s : State} {m : MethodId} {below : List Frame} {meth : Method} {c : Code} (l : Launch) {b L : Nat} {xs : Nat → Int32} (hL : L ≤ 2560) (C0 : lw_At p s m meth c b L xs) (D : va_G) (cs : Nat → ClassId) (ad tb : Nat → Nat) (cZ : ClassId) (hM : Nat) (adM : Nat → Nat) (hKR : va_K D vwCl (tyR cs) s) (hKM : va_K D vwCl (tyM (cs 0) cZ) s) (hZ : stR tb (lwR s (cs 0) cZ hM adM) s s.heap) (k : Nat) (hk : 5 * k + 5 ≤ L) {H : Heap} {ρ : RS} {μ : MS} (hW : lwW D cs ad cZ hM adM s H ρ μ) (hI : Inv ρ μ) {ls : Array Slot} (hl : lv_has ls 4 [(3, .int (nI (5 * k))), (2, .ref hM), (1, .ref (ad 1009)), (0, .ref b)]) (kk : ∀ (H1 : Heap) (ρ1 : RS) (μ1 : MS), lwW D cs ad cZ hM adM s H1 ρ1 μ1 → Inv ρ1 μ1 → W p l e room_1 s m #[Value.ref b] below meth c H1 [] (84 + 4 * (k + 1)) (18955 + 250 * (k + 1)) (lw_Z below #[Value.ref b] s) (F0 m 1151 ls [])) : W p l e room_1 s m #[Value.ref b] below meth c H [] (84 + 4 * k) (18955 + 250 * k) (lw_Z below #[Value.ref b] s) (F0 m 557 ls []) := by
  obtain ⟨hx, hb, hr, hml, hown, hts, hX, hbl, hlocks, hgv⟩ := id C0
  have hbA : ¬ lwA s b := Nat.not_le.mpr hbl
  have ci : ∀ j : Nat, j < 5 → vp_in (nI (5 * k) + nI j) L := fun j hj => by rw [nI_add]; exact vp_in_nI (by omega) (by omega)
  refine lv_aload_n hx hb dL_law_557 rfl (lv_at hl 2 rfl) ?_
  refine lv_aload_n hx hb dL_law_558 rfl (lv_at hl 3 rfl) ?_
  refine lv_iload_n hx hb dL_law_559 rfl (lv_at hl 0 rfl) ?_
  refine lv_iconst (v := (1 : Int32)) hx hb dL_law_560 (by decide) ?_
  refine lv_iadd hx hb dL_law_561 ?_
  refine va_sld hx hb hX hbl hbA hW.2.2.2.2.1 (ci 1 (by decide)) dL_law_562 ?_
  obtain ⟨q, e1, e2⟩ := st_laid hI ((xs ((nI (5 * k)) + (1 : Int32)).toNatClampNeg))
  refine lwRr (As := [.int (xs ((nI (5 * k)) + (1 : Int32)).toNatClampNeg)]) (rest := []) ⟨hx, hb, hml, hown, hts⟩ (cR_X9_laid l D cs ad tb _ ρ ((xs ((nI (5 * k)) + (1 : Int32)).toNatClampNeg)) _ e1) (lc_9_laid hts) ⟨by show _ ≤ 600000; omega, by show _ ≤ 7302250; omega⟩ hKR hZ hW rfl hl.1 rfl (lv_room (Nat.le_of_ble_eq_true rfl)) dL_law_563 (fun H hW => ?_)
  refine W.widen (k := 84 + 4 * (k + 1)) (n := 18955 + 250 * (k + 1)) (by omega) (by omega) ?_
  refine lv_aload_n hx hb dL_law_566 rfl (lv_at hl 1 rfl) ?_
  refine lv_aload_n hx hb dL_law_567 rfl (lv_at hl 3 rfl) ?_
  refine lv_iload_n hx hb dL_law_568 rfl (lv_at hl 0 rfl) ?_
  refine lv_iconst (v := (1 : Int32)) hx hb dL_law_569 (by decide) ?_
  refine lv_iadd hx hb dL_law_570 ?_
  refine va_sld hx hb hX hbl hbA hW.2.2.2.2.1 (ci 1 (by decide)) dL_law_571 ?_
  refine lwMr (As := [.int (xs ((nI (5 * k)) + (1 : Int32)).toNatClampNeg)]) (rest := [.int q]) ⟨hx, hb, hml, hown, hts⟩ (cM_laid l D (cs 0) cZ hM adM μ ((xs ((nI (5 * k)) + (1 : Int32)).toNatClampNeg)) _ e2) (lc_10_laid hts) ⟨by show _ ≤ 600000; omega, by show _ ≤ 7302250; omega⟩ hKM hW rfl hl.1 rfl (lv_room (Nat.le_of_ble_eq_true rfl)) dL_law_572 (fun H hW => ?_)
  refine lv_icmp_eq (tgt := 1151) hx hb dL_law_575 (by decide) (fun _ => ?_) (fun c9 => absurd rfl c9)
  exact kk H ρ μ hW hI
set_option maxHeartbeats 4000000 in
set_option maxRecDepth 100000 in
theorem la_sew {p : Program} {e : Env} {s : State} {m : MethodId} {below : List Frame} {meth : Method} {c : Code} (l : Launch) {b L : Nat} {xs : Nat → Int32} (hL : L ≤ 2560) (C0 : lw_At p s m meth c b L xs) (D : va_G) (cs : Nat → ClassId) (ad tb : Nat → Nat) (cZ : ClassId) (hM : Nat) (adM : Nat → Nat) (hKR : va_K D vwCl (tyR cs) s) (hKM : va_K D vwCl (tyM (cs 0) cZ) s) (hZ : stR tb (lwR s (cs 0) cZ hM adM) s s.heap) (k : Nat) (hk : 5 * k + 5 ≤ L) {H : Heap} {ρ : RS} {μ : MS} (hW : lwW D cs ad cZ hM adM s H ρ μ) (hI : Inv ρ μ) {ls : Array Slot} (hl : lv_has ls 4 [(3, .int (nI (5 * k))), (2, .ref hM), (1, .ref (ad 1009)), (0, .ref b)]) (kk : ∀ (H1 : Heap) (ρ1 : RS) (μ1 : MS), lwW D cs ad cZ hM adM s H1 ρ1 μ1 → Inv ρ1 μ1 → W p l e room_1 s m #[Value.ref b] below meth c H1 [] (84 + 4 * (k + 1)) (18955 + 250 * (k + 1)) (lw_Z below #[Value.ref b] s) (F0 m 1151 ls [])) : W p l e room_1 s m #[Value.ref b] below meth c H [] (84 + 4 * k) (18955 + 250 * k) (lw_Z below #[Value.ref b] s) (F0 m 580 ls []) := by
  obtain ⟨hx, hb, hr, hml, hown, hts, hX, hbl, hlocks, hgv⟩ := id C0
  have hbA : ¬ lwA s b := Nat.not_le.mpr hbl
  have ci : ∀ j : Nat, j < 5 → vp_in (nI (5 * k) + nI j) L := fun j hj => by rw [nI_add]; exact vp_in_nI (by omega) (by omega)
  refine lv_aload_n hx hb dL_law_580 rfl (lv_at hl 2 rfl) ?_
  refine lv_aload_n hx hb dL_law_581 rfl (lv_at hl 3 rfl) ?_
  refine lv_iload_n hx hb dL_law_582 rfl (lv_at hl 0 rfl) ?_
  refine lv_iconst (v := (1 : Int32)) hx hb dL_law_583 (by decide) ?_
  refine lv_iadd hx hb dL_law_584 ?_
  refine va_sld hx hb hX hbl hbA hW.2.2.2.2.1 (ci 1 (by decide)) dL_law_585 ?_
  refine lv_aload_n hx hb dL_law_586 rfl (lv_at hl 3 rfl) ?_
  refine lv_iload_n hx hb dL_law_587 rfl (lv_at hl 0 rfl) ?_
  refine lv_iconst (v := (2 : Int32)) hx hb dL_law_588 (by decide) ?_
  refine lv_iadd hx hb dL_law_589 ?_
  refine va_sld hx hb hX hbl hbA hW.2.2.2.2.1 (ci 2 (by decide)) dL_law_590 ?_
  refine lv_aload_n hx hb dL_law_591 rfl (lv_at hl 3 rfl) ?_
  refine lv_iload_n hx hb dL_law_592 rfl (lv_at hl 0 rfl) ?_
  refine lv_iconst (v := (3 : Int32)) hx hb dL_law_593 (by decide) ?_
  refine lv_iadd hx hb dL_law_594 ?_
  refine va_sld hx hb hX hbl hbA hW.2.2.2.2.1 (ci 3 (by decide)) dL_law_595 ?_
  obtain ⟨q, ρ1, μ1, e1, e2, hI⟩ := st_sew hI hW.low ((xs ((nI (5 * k)) + (1 : Int32)).toNatClampNeg)) ((xs ((nI (5 * k)) + (2 : Int32)).toNatClampNeg)) ((xs ((nI (5 * k)) + (3 : Int32)).toNatClampNeg))
  refine lwRn (As := [.int (xs ((nI (5 * k)) + (1 : Int32)).toNatClampNeg), .int (xs ((nI (5 * k)) + (2 : Int32)).toNatClampNeg), .int (xs ((nI (5 * k)) + (3 : Int32)).toNatClampNeg)]) (rest := []) ⟨hx, hb, hml, hown, hts⟩ (cR_X9_sew l D cs ad tb _ H.size hW.new ρ ((xs ((nI (5 * k)) + (1 : Int32)).toNatClampNeg)) ((xs ((nI (5 * k)) + (2 : Int32)).toNatClampNeg)) ((xs ((nI (5 * k)) + (3 : Int32)).toNatClampNeg)) _ e1) (lc_9_sew hts) ⟨by show _ ≤ 600000; omega, by show _ ≤ 7302250; omega⟩ hKR hZ hW rfl hl.1 rfl (lv_room (Nat.le_of_ble_eq_true rfl)) dL_law_596 (fun H hW => ?_)
  refine W.widen (k := 84 + 4 * (k + 1)) (n := 18955 + 250 * (k + 1)) (by omega) (by omega) ?_
  refine lv_aload_n hx hb dL_law_599 rfl (lv_at hl 1 rfl) ?_
  refine lv_aload_n hx hb dL_law_600 rfl (lv_at hl 3 rfl) ?_
  refine lv_iload_n hx hb dL_law_601 rfl (lv_at hl 0 rfl) ?_
  refine lv_iconst (v := (1 : Int32)) hx hb dL_law_602 (by decide) ?_
  refine lv_iadd hx hb dL_law_603 ?_
  refine va_sld hx hb hX hbl hbA hW.2.2.2.2.1 (ci 1 (by decide)) dL_law_604 ?_
  refine lv_aload_n hx hb dL_law_605 rfl (lv_at hl 3 rfl) ?_
  refine lv_iload_n hx hb dL_law_606 rfl (lv_at hl 0 rfl) ?_
  refine lv_iconst (v := (2 : Int32)) hx hb dL_law_607 (by decide) ?_
  refine lv_iadd hx hb dL_law_608 ?_
  refine va_sld hx hb hX hbl hbA hW.2.2.2.2.1 (ci 2 (by decide)) dL_law_609 ?_
  refine lv_aload_n hx hb dL_law_610 rfl (lv_at hl 3 rfl) ?_
  refine lv_iload_n hx hb dL_law_611 rfl (lv_at hl 0 rfl) ?_
  refine lv_iconst (v := (3 : Int32)) hx hb dL_law_612 (by decide) ?_
  refine lv_iadd hx hb dL_law_613 ?_
  refine va_sld hx hb hX hbl hbA hW.2.2.2.2.1 (ci 3 (by decide)) dL_law_614 ?_
  refine lwMw (As := [.int (xs ((nI (5 * k)) + (1 : Int32)).toNatClampNeg), .int (xs ((nI (5 * k)) + (2 : Int32)).toNatClampNeg), .int (xs ((nI (5 * k)) + (3 : Int32)).toNatClampNeg)]) (rest := [.int q]) ⟨hx, hb, hml, hown, hts⟩ (cM_sew l D (cs 0) cZ hM adM _ μ ((xs ((nI (5 * k)) + (1 : Int32)).toNatClampNeg)) ((xs ((nI (5 * k)) + (2 : Int32)).toNatClampNeg)) ((xs ((nI (5 * k)) + (3 : Int32)).toNatClampNeg)) _ e2) (lc_10_sew hts) ⟨by show _ ≤ 600000; omega, by show _ ≤ 7302250; omega⟩ hKM hW rfl hl.1 rfl (lv_room (Nat.le_of_ble_eq_true rfl)) dL_law_615 (fun H hW => ?_)
  refine lv_icmp_eq (tgt := 1151) hx hb dL_law_618 (by decide) (fun _ => ?_) (fun c9 => absurd rfl c9)
  exact kk H ρ1 μ1 hW hI
set_option maxHeartbeats 4000000 in
set_option maxRecDepth 100000 in
theorem la_robe {p : Program} {e : Env} {s : State} {m : MethodId} {below : List Frame} {meth : Method} {c : Code} (l : Launch) {b L : Nat} {xs : Nat → Int32} (hL : L ≤ 2560) (C0 : lw_At p s m meth c b L xs) (D : va_G) (cs : Nat → ClassId) (ad tb : Nat → Nat) (cZ : ClassId) (hM : Nat) (adM : Nat → Nat) (hKR : va_K D vwCl (tyR cs) s) (hKM : va_K D vwCl (tyM (cs 0) cZ) s) (hZ : stR tb (lwR s (cs 0) cZ hM adM) s s.heap) (k : Nat) (hk : 5 * k + 5 ≤ L) {H : Heap} {ρ : RS} {μ : MS} (hW : lwW D cs ad cZ hM adM s H ρ μ) (hI : Inv ρ μ) {ls : Array Slot} (hl : lv_has ls 4 [(3, .int (nI (5 * k))), (2, .ref hM), (1, .ref (ad 1009)), (0, .ref b)]) (kk : ∀ (H1 : Heap) (ρ1 : RS) (μ1 : MS), lwW D cs ad cZ hM adM s H1 ρ1 μ1 → Inv ρ1 μ1 → W p l e room_1 s m #[Value.ref b] below meth c H1 [] (84 + 4 * (k + 1)) (18955 + 250 * (k + 1)) (lw_Z below #[Value.ref b] s) (F0 m 1151 ls [])) : W p l e room_1 s m #[Value.ref b] below meth c H [] (84 + 4 * k) (18955 + 250 * k) (lw_Z below #[Value.ref b] s) (F0 m 623 ls []) := by
  obtain ⟨hx, hb, hr, hml, hown, hts, hX, hbl, hlocks, hgv⟩ := id C0
  have hbA : ¬ lwA s b := Nat.not_le.mpr hbl
  have ci : ∀ j : Nat, j < 5 → vp_in (nI (5 * k) + nI j) L := fun j hj => by rw [nI_add]; exact vp_in_nI (by omega) (by omega)
  refine lv_aload_n hx hb dL_law_623 rfl (lv_at hl 2 rfl) ?_
  refine lv_aload_n hx hb dL_law_624 rfl (lv_at hl 3 rfl) ?_
  refine lv_iload_n hx hb dL_law_625 rfl (lv_at hl 0 rfl) ?_
  refine lv_iconst (v := (1 : Int32)) hx hb dL_law_626 (by decide) ?_
  refine lv_iadd hx hb dL_law_627 ?_
  refine va_sld hx hb hX hbl hbA hW.2.2.2.2.1 (ci 1 (by decide)) dL_law_628 ?_
  refine lv_aload_n hx hb dL_law_629 rfl (lv_at hl 3 rfl) ?_
  refine lv_iload_n hx hb dL_law_630 rfl (lv_at hl 0 rfl) ?_
  refine lv_iconst (v := (2 : Int32)) hx hb dL_law_631 (by decide) ?_
  refine lv_iadd hx hb dL_law_632 ?_
  refine va_sld hx hb hX hbl hbA hW.2.2.2.2.1 (ci 2 (by decide)) dL_law_633 ?_
  obtain ⟨q, ρ1, μ1, e1, e2, hI⟩ := st_robe hI ((xs ((nI (5 * k)) + (1 : Int32)).toNatClampNeg)) ((xs ((nI (5 * k)) + (2 : Int32)).toNatClampNeg))
  refine lwRw (As := [.int (xs ((nI (5 * k)) + (1 : Int32)).toNatClampNeg), .int (xs ((nI (5 * k)) + (2 : Int32)).toNatClampNeg)]) (rest := []) ⟨hx, hb, hml, hown, hts⟩ (cR_X9_robe l D cs ad tb _ ρ ((xs ((nI (5 * k)) + (1 : Int32)).toNatClampNeg)) ((xs ((nI (5 * k)) + (2 : Int32)).toNatClampNeg)) _ e1) (lc_9_robe hts) ⟨by show _ ≤ 600000; omega, by show _ ≤ 7302250; omega⟩ hKR hZ hW rfl hl.1 rfl (lv_room (Nat.le_of_ble_eq_true rfl)) dL_law_634 (fun H hW => ?_)
  refine W.widen (k := 84 + 4 * (k + 1)) (n := 18955 + 250 * (k + 1)) (by omega) (by omega) ?_
  refine lv_aload_n hx hb dL_law_637 rfl (lv_at hl 1 rfl) ?_
  refine lv_aload_n hx hb dL_law_638 rfl (lv_at hl 3 rfl) ?_
  refine lv_iload_n hx hb dL_law_639 rfl (lv_at hl 0 rfl) ?_
  refine lv_iconst (v := (1 : Int32)) hx hb dL_law_640 (by decide) ?_
  refine lv_iadd hx hb dL_law_641 ?_
  refine va_sld hx hb hX hbl hbA hW.2.2.2.2.1 (ci 1 (by decide)) dL_law_642 ?_
  refine lv_aload_n hx hb dL_law_643 rfl (lv_at hl 3 rfl) ?_
  refine lv_iload_n hx hb dL_law_644 rfl (lv_at hl 0 rfl) ?_
  refine lv_iconst (v := (2 : Int32)) hx hb dL_law_645 (by decide) ?_
  refine lv_iadd hx hb dL_law_646 ?_
  refine va_sld hx hb hX hbl hbA hW.2.2.2.2.1 (ci 2 (by decide)) dL_law_647 ?_
  refine lwMw (As := [.int (xs ((nI (5 * k)) + (1 : Int32)).toNatClampNeg), .int (xs ((nI (5 * k)) + (2 : Int32)).toNatClampNeg)]) (rest := [.int q]) ⟨hx, hb, hml, hown, hts⟩ (cM_robe l D (cs 0) cZ hM adM _ μ ((xs ((nI (5 * k)) + (1 : Int32)).toNatClampNeg)) ((xs ((nI (5 * k)) + (2 : Int32)).toNatClampNeg)) _ e2) (lc_10_robe hts) ⟨by show _ ≤ 600000; omega, by show _ ≤ 7302250; omega⟩ hKM hW rfl hl.1 rfl (lv_room (Nat.le_of_ble_eq_true rfl)) dL_law_648 (fun H hW => ?_)
  refine lv_icmp_eq (tgt := 1151) hx hb dL_law_651 (by decide) (fun _ => ?_) (fun c9 => absurd rfl c9)
  exact kk H ρ1 μ1 hW hI
set_option maxHeartbeats 4000000 in
set_option maxRecDepth 100000 in
theorem la_piece {p : Program} {e : Env} {s : State} {m : MethodId} {below : List Frame} {meth : Method} {c : Code} (l : Launch) {b L : Nat} {xs : Nat → Int32} (hL : L ≤ 2560) (C0 : lw_At p s m meth c b L xs) (D : va_G) (cs : Nat → ClassId) (ad tb : Nat → Nat) (cZ : ClassId) (hM : Nat) (adM : Nat → Nat) (hKR : va_K D vwCl (tyR cs) s) (hKM : va_K D vwCl (tyM (cs 0) cZ) s) (hZ : stR tb (lwR s (cs 0) cZ hM adM) s s.heap) (k : Nat) (hk : 5 * k + 5 ≤ L) {H : Heap} {ρ : RS} {μ : MS} (hW : lwW D cs ad cZ hM adM s H ρ μ) (hI : Inv ρ μ) {ls : Array Slot} (hl : lv_has ls 4 [(3, .int (nI (5 * k))), (2, .ref hM), (1, .ref (ad 1009)), (0, .ref b)]) (kk : ∀ (H1 : Heap) (ρ1 : RS) (μ1 : MS), lwW D cs ad cZ hM adM s H1 ρ1 μ1 → Inv ρ1 μ1 → W p l e room_1 s m #[Value.ref b] below meth c H1 [] (84 + 4 * (k + 1)) (18955 + 250 * (k + 1)) (lw_Z below #[Value.ref b] s) (F0 m 1151 ls [])) : W p l e room_1 s m #[Value.ref b] below meth c H [] (84 + 4 * k) (18955 + 250 * k) (lw_Z below #[Value.ref b] s) (F0 m 656 ls []) := by
  obtain ⟨hx, hb, hr, hml, hown, hts, hX, hbl, hlocks, hgv⟩ := id C0
  have hbA : ¬ lwA s b := Nat.not_le.mpr hbl
  have ci : ∀ j : Nat, j < 5 → vp_in (nI (5 * k) + nI j) L := fun j hj => by rw [nI_add]; exact vp_in_nI (by omega) (by omega)
  refine lv_aload_n hx hb dL_law_656 rfl (lv_at hl 2 rfl) ?_
  refine lv_aload_n hx hb dL_law_657 rfl (lv_at hl 3 rfl) ?_
  refine lv_iload_n hx hb dL_law_658 rfl (lv_at hl 0 rfl) ?_
  refine lv_iconst (v := (1 : Int32)) hx hb dL_law_659 (by decide) ?_
  refine lv_iadd hx hb dL_law_660 ?_
  refine va_sld hx hb hX hbl hbA hW.2.2.2.2.1 (ci 1 (by decide)) dL_law_661 ?_
  refine lv_aload_n hx hb dL_law_662 rfl (lv_at hl 3 rfl) ?_
  refine lv_iload_n hx hb dL_law_663 rfl (lv_at hl 0 rfl) ?_
  refine lv_iconst (v := (2 : Int32)) hx hb dL_law_664 (by decide) ?_
  refine lv_iadd hx hb dL_law_665 ?_
  refine va_sld hx hb hX hbl hbA hW.2.2.2.2.1 (ci 2 (by decide)) dL_law_666 ?_
  refine lv_aload_n hx hb dL_law_667 rfl (lv_at hl 3 rfl) ?_
  refine lv_iload_n hx hb dL_law_668 rfl (lv_at hl 0 rfl) ?_
  refine lv_iconst (v := (3 : Int32)) hx hb dL_law_669 (by decide) ?_
  refine lv_iadd hx hb dL_law_670 ?_
  refine va_sld hx hb hX hbl hbA hW.2.2.2.2.1 (ci 3 (by decide)) dL_law_671 ?_
  refine lv_aload_n hx hb dL_law_672 rfl (lv_at hl 3 rfl) ?_
  refine lv_iload_n hx hb dL_law_673 rfl (lv_at hl 0 rfl) ?_
  refine lv_iconst (v := (4 : Int32)) hx hb dL_law_674 (by decide) ?_
  refine lv_iadd hx hb dL_law_675 ?_
  refine va_sld hx hb hX hbl hbA hW.2.2.2.2.1 (ci 4 (by decide)) dL_law_676 ?_
  obtain ⟨q, μ1, e1, e2, hI⟩ := st_piece hI ((xs ((nI (5 * k)) + (1 : Int32)).toNatClampNeg)) ((xs ((nI (5 * k)) + (2 : Int32)).toNatClampNeg)) ((xs ((nI (5 * k)) + (3 : Int32)).toNatClampNeg)) ((xs ((nI (5 * k)) + (4 : Int32)).toNatClampNeg))
  refine lwRr (As := [.int (xs ((nI (5 * k)) + (1 : Int32)).toNatClampNeg), .int (xs ((nI (5 * k)) + (2 : Int32)).toNatClampNeg), .int (xs ((nI (5 * k)) + (3 : Int32)).toNatClampNeg), .int (xs ((nI (5 * k)) + (4 : Int32)).toNatClampNeg)]) (rest := []) ⟨hx, hb, hml, hown, hts⟩ (cR_X9_piece l D cs ad tb _ ρ ((xs ((nI (5 * k)) + (1 : Int32)).toNatClampNeg)) ((xs ((nI (5 * k)) + (2 : Int32)).toNatClampNeg)) ((xs ((nI (5 * k)) + (3 : Int32)).toNatClampNeg)) ((xs ((nI (5 * k)) + (4 : Int32)).toNatClampNeg)) _ e1) (lc_9_piece hts) ⟨by show _ ≤ 600000; omega, by show _ ≤ 7302250; omega⟩ hKR hZ hW rfl hl.1 rfl (lv_room (Nat.le_of_ble_eq_true rfl)) dL_law_677 (fun H hW => ?_)
  refine W.widen (k := 84 + 4 * (k + 1)) (n := 18955 + 250 * (k + 1)) (by omega) (by omega) ?_
  refine lv_aload_n hx hb dL_law_680 rfl (lv_at hl 1 rfl) ?_
  refine lv_aload_n hx hb dL_law_681 rfl (lv_at hl 3 rfl) ?_
  refine lv_iload_n hx hb dL_law_682 rfl (lv_at hl 0 rfl) ?_
  refine lv_iconst (v := (1 : Int32)) hx hb dL_law_683 (by decide) ?_
  refine lv_iadd hx hb dL_law_684 ?_
  refine va_sld hx hb hX hbl hbA hW.2.2.2.2.1 (ci 1 (by decide)) dL_law_685 ?_
  refine lv_aload_n hx hb dL_law_686 rfl (lv_at hl 3 rfl) ?_
  refine lv_iload_n hx hb dL_law_687 rfl (lv_at hl 0 rfl) ?_
  refine lv_iconst (v := (2 : Int32)) hx hb dL_law_688 (by decide) ?_
  refine lv_iadd hx hb dL_law_689 ?_
  refine va_sld hx hb hX hbl hbA hW.2.2.2.2.1 (ci 2 (by decide)) dL_law_690 ?_
  refine lv_aload_n hx hb dL_law_691 rfl (lv_at hl 3 rfl) ?_
  refine lv_iload_n hx hb dL_law_692 rfl (lv_at hl 0 rfl) ?_
  refine lv_iconst (v := (3 : Int32)) hx hb dL_law_693 (by decide) ?_
  refine lv_iadd hx hb dL_law_694 ?_
  refine va_sld hx hb hX hbl hbA hW.2.2.2.2.1 (ci 3 (by decide)) dL_law_695 ?_
  refine lv_aload_n hx hb dL_law_696 rfl (lv_at hl 3 rfl) ?_
  refine lv_iload_n hx hb dL_law_697 rfl (lv_at hl 0 rfl) ?_
  refine lv_iconst (v := (4 : Int32)) hx hb dL_law_698 (by decide) ?_
  refine lv_iadd hx hb dL_law_699 ?_
  refine va_sld hx hb hX hbl hbA hW.2.2.2.2.1 (ci 4 (by decide)) dL_law_700 ?_
  refine lwMw (As := [.int (xs ((nI (5 * k)) + (1 : Int32)).toNatClampNeg), .int (xs ((nI (5 * k)) + (2 : Int32)).toNatClampNeg), .int (xs ((nI (5 * k)) + (3 : Int32)).toNatClampNeg), .int (xs ((nI (5 * k)) + (4 : Int32)).toNatClampNeg)]) (rest := [.int q]) ⟨hx, hb, hml, hown, hts⟩ (cM_piece l D (cs 0) cZ hM adM _ μ ((xs ((nI (5 * k)) + (1 : Int32)).toNatClampNeg)) ((xs ((nI (5 * k)) + (2 : Int32)).toNatClampNeg)) ((xs ((nI (5 * k)) + (3 : Int32)).toNatClampNeg)) ((xs ((nI (5 * k)) + (4 : Int32)).toNatClampNeg)) _ e2) (lc_10_piece hts) ⟨by show _ ≤ 600000; omega, by show _ ≤ 7302250; omega⟩ hKM hW rfl hl.1 rfl (lv_room (Nat.le_of_ble_eq_true rfl)) dL_law_701 (fun H hW => ?_)
  refine lv_icmp_eq (tgt := 1151) hx hb dL_law_704 (by decide) (fun _ => ?_) (fun c9 => absurd rfl c9)
  exact kk H ρ μ1 hW hI
set_option maxHeartbeats 4000000 in
set_option maxRecDepth 100000 in
theorem la_miss {p : Program} {e : Env} {s : State} {m : MethodId} {below : List Frame} {meth : Method} {c : Code} (l : Launch) {b L : Nat} {xs : Nat → Int32} (hL : L ≤ 2560) (C0 : lw_At p s m meth c b L xs) (D : va_G) (cs : Nat → ClassId) (ad tb : Nat → Nat) (cZ : ClassId) (hM : Nat) (adM : Nat → Nat) (hKR : va_K D vwCl (tyR cs) s) (hKM : va_K D vwCl (tyM (cs 0) cZ) s) (hZ : stR tb (lwR s (cs 0) cZ hM adM) s s.heap) (k : Nat) (hk : 5 * k + 5 ≤ L) {H : Heap} {ρ : RS} {μ : MS} (hW : lwW D cs ad cZ hM adM s H ρ μ) (hI : Inv ρ μ) {ls : Array Slot} (hl : lv_has ls 4 [(3, .int (nI (5 * k))), (2, .ref hM), (1, .ref (ad 1009)), (0, .ref b)]) (kk : ∀ (H1 : Heap) (ρ1 : RS) (μ1 : MS), lwW D cs ad cZ hM adM s H1 ρ1 μ1 → Inv ρ1 μ1 → W p l e room_1 s m #[Value.ref b] below meth c H1 [] (84 + 4 * (k + 1)) (18955 + 250 * (k + 1)) (lw_Z below #[Value.ref b] s) (F0 m 1151 ls [])) : W p l e room_1 s m #[Value.ref b] below meth c H [] (84 + 4 * k) (18955 + 250 * k) (lw_Z below #[Value.ref b] s) (F0 m 709 ls []) := by
  obtain ⟨hx, hb, hr, hml, hown, hts, hX, hbl, hlocks, hgv⟩ := id C0
  have hbA : ¬ lwA s b := Nat.not_le.mpr hbl
  have ci : ∀ j : Nat, j < 5 → vp_in (nI (5 * k) + nI j) L := fun j hj => by rw [nI_add]; exact vp_in_nI (by omega) (by omega)
  refine lv_aload_n hx hb dL_law_709 rfl (lv_at hl 2 rfl) ?_
  refine lv_aload_n hx hb dL_law_710 rfl (lv_at hl 3 rfl) ?_
  refine lv_iload_n hx hb dL_law_711 rfl (lv_at hl 0 rfl) ?_
  refine lv_iconst (v := (1 : Int32)) hx hb dL_law_712 (by decide) ?_
  refine lv_iadd hx hb dL_law_713 ?_
  refine va_sld hx hb hX hbl hbA hW.2.2.2.2.1 (ci 1 (by decide)) dL_law_714 ?_
  refine lv_aload_n hx hb dL_law_715 rfl (lv_at hl 3 rfl) ?_
  refine lv_iload_n hx hb dL_law_716 rfl (lv_at hl 0 rfl) ?_
  refine lv_iconst (v := (2 : Int32)) hx hb dL_law_717 (by decide) ?_
  refine lv_iadd hx hb dL_law_718 ?_
  refine va_sld hx hb hX hbl hbA hW.2.2.2.2.1 (ci 2 (by decide)) dL_law_719 ?_
  obtain ⟨q, ρ1, μ1, e1, e2, hI⟩ := st_miss hI ((xs ((nI (5 * k)) + (1 : Int32)).toNatClampNeg)) ((xs ((nI (5 * k)) + (2 : Int32)).toNatClampNeg))
  refine lwRw (As := [.int (xs ((nI (5 * k)) + (1 : Int32)).toNatClampNeg), .int (xs ((nI (5 * k)) + (2 : Int32)).toNatClampNeg)]) (rest := []) ⟨hx, hb, hml, hown, hts⟩ (cR_X9_miss l D cs ad tb _ ρ ((xs ((nI (5 * k)) + (1 : Int32)).toNatClampNeg)) ((xs ((nI (5 * k)) + (2 : Int32)).toNatClampNeg)) _ e1) (lc_9_miss hts) ⟨by show _ ≤ 600000; omega, by show _ ≤ 7302250; omega⟩ hKR hZ hW rfl hl.1 rfl (lv_room (Nat.le_of_ble_eq_true rfl)) dL_law_720 (fun H hW => ?_)
  refine W.widen (k := 84 + 4 * (k + 1)) (n := 18955 + 250 * (k + 1)) (by omega) (by omega) ?_
  refine lv_aload_n hx hb dL_law_723 rfl (lv_at hl 1 rfl) ?_
  refine lv_aload_n hx hb dL_law_724 rfl (lv_at hl 3 rfl) ?_
  refine lv_iload_n hx hb dL_law_725 rfl (lv_at hl 0 rfl) ?_
  refine lv_iconst (v := (1 : Int32)) hx hb dL_law_726 (by decide) ?_
  refine lv_iadd hx hb dL_law_727 ?_
  refine va_sld hx hb hX hbl hbA hW.2.2.2.2.1 (ci 1 (by decide)) dL_law_728 ?_
  refine lv_aload_n hx hb dL_law_729 rfl (lv_at hl 3 rfl) ?_
  refine lv_iload_n hx hb dL_law_730 rfl (lv_at hl 0 rfl) ?_
  refine lv_iconst (v := (2 : Int32)) hx hb dL_law_731 (by decide) ?_
  refine lv_iadd hx hb dL_law_732 ?_
  refine va_sld hx hb hX hbl hbA hW.2.2.2.2.1 (ci 2 (by decide)) dL_law_733 ?_
  refine lwMw (As := [.int (xs ((nI (5 * k)) + (1 : Int32)).toNatClampNeg), .int (xs ((nI (5 * k)) + (2 : Int32)).toNatClampNeg)]) (rest := [.int q]) ⟨hx, hb, hml, hown, hts⟩ (cM_miss l D (cs 0) cZ hM adM _ μ ((xs ((nI (5 * k)) + (1 : Int32)).toNatClampNeg)) ((xs ((nI (5 * k)) + (2 : Int32)).toNatClampNeg)) _ e2) (lc_10_miss hts) ⟨by show _ ≤ 600000; omega, by show _ ≤ 7302250; omega⟩ hKM hW rfl hl.1 rfl (lv_room (Nat.le_of_ble_eq_true rfl)) dL_law_734 (fun H hW => ?_)
  refine lv_icmp_eq (tgt := 1151) hx hb dL_law_737 (by decide) (fun _ => ?_) (fun c9 => absurd rfl c9)
  exact kk H ρ1 μ1 hW hI
set_option maxHeartbeats 4000000 in
set_option maxRecDepth 100000 in
theorem la_wear {p : Program} {e : Env} {s : State} {m : MethodId} {below : List Frame} {meth : Method} {c : Code} (l : Launch) {b L : Nat} {xs : Nat → Int32} (hL : L ≤ 2560) (C0 : lw_At p s m meth c b L xs) (D : va_G) (cs : Nat → ClassId) (ad tb : Nat → Nat) (cZ : ClassId) (hM : Nat) (adM : Nat → Nat) (hKR : va_K D vwCl (tyR cs) s) (hKM : va_K D vwCl (tyM (cs 0) cZ) s) (hZ : stR tb (lwR s (cs 0) cZ hM adM) s s.heap) (k : Nat) (hk : 5 * k + 5 ≤ L) {H : Heap} {ρ : RS} {μ : MS} (hW : lwW D cs ad cZ hM adM s H ρ μ) (hI : Inv ρ μ) {ls : Array Slot} (hl : lv_has ls 4 [(3, .int (nI (5 * k))), (2, .ref hM), (1, .ref (ad 1009)), (0, .ref b)]) (kk : ∀ (H1 : Heap) (ρ1 : RS) (μ1 : MS), lwW D cs ad cZ hM adM s H1 ρ1 μ1 → Inv ρ1 μ1 → W p l e room_1 s m #[Value.ref b] below meth c H1 [] (84 + 4 * (k + 1)) (18955 + 250 * (k + 1)) (lw_Z below #[Value.ref b] s) (F0 m 1151 ls [])) : W p l e room_1 s m #[Value.ref b] below meth c H [] (84 + 4 * k) (18955 + 250 * k) (lw_Z below #[Value.ref b] s) (F0 m 742 ls []) := by
  obtain ⟨hx, hb, hr, hml, hown, hts, hX, hbl, hlocks, hgv⟩ := id C0
  have hbA : ¬ lwA s b := Nat.not_le.mpr hbl
  have ci : ∀ j : Nat, j < 5 → vp_in (nI (5 * k) + nI j) L := fun j hj => by rw [nI_add]; exact vp_in_nI (by omega) (by omega)
  refine lv_aload_n hx hb dL_law_742 rfl (lv_at hl 2 rfl) ?_
  refine lv_aload_n hx hb dL_law_743 rfl (lv_at hl 3 rfl) ?_
  refine lv_iload_n hx hb dL_law_744 rfl (lv_at hl 0 rfl) ?_
  refine lv_iconst (v := (1 : Int32)) hx hb dL_law_745 (by decide) ?_
  refine lv_iadd hx hb dL_law_746 ?_
  refine va_sld hx hb hX hbl hbA hW.2.2.2.2.1 (ci 1 (by decide)) dL_law_747 ?_
  obtain ⟨q, ρ1, μ1, e1, e2, hI⟩ := st_wear hI ((xs ((nI (5 * k)) + (1 : Int32)).toNatClampNeg))
  refine lwRw (As := [.int (xs ((nI (5 * k)) + (1 : Int32)).toNatClampNeg)]) (rest := []) ⟨hx, hb, hml, hown, hts⟩ (cR_X9_wear l D cs ad tb _ ρ ((xs ((nI (5 * k)) + (1 : Int32)).toNatClampNeg)) _ e1) (lc_9_wear hts) ⟨by show _ ≤ 600000; omega, by show _ ≤ 7302250; omega⟩ hKR hZ hW rfl hl.1 rfl (lv_room (Nat.le_of_ble_eq_true rfl)) dL_law_748 (fun H hW => ?_)
  refine W.widen (k := 84 + 4 * (k + 1)) (n := 18955 + 250 * (k + 1)) (by omega) (by omega) ?_
  refine lv_aload_n hx hb dL_law_751 rfl (lv_at hl 1 rfl) ?_
  refine lv_aload_n hx hb dL_law_752 rfl (lv_at hl 3 rfl) ?_
  refine lv_iload_n hx hb dL_law_753 rfl (lv_at hl 0 rfl) ?_
  refine lv_iconst (v := (1 : Int32)) hx hb dL_law_754 (by decide) ?_
  refine lv_iadd hx hb dL_law_755 ?_
  refine va_sld hx hb hX hbl hbA hW.2.2.2.2.1 (ci 1 (by decide)) dL_law_756 ?_
  refine lwMw (As := [.int (xs ((nI (5 * k)) + (1 : Int32)).toNatClampNeg)]) (rest := [.int q]) ⟨hx, hb, hml, hown, hts⟩ (cM_wear l D (cs 0) cZ hM adM _ μ ((xs ((nI (5 * k)) + (1 : Int32)).toNatClampNeg)) _ e2) (lc_10_wear hts) ⟨by show _ ≤ 600000; omega, by show _ ≤ 7302250; omega⟩ hKM hW rfl hl.1 rfl (lv_room (Nat.le_of_ble_eq_true rfl)) dL_law_757 (fun H hW => ?_)
  refine lv_icmp_eq (tgt := 1151) hx hb dL_law_760 (by decide) (fun _ => ?_) (fun c9 => absurd rfl c9)
  exact kk H ρ1 μ1 hW hI
set_option maxHeartbeats 4000000 in
set_option maxRecDepth 100000 in
theorem la_unpick {p : Program} {e : Env} {s : State} {m : MethodId} {below : List Frame} {meth : Method} {c : Code} (l : Launch) {b L : Nat} {xs : Nat → Int32} (hL : L ≤ 2560) (C0 : lw_At p s m meth c b L xs) (D : va_G) (cs : Nat → ClassId) (ad tb : Nat → Nat) (cZ : ClassId) (hM : Nat) (adM : Nat → Nat) (hKR : va_K D vwCl (tyR cs) s) (hKM : va_K D vwCl (tyM (cs 0) cZ) s) (hZ : stR tb (lwR s (cs 0) cZ hM adM) s s.heap) (k : Nat) (hk : 5 * k + 5 ≤ L) {H : Heap} {ρ : RS} {μ : MS} (hW : lwW D cs ad cZ hM adM s H ρ μ) (hI : Inv ρ μ) {ls : Array Slot} (hl : lv_has ls 4 [(3, .int (nI (5 * k))), (2, .ref hM), (1, .ref (ad 1009)), (0, .ref b)]) (kk : ∀ (H1 : Heap) (ρ1 : RS) (μ1 : MS), lwW D cs ad cZ hM adM s H1 ρ1 μ1 → Inv ρ1 μ1 → W p l e room_1 s m #[Value.ref b] below meth c H1 [] (84 + 4 * (k + 1)) (18955 + 250 * (k + 1)) (lw_Z below #[Value.ref b] s) (F0 m 1151 ls [])) : W p l e room_1 s m #[Value.ref b] below meth c H [] (84 + 4 * k) (18955 + 250 * k) (lw_Z below #[Value.ref b] s) (F0 m 765 ls []) := by
  obtain ⟨hx, hb, hr, hml, hown, hts, hX, hbl, hlocks, hgv⟩ := id C0
  have hbA : ¬ lwA s b := Nat.not_le.mpr hbl
  have ci : ∀ j : Nat, j < 5 → vp_in (nI (5 * k) + nI j) L := fun j hj => by rw [nI_add]; exact vp_in_nI (by omega) (by omega)
  refine lv_aload_n hx hb dL_law_765 rfl (lv_at hl 2 rfl) ?_
  refine lv_aload_n hx hb dL_law_766 rfl (lv_at hl 3 rfl) ?_
  refine lv_iload_n hx hb dL_law_767 rfl (lv_at hl 0 rfl) ?_
  refine lv_iconst (v := (1 : Int32)) hx hb dL_law_768 (by decide) ?_
  refine lv_iadd hx hb dL_law_769 ?_
  refine va_sld hx hb hX hbl hbA hW.2.2.2.2.1 (ci 1 (by decide)) dL_law_770 ?_
  refine lv_aload_n hx hb dL_law_771 rfl (lv_at hl 3 rfl) ?_
  refine lv_iload_n hx hb dL_law_772 rfl (lv_at hl 0 rfl) ?_
  refine lv_iconst (v := (2 : Int32)) hx hb dL_law_773 (by decide) ?_
  refine lv_iadd hx hb dL_law_774 ?_
  refine va_sld hx hb hX hbl hbA hW.2.2.2.2.1 (ci 2 (by decide)) dL_law_775 ?_
  refine lv_aload_n hx hb dL_law_776 rfl (lv_at hl 3 rfl) ?_
  refine lv_iload_n hx hb dL_law_777 rfl (lv_at hl 0 rfl) ?_
  refine lv_iconst (v := (3 : Int32)) hx hb dL_law_778 (by decide) ?_
  refine lv_iadd hx hb dL_law_779 ?_
  refine va_sld hx hb hX hbl hbA hW.2.2.2.2.1 (ci 3 (by decide)) dL_law_780 ?_
  obtain ⟨q, ρ1, μ1, e1, e2, hI⟩ := st_unpick hI hW.low ((xs ((nI (5 * k)) + (1 : Int32)).toNatClampNeg)) ((xs ((nI (5 * k)) + (2 : Int32)).toNatClampNeg)) ((xs ((nI (5 * k)) + (3 : Int32)).toNatClampNeg))
  refine lwRn (As := [.int (xs ((nI (5 * k)) + (1 : Int32)).toNatClampNeg), .int (xs ((nI (5 * k)) + (2 : Int32)).toNatClampNeg), .int (xs ((nI (5 * k)) + (3 : Int32)).toNatClampNeg)]) (rest := []) ⟨hx, hb, hml, hown, hts⟩ (cR_X9_unpick l D cs ad tb _ H.size hW.new ρ ((xs ((nI (5 * k)) + (1 : Int32)).toNatClampNeg)) ((xs ((nI (5 * k)) + (2 : Int32)).toNatClampNeg)) ((xs ((nI (5 * k)) + (3 : Int32)).toNatClampNeg)) _ e1) (lc_9_unpick hts) ⟨by show _ ≤ 600000; omega, by show _ ≤ 7302250; omega⟩ hKR hZ hW rfl hl.1 rfl (lv_room (Nat.le_of_ble_eq_true rfl)) dL_law_781 (fun H hW => ?_)
  refine W.widen (k := 84 + 4 * (k + 1)) (n := 18955 + 250 * (k + 1)) (by omega) (by omega) ?_
  refine lv_aload_n hx hb dL_law_784 rfl (lv_at hl 1 rfl) ?_
  refine lv_aload_n hx hb dL_law_785 rfl (lv_at hl 3 rfl) ?_
  refine lv_iload_n hx hb dL_law_786 rfl (lv_at hl 0 rfl) ?_
  refine lv_iconst (v := (1 : Int32)) hx hb dL_law_787 (by decide) ?_
  refine lv_iadd hx hb dL_law_788 ?_
  refine va_sld hx hb hX hbl hbA hW.2.2.2.2.1 (ci 1 (by decide)) dL_law_789 ?_
  refine lv_aload_n hx hb dL_law_790 rfl (lv_at hl 3 rfl) ?_
  refine lv_iload_n hx hb dL_law_791 rfl (lv_at hl 0 rfl) ?_
  refine lv_iconst (v := (2 : Int32)) hx hb dL_law_792 (by decide) ?_
  refine lv_iadd hx hb dL_law_793 ?_
  refine va_sld hx hb hX hbl hbA hW.2.2.2.2.1 (ci 2 (by decide)) dL_law_794 ?_
  refine lv_aload_n hx hb dL_law_795 rfl (lv_at hl 3 rfl) ?_
  refine lv_iload_n hx hb dL_law_796 rfl (lv_at hl 0 rfl) ?_
  refine lv_iconst (v := (3 : Int32)) hx hb dL_law_797 (by decide) ?_
  refine lv_iadd hx hb dL_law_798 ?_
  refine va_sld hx hb hX hbl hbA hW.2.2.2.2.1 (ci 3 (by decide)) dL_law_799 ?_
  refine lwMw (As := [.int (xs ((nI (5 * k)) + (1 : Int32)).toNatClampNeg), .int (xs ((nI (5 * k)) + (2 : Int32)).toNatClampNeg), .int (xs ((nI (5 * k)) + (3 : Int32)).toNatClampNeg)]) (rest := [.int q]) ⟨hx, hb, hml, hown, hts⟩ (cM_unpick l D (cs 0) cZ hM adM _ μ ((xs ((nI (5 * k)) + (1 : Int32)).toNatClampNeg)) ((xs ((nI (5 * k)) + (2 : Int32)).toNatClampNeg)) ((xs ((nI (5 * k)) + (3 : Int32)).toNatClampNeg)) _ e2) (lc_10_unpick hts) ⟨by show _ ≤ 600000; omega, by show _ ≤ 7302250; omega⟩ hKM hW rfl hl.1 rfl (lv_room (Nat.le_of_ble_eq_true rfl)) dL_law_800 (fun H hW => ?_)
  refine lv_icmp_eq (tgt := 1151) hx hb dL_law_803 (by decide) (fun _ => ?_) (fun c9 => absurd rfl c9)
  exact kk H ρ1 μ1 hW hI
set_option maxHeartbeats 4000000 in
set_option maxRecDepth 100000 in
theorem la_line {p : Program} {e : Env} {s : State} {m : MethodId} {below : List Frame} {meth : Method} {c : Code} (l : Launch) {b L : Nat} {xs : Nat → Int32} (hL : L ≤ 2560) (C0 : lw_At p s m meth c b L xs) (D : va_G) (cs : Nat → ClassId) (ad tb : Nat → Nat) (cZ : ClassId) (hM : Nat) (adM : Nat → Nat) (hKR : va_K D vwCl (tyR cs) s) (hKM : va_K D vwCl (tyM (cs 0) cZ) s) (hZ : stR tb (lwR s (cs 0) cZ hM adM) s s.heap) (k : Nat) (hk : 5 * k + 5 ≤ L) {H : Heap} {ρ : RS} {μ : MS} (hW : lwW D cs ad cZ hM adM s H ρ μ) (hI : Inv ρ μ) {ls : Array Slot} (hl : lv_has ls 4 [(3, .int (nI (5 * k))), (2, .ref hM), (1, .ref (ad 1009)), (0, .ref b)]) (kk : ∀ (H1 : Heap) (ρ1 : RS) (μ1 : MS), lwW D cs ad cZ hM adM s H1 ρ1 μ1 → Inv ρ1 μ1 → W p l e room_1 s m #[Value.ref b] below meth c H1 [] (84 + 4 * (k + 1)) (18955 + 250 * (k + 1)) (lw_Z below #[Value.ref b] s) (F0 m 1151 ls [])) : W p l e room_1 s m #[Value.ref b] below meth c H [] (84 + 4 * k) (18955 + 250 * k) (lw_Z below #[Value.ref b] s) (F0 m 808 ls []) := by
  obtain ⟨hx, hb, hr, hml, hown, hts, hX, hbl, hlocks, hgv⟩ := id C0
  have hbA : ¬ lwA s b := Nat.not_le.mpr hbl
  have ci : ∀ j : Nat, j < 5 → vp_in (nI (5 * k) + nI j) L := fun j hj => by rw [nI_add]; exact vp_in_nI (by omega) (by omega)
  refine lv_aload_n hx hb dL_law_808 rfl (lv_at hl 2 rfl) ?_
  refine lv_aload_n hx hb dL_law_809 rfl (lv_at hl 3 rfl) ?_
  refine lv_iload_n hx hb dL_law_810 rfl (lv_at hl 0 rfl) ?_
  refine lv_iconst (v := (1 : Int32)) hx hb dL_law_811 (by decide) ?_
  refine lv_iadd hx hb dL_law_812 ?_
  refine va_sld hx hb hX hbl hbA hW.2.2.2.2.1 (ci 1 (by decide)) dL_law_813 ?_
  refine lv_aload_n hx hb dL_law_814 rfl (lv_at hl 3 rfl) ?_
  refine lv_iload_n hx hb dL_law_815 rfl (lv_at hl 0 rfl) ?_
  refine lv_iconst (v := (2 : Int32)) hx hb dL_law_816 (by decide) ?_
  refine lv_iadd hx hb dL_law_817 ?_
  refine va_sld hx hb hX hbl hbA hW.2.2.2.2.1 (ci 2 (by decide)) dL_law_818 ?_
  obtain ⟨q, ρ1, μ1, e1, e2, hI⟩ := st_line hI hW.low ((xs ((nI (5 * k)) + (1 : Int32)).toNatClampNeg)) ((xs ((nI (5 * k)) + (2 : Int32)).toNatClampNeg))
  refine lwRn (As := [.int (xs ((nI (5 * k)) + (1 : Int32)).toNatClampNeg), .int (xs ((nI (5 * k)) + (2 : Int32)).toNatClampNeg)]) (rest := []) ⟨hx, hb, hml, hown, hts⟩ (cR_X9_line l D cs ad tb _ H.size hW.new ρ ((xs ((nI (5 * k)) + (1 : Int32)).toNatClampNeg)) ((xs ((nI (5 * k)) + (2 : Int32)).toNatClampNeg)) _ e1) (lc_9_line hts) ⟨by show _ ≤ 600000; omega, by show _ ≤ 7302250; omega⟩ hKR hZ hW rfl hl.1 rfl (lv_room (Nat.le_of_ble_eq_true rfl)) dL_law_819 (fun H hW => ?_)
  refine W.widen (k := 84 + 4 * (k + 1)) (n := 18955 + 250 * (k + 1)) (by omega) (by omega) ?_
  refine lv_aload_n hx hb dL_law_822 rfl (lv_at hl 1 rfl) ?_
  refine lv_aload_n hx hb dL_law_823 rfl (lv_at hl 3 rfl) ?_
  refine lv_iload_n hx hb dL_law_824 rfl (lv_at hl 0 rfl) ?_
  refine lv_iconst (v := (1 : Int32)) hx hb dL_law_825 (by decide) ?_
  refine lv_iadd hx hb dL_law_826 ?_
  refine va_sld hx hb hX hbl hbA hW.2.2.2.2.1 (ci 1 (by decide)) dL_law_827 ?_
  refine lv_aload_n hx hb dL_law_828 rfl (lv_at hl 3 rfl) ?_
  refine lv_iload_n hx hb dL_law_829 rfl (lv_at hl 0 rfl) ?_
  refine lv_iconst (v := (2 : Int32)) hx hb dL_law_830 (by decide) ?_
  refine lv_iadd hx hb dL_law_831 ?_
  refine va_sld hx hb hX hbl hbA hW.2.2.2.2.1 (ci 2 (by decide)) dL_law_832 ?_
  refine lwMw (As := [.int (xs ((nI (5 * k)) + (1 : Int32)).toNatClampNeg), .int (xs ((nI (5 * k)) + (2 : Int32)).toNatClampNeg)]) (rest := [.int q]) ⟨hx, hb, hml, hown, hts⟩ (cM_line l D (cs 0) cZ hM adM _ μ ((xs ((nI (5 * k)) + (1 : Int32)).toNatClampNeg)) ((xs ((nI (5 * k)) + (2 : Int32)).toNatClampNeg)) _ e2) (lc_10_line hts) ⟨by show _ ≤ 600000; omega, by show _ ≤ 7302250; omega⟩ hKM hW rfl hl.1 rfl (lv_room (Nat.le_of_ble_eq_true rfl)) dL_law_833 (fun H hW => ?_)
  refine lv_icmp_eq (tgt := 1151) hx hb dL_law_836 (by decide) (fun _ => ?_) (fun c9 => absurd rfl c9)
  exact kk H ρ1 μ1 hW hI
set_option maxHeartbeats 4000000 in
set_option maxRecDepth 100000 in
theorem la_unline {p : Program} {e : Env} {s : State} {m : MethodId} {below : List Frame} {meth : Method} {c : Code} (l : Launch) {b L : Nat} {xs : Nat → Int32} (hL : L ≤ 2560) (C0 : lw_At p s m meth c b L xs) (D : va_G) (cs : Nat → ClassId) (ad tb : Nat → Nat) (cZ : ClassId) (hM : Nat) (adM : Nat → Nat) (hKR : va_K D vwCl (tyR cs) s) (hKM : va_K D vwCl (tyM (cs 0) cZ) s) (hZ : stR tb (lwR s (cs 0) cZ hM adM) s s.heap) (k : Nat) (hk : 5 * k + 5 ≤ L) {H : Heap} {ρ : RS} {μ : MS} (hW : lwW D cs ad cZ hM adM s H ρ μ) (hI : Inv ρ μ) {ls : Array Slot} (hl : lv_has ls 4 [(3, .int (nI (5 * k))), (2, .ref hM), (1, .ref (ad 1009)), (0, .ref b)]) (kk : ∀ (H1 : Heap) (ρ1 : RS) (μ1 : MS), lwW D cs ad cZ hM adM s H1 ρ1 μ1 → Inv ρ1 μ1 → W p l e room_1 s m #[Value.ref b] below meth c H1 [] (84 + 4 * (k + 1)) (18955 + 250 * (k + 1)) (lw_Z below #[Value.ref b] s) (F0 m 1151 ls [])) : W p l e room_1 s m #[Value.ref b] below meth c H [] (84 + 4 * k) (18955 + 250 * k) (lw_Z below #[Value.ref b] s) (F0 m 841 ls []) := by
  obtain ⟨hx, hb, hr, hml, hown, hts, hX, hbl, hlocks, hgv⟩ := id C0
  have hbA : ¬ lwA s b := Nat.not_le.mpr hbl
  have ci : ∀ j : Nat, j < 5 → vp_in (nI (5 * k) + nI j) L := fun j hj => by rw [nI_add]; exact vp_in_nI (by omega) (by omega)
  refine lv_aload_n hx hb dL_law_841 rfl (lv_at hl 2 rfl) ?_
  refine lv_aload_n hx hb dL_law_842 rfl (lv_at hl 3 rfl) ?_
  refine lv_iload_n hx hb dL_law_843 rfl (lv_at hl 0 rfl) ?_
  refine lv_iconst (v := (1 : Int32)) hx hb dL_law_844 (by decide) ?_
  refine lv_iadd hx hb dL_law_845 ?_
  refine va_sld hx hb hX hbl hbA hW.2.2.2.2.1 (ci 1 (by decide)) dL_law_846 ?_
  obtain ⟨q, ρ1, μ1, e1, e2, hI⟩ := st_unline hI ((xs ((nI (5 * k)) + (1 : Int32)).toNatClampNeg))
  refine lwRw (As := [.int (xs ((nI (5 * k)) + (1 : Int32)).toNatClampNeg)]) (rest := []) ⟨hx, hb, hml, hown, hts⟩ (cR_X9_unline l D cs ad tb _ ρ ((xs ((nI (5 * k)) + (1 : Int32)).toNatClampNeg)) _ e1) (lc_9_unline hts) ⟨by show _ ≤ 600000; omega, by show _ ≤ 7302250; omega⟩ hKR hZ hW rfl hl.1 rfl (lv_room (Nat.le_of_ble_eq_true rfl)) dL_law_847 (fun H hW => ?_)
  refine W.widen (k := 84 + 4 * (k + 1)) (n := 18955 + 250 * (k + 1)) (by omega) (by omega) ?_
  refine lv_aload_n hx hb dL_law_850 rfl (lv_at hl 1 rfl) ?_
  refine lv_aload_n hx hb dL_law_851 rfl (lv_at hl 3 rfl) ?_
  refine lv_iload_n hx hb dL_law_852 rfl (lv_at hl 0 rfl) ?_
  refine lv_iconst (v := (1 : Int32)) hx hb dL_law_853 (by decide) ?_
  refine lv_iadd hx hb dL_law_854 ?_
  refine va_sld hx hb hX hbl hbA hW.2.2.2.2.1 (ci 1 (by decide)) dL_law_855 ?_
  refine lwMw (As := [.int (xs ((nI (5 * k)) + (1 : Int32)).toNatClampNeg)]) (rest := [.int q]) ⟨hx, hb, hml, hown, hts⟩ (cM_unline l D (cs 0) cZ hM adM _ μ ((xs ((nI (5 * k)) + (1 : Int32)).toNatClampNeg)) _ e2) (lc_10_unline hts) ⟨by show _ ≤ 600000; omega, by show _ ≤ 7302250; omega⟩ hKM hW rfl hl.1 rfl (lv_room (Nat.le_of_ble_eq_true rfl)) dL_law_856 (fun H hW => ?_)
  refine lv_icmp_eq (tgt := 1151) hx hb dL_law_859 (by decide) (fun _ => ?_) (fun c9 => absurd rfl c9)
  exact kk H ρ1 μ1 hW hI
set_option maxHeartbeats 4000000 in
set_option maxRecDepth 100000 in
theorem la_rules {p : Program} {e : Env} {s : State} {m : MethodId} {below : List Frame} {meth : Method} {c : Code} (l : Launch) {b L : Nat} {xs : Nat → Int32} (hL : L ≤ 2560) (C0 : lw_At p s m meth c b L xs) (D : va_G) (cs : Nat → ClassId) (ad tb : Nat → Nat) (cZ : ClassId) (hM : Nat) (adM : Nat → Nat) (hKR : va_K D vwCl (tyR cs) s) (hKM : va_K D vwCl (tyM (cs 0) cZ) s) (hZ : stR tb (lwR s (cs 0) cZ hM adM) s s.heap) (k : Nat) (hk : 5 * k + 5 ≤ L) {H : Heap} {ρ : RS} {μ : MS} (hW : lwW D cs ad cZ hM adM s H ρ μ) (hI : Inv ρ μ) {ls : Array Slot} (hl : lv_has ls 4 [(3, .int (nI (5 * k))), (2, .ref hM), (1, .ref (ad 1009)), (0, .ref b)]) (kk : ∀ (H1 : Heap) (ρ1 : RS) (μ1 : MS), lwW D cs ad cZ hM adM s H1 ρ1 μ1 → Inv ρ1 μ1 → W p l e room_1 s m #[Value.ref b] below meth c H1 [] (84 + 4 * (k + 1)) (18955 + 250 * (k + 1)) (lw_Z below #[Value.ref b] s) (F0 m 1151 ls [])) : W p l e room_1 s m #[Value.ref b] below meth c H [] (84 + 4 * k) (18955 + 250 * k) (lw_Z below #[Value.ref b] s) (F0 m 864 ls []) := by
  obtain ⟨hx, hb, hr, hml, hown, hts, hX, hbl, hlocks, hgv⟩ := id C0
  have hbA : ¬ lwA s b := Nat.not_le.mpr hbl
  have ci : ∀ j : Nat, j < 5 → vp_in (nI (5 * k) + nI j) L := fun j hj => by rw [nI_add]; exact vp_in_nI (by omega) (by omega)
  refine lv_aload_n hx hb dL_law_864 rfl (lv_at hl 2 rfl) ?_
  refine lv_aload_n hx hb dL_law_865 rfl (lv_at hl 3 rfl) ?_
  refine lv_iload_n hx hb dL_law_866 rfl (lv_at hl 0 rfl) ?_
  refine lv_iconst (v := (1 : Int32)) hx hb dL_law_867 (by decide) ?_
  refine lv_iadd hx hb dL_law_868 ?_
  refine va_sld hx hb hX hbl hbA hW.2.2.2.2.1 (ci 1 (by decide)) dL_law_869 ?_
  obtain ⟨q, ρ1, μ1, e1, e2, hI⟩ := st_rules hI ((xs ((nI (5 * k)) + (1 : Int32)).toNatClampNeg))
  refine lwRw (As := [.int (xs ((nI (5 * k)) + (1 : Int32)).toNatClampNeg)]) (rest := []) ⟨hx, hb, hml, hown, hts⟩ (cR_X9_rules l D cs ad tb _ ρ ((xs ((nI (5 * k)) + (1 : Int32)).toNatClampNeg)) _ e1) (lc_9_rules hts) ⟨by show _ ≤ 600000; omega, by show _ ≤ 7302250; omega⟩ hKR hZ hW rfl hl.1 rfl (lv_room (Nat.le_of_ble_eq_true rfl)) dL_law_870 (fun H hW => ?_)
  refine W.widen (k := 84 + 4 * (k + 1)) (n := 18955 + 250 * (k + 1)) (by omega) (by omega) ?_
  refine lv_aload_n hx hb dL_law_873 rfl (lv_at hl 1 rfl) ?_
  refine lv_aload_n hx hb dL_law_874 rfl (lv_at hl 3 rfl) ?_
  refine lv_iload_n hx hb dL_law_875 rfl (lv_at hl 0 rfl) ?_
  refine lv_iconst (v := (1 : Int32)) hx hb dL_law_876 (by decide) ?_
  refine lv_iadd hx hb dL_law_877 ?_
  refine va_sld hx hb hX hbl hbA hW.2.2.2.2.1 (ci 1 (by decide)) dL_law_878 ?_
  refine lwMw (As := [.int (xs ((nI (5 * k)) + (1 : Int32)).toNatClampNeg)]) (rest := [.int q]) ⟨hx, hb, hml, hown, hts⟩ (cM_rules l D (cs 0) cZ hM adM _ μ ((xs ((nI (5 * k)) + (1 : Int32)).toNatClampNeg)) _ e2) (lc_10_rules hts) ⟨by show _ ≤ 600000; omega, by show _ ≤ 7302250; omega⟩ hKM hW rfl hl.1 rfl (lv_room (Nat.le_of_ble_eq_true rfl)) dL_law_879 (fun H hW => ?_)
  refine lv_icmp_eq (tgt := 1151) hx hb dL_law_882 (by decide) (fun _ => ?_) (fun c9 => absurd rfl c9)
  exact kk H ρ1 μ1 hW hI
set_option maxHeartbeats 4000000 in
set_option maxRecDepth 100000 in
theorem la_chest {p : Program} {e : Env} {s : State} {m : MethodId} {below : List Frame} {meth : Method} {c : Code} (l : Launch) {b L : Nat} {xs : Nat → Int32} (hL : L ≤ 2560) (C0 : lw_At p s m meth c b L xs) (D : va_G) (cs : Nat → ClassId) (ad tb : Nat → Nat) (cZ : ClassId) (hM : Nat) (adM : Nat → Nat) (hKR : va_K D vwCl (tyR cs) s) (hKM : va_K D vwCl (tyM (cs 0) cZ) s) (hZ : stR tb (lwR s (cs 0) cZ hM adM) s s.heap) (k : Nat) (hk : 5 * k + 5 ≤ L) {H : Heap} {ρ : RS} {μ : MS} (hW : lwW D cs ad cZ hM adM s H ρ μ) (hI : Inv ρ μ) {ls : Array Slot} (hl : lv_has ls 4 [(3, .int (nI (5 * k))), (2, .ref hM), (1, .ref (ad 1009)), (0, .ref b)]) (kk : ∀ (H1 : Heap) (ρ1 : RS) (μ1 : MS), lwW D cs ad cZ hM adM s H1 ρ1 μ1 → Inv ρ1 μ1 → W p l e room_1 s m #[Value.ref b] below meth c H1 [] (84 + 4 * (k + 1)) (18955 + 250 * (k + 1)) (lw_Z below #[Value.ref b] s) (F0 m 1151 ls [])) : W p l e room_1 s m #[Value.ref b] below meth c H [] (84 + 4 * k) (18955 + 250 * k) (lw_Z below #[Value.ref b] s) (F0 m 887 ls []) := by
  obtain ⟨hx, hb, hr, hml, hown, hts, hX, hbl, hlocks, hgv⟩ := id C0
  have hbA : ¬ lwA s b := Nat.not_le.mpr hbl
  have ci : ∀ j : Nat, j < 5 → vp_in (nI (5 * k) + nI j) L := fun j hj => by rw [nI_add]; exact vp_in_nI (by omega) (by omega)
  refine lv_aload_n hx hb dL_law_887 rfl (lv_at hl 2 rfl) ?_
  refine lv_aload_n hx hb dL_law_888 rfl (lv_at hl 3 rfl) ?_
  refine lv_iload_n hx hb dL_law_889 rfl (lv_at hl 0 rfl) ?_
  refine lv_iconst (v := (1 : Int32)) hx hb dL_law_890 (by decide) ?_
  refine lv_iadd hx hb dL_law_891 ?_
  refine va_sld hx hb hX hbl hbA hW.2.2.2.2.1 (ci 1 (by decide)) dL_law_892 ?_
  refine lv_aload_n hx hb dL_law_893 rfl (lv_at hl 3 rfl) ?_
  refine lv_iload_n hx hb dL_law_894 rfl (lv_at hl 0 rfl) ?_
  refine lv_iconst (v := (2 : Int32)) hx hb dL_law_895 (by decide) ?_
  refine lv_iadd hx hb dL_law_896 ?_
  refine va_sld hx hb hX hbl hbA hW.2.2.2.2.1 (ci 2 (by decide)) dL_law_897 ?_
  obtain ⟨q, ρ1, μ1, e1, e2, hI⟩ := st_chest hI ((xs ((nI (5 * k)) + (1 : Int32)).toNatClampNeg)) ((xs ((nI (5 * k)) + (2 : Int32)).toNatClampNeg))
  refine lwRw (As := [.int (xs ((nI (5 * k)) + (1 : Int32)).toNatClampNeg), .int (xs ((nI (5 * k)) + (2 : Int32)).toNatClampNeg)]) (rest := []) ⟨hx, hb, hml, hown, hts⟩ (cR_X9_chest l D cs ad tb _ ρ ((xs ((nI (5 * k)) + (1 : Int32)).toNatClampNeg)) ((xs ((nI (5 * k)) + (2 : Int32)).toNatClampNeg)) _ e1) (lc_9_chest hts) ⟨by show _ ≤ 600000; omega, by show _ ≤ 7302250; omega⟩ hKR hZ hW rfl hl.1 rfl (lv_room (Nat.le_of_ble_eq_true rfl)) dL_law_898 (fun H hW => ?_)
  refine W.widen (k := 84 + 4 * (k + 1)) (n := 18955 + 250 * (k + 1)) (by omega) (by omega) ?_
  refine lv_aload_n hx hb dL_law_901 rfl (lv_at hl 1 rfl) ?_
  refine lv_aload_n hx hb dL_law_902 rfl (lv_at hl 3 rfl) ?_
  refine lv_iload_n hx hb dL_law_903 rfl (lv_at hl 0 rfl) ?_
  refine lv_iconst (v := (1 : Int32)) hx hb dL_law_904 (by decide) ?_
  refine lv_iadd hx hb dL_law_905 ?_
  refine va_sld hx hb hX hbl hbA hW.2.2.2.2.1 (ci 1 (by decide)) dL_law_906 ?_
  refine lv_aload_n hx hb dL_law_907 rfl (lv_at hl 3 rfl) ?_
  refine lv_iload_n hx hb dL_law_908 rfl (lv_at hl 0 rfl) ?_
  refine lv_iconst (v := (2 : Int32)) hx hb dL_law_909 (by decide) ?_
  refine lv_iadd hx hb dL_law_910 ?_
  refine va_sld hx hb hX hbl hbA hW.2.2.2.2.1 (ci 2 (by decide)) dL_law_911 ?_
  refine lwMw (As := [.int (xs ((nI (5 * k)) + (1 : Int32)).toNatClampNeg), .int (xs ((nI (5 * k)) + (2 : Int32)).toNatClampNeg)]) (rest := [.int q]) ⟨hx, hb, hml, hown, hts⟩ (cM_chest l D (cs 0) cZ hM adM _ μ ((xs ((nI (5 * k)) + (1 : Int32)).toNatClampNeg)) ((xs ((nI (5 * k)) + (2 : Int32)).toNatClampNeg)) _ e2) (lc_10_chest hts) ⟨by show _ ≤ 600000; omega, by show _ ≤ 7302250; omega⟩ hKM hW rfl hl.1 rfl (lv_room (Nat.le_of_ble_eq_true rfl)) dL_law_912 (fun H hW => ?_)
  refine lv_icmp_eq (tgt := 1151) hx hb dL_law_915 (by decide) (fun _ => ?_) (fun c9 => absurd rfl c9)
  exact kk H ρ1 μ1 hW hI
set_option maxHeartbeats 4000000 in
set_option maxRecDepth 100000 in
theorem la_person {p : Program} {e : Env} {s : State} {m : MethodId} {below : List Frame} {meth : Method} {c : Code} (l : Launch) {b L : Nat} {xs : Nat → Int32} (hL : L ≤ 2560) (C0 : lw_At p s m meth c b L xs) (D : va_G) (cs : Nat → ClassId) (ad tb : Nat → Nat) (cZ : ClassId) (hM : Nat) (adM : Nat → Nat) (hKR : va_K D vwCl (tyR cs) s) (hKM : va_K D vwCl (tyM (cs 0) cZ) s) (hZ : stR tb (lwR s (cs 0) cZ hM adM) s s.heap) (k : Nat) (hk : 5 * k + 5 ≤ L) {H : Heap} {ρ : RS} {μ : MS} (hW : lwW D cs ad cZ hM adM s H ρ μ) (hI : Inv ρ μ) {ls : Array Slot} (hl : lv_has ls 4 [(3, .int (nI (5 * k))), (2, .ref hM), (1, .ref (ad 1009)), (0, .ref b)]) (kk : ∀ (H1 : Heap) (ρ1 : RS) (μ1 : MS), lwW D cs ad cZ hM adM s H1 ρ1 μ1 → Inv ρ1 μ1 → W p l e room_1 s m #[Value.ref b] below meth c H1 [] (84 + 4 * (k + 1)) (18955 + 250 * (k + 1)) (lw_Z below #[Value.ref b] s) (F0 m 1151 ls [])) : W p l e room_1 s m #[Value.ref b] below meth c H [] (84 + 4 * k) (18955 + 250 * k) (lw_Z below #[Value.ref b] s) (F0 m 920 ls []) := by
  obtain ⟨hx, hb, hr, hml, hown, hts, hX, hbl, hlocks, hgv⟩ := id C0
  have hbA : ¬ lwA s b := Nat.not_le.mpr hbl
  have ci : ∀ j : Nat, j < 5 → vp_in (nI (5 * k) + nI j) L := fun j hj => by rw [nI_add]; exact vp_in_nI (by omega) (by omega)
  refine lv_aload_n hx hb dL_law_920 rfl (lv_at hl 2 rfl) ?_
  refine lv_aload_n hx hb dL_law_921 rfl (lv_at hl 3 rfl) ?_
  refine lv_iload_n hx hb dL_law_922 rfl (lv_at hl 0 rfl) ?_
  refine lv_iconst (v := (1 : Int32)) hx hb dL_law_923 (by decide) ?_
  refine lv_iadd hx hb dL_law_924 ?_
  refine va_sld hx hb hX hbl hbA hW.2.2.2.2.1 (ci 1 (by decide)) dL_law_925 ?_
  refine lv_aload_n hx hb dL_law_926 rfl (lv_at hl 3 rfl) ?_
  refine lv_iload_n hx hb dL_law_927 rfl (lv_at hl 0 rfl) ?_
  refine lv_iconst (v := (2 : Int32)) hx hb dL_law_928 (by decide) ?_
  refine lv_iadd hx hb dL_law_929 ?_
  refine va_sld hx hb hX hbl hbA hW.2.2.2.2.1 (ci 2 (by decide)) dL_law_930 ?_
  refine lv_aload_n hx hb dL_law_931 rfl (lv_at hl 3 rfl) ?_
  refine lv_iload_n hx hb dL_law_932 rfl (lv_at hl 0 rfl) ?_
  refine lv_iconst (v := (3 : Int32)) hx hb dL_law_933 (by decide) ?_
  refine lv_iadd hx hb dL_law_934 ?_
  refine va_sld hx hb hX hbl hbA hW.2.2.2.2.1 (ci 3 (by decide)) dL_law_935 ?_
  obtain ⟨q, ρ1, μ1, e1, e2, hI⟩ := st_person hI ((xs ((nI (5 * k)) + (1 : Int32)).toNatClampNeg)) ((xs ((nI (5 * k)) + (2 : Int32)).toNatClampNeg)) ((xs ((nI (5 * k)) + (3 : Int32)).toNatClampNeg))
  refine lwRw (As := [.int (xs ((nI (5 * k)) + (1 : Int32)).toNatClampNeg), .int (xs ((nI (5 * k)) + (2 : Int32)).toNatClampNeg), .int (xs ((nI (5 * k)) + (3 : Int32)).toNatClampNeg)]) (rest := []) ⟨hx, hb, hml, hown, hts⟩ (cR_X9_person l D cs ad tb _ ρ ((xs ((nI (5 * k)) + (1 : Int32)).toNatClampNeg)) ((xs ((nI (5 * k)) + (2 : Int32)).toNatClampNeg)) ((xs ((nI (5 * k)) + (3 : Int32)).toNatClampNeg)) _ e1) (lc_9_person hts) ⟨by show _ ≤ 600000; omega, by show _ ≤ 7302250; omega⟩ hKR hZ hW rfl hl.1 rfl (lv_room (Nat.le_of_ble_eq_true rfl)) dL_law_936 (fun H hW => ?_)
  refine W.widen (k := 84 + 4 * (k + 1)) (n := 18955 + 250 * (k + 1)) (by omega) (by omega) ?_
  refine lv_aload_n hx hb dL_law_939 rfl (lv_at hl 1 rfl) ?_
  refine lv_aload_n hx hb dL_law_940 rfl (lv_at hl 3 rfl) ?_
  refine lv_iload_n hx hb dL_law_941 rfl (lv_at hl 0 rfl) ?_
  refine lv_iconst (v := (1 : Int32)) hx hb dL_law_942 (by decide) ?_
  refine lv_iadd hx hb dL_law_943 ?_
  refine va_sld hx hb hX hbl hbA hW.2.2.2.2.1 (ci 1 (by decide)) dL_law_944 ?_
  refine lv_aload_n hx hb dL_law_945 rfl (lv_at hl 3 rfl) ?_
  refine lv_iload_n hx hb dL_law_946 rfl (lv_at hl 0 rfl) ?_
  refine lv_iconst (v := (2 : Int32)) hx hb dL_law_947 (by decide) ?_
  refine lv_iadd hx hb dL_law_948 ?_
  refine va_sld hx hb hX hbl hbA hW.2.2.2.2.1 (ci 2 (by decide)) dL_law_949 ?_
  refine lv_aload_n hx hb dL_law_950 rfl (lv_at hl 3 rfl) ?_
  refine lv_iload_n hx hb dL_law_951 rfl (lv_at hl 0 rfl) ?_
  refine lv_iconst (v := (3 : Int32)) hx hb dL_law_952 (by decide) ?_
  refine lv_iadd hx hb dL_law_953 ?_
  refine va_sld hx hb hX hbl hbA hW.2.2.2.2.1 (ci 3 (by decide)) dL_law_954 ?_
  refine lwMw (As := [.int (xs ((nI (5 * k)) + (1 : Int32)).toNatClampNeg), .int (xs ((nI (5 * k)) + (2 : Int32)).toNatClampNeg), .int (xs ((nI (5 * k)) + (3 : Int32)).toNatClampNeg)]) (rest := [.int q]) ⟨hx, hb, hml, hown, hts⟩ (cM_person l D (cs 0) cZ hM adM _ μ ((xs ((nI (5 * k)) + (1 : Int32)).toNatClampNeg)) ((xs ((nI (5 * k)) + (2 : Int32)).toNatClampNeg)) ((xs ((nI (5 * k)) + (3 : Int32)).toNatClampNeg)) _ e2) (lc_10_person hts) ⟨by show _ ≤ 600000; omega, by show _ ≤ 7302250; omega⟩ hKM hW rfl hl.1 rfl (lv_room (Nat.le_of_ble_eq_true rfl)) dL_law_955 (fun H hW => ?_)
  refine lv_icmp_eq (tgt := 1151) hx hb dL_law_958 (by decide) (fun _ => ?_) (fun c9 => absurd rfl c9)
  exact kk H ρ1 μ1 hW hI
set_option maxHeartbeats 4000000 in
set_option maxRecDepth 100000 in
theorem la_may {p : Program} {e : Env} {s : State} {m : MethodId} {below : List Frame} {meth : Method} {c : Code} (l : Launch) {b L : Nat} {xs : Nat → Int32} (hL : L ≤ 2560) (C0 : lw_At p s m meth c b L xs) (D : va_G) (cs : Nat → ClassId) (ad tb : Nat → Nat) (cZ : ClassId) (hM : Nat) (adM : Nat → Nat) (hKR : va_K D vwCl (tyR cs) s) (hKM : va_K D vwCl (tyM (cs 0) cZ) s) (hZ : stR tb (lwR s (cs 0) cZ hM adM) s s.heap) (k : Nat) (hk : 5 * k + 5 ≤ L) {H : Heap} {ρ : RS} {μ : MS} (hW : lwW D cs ad cZ hM adM s H ρ μ) (hI : Inv ρ μ) {ls : Array Slot} (hl : lv_has ls 4 [(3, .int (nI (5 * k))), (2, .ref hM), (1, .ref (ad 1009)), (0, .ref b)]) (kk : ∀ (H1 : Heap) (ρ1 : RS) (μ1 : MS), lwW D cs ad cZ hM adM s H1 ρ1 μ1 → Inv ρ1 μ1 → W p l e room_1 s m #[Value.ref b] below meth c H1 [] (84 + 4 * (k + 1)) (18955 + 250 * (k + 1)) (lw_Z below #[Value.ref b] s) (F0 m 1151 ls [])) : W p l e room_1 s m #[Value.ref b] below meth c H [] (84 + 4 * k) (18955 + 250 * k) (lw_Z below #[Value.ref b] s) (F0 m 963 ls []) := by
  obtain ⟨hx, hb, hr, hml, hown, hts, hX, hbl, hlocks, hgv⟩ := id C0
  have hbA : ¬ lwA s b := Nat.not_le.mpr hbl
  have ci : ∀ j : Nat, j < 5 → vp_in (nI (5 * k) + nI j) L := fun j hj => by rw [nI_add]; exact vp_in_nI (by omega) (by omega)
  refine lv_aload_n hx hb dL_law_963 rfl (lv_at hl 2 rfl) ?_
  refine lv_aload_n hx hb dL_law_964 rfl (lv_at hl 3 rfl) ?_
  refine lv_iload_n hx hb dL_law_965 rfl (lv_at hl 0 rfl) ?_
  refine lv_iconst (v := (1 : Int32)) hx hb dL_law_966 (by decide) ?_
  refine lv_iadd hx hb dL_law_967 ?_
  refine va_sld hx hb hX hbl hbA hW.2.2.2.2.1 (ci 1 (by decide)) dL_law_968 ?_
  refine lv_aload_n hx hb dL_law_969 rfl (lv_at hl 3 rfl) ?_
  refine lv_iload_n hx hb dL_law_970 rfl (lv_at hl 0 rfl) ?_
  refine lv_iconst (v := (2 : Int32)) hx hb dL_law_971 (by decide) ?_
  refine lv_iadd hx hb dL_law_972 ?_
  refine va_sld hx hb hX hbl hbA hW.2.2.2.2.1 (ci 2 (by decide)) dL_law_973 ?_
  refine lv_aload_n hx hb dL_law_974 rfl (lv_at hl 3 rfl) ?_
  refine lv_iload_n hx hb dL_law_975 rfl (lv_at hl 0 rfl) ?_
  refine lv_iconst (v := (3 : Int32)) hx hb dL_law_976 (by decide) ?_
  refine lv_iadd hx hb dL_law_977 ?_
  refine va_sld hx hb hX hbl hbA hW.2.2.2.2.1 (ci 3 (by decide)) dL_law_978 ?_
  obtain ⟨q, ρ1, e1, e2, hI⟩ := st_may hI ((xs ((nI (5 * k)) + (1 : Int32)).toNatClampNeg)) ((xs ((nI (5 * k)) + (2 : Int32)).toNatClampNeg)) ((xs ((nI (5 * k)) + (3 : Int32)).toNatClampNeg))
  refine lwRw (As := [.int (xs ((nI (5 * k)) + (1 : Int32)).toNatClampNeg), .int (xs ((nI (5 * k)) + (2 : Int32)).toNatClampNeg), .int (xs ((nI (5 * k)) + (3 : Int32)).toNatClampNeg)]) (rest := []) ⟨hx, hb, hml, hown, hts⟩ (cR_X9_may l D cs ad tb _ ρ ((xs ((nI (5 * k)) + (1 : Int32)).toNatClampNeg)) ((xs ((nI (5 * k)) + (2 : Int32)).toNatClampNeg)) ((xs ((nI (5 * k)) + (3 : Int32)).toNatClampNeg)) _ e1) (lc_9_may hts) ⟨by show _ ≤ 600000; omega, by show _ ≤ 7302250; omega⟩ hKR hZ hW rfl hl.1 rfl (lv_room (Nat.le_of_ble_eq_true rfl)) dL_law_979 (fun H hW => ?_)
  refine W.widen (k := 84 + 4 * (k + 1)) (n := 18955 + 250 * (k + 1)) (by omega) (by omega) ?_
  refine lv_aload_n hx hb dL_law_982 rfl (lv_at hl 1 rfl) ?_
  refine lv_aload_n hx hb dL_law_983 rfl (lv_at hl 3 rfl) ?_
  refine lv_iload_n hx hb dL_law_984 rfl (lv_at hl 0 rfl) ?_
  refine lv_iconst (v := (1 : Int32)) hx hb dL_law_985 (by decide) ?_
  refine lv_iadd hx hb dL_law_986 ?_
  refine va_sld hx hb hX hbl hbA hW.2.2.2.2.1 (ci 1 (by decide)) dL_law_987 ?_
  refine lv_aload_n hx hb dL_law_988 rfl (lv_at hl 3 rfl) ?_
  refine lv_iload_n hx hb dL_law_989 rfl (lv_at hl 0 rfl) ?_
  refine lv_iconst (v := (2 : Int32)) hx hb dL_law_990 (by decide) ?_
  refine lv_iadd hx hb dL_law_991 ?_
  refine va_sld hx hb hX hbl hbA hW.2.2.2.2.1 (ci 2 (by decide)) dL_law_992 ?_
  refine lv_aload_n hx hb dL_law_993 rfl (lv_at hl 3 rfl) ?_
  refine lv_iload_n hx hb dL_law_994 rfl (lv_at hl 0 rfl) ?_
  refine lv_iconst (v := (3 : Int32)) hx hb dL_law_995 (by decide) ?_
  refine lv_iadd hx hb dL_law_996 ?_
  refine va_sld hx hb hX hbl hbA hW.2.2.2.2.1 (ci 3 (by decide)) dL_law_997 ?_
  refine lwMr (As := [.int (xs ((nI (5 * k)) + (1 : Int32)).toNatClampNeg), .int (xs ((nI (5 * k)) + (2 : Int32)).toNatClampNeg), .int (xs ((nI (5 * k)) + (3 : Int32)).toNatClampNeg)]) (rest := [.int q]) ⟨hx, hb, hml, hown, hts⟩ (cM_may l D (cs 0) cZ hM adM μ ((xs ((nI (5 * k)) + (1 : Int32)).toNatClampNeg)) ((xs ((nI (5 * k)) + (2 : Int32)).toNatClampNeg)) ((xs ((nI (5 * k)) + (3 : Int32)).toNatClampNeg)) _ e2) (lc_10_may hts) ⟨by show _ ≤ 600000; omega, by show _ ≤ 7302250; omega⟩ hKM hW rfl hl.1 rfl (lv_room (Nat.le_of_ble_eq_true rfl)) dL_law_998 (fun H hW => ?_)
  refine lv_icmp_eq (tgt := 1151) hx hb dL_law_1001 (by decide) (fun _ => ?_) (fun c9 => absurd rfl c9)
  exact kk H ρ1 μ hW hI
set_option maxHeartbeats 4000000 in
set_option maxRecDepth 100000 in
theorem la_lend {p : Program} {e : Env} {s : State} {m : MethodId} {below : List Frame} {meth : Method} {c : Code} (l : Launch) {b L : Nat} {xs : Nat → Int32} (hL : L ≤ 2560) (C0 : lw_At p s m meth c b L xs) (D : va_G) (cs : Nat → ClassId) (ad tb : Nat → Nat) (cZ : ClassId) (hM : Nat) (adM : Nat → Nat) (hKR : va_K D vwCl (tyR cs) s) (hKM : va_K D vwCl (tyM (cs 0) cZ) s) (hZ : stR tb (lwR s (cs 0) cZ hM adM) s s.heap) (k : Nat) (hk : 5 * k + 5 ≤ L) {H : Heap} {ρ : RS} {μ : MS} (hW : lwW D cs ad cZ hM adM s H ρ μ) (hI : Inv ρ μ) {ls : Array Slot} (hl : lv_has ls 4 [(3, .int (nI (5 * k))), (2, .ref hM), (1, .ref (ad 1009)), (0, .ref b)]) (kk : ∀ (H1 : Heap) (ρ1 : RS) (μ1 : MS), lwW D cs ad cZ hM adM s H1 ρ1 μ1 → Inv ρ1 μ1 → W p l e room_1 s m #[Value.ref b] below meth c H1 [] (84 + 4 * (k + 1)) (18955 + 250 * (k + 1)) (lw_Z below #[Value.ref b] s) (F0 m 1151 ls [])) : W p l e room_1 s m #[Value.ref b] below meth c H [] (84 + 4 * k) (18955 + 250 * k) (lw_Z below #[Value.ref b] s) (F0 m 1006 ls []) := by
  obtain ⟨hx, hb, hr, hml, hown, hts, hX, hbl, hlocks, hgv⟩ := id C0
  have hbA : ¬ lwA s b := Nat.not_le.mpr hbl
  have ci : ∀ j : Nat, j < 5 → vp_in (nI (5 * k) + nI j) L := fun j hj => by rw [nI_add]; exact vp_in_nI (by omega) (by omega)
  refine lv_aload_n hx hb dL_law_1006 rfl (lv_at hl 2 rfl) ?_
  refine lv_aload_n hx hb dL_law_1007 rfl (lv_at hl 3 rfl) ?_
  refine lv_iload_n hx hb dL_law_1008 rfl (lv_at hl 0 rfl) ?_
  refine lv_iconst (v := (1 : Int32)) hx hb dL_law_1009 (by decide) ?_
  refine lv_iadd hx hb dL_law_1010 ?_
  refine va_sld hx hb hX hbl hbA hW.2.2.2.2.1 (ci 1 (by decide)) dL_law_1011 ?_
  refine lv_aload_n hx hb dL_law_1012 rfl (lv_at hl 3 rfl) ?_
  refine lv_iload_n hx hb dL_law_1013 rfl (lv_at hl 0 rfl) ?_
  refine lv_iconst (v := (2 : Int32)) hx hb dL_law_1014 (by decide) ?_
  refine lv_iadd hx hb dL_law_1015 ?_
  refine va_sld hx hb hX hbl hbA hW.2.2.2.2.1 (ci 2 (by decide)) dL_law_1016 ?_
  refine lv_aload_n hx hb dL_law_1017 rfl (lv_at hl 3 rfl) ?_
  refine lv_iload_n hx hb dL_law_1018 rfl (lv_at hl 0 rfl) ?_
  refine lv_iconst (v := (3 : Int32)) hx hb dL_law_1019 (by decide) ?_
  refine lv_iadd hx hb dL_law_1020 ?_
  refine va_sld hx hb hX hbl hbA hW.2.2.2.2.1 (ci 3 (by decide)) dL_law_1021 ?_
  obtain ⟨q, ρ1, μ1, e1, e2, hI⟩ := st_lend hI ((xs ((nI (5 * k)) + (1 : Int32)).toNatClampNeg)) ((xs ((nI (5 * k)) + (2 : Int32)).toNatClampNeg)) ((xs ((nI (5 * k)) + (3 : Int32)).toNatClampNeg))
  refine lwRw (As := [.int (xs ((nI (5 * k)) + (1 : Int32)).toNatClampNeg), .int (xs ((nI (5 * k)) + (2 : Int32)).toNatClampNeg), .int (xs ((nI (5 * k)) + (3 : Int32)).toNatClampNeg)]) (rest := []) ⟨hx, hb, hml, hown, hts⟩ (cR_X9_lend l D cs ad tb _ ρ ((xs ((nI (5 * k)) + (1 : Int32)).toNatClampNeg)) ((xs ((nI (5 * k)) + (2 : Int32)).toNatClampNeg)) ((xs ((nI (5 * k)) + (3 : Int32)).toNatClampNeg)) _ e1) (lc_9_lend hts) ⟨by show _ ≤ 600000; omega, by show _ ≤ 7302250; omega⟩ hKR hZ hW rfl hl.1 rfl (lv_room (Nat.le_of_ble_eq_true rfl)) dL_law_1022 (fun H hW => ?_)
  refine W.widen (k := 84 + 4 * (k + 1)) (n := 18955 + 250 * (k + 1)) (by omega) (by omega) ?_
  refine lv_aload_n hx hb dL_law_1025 rfl (lv_at hl 1 rfl) ?_
  refine lv_aload_n hx hb dL_law_1026 rfl (lv_at hl 3 rfl) ?_
  refine lv_iload_n hx hb dL_law_1027 rfl (lv_at hl 0 rfl) ?_
  refine lv_iconst (v := (1 : Int32)) hx hb dL_law_1028 (by decide) ?_
  refine lv_iadd hx hb dL_law_1029 ?_
  refine va_sld hx hb hX hbl hbA hW.2.2.2.2.1 (ci 1 (by decide)) dL_law_1030 ?_
  refine lv_aload_n hx hb dL_law_1031 rfl (lv_at hl 3 rfl) ?_
  refine lv_iload_n hx hb dL_law_1032 rfl (lv_at hl 0 rfl) ?_
  refine lv_iconst (v := (2 : Int32)) hx hb dL_law_1033 (by decide) ?_
  refine lv_iadd hx hb dL_law_1034 ?_
  refine va_sld hx hb hX hbl hbA hW.2.2.2.2.1 (ci 2 (by decide)) dL_law_1035 ?_
  refine lv_aload_n hx hb dL_law_1036 rfl (lv_at hl 3 rfl) ?_
  refine lv_iload_n hx hb dL_law_1037 rfl (lv_at hl 0 rfl) ?_
  refine lv_iconst (v := (3 : Int32)) hx hb dL_law_1038 (by decide) ?_
  refine lv_iadd hx hb dL_law_1039 ?_
  refine va_sld hx hb hX hbl hbA hW.2.2.2.2.1 (ci 3 (by decide)) dL_law_1040 ?_
  refine lwMw (As := [.int (xs ((nI (5 * k)) + (1 : Int32)).toNatClampNeg), .int (xs ((nI (5 * k)) + (2 : Int32)).toNatClampNeg), .int (xs ((nI (5 * k)) + (3 : Int32)).toNatClampNeg)]) (rest := [.int q]) ⟨hx, hb, hml, hown, hts⟩ (cM_lend l D (cs 0) cZ hM adM _ μ ((xs ((nI (5 * k)) + (1 : Int32)).toNatClampNeg)) ((xs ((nI (5 * k)) + (2 : Int32)).toNatClampNeg)) ((xs ((nI (5 * k)) + (3 : Int32)).toNatClampNeg)) _ e2) (lc_10_lend hts) ⟨by show _ ≤ 600000; omega, by show _ ≤ 7302250; omega⟩ hKM hW rfl hl.1 rfl (lv_room (Nat.le_of_ble_eq_true rfl)) dL_law_1041 (fun H hW => ?_)
  refine lv_icmp_eq (tgt := 1151) hx hb dL_law_1044 (by decide) (fun _ => ?_) (fun c9 => absurd rfl c9)
  exact kk H ρ1 μ1 hW hI
set_option maxHeartbeats 4000000 in
set_option maxRecDepth 100000 in
theorem la_back {p : Program} {e : Env} {s : State} {m : MethodId} {below : List Frame} {meth : Method} {c : Code} (l : Launch) {b L : Nat} {xs : Nat → Int32} (hL : L ≤ 2560) (C0 : lw_At p s m meth c b L xs) (D : va_G) (cs : Nat → ClassId) (ad tb : Nat → Nat) (cZ : ClassId) (hM : Nat) (adM : Nat → Nat) (hKR : va_K D vwCl (tyR cs) s) (hKM : va_K D vwCl (tyM (cs 0) cZ) s) (hZ : stR tb (lwR s (cs 0) cZ hM adM) s s.heap) (k : Nat) (hk : 5 * k + 5 ≤ L) {H : Heap} {ρ : RS} {μ : MS} (hW : lwW D cs ad cZ hM adM s H ρ μ) (hI : Inv ρ μ) {ls : Array Slot} (hl : lv_has ls 4 [(3, .int (nI (5 * k))), (2, .ref hM), (1, .ref (ad 1009)), (0, .ref b)]) (kk : ∀ (H1 : Heap) (ρ1 : RS) (μ1 : MS), lwW D cs ad cZ hM adM s H1 ρ1 μ1 → Inv ρ1 μ1 → W p l e room_1 s m #[Value.ref b] below meth c H1 [] (84 + 4 * (k + 1)) (18955 + 250 * (k + 1)) (lw_Z below #[Value.ref b] s) (F0 m 1151 ls [])) : W p l e room_1 s m #[Value.ref b] below meth c H [] (84 + 4 * k) (18955 + 250 * k) (lw_Z below #[Value.ref b] s) (F0 m 1049 ls []) := by
  obtain ⟨hx, hb, hr, hml, hown, hts, hX, hbl, hlocks, hgv⟩ := id C0
  have hbA : ¬ lwA s b := Nat.not_le.mpr hbl
  have ci : ∀ j : Nat, j < 5 → vp_in (nI (5 * k) + nI j) L := fun j hj => by rw [nI_add]; exact vp_in_nI (by omega) (by omega)
  refine lv_aload_n hx hb dL_law_1049 rfl (lv_at hl 2 rfl) ?_
  refine lv_aload_n hx hb dL_law_1050 rfl (lv_at hl 3 rfl) ?_
  refine lv_iload_n hx hb dL_law_1051 rfl (lv_at hl 0 rfl) ?_
  refine lv_iconst (v := (1 : Int32)) hx hb dL_law_1052 (by decide) ?_
  refine lv_iadd hx hb dL_law_1053 ?_
  refine va_sld hx hb hX hbl hbA hW.2.2.2.2.1 (ci 1 (by decide)) dL_law_1054 ?_
  refine lv_aload_n hx hb dL_law_1055 rfl (lv_at hl 3 rfl) ?_
  refine lv_iload_n hx hb dL_law_1056 rfl (lv_at hl 0 rfl) ?_
  refine lv_iconst (v := (2 : Int32)) hx hb dL_law_1057 (by decide) ?_
  refine lv_iadd hx hb dL_law_1058 ?_
  refine va_sld hx hb hX hbl hbA hW.2.2.2.2.1 (ci 2 (by decide)) dL_law_1059 ?_
  obtain ⟨q, ρ1, μ1, e1, e2, hI⟩ := st_back hI ((xs ((nI (5 * k)) + (1 : Int32)).toNatClampNeg)) ((xs ((nI (5 * k)) + (2 : Int32)).toNatClampNeg))
  refine lwRw (As := [.int (xs ((nI (5 * k)) + (1 : Int32)).toNatClampNeg), .int (xs ((nI (5 * k)) + (2 : Int32)).toNatClampNeg)]) (rest := []) ⟨hx, hb, hml, hown, hts⟩ (cR_X9_back l D cs ad tb _ ρ ((xs ((nI (5 * k)) + (1 : Int32)).toNatClampNeg)) ((xs ((nI (5 * k)) + (2 : Int32)).toNatClampNeg)) _ e1) (lc_9_back hts) ⟨by show _ ≤ 600000; omega, by show _ ≤ 7302250; omega⟩ hKR hZ hW rfl hl.1 rfl (lv_room (Nat.le_of_ble_eq_true rfl)) dL_law_1060 (fun H hW => ?_)
  refine W.widen (k := 84 + 4 * (k + 1)) (n := 18955 + 250 * (k + 1)) (by omega) (by omega) ?_
  refine lv_aload_n hx hb dL_law_1063 rfl (lv_at hl 1 rfl) ?_
  refine lv_aload_n hx hb dL_law_1064 rfl (lv_at hl 3 rfl) ?_
  refine lv_iload_n hx hb dL_law_1065 rfl (lv_at hl 0 rfl) ?_
  refine lv_iconst (v := (1 : Int32)) hx hb dL_law_1066 (by decide) ?_
  refine lv_iadd hx hb dL_law_1067 ?_
  refine va_sld hx hb hX hbl hbA hW.2.2.2.2.1 (ci 1 (by decide)) dL_law_1068 ?_
  refine lv_aload_n hx hb dL_law_1069 rfl (lv_at hl 3 rfl) ?_
  refine lv_iload_n hx hb dL_law_1070 rfl (lv_at hl 0 rfl) ?_
  refine lv_iconst (v := (2 : Int32)) hx hb dL_law_1071 (by decide) ?_
  refine lv_iadd hx hb dL_law_1072 ?_
  refine va_sld hx hb hX hbl hbA hW.2.2.2.2.1 (ci 2 (by decide)) dL_law_1073 ?_
  refine lwMw (As := [.int (xs ((nI (5 * k)) + (1 : Int32)).toNatClampNeg), .int (xs ((nI (5 * k)) + (2 : Int32)).toNatClampNeg)]) (rest := [.int q]) ⟨hx, hb, hml, hown, hts⟩ (cM_back l D (cs 0) cZ hM adM _ μ ((xs ((nI (5 * k)) + (1 : Int32)).toNatClampNeg)) ((xs ((nI (5 * k)) + (2 : Int32)).toNatClampNeg)) _ e2) (lc_10_back hts) ⟨by show _ ≤ 600000; omega, by show _ ≤ 7302250; omega⟩ hKM hW rfl hl.1 rfl (lv_room (Nat.le_of_ble_eq_true rfl)) dL_law_1074 (fun H hW => ?_)
  refine lv_icmp_eq (tgt := 1151) hx hb dL_law_1077 (by decide) (fun _ => ?_) (fun c9 => absurd rfl c9)
  exact kk H ρ1 μ1 hW hI
set_option maxHeartbeats 4000000 in
set_option maxRecDepth 100000 in
theorem la_clothe {p : Program} {e : Env} {s : State} {m : MethodId} {below : List Frame} {meth : Method} {c : Code} (l : Launch) {b L : Nat} {xs : Nat → Int32} (hL : L ≤ 2560) (C0 : lw_At p s m meth c b L xs) (D : va_G) (cs : Nat → ClassId) (ad tb : Nat → Nat) (cZ : ClassId) (hM : Nat) (adM : Nat → Nat) (hKR : va_K D vwCl (tyR cs) s) (hKM : va_K D vwCl (tyM (cs 0) cZ) s) (hZ : stR tb (lwR s (cs 0) cZ hM adM) s s.heap) (k : Nat) (hk : 5 * k + 5 ≤ L) {H : Heap} {ρ : RS} {μ : MS} (hW : lwW D cs ad cZ hM adM s H ρ μ) (hI : Inv ρ μ) {ls : Array Slot} (hl : lv_has ls 4 [(3, .int (nI (5 * k))), (2, .ref hM), (1, .ref (ad 1009)), (0, .ref b)]) (kk : ∀ (H1 : Heap) (ρ1 : RS) (μ1 : MS), lwW D cs ad cZ hM adM s H1 ρ1 μ1 → Inv ρ1 μ1 → W p l e room_1 s m #[Value.ref b] below meth c H1 [] (84 + 4 * (k + 1)) (18955 + 250 * (k + 1)) (lw_Z below #[Value.ref b] s) (F0 m 1151 ls [])) : W p l e room_1 s m #[Value.ref b] below meth c H [] (84 + 4 * k) (18955 + 250 * k) (lw_Z below #[Value.ref b] s) (F0 m 1082 ls []) := by
  obtain ⟨hx, hb, hr, hml, hown, hts, hX, hbl, hlocks, hgv⟩ := id C0
  have hbA : ¬ lwA s b := Nat.not_le.mpr hbl
  have ci : ∀ j : Nat, j < 5 → vp_in (nI (5 * k) + nI j) L := fun j hj => by rw [nI_add]; exact vp_in_nI (by omega) (by omega)
  refine lv_aload_n hx hb dL_law_1082 rfl (lv_at hl 2 rfl) ?_
  refine lv_aload_n hx hb dL_law_1083 rfl (lv_at hl 3 rfl) ?_
  refine lv_iload_n hx hb dL_law_1084 rfl (lv_at hl 0 rfl) ?_
  refine lv_iconst (v := (1 : Int32)) hx hb dL_law_1085 (by decide) ?_
  refine lv_iadd hx hb dL_law_1086 ?_
  refine va_sld hx hb hX hbl hbA hW.2.2.2.2.1 (ci 1 (by decide)) dL_law_1087 ?_
  obtain ⟨q, ρ1, μ1, e1, e2, hI⟩ := st_clothe hI ((xs ((nI (5 * k)) + (1 : Int32)).toNatClampNeg))
  refine lwRw (As := [.int (xs ((nI (5 * k)) + (1 : Int32)).toNatClampNeg)]) (rest := []) ⟨hx, hb, hml, hown, hts⟩ (cR_X9_clothe l D cs ad tb _ ρ ((xs ((nI (5 * k)) + (1 : Int32)).toNatClampNeg)) _ e1) (lc_9_clothe hts) ⟨by show _ ≤ 600000; omega, by show _ ≤ 7302250; omega⟩ hKR hZ hW rfl hl.1 rfl (lv_room (Nat.le_of_ble_eq_true rfl)) dL_law_1088 (fun H hW => ?_)
  refine W.widen (k := 84 + 4 * (k + 1)) (n := 18955 + 250 * (k + 1)) (by omega) (by omega) ?_
  refine lv_aload_n hx hb dL_law_1091 rfl (lv_at hl 1 rfl) ?_
  refine lv_aload_n hx hb dL_law_1092 rfl (lv_at hl 3 rfl) ?_
  refine lv_iload_n hx hb dL_law_1093 rfl (lv_at hl 0 rfl) ?_
  refine lv_iconst (v := (1 : Int32)) hx hb dL_law_1094 (by decide) ?_
  refine lv_iadd hx hb dL_law_1095 ?_
  refine va_sld hx hb hX hbl hbA hW.2.2.2.2.1 (ci 1 (by decide)) dL_law_1096 ?_
  refine lwMw (As := [.int (xs ((nI (5 * k)) + (1 : Int32)).toNatClampNeg)]) (rest := [.int q]) ⟨hx, hb, hml, hown, hts⟩ (cM_clothe l D (cs 0) cZ hM adM _ μ ((xs ((nI (5 * k)) + (1 : Int32)).toNatClampNeg)) _ e2) (lc_10_clothe hts) ⟨by show _ ≤ 600000; omega, by show _ ≤ 7302250; omega⟩ hKM hW rfl hl.1 rfl (lv_room (Nat.le_of_ble_eq_true rfl)) dL_law_1097 (fun H hW => ?_)
  refine lv_icmp_eq (tgt := 1151) hx hb dL_law_1100 (by decide) (fun _ => ?_) (fun c9 => absurd rfl c9)
  exact kk H ρ1 μ1 hW hI
set_option maxHeartbeats 4000000 in
set_option maxRecDepth 100000 in
theorem la_gets {p : Program} {e : Env} {s : State} {m : MethodId} {below : List Frame} {meth : Method} {c : Code} (l : Launch) {b L : Nat} {xs : Nat → Int32} (hL : L ≤ 2560) (C0 : lw_At p s m meth c b L xs) (D : va_G) (cs : Nat → ClassId) (ad tb : Nat → Nat) (cZ : ClassId) (hM : Nat) (adM : Nat → Nat) (hKR : va_K D vwCl (tyR cs) s) (hKM : va_K D vwCl (tyM (cs 0) cZ) s) (hZ : stR tb (lwR s (cs 0) cZ hM adM) s s.heap) (k : Nat) (hk : 5 * k + 5 ≤ L) {H : Heap} {ρ : RS} {μ : MS} (hW : lwW D cs ad cZ hM adM s H ρ μ) (hI : Inv ρ μ) {ls : Array Slot} (hl : lv_has ls 4 [(3, .int (nI (5 * k))), (2, .ref hM), (1, .ref (ad 1009)), (0, .ref b)]) (kk : ∀ (H1 : Heap) (ρ1 : RS) (μ1 : MS), lwW D cs ad cZ hM adM s H1 ρ1 μ1 → Inv ρ1 μ1 → W p l e room_1 s m #[Value.ref b] below meth c H1 [] (84 + 4 * (k + 1)) (18955 + 250 * (k + 1)) (lw_Z below #[Value.ref b] s) (F0 m 1151 ls [])) : W p l e room_1 s m #[Value.ref b] below meth c H [] (84 + 4 * k) (18955 + 250 * k) (lw_Z below #[Value.ref b] s) (F0 m 1105 ls []) := by
  obtain ⟨hx, hb, hr, hml, hown, hts, hX, hbl, hlocks, hgv⟩ := id C0
  have hbA : ¬ lwA s b := Nat.not_le.mpr hbl
  have ci : ∀ j : Nat, j < 5 → vp_in (nI (5 * k) + nI j) L := fun j hj => by rw [nI_add]; exact vp_in_nI (by omega) (by omega)
  refine lv_aload_n hx hb dL_law_1105 rfl (lv_at hl 2 rfl) ?_
  refine lv_aload_n hx hb dL_law_1106 rfl (lv_at hl 3 rfl) ?_
  refine lv_iload_n hx hb dL_law_1107 rfl (lv_at hl 0 rfl) ?_
  refine lv_iconst (v := (1 : Int32)) hx hb dL_law_1108 (by decide) ?_
  refine lv_iadd hx hb dL_law_1109 ?_
  refine va_sld hx hb hX hbl hbA hW.2.2.2.2.1 (ci 1 (by decide)) dL_law_1110 ?_
  obtain ⟨q, e1, e2⟩ := st_gets hI ((xs ((nI (5 * k)) + (1 : Int32)).toNatClampNeg))
  refine lwRr (As := [.int (xs ((nI (5 * k)) + (1 : Int32)).toNatClampNeg)]) (rest := []) ⟨hx, hb, hml, hown, hts⟩ (cR_X9_gets l D cs ad tb _ ρ ((xs ((nI (5 * k)) + (1 : Int32)).toNatClampNeg)) _ e1) (lc_9_gets hts) ⟨by show _ ≤ 600000; omega, by show _ ≤ 7302250; omega⟩ hKR hZ hW rfl hl.1 rfl (lv_room (Nat.le_of_ble_eq_true rfl)) dL_law_1111 (fun H hW => ?_)
  refine W.widen (k := 84 + 4 * (k + 1)) (n := 18955 + 250 * (k + 1)) (by omega) (by omega) ?_
  refine lv_aload_n hx hb dL_law_1114 rfl (lv_at hl 1 rfl) ?_
  refine lv_aload_n hx hb dL_law_1115 rfl (lv_at hl 3 rfl) ?_
  refine lv_iload_n hx hb dL_law_1116 rfl (lv_at hl 0 rfl) ?_
  refine lv_iconst (v := (1 : Int32)) hx hb dL_law_1117 (by decide) ?_
  refine lv_iadd hx hb dL_law_1118 ?_
  refine va_sld hx hb hX hbl hbA hW.2.2.2.2.1 (ci 1 (by decide)) dL_law_1119 ?_
  refine lwMr (As := [.int (xs ((nI (5 * k)) + (1 : Int32)).toNatClampNeg)]) (rest := [.int q]) ⟨hx, hb, hml, hown, hts⟩ (cM_gets l D (cs 0) cZ hM adM μ ((xs ((nI (5 * k)) + (1 : Int32)).toNatClampNeg)) _ e2) (lc_10_gets hts) ⟨by show _ ≤ 600000; omega, by show _ ≤ 7302250; omega⟩ hKM hW rfl hl.1 rfl (lv_room (Nat.le_of_ble_eq_true rfl)) dL_law_1120 (fun H hW => ?_)
  refine lv_icmp_eq (tgt := 1151) hx hb dL_law_1123 (by decide) (fun _ => ?_) (fun c9 => absurd rfl c9)
  exact kk H ρ μ hW hI
set_option maxHeartbeats 4000000 in
set_option maxRecDepth 100000 in
theorem la_count {p : Program} {e : Env} {s : State} {m : MethodId} {below : List Frame} {meth : Method} {c : Code} (l : Launch) {b L : Nat} {xs : Nat → Int32} (hL : L ≤ 2560) (C0 : lw_At p s m meth c b L xs) (D : va_G) (cs : Nat → ClassId) (ad tb : Nat → Nat) (cZ : ClassId) (hM : Nat) (adM : Nat → Nat) (hKR : va_K D vwCl (tyR cs) s) (hKM : va_K D vwCl (tyM (cs 0) cZ) s) (hZ : stR tb (lwR s (cs 0) cZ hM adM) s s.heap) (k : Nat) (hk : 5 * k + 5 ≤ L) {H : Heap} {ρ : RS} {μ : MS} (hW : lwW D cs ad cZ hM adM s H ρ μ) (hI : Inv ρ μ) {ls : Array Slot} (hl : lv_has ls 4 [(3, .int (nI (5 * k))), (2, .ref hM), (1, .ref (ad 1009)), (0, .ref b)]) (kk : ∀ (H1 : Heap) (ρ1 : RS) (μ1 : MS), lwW D cs ad cZ hM adM s H1 ρ1 μ1 → Inv ρ1 μ1 → W p l e room_1 s m #[Value.ref b] below meth c H1 [] (84 + 4 * (k + 1)) (18955 + 250 * (k + 1)) (lw_Z below #[Value.ref b] s) (F0 m 1151 ls [])) : W p l e room_1 s m #[Value.ref b] below meth c H [] (84 + 4 * k) (18955 + 250 * k) (lw_Z below #[Value.ref b] s) (F0 m 1128 ls []) := by
  obtain ⟨hx, hb, hr, hml, hown, hts, hX, hbl, hlocks, hgv⟩ := id C0
  have hbA : ¬ lwA s b := Nat.not_le.mpr hbl
  have ci : ∀ j : Nat, j < 5 → vp_in (nI (5 * k) + nI j) L := fun j hj => by rw [nI_add]; exact vp_in_nI (by omega) (by omega)
  refine lv_aload_n hx hb dL_law_1128 rfl (lv_at hl 2 rfl) ?_
  refine lv_aload_n hx hb dL_law_1129 rfl (lv_at hl 3 rfl) ?_
  refine lv_iload_n hx hb dL_law_1130 rfl (lv_at hl 0 rfl) ?_
  refine lv_iconst (v := (1 : Int32)) hx hb dL_law_1131 (by decide) ?_
  refine lv_iadd hx hb dL_law_1132 ?_
  refine va_sld hx hb hX hbl hbA hW.2.2.2.2.1 (ci 1 (by decide)) dL_law_1133 ?_
  obtain ⟨q, e1, e2⟩ := st_count hI ((xs ((nI (5 * k)) + (1 : Int32)).toNatClampNeg))
  refine lwRr (As := [.int (xs ((nI (5 * k)) + (1 : Int32)).toNatClampNeg)]) (rest := []) ⟨hx, hb, hml, hown, hts⟩ (cR_X9_count l D cs ad tb _ ρ ((xs ((nI (5 * k)) + (1 : Int32)).toNatClampNeg)) _ e1) (lc_9_count hts) ⟨by show _ ≤ 600000; omega, by show _ ≤ 7302250; omega⟩ hKR hZ hW rfl hl.1 rfl (lv_room (Nat.le_of_ble_eq_true rfl)) dL_law_1134 (fun H hW => ?_)
  refine W.widen (k := 84 + 4 * (k + 1)) (n := 18955 + 250 * (k + 1)) (by omega) (by omega) ?_
  refine lv_aload_n hx hb dL_law_1137 rfl (lv_at hl 1 rfl) ?_
  refine lv_aload_n hx hb dL_law_1138 rfl (lv_at hl 3 rfl) ?_
  refine lv_iload_n hx hb dL_law_1139 rfl (lv_at hl 0 rfl) ?_
  refine lv_iconst (v := (1 : Int32)) hx hb dL_law_1140 (by decide) ?_
  refine lv_iadd hx hb dL_law_1141 ?_
  refine va_sld hx hb hX hbl hbA hW.2.2.2.2.1 (ci 1 (by decide)) dL_law_1142 ?_
  refine lwMr (As := [.int (xs ((nI (5 * k)) + (1 : Int32)).toNatClampNeg)]) (rest := [.int q]) ⟨hx, hb, hml, hown, hts⟩ (cM_count l D (cs 0) cZ hM adM μ ((xs ((nI (5 * k)) + (1 : Int32)).toNatClampNeg)) _ e2) (lc_10_count hts) ⟨by show _ ≤ 600000; omega, by show _ ≤ 7302250; omega⟩ hKM hW rfl hl.1 rfl (lv_room (Nat.le_of_ble_eq_true rfl)) dL_law_1143 (fun H hW => ?_)
  refine lv_icmp_eq (tgt := 1151) hx hb dL_law_1146 (by decide) (fun _ => ?_) (fun c9 => absurd rfl c9)
  exact kk H ρ μ hW hI
