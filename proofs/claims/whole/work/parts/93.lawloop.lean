set_option maxHeartbeats 4000000 in
set_option maxRecDepth 100000 in
theorem law_loop {p : Program} {e : Env} {s : State} {m : MethodId} {below : List Frame} {meth : Method} {c : Code} (l : Launch) {b L : Nat} {xs : Nat → Int32} (hL : L ≤ 2560) (C0 : lw_At p s m meth c b L xs) (D : va_G) (cs : Nat → ClassId) (ad tb : Nat → Nat) (cZ : ClassId) (hM : Nat) (adM : Nat → Nat) (hKR : va_K D vwCl (tyR cs) s) (hKM : va_K D vwCl (tyM (cs 0) cZ) s) (hZ : stR tb (lwR s (cs 0) cZ hM adM) s s.heap) : ∀ (n k : Nat), k + n = 512 → ∀ (H : Heap) (ρ : RS) (μ : MS) (ls : Array Slot), lwW D cs ad cZ hM adM s H ρ μ → Inv ρ μ → lv_has ls 4 [(3, .int (nI (5 * k))), (2, .ref hM), (1, .ref (ad 1009)), (0, .ref b)] → W p l e room_1 s m #[Value.ref b] below meth c H [] (84 + 4 * k) (18955 + 250 * k) (lw_Z below #[Value.ref b] s) (F0 m 18 ls []) := by
  obtain ⟨hx, hb, hr, hml, hown, hts, hX, hbl, hlocks, hgv⟩ := id C0
  have hbA : ¬ lwA s b := Nat.not_le.mpr hbl
  intro n
  induction n with
  | zero =>
    intro k hkn H ρ μ ls hW hI hl
    refine lv_iload_n hx hb dL_law_18 rfl (lv_at hl 0 rfl) ?_
    refine lv_aload_n hx hb dL_law_19 rfl (lv_at hl 3 rfl) ?_
    refine va_slen hx hb hX hbl hbA hW.2.2.2.2.1 dL_law_20 ?_
    refine lv_iconst (v := (5 : Int32)) hx hb dL_law_21 (by decide) ?_
    refine lv_isub hx hb dL_law_22 ?_
    have hsub : (nI L - nI 5).toInt = (L : Int) - 5 := pk_sub_toInt (by omega) (by omega)
    have h5k : (nI (5 * k)).toInt = ((5 * k : Nat) : Int) := nI_toInt (by omega)
    refine lv_icmp_gt (tgt := 1157) hx hb dL_law_23 (by decide) (fun c_23 => ?_) (fun c_23 => ?_)
    · refine W.widen (k := 600000) (n := 7302250) (by omega) (by omega) ?_
      refine lv_iconst (v := (1 : Int32)) hx hb dL_law_1157 (by decide) ?_
      exact lw_ret hx hb hr hlocks dL_law_1158
    have hk : 5 * k + 5 ≤ L := by
      have c1 : ¬ (nI L - nI 5) < nI (5 * k) := c_23
      rw [Int32.lt_iff_toInt_lt, hsub, h5k] at c1
      omega
    exact absurd hk (by omega)
  | succ n ih =>
    intro k hkn H ρ μ ls hW hI hl
    refine lv_iload_n hx hb dL_law_18 rfl (lv_at hl 0 rfl) ?_
    refine lv_aload_n hx hb dL_law_19 rfl (lv_at hl 3 rfl) ?_
    refine va_slen hx hb hX hbl hbA hW.2.2.2.2.1 dL_law_20 ?_
    refine lv_iconst (v := (5 : Int32)) hx hb dL_law_21 (by decide) ?_
    refine lv_isub hx hb dL_law_22 ?_
    have hsub : (nI L - nI 5).toInt = (L : Int) - 5 := pk_sub_toInt (by omega) (by omega)
    have h5k : (nI (5 * k)).toInt = ((5 * k : Nat) : Int) := nI_toInt (by omega)
    refine lv_icmp_gt (tgt := 1157) hx hb dL_law_23 (by decide) (fun c_23 => ?_) (fun c_23 => ?_)
    · refine W.widen (k := 600000) (n := 7302250) (by omega) (by omega) ?_
      refine lv_iconst (v := (1 : Int32)) hx hb dL_law_1157 (by decide) ?_
      exact lw_ret hx hb hr hlocks dL_law_1158
    have hk : 5 * k + 5 ≤ L := by
      have c1 : ¬ (nI L - nI 5) < nI (5 * k) := c_23
      rw [Int32.lt_iff_toInt_lt, hsub, h5k] at c1
      omega
    have kk : ∀ (H1 : Heap) (ρ1 : RS) (μ1 : MS), lwW D cs ad cZ hM adM s H1 ρ1 μ1 → Inv ρ1 μ1 → W p l e room_1 s m #[Value.ref b] below meth c H1 [] (84 + 4 * (k + 1)) (18955 + 250 * (k + 1)) (lw_Z below #[Value.ref b] s) (F0 m 1151 ls []) := by
      intro H1 ρ1 μ1 hW1 hI1
      refine lv_iinc (v := nI (5 * (k + 1))) (lv' := [(3, .int (nI (5 * (k + 1)))), (2, .ref hM), (1, .ref (ad 1009)), (0, .ref b)]) hx hb dL_law_1151 hl (k := 0) rfl (nI_add (5 * k) 5) (by decide) rfl (fun ls hl => ?_)
      refine lv_goto (tgt := 18) hx hb dL_law_1154 (by decide) ?_
      exact ih (k + 1) (by omega) H1 ρ1 μ1 ls hW1 hI1 hl
    refine lv_aload_n hx hb dL_law_26 rfl (lv_at hl 3 rfl) ?_
    refine lv_iload_n hx hb dL_law_27 rfl (lv_at hl 0 rfl) ?_
    refine va_sld hx hb hX hbl hbA hW.2.2.2.2.1 (vp_in_nI (by omega) (by omega)) dL_law_28 ?_
    refine lv_bipush (v := (31 : Int32)) hx hb dL_law_29 (by decide) ?_
    refine lv_iand hx hb dL_law_31 ?_
    generalize xs (nI (5 * k)).toNatClampNeg &&& (31 : Int32) = v
    by_cases c_0 : v = (0 : Int32)
    · refine lv_tableIn (off := 132) (tgt := 164) hx hb dL_law_32 (by rw [c_0]; decide) (by rw [c_0]; decide) (by rw [c_0]; rfl) (by decide) ?_
      exact la_feed l hL C0 D cs ad tb cZ hM adM hKR hKM hZ k hk hW hI hl kk
    by_cases c_1 : v = (1 : Int32)
    · refine lv_tableIn (off := 195) (tgt := 227) hx hb dL_law_32 (by rw [c_1]; decide) (by rw [c_1]; decide) (by rw [c_1]; rfl) (by decide) ?_
      exact la_bolt l hL C0 D cs ad tb cZ hM adM hKR hKM hZ k hk hW hI hl kk
    by_cases c_2 : v = (2 : Int32)
    · refine lv_tableIn (off := 228) (tgt := 260) hx hb dL_law_32 (by rw [c_2]; decide) (by rw [c_2]; decide) (by rw [c_2]; rfl) (by decide) ?_
      exact la_about l hL C0 D cs ad tb cZ hM adM hKR hKM hZ k hk hW hI hl kk
    by_cases c_3 : v = (3 : Int32)
    · refine lv_tableIn (off := 261) (tgt := 293) hx hb dL_law_32 (by rw [c_3]; decide) (by rw [c_3]; decide) (by rw [c_3]; rfl) (by decide) ?_
      exact la_row l hL C0 D cs ad tb cZ hM adM hKR hKM hZ k hk hW hI hl kk
    by_cases c_4 : v = (4 : Int32)
    · refine lv_tableIn (off := 304) (tgt := 336) hx hb dL_law_32 (by rw [c_4]; decide) (by rw [c_4]; decide) (by rw [c_4]; rfl) (by decide) ?_
      exact la_wash l hL C0 D cs ad tb cZ hM adM hKR hKM hZ k hk hW hI hl kk
    by_cases c_5 : v = (5 : Int32)
    · refine lv_tableIn (off := 327) (tgt := 359) hx hb dL_law_32 (by rw [c_5]; decide) (by rw [c_5]; decide) (by rw [c_5]; rfl) (by decide) ?_
      exact la_dye l hL C0 D cs ad tb cZ hM adM hKR hKM hZ k hk hW hI hl kk
    by_cases c_6 : v = (6 : Int32)
    · refine lv_tableIn (off := 360) (tgt := 392) hx hb dL_law_32 (by rw [c_6]; decide) (by rw [c_6]; decide) (by rw [c_6]; rfl) (by decide) ?_
      exact la_measure l hL C0 D cs ad tb cZ hM adM hKR hKM hZ k hk hW hI hl kk
    by_cases c_7 : v = (7 : Int32)
    · refine lv_tableIn (off := 403) (tgt := 435) hx hb dL_law_32 (by rw [c_7]; decide) (by rw [c_7]; decide) (by rw [c_7]; rfl) (by decide) ?_
      exact la_set l hL C0 D cs ad tb cZ hM adM hKR hKM hZ k hk hW hI hl kk
    by_cases c_8 : v = (8 : Int32)
    · refine lv_tableIn (off := 436) (tgt := 468) hx hb dL_law_32 (by rw [c_8]; decide) (by rw [c_8]; decide) (by rw [c_8]; rfl) (by decide) ?_
      exact la_sleeves l hL C0 D cs ad tb cZ hM adM hKR hKM hZ k hk hW hI hl kk
    by_cases c_9 : v = (9 : Int32)
    · refine lv_tableIn (off := 459) (tgt := 491) hx hb dL_law_32 (by rw [c_9]; decide) (by rw [c_9]; decide) (by rw [c_9]; rfl) (by decide) ?_
      exact la_ugly l hL C0 D cs ad tb cZ hM adM hKR hKM hZ k hk hW hI hl kk
    by_cases c_10 : v = (10 : Int32)
    · refine lv_tableIn (off := 502) (tgt := 534) hx hb dL_law_32 (by rw [c_10]; decide) (by rw [c_10]; decide) (by rw [c_10]; rfl) (by decide) ?_
      exact la_best l hL C0 D cs ad tb cZ hM adM hKR hKM hZ k hk hW hI hl kk
    by_cases c_11 : v = (11 : Int32)
    · refine lv_tableIn (off := 525) (tgt := 557) hx hb dL_law_32 (by rw [c_11]; decide) (by rw [c_11]; decide) (by rw [c_11]; rfl) (by decide) ?_
      exact la_laid l hL C0 D cs ad tb cZ hM adM hKR hKM hZ k hk hW hI hl kk
    by_cases c_12 : v = (12 : Int32)
    · refine lv_tableIn (off := 548) (tgt := 580) hx hb dL_law_32 (by rw [c_12]; decide) (by rw [c_12]; decide) (by rw [c_12]; rfl) (by decide) ?_
      exact la_sew l hL C0 D cs ad tb cZ hM adM hKR hKM hZ k hk hW hI hl kk
    by_cases c_13 : v = (13 : Int32)
    · refine lv_tableIn (off := 591) (tgt := 623) hx hb dL_law_32 (by rw [c_13]; decide) (by rw [c_13]; decide) (by rw [c_13]; rfl) (by decide) ?_
      exact la_robe l hL C0 D cs ad tb cZ hM adM hKR hKM hZ k hk hW hI hl kk
    by_cases c_14 : v = (14 : Int32)
    · refine lv_tableIn (off := 624) (tgt := 656) hx hb dL_law_32 (by rw [c_14]; decide) (by rw [c_14]; decide) (by rw [c_14]; rfl) (by decide) ?_
      exact la_piece l hL C0 D cs ad tb cZ hM adM hKR hKM hZ k hk hW hI hl kk
    by_cases c_15 : v = (15 : Int32)
    · refine lv_tableIn (off := 677) (tgt := 709) hx hb dL_law_32 (by rw [c_15]; decide) (by rw [c_15]; decide) (by rw [c_15]; rfl) (by decide) ?_
      exact la_miss l hL C0 D cs ad tb cZ hM adM hKR hKM hZ k hk hW hI hl kk
    by_cases c_16 : v = (16 : Int32)
    · refine lv_tableIn (off := 710) (tgt := 742) hx hb dL_law_32 (by rw [c_16]; decide) (by rw [c_16]; decide) (by rw [c_16]; rfl) (by decide) ?_
      exact la_wear l hL C0 D cs ad tb cZ hM adM hKR hKM hZ k hk hW hI hl kk
    by_cases c_17 : v = (17 : Int32)
    · refine lv_tableIn (off := 733) (tgt := 765) hx hb dL_law_32 (by rw [c_17]; decide) (by rw [c_17]; decide) (by rw [c_17]; rfl) (by decide) ?_
      exact la_unpick l hL C0 D cs ad tb cZ hM adM hKR hKM hZ k hk hW hI hl kk
    by_cases c_18 : v = (18 : Int32)
    · refine lv_tableIn (off := 776) (tgt := 808) hx hb dL_law_32 (by rw [c_18]; decide) (by rw [c_18]; decide) (by rw [c_18]; rfl) (by decide) ?_
      exact la_line l hL C0 D cs ad tb cZ hM adM hKR hKM hZ k hk hW hI hl kk
    by_cases c_19 : v = (19 : Int32)
    · refine lv_tableIn (off := 809) (tgt := 841) hx hb dL_law_32 (by rw [c_19]; decide) (by rw [c_19]; decide) (by rw [c_19]; rfl) (by decide) ?_
      exact la_unline l hL C0 D cs ad tb cZ hM adM hKR hKM hZ k hk hW hI hl kk
    by_cases c_20 : v = (20 : Int32)
    · refine lv_tableIn (off := 832) (tgt := 864) hx hb dL_law_32 (by rw [c_20]; decide) (by rw [c_20]; decide) (by rw [c_20]; rfl) (by decide) ?_
      exact la_rules l hL C0 D cs ad tb cZ hM adM hKR hKM hZ k hk hW hI hl kk
    by_cases c_21 : v = (21 : Int32)
    · refine lv_tableIn (off := 855) (tgt := 887) hx hb dL_law_32 (by rw [c_21]; decide) (by rw [c_21]; decide) (by rw [c_21]; rfl) (by decide) ?_
      exact la_chest l hL C0 D cs ad tb cZ hM adM hKR hKM hZ k hk hW hI hl kk
    by_cases c_22 : v = (22 : Int32)
    · refine lv_tableIn (off := 888) (tgt := 920) hx hb dL_law_32 (by rw [c_22]; decide) (by rw [c_22]; decide) (by rw [c_22]; rfl) (by decide) ?_
      exact la_person l hL C0 D cs ad tb cZ hM adM hKR hKM hZ k hk hW hI hl kk
    by_cases c_23 : v = (23 : Int32)
    · refine lv_tableIn (off := 931) (tgt := 963) hx hb dL_law_32 (by rw [c_23]; decide) (by rw [c_23]; decide) (by rw [c_23]; rfl) (by decide) ?_
      exact la_may l hL C0 D cs ad tb cZ hM adM hKR hKM hZ k hk hW hI hl kk
    by_cases c_24 : v = (24 : Int32)
    · refine lv_tableIn (off := 974) (tgt := 1006) hx hb dL_law_32 (by rw [c_24]; decide) (by rw [c_24]; decide) (by rw [c_24]; rfl) (by decide) ?_
      exact la_lend l hL C0 D cs ad tb cZ hM adM hKR hKM hZ k hk hW hI hl kk
    by_cases c_25 : v = (25 : Int32)
    · refine lv_tableIn (off := 1017) (tgt := 1049) hx hb dL_law_32 (by rw [c_25]; decide) (by rw [c_25]; decide) (by rw [c_25]; rfl) (by decide) ?_
      exact la_back l hL C0 D cs ad tb cZ hM adM hKR hKM hZ k hk hW hI hl kk
    by_cases c_26 : v = (26 : Int32)
    · refine lv_tableIn (off := 1050) (tgt := 1082) hx hb dL_law_32 (by rw [c_26]; decide) (by rw [c_26]; decide) (by rw [c_26]; rfl) (by decide) ?_
      exact la_clothe l hL C0 D cs ad tb cZ hM adM hKR hKM hZ k hk hW hI hl kk
    by_cases c_27 : v = (27 : Int32)
    · refine lv_tableIn (off := 1073) (tgt := 1105) hx hb dL_law_32 (by rw [c_27]; decide) (by rw [c_27]; decide) (by rw [c_27]; rfl) (by decide) ?_
      exact la_gets l hL C0 D cs ad tb cZ hM adM hKR hKM hZ k hk hW hI hl kk
    by_cases c_28 : v = (28 : Int32)
    · refine lv_tableIn (off := 1096) (tgt := 1128) hx hb dL_law_32 (by rw [c_28]; decide) (by rw [c_28]; decide) (by rw [c_28]; rfl) (by decide) ?_
      exact la_count l hL C0 D cs ad tb cZ hM adM hKR hKM hZ k hk hW hI hl kk
    refine lv_tableOut (tgt := 1151) hx hb dL_law_32 (by have a0 : ¬ v.toInt = 0 := ob_ti c_0; have a1 : ¬ v.toInt = 1 := ob_ti c_1; have a2 : ¬ v.toInt = 2 := ob_ti c_2; have a3 : ¬ v.toInt = 3 := ob_ti c_3; have a4 : ¬ v.toInt = 4 := ob_ti c_4; have a5 : ¬ v.toInt = 5 := ob_ti c_5; have a6 : ¬ v.toInt = 6 := ob_ti c_6; have a7 : ¬ v.toInt = 7 := ob_ti c_7; have a8 : ¬ v.toInt = 8 := ob_ti c_8; have a9 : ¬ v.toInt = 9 := ob_ti c_9; have a10 : ¬ v.toInt = 10 := ob_ti c_10; have a11 : ¬ v.toInt = 11 := ob_ti c_11; have a12 : ¬ v.toInt = 12 := ob_ti c_12; have a13 : ¬ v.toInt = 13 := ob_ti c_13; have a14 : ¬ v.toInt = 14 := ob_ti c_14; have a15 : ¬ v.toInt = 15 := ob_ti c_15; have a16 : ¬ v.toInt = 16 := ob_ti c_16; have a17 : ¬ v.toInt = 17 := ob_ti c_17; have a18 : ¬ v.toInt = 18 := ob_ti c_18; have a19 : ¬ v.toInt = 19 := ob_ti c_19; have a20 : ¬ v.toInt = 20 := ob_ti c_20; have a21 : ¬ v.toInt = 21 := ob_ti c_21; have a22 : ¬ v.toInt = 22 := ob_ti c_22; have a23 : ¬ v.toInt = 23 := ob_ti c_23; have a24 : ¬ v.toInt = 24 := ob_ti c_24; have a25 : ¬ v.toInt = 25 := ob_ti c_25; have a26 : ¬ v.toInt = 26 := ob_ti c_26; have a27 : ¬ v.toInt = 27 := ob_ti c_27; have a28 : ¬ v.toInt = 28 := ob_ti c_28; omega) (by decide) ?_
    refine W.widen (k := 84 + 4 * (k + 1)) (n := 18955 + 250 * (k + 1)) (by omega) (by omega) ?_
    exact kk H ρ μ hW hI
