theorem vk_Scong {N : Nat} {len : List Nat} {byt : List (List Int32)} {k1 v1 k2 v2 : Nat → Nat} {A : Nat → Prop} {U : State} {H : Heap} (h : vk_S N len byt k1 v1 A U H) (hk : ∀ i, i < N → k1 i = k2 i) (hv : ∀ i, i < N → v1 i = v2 i) : vk_S N len byt k2 v2 A U H :=
  ⟨fun i hi => by rw [← hk i hi, ← hv i hi]; exact h.1 i hi, fun i j hi hj e => h.2 i j hi hj (by rw [hk i hi, hk j hj]; exact e)⟩
set_option maxHeartbeats 4000000 in
set_option maxRecDepth 100000 in
theorem lw_stat {s : State} {b : Nat} {A : Nat → Prop} (hts : ∀ w ∈ lw_tbl, w.before #[Value.ref b] s = true) (hgv : (Jvm.Cond.and given_1 narrow_1).before #[Value.ref b] s = true) (hA : ∀ a : Nat, a < s.heap.size → ¬ A a) : ∃ tb : Nat → Nat, stR tb A s s.heap := by
  have hf := flat_of_before _ hgv
  obtain ⟨t1, et1, hT1⟩ := va_Tof (tm := .static "RobeHouse" "SEWN_TO" "[I") (ty := .int) (N := 5) (f := fun j => .int (tbW j)) (A := A) (by decide) (hf _ (List.mem_of_getElem? (i := 5) rfl)) (va_eqt (z := 5) (hf _ (List.mem_of_getElem? (i := 6) rfl))) (fun j hj => by
    match j, hj with
    | 0, _ => exact va_eqt (z := 0) (hf _ (List.mem_of_getElem? (i := 7) rfl))
    | 1, _ => exact va_eqt (z := 0) (hf _ (List.mem_of_getElem? (i := 8) rfl))
    | 2, _ => exact va_eqt (z := 1) (hf _ (List.mem_of_getElem? (i := 9) rfl))
    | 3, _ => exact va_eqt (z := 0) (hf _ (List.mem_of_getElem? (i := 10) rfl))
    | 4, _ => exact va_eqt (z := 4) (hf _ (List.mem_of_getElem? (i := 11) rfl))
    | j + 5, hj => exact absurd hj (by omega)) hA
  obtain ⟨t2, et2, hT2⟩ := va_Tof (tm := .static "RobeHouse$Search" "SEAM_KIND" "[I") (ty := .int) (N := 5) (f := fun j => .int (tbK j)) (A := A) (by decide) (hf _ (List.mem_of_getElem? (i := 13) rfl)) (va_eqt (z := 5) (hf _ (List.mem_of_getElem? (i := 14) rfl))) (fun j hj => by
    match j, hj with
    | 0, _ => exact va_eqt (z := 0) (hf _ (List.mem_of_getElem? (i := 15) rfl))
    | 1, _ => exact va_eqt (z := 1) (hf _ (List.mem_of_getElem? (i := 16) rfl))
    | 2, _ => exact va_eqt (z := 1) (hf _ (List.mem_of_getElem? (i := 17) rfl))
    | 3, _ => exact va_eqt (z := 2) (hf _ (List.mem_of_getElem? (i := 18) rfl))
    | 4, _ => exact va_eqt (z := 3) (hf _ (List.mem_of_getElem? (i := 19) rfl))
    | j + 5, hj => exact absurd hj (by omega)) hA
  obtain ⟨adK, adV, hKV, hev⟩ := vk_Sof (args := #[Value.ref b]) (s := s) (N := 6) (tm := fun i => .string "RobeHouse$RuleReader" (15 + 2 * i)) (len := lenJ) (byt := bytJ) (A := A) (fun i hi => by match i, hi with
    | 0, _ => exact (by decide)
    | 1, _ => exact (by decide)
    | 2, _ => exact (by decide)
    | 3, _ => exact (by decide)
    | 4, _ => exact (by decide)
    | 5, _ => exact (by decide)
    | i + 6, hi => exact absurd hi (by omega))
    (fun i hi => by match i, hi with
    | 0, _ => exact (hf _ (List.mem_of_getElem? (i := 25) rfl))
    | 1, _ => exact (hf _ (List.mem_of_getElem? (i := 35) rfl))
    | 2, _ => exact (hf _ (List.mem_of_getElem? (i := 43) rfl))
    | 3, _ => exact (hf _ (List.mem_of_getElem? (i := 53) rfl))
    | 4, _ => exact (hf _ (List.mem_of_getElem? (i := 66) rfl))
    | 5, _ => exact (hf _ (List.mem_of_getElem? (i := 79) rfl))
    | i + 6, hi => exact absurd hi (by omega))
    (fun i hi => by match i, hi with
    | 0, _ => exact (hf _ (List.mem_of_getElem? (i := 26) rfl))
    | 1, _ => exact (hf _ (List.mem_of_getElem? (i := 36) rfl))
    | 2, _ => exact (hf _ (List.mem_of_getElem? (i := 44) rfl))
    | 3, _ => exact (hf _ (List.mem_of_getElem? (i := 54) rfl))
    | 4, _ => exact (hf _ (List.mem_of_getElem? (i := 67) rfl))
    | 5, _ => exact (hf _ (List.mem_of_getElem? (i := 80) rfl))
    | i + 6, hi => exact absurd hi (by omega))
    (fun i hi => by match i, hi with
    | 0, _ => exact (hf _ (List.mem_of_getElem? (i := 27) rfl))
    | 1, _ => exact (hf _ (List.mem_of_getElem? (i := 37) rfl))
    | 2, _ => exact (hf _ (List.mem_of_getElem? (i := 45) rfl))
    | 3, _ => exact (hf _ (List.mem_of_getElem? (i := 55) rfl))
    | 4, _ => exact (hf _ (List.mem_of_getElem? (i := 68) rfl))
    | 5, _ => exact (hf _ (List.mem_of_getElem? (i := 81) rfl))
    | i + 6, hi => exact absurd hi (by omega))
    (fun i hi => by match i, hi with
    | 0, _ => exact (hf _ (List.mem_of_getElem? (i := 28) rfl))
    | 1, _ => exact (hf _ (List.mem_of_getElem? (i := 38) rfl))
    | 2, _ => exact (hf _ (List.mem_of_getElem? (i := 46) rfl))
    | 3, _ => exact (hf _ (List.mem_of_getElem? (i := 56) rfl))
    | 4, _ => exact (hf _ (List.mem_of_getElem? (i := 69) rfl))
    | 5, _ => exact (hf _ (List.mem_of_getElem? (i := 82) rfl))
    | i + 6, hi => exact absurd hi (by omega))
    (fun i hi j hj => by match i, hi with
    | 0, _ =>
      have hj : j < 6 := hj
      match j, hj with
      | 0, _ => exact (hf _ (List.mem_of_getElem? (i := 29) rfl))
      | 1, _ => exact (hf _ (List.mem_of_getElem? (i := 30) rfl))
      | 2, _ => exact (hf _ (List.mem_of_getElem? (i := 31) rfl))
      | 3, _ => exact (hf _ (List.mem_of_getElem? (i := 32) rfl))
      | 4, _ => exact (hf _ (List.mem_of_getElem? (i := 33) rfl))
      | 5, _ => exact (hf _ (List.mem_of_getElem? (i := 34) rfl))
      | j + 6, hj => exact absurd hj (by omega)
    | 1, _ =>
      have hj : j < 3 := hj
      match j, hj with
      | 0, _ => exact (hf _ (List.mem_of_getElem? (i := 39) rfl))
      | 1, _ => exact (hf _ (List.mem_of_getElem? (i := 40) rfl))
      | 2, _ => exact (hf _ (List.mem_of_getElem? (i := 41) rfl))
      | j + 3, hj => exact absurd hj (by omega)
    | 2, _ =>
      have hj : j < 4 := hj
      match j, hj with
      | 0, _ => exact (hf _ (List.mem_of_getElem? (i := 47) rfl))
      | 1, _ => exact (hf _ (List.mem_of_getElem? (i := 48) rfl))
      | 2, _ => exact (hf _ (List.mem_of_getElem? (i := 49) rfl))
      | 3, _ => exact (hf _ (List.mem_of_getElem? (i := 50) rfl))
      | j + 4, hj => exact absurd hj (by omega)
    | 3, _ =>
      have hj : j < 6 := hj
      match j, hj with
      | 0, _ => exact (hf _ (List.mem_of_getElem? (i := 57) rfl))
      | 1, _ => exact (hf _ (List.mem_of_getElem? (i := 58) rfl))
      | 2, _ => exact (hf _ (List.mem_of_getElem? (i := 59) rfl))
      | 3, _ => exact (hf _ (List.mem_of_getElem? (i := 60) rfl))
      | 4, _ => exact (hf _ (List.mem_of_getElem? (i := 61) rfl))
      | 5, _ => exact (hf _ (List.mem_of_getElem? (i := 62) rfl))
      | j + 6, hj => exact absurd hj (by omega)
    | 4, _ =>
      have hj : j < 5 := hj
      match j, hj with
      | 0, _ => exact (hf _ (List.mem_of_getElem? (i := 70) rfl))
      | 1, _ => exact (hf _ (List.mem_of_getElem? (i := 71) rfl))
      | 2, _ => exact (hf _ (List.mem_of_getElem? (i := 72) rfl))
      | 3, _ => exact (hf _ (List.mem_of_getElem? (i := 73) rfl))
      | 4, _ => exact (hf _ (List.mem_of_getElem? (i := 74) rfl))
      | j + 5, hj => exact absurd hj (by omega)
    | 5, _ =>
      have hj : j < 6 := hj
      match j, hj with
      | 0, _ => exact (hf _ (List.mem_of_getElem? (i := 83) rfl))
      | 1, _ => exact (hf _ (List.mem_of_getElem? (i := 84) rfl))
      | 2, _ => exact (hf _ (List.mem_of_getElem? (i := 85) rfl))
      | 3, _ => exact (hf _ (List.mem_of_getElem? (i := 86) rfl))
      | 4, _ => exact (hf _ (List.mem_of_getElem? (i := 87) rfl))
      | 5, _ => exact (hf _ (List.mem_of_getElem? (i := 88) rfl))
      | j + 6, hj => exact absurd hj (by omega)
    | i + 6, hi => exact absurd hi (by omega))
    (fun i j hi hj hij => by
    rcases (show i = 0 ∨ i = 1 ∨ i = 2 ∨ i = 3 ∨ i = 4 ∨ i = 5 by omega) with rfl | rfl | rfl | rfl | rfl | rfl <;> rcases (show j = 0 ∨ j = 1 ∨ j = 2 ∨ j = 3 ∨ j = 4 ∨ j = 5 by omega) with rfl | rfl | rfl | rfl | rfl | rfl
    · exact absurd rfl hij
    · exact Or.inl (hf _ (List.mem_of_getElem? (i := 42) rfl))
    · exact Or.inl (hf _ (List.mem_of_getElem? (i := 51) rfl))
    · exact Or.inl (hf _ (List.mem_of_getElem? (i := 63) rfl))
    · exact Or.inl (hf _ (List.mem_of_getElem? (i := 75) rfl))
    · exact Or.inl (hf _ (List.mem_of_getElem? (i := 89) rfl))
    · exact Or.inr (hf _ (List.mem_of_getElem? (i := 42) rfl))
    · exact absurd rfl hij
    · exact Or.inl (hf _ (List.mem_of_getElem? (i := 52) rfl))
    · exact Or.inl (hf _ (List.mem_of_getElem? (i := 64) rfl))
    · exact Or.inl (hf _ (List.mem_of_getElem? (i := 76) rfl))
    · exact Or.inl (hf _ (List.mem_of_getElem? (i := 90) rfl))
    · exact Or.inr (hf _ (List.mem_of_getElem? (i := 51) rfl))
    · exact Or.inr (hf _ (List.mem_of_getElem? (i := 52) rfl))
    · exact absurd rfl hij
    · exact Or.inl (hf _ (List.mem_of_getElem? (i := 65) rfl))
    · exact Or.inl (hf _ (List.mem_of_getElem? (i := 77) rfl))
    · exact Or.inl (hf _ (List.mem_of_getElem? (i := 91) rfl))
    · exact Or.inr (hf _ (List.mem_of_getElem? (i := 63) rfl))
    · exact Or.inr (hf _ (List.mem_of_getElem? (i := 64) rfl))
    · exact Or.inr (hf _ (List.mem_of_getElem? (i := 65) rfl))
    · exact absurd rfl hij
    · exact Or.inl (hf _ (List.mem_of_getElem? (i := 78) rfl))
    · exact Or.inl (hf _ (List.mem_of_getElem? (i := 92) rfl))
    · exact Or.inr (hf _ (List.mem_of_getElem? (i := 75) rfl))
    · exact Or.inr (hf _ (List.mem_of_getElem? (i := 76) rfl))
    · exact Or.inr (hf _ (List.mem_of_getElem? (i := 77) rfl))
    · exact Or.inr (hf _ (List.mem_of_getElem? (i := 78) rfl))
    · exact absurd rfl hij
    · exact Or.inl (hf _ (List.mem_of_getElem? (i := 93) rfl))
    · exact Or.inr (hf _ (List.mem_of_getElem? (i := 89) rfl))
    · exact Or.inr (hf _ (List.mem_of_getElem? (i := 90) rfl))
    · exact Or.inr (hf _ (List.mem_of_getElem? (i := 91) rfl))
    · exact Or.inr (hf _ (List.mem_of_getElem? (i := 92) rfl))
    · exact Or.inr (hf _ (List.mem_of_getElem? (i := 93) rfl))
    · exact absurd rfl hij) hA
  refine ⟨fun k => if k < 3 then (if k = 1 then t1 else t2) else if k < 20 then adK (k - 10) else adV (k - 20), ?_⟩
  refine ⟨trivial, trivial, va_Zof (args := #[Value.ref b]) (hts _ (List.mem_append_right _ (show _ ∈ tables_1_1 ++ (tables_1_2 ++ (tables_1_3 ++ (tables_1_4 ++ tables_1_5))) from (List.mem_append_right _ (List.mem_append_left _ (List.mem_of_getElem? (i := 170) rfl)))))) (hts _ (List.mem_append_right _ (show _ ∈ tables_1_1 ++ (tables_1_2 ++ (tables_1_3 ++ (tables_1_4 ++ tables_1_5))) from (List.mem_append_left _ (List.mem_of_getElem? (i := 1) rfl))))) et1 hA, hT1, va_Zof (args := #[Value.ref b]) (hts _ (List.mem_append_right _ (show _ ∈ tables_1_1 ++ (tables_1_2 ++ (tables_1_3 ++ (tables_1_4 ++ tables_1_5))) from (List.mem_append_right _ (List.mem_append_left _ (List.mem_of_getElem? (i := 231) rfl)))))) (hts _ (List.mem_append_right _ (show _ ∈ tables_1_1 ++ (tables_1_2 ++ (tables_1_3 ++ (tables_1_4 ++ tables_1_5))) from (List.mem_append_left _ (List.mem_of_getElem? (i := 4) rfl))))) et2 hA, hT2, ⟨va_Nw.of rfl (hts _ (List.mem_append_right _ (show _ ∈ tables_1_1 ++ (tables_1_2 ++ (tables_1_3 ++ (tables_1_4 ++ tables_1_5))) from (List.mem_append_right _ (List.mem_append_left _ (List.mem_of_getElem? (i := 126) rfl)))))), va_Nw.of rfl (hts _ (List.mem_append_right _ (show _ ∈ tables_1_1 ++ (tables_1_2 ++ (tables_1_3 ++ (tables_1_4 ++ tables_1_5))) from (List.mem_append_right _ (List.mem_append_left _ (List.mem_of_getElem? (i := 148) rfl)))))), va_Nw.of rfl (hts _ (List.mem_append_right _ (show _ ∈ tables_1_1 ++ (tables_1_2 ++ (tables_1_3 ++ (tables_1_4 ++ tables_1_5))) from (List.mem_append_right _ (List.mem_append_left _ (List.mem_of_getElem? (i := 169) rfl)))))), va_Nw.of rfl (hts _ (List.mem_append_right _ (show _ ∈ tables_1_1 ++ (tables_1_2 ++ (tables_1_3 ++ (tables_1_4 ++ tables_1_5))) from (List.mem_append_right _ (List.mem_append_left _ (List.mem_of_getElem? (i := 206) rfl)))))), va_Nw.of rfl (hts _ (List.mem_append_right _ (show _ ∈ tables_1_1 ++ (tables_1_2 ++ (tables_1_3 ++ (tables_1_4 ++ tables_1_5))) from (List.mem_append_right _ (List.mem_append_left _ (List.mem_of_getElem? (i := 43) rfl))))))⟩, ?_, va_Zof (args := #[Value.ref b]) (hts _ (List.mem_append_right _ (show _ ∈ tables_1_1 ++ (tables_1_2 ++ (tables_1_3 ++ (tables_1_4 ++ tables_1_5))) from (List.mem_append_right _ (List.mem_append_right _ (List.mem_append_left _ (List.mem_of_getElem? (i := 150) rfl))))))) (hts _ (List.mem_append_right _ (show _ ∈ tables_1_1 ++ (tables_1_2 ++ (tables_1_3 ++ (tables_1_4 ++ tables_1_5))) from (List.mem_append_left _ (List.mem_of_getElem? (i := 15) rfl))))) (va_eqt (z := 1) (hf _ (List.mem_of_getElem? (i := 20) rfl))) hA, va_Zqof (args := #[Value.ref b]) (hts _ (List.mem_append_right _ (show _ ∈ tables_1_1 ++ (tables_1_2 ++ (tables_1_3 ++ (tables_1_4 ++ tables_1_5))) from (List.mem_append_right _ (List.mem_append_right _ (List.mem_append_left _ (List.mem_of_getElem? (i := 167) rfl))))))) (hts _ (List.mem_append_right _ (show _ ∈ tables_1_1 ++ (tables_1_2 ++ (tables_1_3 ++ (tables_1_4 ++ tables_1_5))) from (List.mem_append_left _ (List.mem_of_getElem? (i := 17) rfl))))) (hf _ (List.mem_of_getElem? (i := 21) rfl)) hA, vk_R.of (hts _ (List.mem_append_right _ (show _ ∈ tables_1_1 ++ (tables_1_2 ++ (tables_1_3 ++ (tables_1_4 ++ tables_1_5))) from (List.mem_append_right _ (List.mem_append_right _ (List.mem_append_left _ (List.mem_of_getElem? (i := 131) rfl))))))) (hev 0 (by decide)), vk_R.of (hts _ (List.mem_append_right _ (show _ ∈ tables_1_1 ++ (tables_1_2 ++ (tables_1_3 ++ (tables_1_4 ++ tables_1_5))) from (List.mem_append_right _ (List.mem_append_right _ (List.mem_append_left _ (List.mem_of_getElem? (i := 132) rfl))))))) (hev 1 (by decide)), vk_R.of (hts _ (List.mem_append_right _ (show _ ∈ tables_1_1 ++ (tables_1_2 ++ (tables_1_3 ++ (tables_1_4 ++ tables_1_5))) from (List.mem_append_right _ (List.mem_append_right _ (List.mem_append_left _ (List.mem_of_getElem? (i := 133) rfl))))))) (hev 2 (by decide)), vk_R.of (hts _ (List.mem_append_right _ (show _ ∈ tables_1_1 ++ (tables_1_2 ++ (tables_1_3 ++ (tables_1_4 ++ tables_1_5))) from (List.mem_append_right _ (List.mem_append_right _ (List.mem_append_left _ (List.mem_of_getElem? (i := 134) rfl))))))) (hev 3 (by decide)), vk_R.of (hts _ (List.mem_append_right _ (show _ ∈ tables_1_1 ++ (tables_1_2 ++ (tables_1_3 ++ (tables_1_4 ++ tables_1_5))) from (List.mem_append_right _ (List.mem_append_right _ (List.mem_append_left _ (List.mem_of_getElem? (i := 135) rfl))))))) (hev 4 (by decide)), vk_R.of (hts _ (List.mem_append_right _ (show _ ∈ tables_1_1 ++ (tables_1_2 ++ (tables_1_3 ++ (tables_1_4 ++ tables_1_5))) from (List.mem_append_right _ (List.mem_append_right _ (List.mem_append_left _ (List.mem_of_getElem? (i := 136) rfl))))))) (hev 5 (by decide))⟩
  exact vk_Scong hKV (fun i hi => by show _ = if 10 + i < 3 then _ else _; rw [if_neg (by omega), if_pos (by omega)]; congr 1; omega) (fun i hi => by show _ = if 20 + i < 3 then _ else _; rw [if_neg (by omega), if_neg (by omega)]; congr 1; omega)
