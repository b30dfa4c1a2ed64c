theorem st_feed {ρ : RS} {μ : MS} (h : Inv ρ μ) (p1 : Int64) (p3 : Int32) : ∃ q ρ' μ', FR_X9_feed ρ p1 p3 = some (q, ρ') ∧ FM_feed μ p1 p3 = some (q, μ') ∧ Inv ρ' μ' := by
  sorry
theorem st_bolt {ρ : RS} {μ : MS} (h : Inv ρ μ) {N : Nat} (hN : Low N ρ) (p1 : Int32) (p2 : Int32) : ∃ q ρ' μ', FR_X9_bolt N ρ p1 p2 = some (q, ρ') ∧ FM_bolt μ p1 p2 = some (q, μ') ∧ Inv ρ' μ' := by
  sorry
theorem st_about {ρ : RS} {μ : MS} (h : Inv ρ μ) (p1 : Int32) (p2 : Int32) : ∃ q, FR_X9_about ρ p1 p2 = some q ∧ FM_about μ p1 p2 = some q := by
  sorry
theorem st_row {ρ : RS} {μ : MS} (h : Inv ρ μ) (p1 : Int32) (p2 : Int32) (p3 : Int32) : ∃ q, FR_X9_row ρ p1 p2 p3 = some q ∧ FM_row μ p1 p2 p3 = some q := by
  sorry
theorem st_wash {ρ : RS} {μ : MS} (h : Inv ρ μ) (p1 : Int32) : ∃ q ρ' μ', FR_X9_wash ρ p1 = some (q, ρ') ∧ FM_wash μ p1 = some (q, μ') ∧ Inv ρ' μ' := by
  sorry
theorem st_dye {ρ : RS} {μ : MS} (h : Inv ρ μ) (p1 : Int32) (p2 : Int32) : ∃ q ρ' μ', FR_X9_dye ρ p1 p2 = some (q, ρ') ∧ FM_dye μ p1 p2 = some (q, μ') ∧ Inv ρ' μ' := by
  sorry
theorem st_measure {ρ : RS} {μ : MS} (h : Inv ρ μ) (p1 : Int32) (p2 : Int32) (p3 : Int32) : ∃ q ρ' μ', FR_X9_measure ρ p1 p2 p3 = some (q, ρ') ∧ FM_measure μ p1 p2 p3 = some (q, μ') ∧ Inv ρ' μ' := by
  sorry
theorem st_set {ρ : RS} {μ : MS} (h : Inv ρ μ) (p1 : Int32) (p2 : Int32) : ∃ q ρ' μ', FR_X9_set ρ p1 p2 = some (q, ρ') ∧ FM_set μ p1 p2 = some (q, μ') ∧ Inv ρ' μ' := by
  sorry
theorem st_sleeves {ρ : RS} {μ : MS} (h : Inv ρ μ) (p1 : Int32) : ∃ q ρ', FR_X9_sleeves ρ p1 = some (q, ρ') ∧ FM_sleeves μ p1 = some q ∧ Inv ρ' μ := by
  sorry
theorem st_ugly {ρ : RS} {μ : MS} (h : Inv ρ μ) (p1 : Int32) (p2 : Int32) (p3 : Int32) : ∃ q ρ' μ', FR_X9_ugly ρ p1 p2 p3 = some (q, ρ') ∧ FM_ugly μ p1 p2 p3 = some (q, μ') ∧ Inv ρ' μ' := by
  sorry
theorem st_best {ρ : RS} {μ : MS} (h : Inv ρ μ) (p1 : Int32) : ∃ q ρ' μ', FR_X9_best ρ p1 = some (q, ρ') ∧ FM_best μ p1 = some (q, μ') ∧ Inv ρ' μ' := by
  sorry
theorem st_laid {ρ : RS} {μ : MS} (h : Inv ρ μ) (p1 : Int32) : ∃ q, FR_X9_laid ρ p1 = some q ∧ FM_laid μ p1 = some q := by
  sorry
theorem st_sew {ρ : RS} {μ : MS} (h : Inv ρ μ) {N : Nat} (hN : Low N ρ) (p1 : Int32) (p2 : Int32) (p3 : Int32) : ∃ q ρ' μ', FR_X9_sew N ρ p1 p2 p3 = some (q, ρ') ∧ FM_sew μ p1 p2 p3 = some (q, μ') ∧ Inv ρ' μ' := by
  sorry
theorem st_robe {ρ : RS} {μ : MS} (h : Inv ρ μ) (p1 : Int32) (p2 : Int32) : ∃ q ρ' μ', FR_X9_robe ρ p1 p2 = some (q, ρ') ∧ FM_robe μ p1 p2 = some (q, μ') ∧ Inv ρ' μ' := by
  sorry
theorem st_piece {ρ : RS} {μ : MS} (h : Inv ρ μ) (p1 : Int32) (p2 : Int32) (p3 : Int32) (p4 : Int32) : ∃ q μ', FR_X9_piece ρ p1 p2 p3 p4 = some q ∧ FM_piece μ p1 p2 p3 p4 = some (q, μ') ∧ Inv ρ μ' := by
  sorry
theorem st_miss {ρ : RS} {μ : MS} (h : Inv ρ μ) (p1 : Int32) (p2 : Int32) : ∃ q ρ' μ', FR_X9_miss ρ p1 p2 = some (q, ρ') ∧ FM_miss μ p1 p2 = some (q, μ') ∧ Inv ρ' μ' := by
  sorry
theorem st_wear {ρ : RS} {μ : MS} (h : Inv ρ μ) (p1 : Int32) : ∃ q ρ' μ', FR_X9_wear ρ p1 = some (q, ρ') ∧ FM_wear μ p1 = some (q, μ') ∧ Inv ρ' μ' := by
  sorry
theorem st_unpick {ρ : RS} {μ : MS} (h : Inv ρ μ) {N : Nat} (hN : Low N ρ) (p1 : Int32) (p2 : Int32) (p3 : Int32) : ∃ q ρ' μ', FR_X9_unpick N ρ p1 p2 p3 = some (q, ρ') ∧ FM_unpick μ p1 p2 p3 = some (q, μ') ∧ Inv ρ' μ' := by
  sorry
theorem st_line {ρ : RS} {μ : MS} (h : Inv ρ μ) {N : Nat} (hN : Low N ρ) (p1 : Int32) (p2 : Int32) : ∃ q ρ' μ', FR_X9_line N ρ p1 p2 = some (q, ρ') ∧ FM_line μ p1 p2 = some (q, μ') ∧ Inv ρ' μ' := by
  sorry
theorem st_unline {ρ : RS} {μ : MS} (h : Inv ρ μ) (p1 : Int32) : ∃ q ρ' μ', FR_X9_unline ρ p1 = some (q, ρ') ∧ FM_unline μ p1 = some (q, μ') ∧ Inv ρ' μ' := by
  sorry
theorem st_rules {ρ : RS} {μ : MS} (h : Inv ρ μ) (p1 : Int32) : ∃ q ρ' μ', FR_X9_rules ρ p1 = some (q, ρ') ∧ FM_rules μ p1 = some (q, μ') ∧ Inv ρ' μ' := by
  sorry
theorem st_chest {ρ : RS} {μ : MS} (h : Inv ρ μ) (p1 : Int32) (p2 : Int32) : ∃ q ρ' μ', FR_X9_chest ρ p1 p2 = some (q, ρ') ∧ FM_chest μ p1 p2 = some (q, μ') ∧ Inv ρ' μ' := by
  sorry
theorem st_person {ρ : RS} {μ : MS} (h : Inv ρ μ) (p1 : Int32) (p2 : Int32) (p3 : Int32) : ∃ q ρ' μ', FR_X9_person ρ p1 p2 p3 = some (q, ρ') ∧ FM_person μ p1 p2 p3 = some (q, μ') ∧ Inv ρ' μ' := by
  sorry
theorem st_may {ρ : RS} {μ : MS} (h : Inv ρ μ) (p1 : Int32) (p2 : Int32) (p3 : Int32) : ∃ q ρ', FR_X9_may ρ p1 p2 p3 = some (q, ρ') ∧ FM_may μ p1 p2 p3 = some q ∧ Inv ρ' μ := by
  sorry
theorem st_lend {ρ : RS} {μ : MS} (h : Inv ρ μ) (p1 : Int32) (p2 : Int32) (p3 : Int32) : ∃ q ρ' μ', FR_X9_lend ρ p1 p2 p3 = some (q, ρ') ∧ FM_lend μ p1 p2 p3 = some (q, μ') ∧ Inv ρ' μ' := by
  sorry
theorem st_back {ρ : RS} {μ : MS} (h : Inv ρ μ) (p1 : Int32) (p2 : Int32) : ∃ q ρ' μ', FR_X9_back ρ p1 p2 = some (q, ρ') ∧ FM_back μ p1 p2 = some (q, μ') ∧ Inv ρ' μ' := by
  sorry
theorem st_clothe {ρ : RS} {μ : MS} (h : Inv ρ μ) (p1 : Int32) : ∃ q ρ' μ', FR_X9_clothe ρ p1 = some (q, ρ') ∧ FM_clothe μ p1 = some (q, μ') ∧ Inv ρ' μ' := by
  sorry
theorem st_gets {ρ : RS} {μ : MS} (h : Inv ρ μ) (p1 : Int32) : ∃ q, FR_X9_gets ρ p1 = some q ∧ FM_gets μ p1 = some q := by
  sorry
theorem st_count {ρ : RS} {μ : MS} (h : Inv ρ μ) (p1 : Int32) : ∃ q, FR_X9_count ρ p1 = some q ∧ FM_count μ p1 = some q := by
  sorry
