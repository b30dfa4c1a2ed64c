/-! what stays: cells by their owners' numbers -/
def ag (ρ ρ' : RS) (own own' : Nat → Nat) (s : Nat) : Prop := ∀ a, a ∈ pL ρ → own a = s → own' a = s ∧ a ∈ pL ρ' ∧ pK ρ' a = pK ρ a ∧ pI ρ' a = pI ρ a ∧ pR ρ' a = pR ρ a ∧ pN ρ' a = pN ρ a ∧ pA ρ' a = pA ρ a
theorem ag.trans {ρ ρ1 ρ2 : RS} {o o1 o2 : Nat → Nat} {s : Nat} (h : ag ρ ρ1 o o1 s) (h2 : ag ρ1 ρ2 o1 o2 s) : ag ρ ρ2 o o2 s := fun a ha hs => by
  obtain ⟨a1, a2, a3, a4, a5, a6, a7⟩ := h a ha hs
  obtain ⟨b1, b2, b3, b4, b5, b6, b7⟩ := h2 a a2 a1
  exact ⟨b1, b2, b3.trans a3, b4.trans a4, b5.trans a5, b6.trans a6, b7.trans a7⟩
theorem ag_sm {ρ ρ' : RS} {o : Nat → Nat} {s : Nat} (h : ρ'.2.2.2.2 = ρ.2.2.2.2) : ag ρ ρ' o o s := fun a ha hs => by
  refine ⟨hs, ?_, ?_, ?_, ?_, ?_, ?_⟩
  · unfold pL; rw [h]; exact ha
  · unfold pK; rw [h]
  · unfold pI; rw [h]
  · unfold pR; rw [h]
  · unfold pN; rw [h]
  · unfold pA; rw [h]
theorem ag_wi {ρ : RS} {o : Nat → Nat} {s c k : Nat} {v : Int32} (h : s ≠ o c) : ag ρ (wi ρ c k v) o o s := fun a ha hs => by
  have hac : a ≠ c := fun e => h (by rw [← hs, e])
  refine ⟨hs, ha, rfl, ?_, rfl, rfl, rfl⟩
  funext j
  rw [qpI_wi]
  simp [hac]
theorem ag_wr {ρ : RS} {o : Nat → Nat} {s c k : Nat} {v : Option Nat} (h : s ≠ o c) : ag ρ (wr ρ c k v) o o s := fun a ha hs => by
  have hac : a ≠ c := fun e => h (by rw [← hs, e])
  refine ⟨hs, ha, rfl, rfl, ?_, rfl, rfl⟩
  funext j
  rw [qpR_wr]
  simp [hac]
theorem ag_wc {ρ : RS} {o : Nat → Nat} {s c : Nat} {g : Nat → Int32} (h : s ≠ o c) : ag ρ (wc ρ c g) o o s := fun a ha hs => by
  have hac : a ≠ c := fun e => h (by rw [← hs, e])
  refine ⟨hs, ha, rfl, rfl, rfl, rfl, ?_⟩
  rw [qpA_wc, if_neg hac]
theorem ag_nO {ρ : RS} {o : Nat → Nat} {s s' N kd : Nat} (h : Low N ρ) : ag ρ (nO ρ N kd) o (va_up o N s') s := fun a ha hs => by
  have hac : a ≠ N := Nat.ne_of_lt (h a ha)
  refine ⟨by unfold va_up; rw [if_neg hac]; exact hs, by rw [qpL_nO]; exact List.mem_append_left _ ha, by rw [qpK_nO, if_neg hac], ?_, ?_, rfl, rfl⟩
  · funext j; rw [qpI_nO, if_neg hac]
  · funext j; rw [qpR_nO, if_neg hac]
theorem ag_nA {ρ : RS} {o : Nat → Nat} {s s' N n : Nat} {g : Nat → Int32} (h : Low N ρ) : ag ρ (nA ρ N n g) o (va_up o N s') s := fun a ha hs => by
  have hac : a ≠ N := Nat.ne_of_lt (h a ha)
  refine ⟨by unfold va_up; rw [if_neg hac]; exact hs, by rw [qpL_nA]; exact List.mem_append_left _ ha, by rw [qpK_nA, if_neg hac], rfl, rfl, by rw [qpN_nA, if_neg hac], by rw [qpA_nA, if_neg hac]⟩
theorem ag_own {ρ : RS} {o : Nat → Nat} {s s' c : Nat} (h : s ≠ o c) : ag ρ ρ o (va_up o c s') s := fun a ha hs => by
  have hac : a ≠ c := fun e => h (by rw [← hs, e])
  exact ⟨by unfold va_up; rw [if_neg hac]; exact hs, ha, rfl, rfl, rfl, rfl, rfl⟩
theorem ag.k {ρ ρ' : RS} {o o' : Nat → Nat} {s a k : Nat} (h : ag ρ ρ' o o' s) (hk : isK ρ a k = true) (hs : o a = s) : isK ρ' a k = true := by
  obtain ⟨-, a2, a3, -⟩ := h a (isK_L hk) hs
  exact decide_eq_true ⟨a2, a3.trans (isK_K hk)⟩
theorem ag.i {ρ ρ' : RS} {o o' : Nat → Nat} {s a k : Nat} (h : ag ρ ρ' o o' s) (hk : isK ρ a k = true) (hs : o a = s) (j : Nat) : pI ρ' a j = pI ρ a j := by rw [(h a (isK_L hk) hs).2.2.2.1]
theorem ag.r {ρ ρ' : RS} {o o' : Nat → Nat} {s a k : Nat} (h : ag ρ ρ' o o' s) (hk : isK ρ a k = true) (hs : o a = s) (j : Nat) : pR ρ' a j = pR ρ a j := by rw [(h a (isK_L hk) hs).2.2.2.2.1]
theorem ag.n {ρ ρ' : RS} {o o' : Nat → Nat} {s a k : Nat} (h : ag ρ ρ' o o' s) (hk : isK ρ a k = true) (hs : o a = s) : pN ρ' a = pN ρ a := (h a (isK_L hk) hs).2.2.2.2.2.1
theorem ag.a {ρ ρ' : RS} {o o' : Nat → Nat} {s a k : Nat} (h : ag ρ ρ' o o' s) (hk : isK ρ a k = true) (hs : o a = s) (j : Nat) : pA ρ' a j = pA ρ a j := by rw [(h a (isK_L hk) hs).2.2.2.2.2.2]
theorem ag.o {ρ ρ' : RS} {o o' : Nat → Nat} {s a k : Nat} (h : ag ρ ρ' o o' s) (hk : isK ρ a k = true) (hs : o a = s) : o' a = s := (h a (isK_L hk) hs).1
theorem RowsV.fr {ρ ρ' : RS} {o o' : Nat → Nat} {s r n : Nat} {g g' : Nat → Int32} (h : RowsV ρ r n g) (hs : o r = s) (hg : ag ρ ρ' o o' s) (he : ∀ j, j < n → g' j = g j) : RowsV ρ' r n g' := by
  obtain ⟨h1, h2, h3⟩ := h
  refine ⟨hg.k h1 hs, (hg.n h1 hs).trans h2, fun j hj => ?_⟩
  obtain ⟨x, a, b, c⟩ := h3 j hj
  exact ⟨x, a, (hg.a h1 hs j).trans b, (he j hj).trans c⟩
theorem ClothV.fr {ρ ρ' : RS} {o o' : Nat → Nat} {s c n : Nat} {col way : Int32} {g g' : Nat → Int32} (h : ClothV o ρ s c n col way g) (hg : ag ρ ρ' o o' s) (hg1 : ag ρ ρ' o o' (s + 1)) (he : ∀ j, j < n → g' j = g j) : ClothV o' ρ' s c n col way g' := by
  obtain ⟨h1, h2, h3, h4, h5, h6, h7, h8, r, h9, h10, h11⟩ := h
  exact ⟨hg.k h1 h2, hg.o h1 h2, (hg.i h1 h2 1).trans h3, (hg.i h1 h2 2).trans h4, h5, h6, h7, h8, r, (hg.r h1 h2 0).trans h9, hg1.o h11.1 h10, h11.fr h10 hg1 he⟩
def BoltI (own : Nat → Nat) (ρ : RS) (μ : MS) (B i : Nat) : Prop := BoltN ρ μ B i ∨ (i < B ∧ ∃ c n, BoltL own ρ μ i c n)
def RobeI (own : Nat → Nat) (ρ : RS) (μ : MS) (K j : Nat) : Prop := RobeN ρ μ K j ∨ (j < K ∧ ∃ a c e b sl f l, RobeL own ρ μ j a c e b sl f l)
def mB (μ μ' : MS) (i : Nat) : Prop := μ'.2 1 i = μ.2 1 i ∧ μ'.2 2 i = μ.2 2 i ∧ μ'.2 3 i = μ.2 3 i ∧ μ'.2 4 i = μ.2 4 i ∧ ∀ j, j < 120 → μ'.2 5 (120 * i + j) = μ.2 5 (120 * i + j)
theorem BoltI.fr {ρ ρ' : RS} {o o' : Nat → Nat} {μ μ' : MS} {B B' i : Nat} (h : BoltI o ρ μ B i) (hQ : rQ ρ' 902 i = rQ ρ 902 i) (hB : i < B' ↔ i < B) (hg : ag ρ ρ' o o' (2 * i)) (hg1 : ag ρ ρ' o o' (2 * i + 1)) (hm : mB μ μ' i) : BoltI o' ρ' μ' B' i := by
  obtain ⟨m1, m2, m3, m4, m5⟩ := hm
  rcases h with h | ⟨h0, c, n, h1, h2, h3, h4⟩
  · exact Or.inl ⟨hQ.trans h.1, fun q => m1.trans (h.2 (hB.mp q))⟩
  · refine Or.inr ⟨hB.mpr h0, c, n, hQ.trans h1, m1.trans h2, m2.trans h3, ?_⟩
    rw [m3, m4]
    exact h4.fr hg hg1 (fun j hj => m5 j (Nat.lt_of_lt_of_le hj h4.2.2.2.2.2.2.2.1))
def mR (μ μ' : MS) (j : Nat) : Prop := (μ'.2 7 j = μ.2 7 j ∧ μ'.2 8 j = μ.2 8 j ∧ μ'.2 9 j = μ.2 9 j ∧ μ'.2 10 j = μ.2 10 j ∧ μ'.2 11 j = μ.2 11 j ∧ μ'.2 12 j = μ.2 12 j ∧ μ'.2 13 j = μ.2 13 j) ∧ (μ'.2 15 j = μ.2 15 j ∧ μ'.2 16 j = μ.2 16 j ∧ μ'.2 17 j = μ.2 17 j ∧ μ'.2 19 j = μ.2 19 j ∧ μ'.2 20 j = μ.2 20 j) ∧ (∀ i, i < 120 → μ'.2 14 (120 * j + i) = μ.2 14 (120 * j + i)) ∧ ∀ i, i < 120 → μ'.2 18 (120 * j + i) = μ.2 18 (120 * j + i)
theorem LenV.fr {ρ ρ' : RS} {o o' : Nat → Nat} {s e b sl f l : Nat} (h : LenV o ρ s e b sl f l) (hg : ag ρ ρ' o o' s) : LenV o' ρ' s e b sl f l := by
  obtain ⟨h1, h2, h3, a0, a1, a2, a3, a4, a5⟩ := h
  exact ⟨hg.k h1 h2, hg.o h1 h2, (hg.n h1 h2).trans h3, (hg.a h1 h2 0).trans a0, (hg.a h1 h2 1).trans a1, (hg.a h1 h2 2).trans a2, (hg.a h1 h2 3).trans a3, (hg.a h1 h2 4).trans a4, (hg.a h1 h2 5).trans a5⟩
theorem RobeI.fr {ρ ρ' : RS} {o o' : Nat → Nat} {μ μ' : MS} {K K' j : Nat} (h : RobeI o ρ μ K j) (hQ : rQ ρ' 904 j = rQ ρ 904 j) (hK : j < K' ↔ j < K) (hg : ag ρ ρ' o o' (100 + j)) (hg1 : ag ρ ρ' o o' (200 + 2 * j)) (hg2 : ag ρ ρ' o o' (200 + 2 * j + 1)) (hg3 : ag ρ ρ' o o' (300 + j)) (hg4 : ag ρ ρ' o o' (400 + 2 * j)) (hg5 : ag ρ ρ' o o' (400 + 2 * j + 1)) (hm : mR μ μ' j) : RobeI o' ρ' μ' K' j := by
  obtain ⟨⟨m7, m8, m9, m10, m11, m12, m13⟩, ⟨m15, m16, m17, m19, m20⟩, m14, m18⟩ := hm
  rcases h with h | ⟨h0, a, c, e, b, sl, f, l, ⟨r1, r2, r3, r4, r5⟩, ⟨b1, b2, b3, b4⟩, ⟨c1, c2⟩, ⟨e1, e2⟩, hl, ⟨q1, q2⟩, ⟨u1, u2⟩⟩
  · exact Or.inl ⟨hQ.trans h.1, fun q => m7.trans (h.2.1 (hK.mp q)), fun q => m15.trans (h.2.2 (by omega))⟩
  · refine Or.inr ⟨hK.mpr h0, a, c, e, b, sl, f, l, ⟨hQ.trans r1, hg.k r2 r3, hg.o r2 r3, m7.trans r4, r5⟩, ⟨m10.trans b1, m11.trans b2, m12.trans b3, m13.trans b4⟩, ⟨(hg.r r2 r3 0).trans c1, ?_⟩, ⟨(hg.r r2 r3 1).trans e1, e2.fr hg3⟩, ?_, ⟨?_, ?_⟩, ⟨?_, ?_⟩⟩
    · rw [m8, m9]
      exact c2.fr hg1 hg2 (fun i hi => m14 i (Nat.lt_of_lt_of_le hi r5.2.2.2.2.2.2.2))
    · rcases hl with ⟨l1, l2⟩ | ⟨l1, d, l2, l3⟩
      · exact Or.inl ⟨(hg.r r2 r3 2).trans l1, m15.trans l2⟩
      · refine Or.inr ⟨m15.trans l1, d, (hg.r r2 r3 2).trans l2, ?_⟩
        rw [m16, m17]
        exact l3.fr hg4 hg5 (fun i hi => m18 i (Nat.lt_of_lt_of_le hi r5.2.2.2.2.2.2.2))
    · rw [m19]; exact (hg.i r2 r3 3).trans q1
    · rw [m19]; exact q2
    · rw [m20]; exact (hg.i r2 r3 4).trans u1
    · rw [m20]; exact u2
theorem PersV.fr {ρ ρ' : RS} {o o' : Nat → Nat} {μ μ' : MS} {K K' p a : Nat} (h : PersV o ρ μ K p a) (hQ : rQ ρ' 914 p = rQ ρ 914 p) (hg : ag ρ ρ' o o' (520 + p)) (m26 : μ'.2 26 p = μ.2 26 p) (m27 : μ'.2 27 p = μ.2 27 p) (hh : ∀ j, held μ' K' j p ↔ held μ K j p) : PersV o' ρ' μ' K' p a := by
  obtain ⟨⟨h1, h2, h3⟩, h4, h5⟩ := h
  refine ⟨⟨hQ.trans h1, hg.k h2 h3, hg.o h2 h3⟩, ?_, ?_⟩
  · rcases h4 with ⟨a1, a2⟩ | ⟨a1, g, k, a2, a3, a4, a5, a6, a7⟩
    · exact Or.inl ⟨(hg.i h2 h3 0).trans a1, m26.trans a2⟩
    · exact Or.inr ⟨(hg.i h2 h3 0).trans a1, g, k, a2, a3, m26.trans a4, (hg.i h2 h3 1).trans a5, m27.trans a6, (hg.i h2 h3 2).trans a7⟩
  · rcases h5 with ⟨a1, j, a2⟩ | ⟨a1, a2⟩
    · exact Or.inl ⟨(hg.i h2 h3 3).trans a1, j, (hh j).mpr a2⟩
    · exact Or.inr ⟨(hg.i h2 h3 3).trans a1, fun j q => a2 j ((hh j).mp q)⟩
theorem ChestV.fr {ρ ρ' : RS} {o o' : Nat → Nat} {μ μ' : MS} {k u e m : Nat} (h : ChestV o ρ μ k u e m) (hQ : rQ ρ' 913 k = rQ ρ 913 k) (hg : ag ρ ρ' o o' (500 + k)) (hg1 : ag ρ ρ' o o' (510 + k)) (m28 : μ'.2 28 k = μ.2 28 k) (m29 : ∀ t, t < 18 → μ'.2 29 (18 * k + t) = μ.2 29 (18 * k + t)) : ChestV o' ρ' μ' k u e m := by
  obtain ⟨⟨h1, h2, h3⟩, ⟨e1, e2, e3, e4⟩, ⟨n1, n2, n3⟩, h5⟩ := h
  refine ⟨⟨hQ.trans h1, hg.k h2 h3, hg.o h2 h3⟩, ⟨(hg.r h2 h3 0).trans e1, hg1.k e2 e3, hg1.o e2 e3, (hg1.n e2 e3).trans e4⟩, ⟨n1, (hg.i h2 h3 1).trans n2, m28.trans n3⟩, fun t ht => ?_⟩
  obtain ⟨w, sg, nn, a1, a2, a3, a4, a5, a6, a7⟩ := h5 t ht
  exact ⟨w, sg, nn, a1, a2, a3, (hg1.a e2 e3 t).trans a4, (m29 (3 * t) (by omega)).trans a5, (m29 (3 * t + 1) (by omega)).trans a6, (m29 (3 * t + 2) (by omega)).trans a7⟩
theorem MeasV.fr {ρ ρ' : RS} {o o' : Nat → Nat} {μ μ' : MS} {e b f l : Nat} (h : MeasV o ρ μ e b f l) (hV : rV ρ' 906 = rV ρ 906) (hg : ag ρ ρ' o o' 540) (m1 : μ'.1 21 = μ.1 21) (m2 : μ'.1 22 = μ.1 22) (m3 : μ'.1 23 = μ.1 23) : MeasV o' ρ' μ' e b f l := by
  obtain ⟨⟨h1, h2, h3, h4⟩, h5, ⟨a0, a1, a4, a5⟩, b1, b2, b3⟩ := h
  exact ⟨⟨hV.trans h1, hg.k h2 h3, hg.o h2 h3, (hg.n h2 h3).trans h4⟩, h5, ⟨(hg.a h2 h3 0).trans a0, (hg.a h2 h3 1).trans a1, (hg.a h2 h3 4).trans a4, (hg.a h2 h3 5).trans a5⟩, m1.trans b1, m2.trans b2, m3.trans b3⟩
/-! whole components that stay -/
theorem InvT.fr {ρ ρ' : RS} {μ μ' : MS} (h : InvT ρ μ) (h1 : rI ρ' 801 = rI ρ 801) (h2 : rA ρ' 800 = rA ρ 800) (h3 : μ'.1 31 = μ.1 31) (h4 : μ'.2 30 = μ.2 30) : InvT ρ' μ' := by
  unfold InvT at h ⊢
  rw [h1, h2, h3, h4]
  exact h
theorem InvB.fr {ρ ρ' : RS} {o o' : Nat → Nat} {μ μ' : MS} {B : Nat} (h : InvB o ρ μ B) (h1 : rI ρ' 903 = rI ρ 903) (h2 : rQ ρ' 902 = rQ ρ 902) (hg : ∀ s, s < 80 → ag ρ ρ' o o' s) (m0 : μ'.1 0 = μ.1 0) (m1 : μ'.2 1 = μ.2 1) (m2 : μ'.2 2 = μ.2 2) (m3 : μ'.2 3 = μ.2 3) (m4 : μ'.2 4 = μ.2 4) (m5 : μ'.2 5 = μ.2 5) : InvB o' ρ' μ' B :=
  ⟨h.1, h1.trans h.2.1, m0.trans h.2.2.1, fun i hi => BoltI.fr (h.2.2.2 i hi) (by rw [h2]) Iff.rfl (hg _ (by omega)) (hg _ (by omega)) ⟨by rw [m1], by rw [m2], by rw [m3], by rw [m4], fun j _ => by rw [m5]⟩⟩
theorem InvR.fr {ρ ρ' : RS} {o o' : Nat → Nat} {μ μ' : MS} {K : Nat} (h : InvR o ρ μ K) (h1 : rI ρ' 905 = rI ρ 905) (h2 : rQ ρ' 904 = rQ ρ 904) (hg : ∀ s, 100 ≤ s → s < 460 → ag ρ ρ' o o' s) (m6 : μ'.1 6 = μ.1 6) (hm : ∀ k, 7 ≤ k → k < 21 → μ'.2 k = μ.2 k) : InvR o' ρ' μ' K :=
  ⟨h.1, h1.trans h.2.1, m6.trans h.2.2.1, fun i hi => RobeI.fr (h.2.2.2 i hi) (by rw [h2]) Iff.rfl (hg _ (by omega) (by omega)) (hg _ (by omega) (by omega)) (hg _ (by omega) (by omega)) (hg _ (by omega) (by omega)) (hg _ (by omega) (by omega)) (hg _ (by omega) (by omega)) ⟨⟨by rw [hm 7 (by omega) (by omega)], by rw [hm 8 (by omega) (by omega)], by rw [hm 9 (by omega) (by omega)], by rw [hm 10 (by omega) (by omega)], by rw [hm 11 (by omega) (by omega)], by rw [hm 12 (by omega) (by omega)], by rw [hm 13 (by omega) (by omega)]⟩, ⟨by rw [hm 15 (by omega) (by omega)], by rw [hm 16 (by omega) (by omega)], by rw [hm 17 (by omega) (by omega)], by rw [hm 19 (by omega) (by omega)], by rw [hm 20 (by omega) (by omega)]⟩, fun i _ => by rw [hm 14 (by omega) (by omega)], fun i _ => by rw [hm 18 (by omega) (by omega)]⟩⟩
theorem InvP.fr {ρ ρ' : RS} {o o' : Nat → Nat} {μ μ' : MS} {K : Nat} (h : InvP o ρ μ K) (h2 : rQ ρ' 914 = rQ ρ 914) (hg : ∀ s, 520 ≤ s → s < 530 → ag ρ ρ' o o' s) (m26 : μ'.2 26 = μ.2 26) (m27 : μ'.2 27 = μ.2 27) (m7 : μ'.2 7 = μ.2 7) (m20 : μ'.2 20 = μ.2 20) : InvP o' ρ' μ' K := by
  have hh : ∀ j p, held μ' K j p ↔ held μ K j p := fun j p => by unfold held; rw [m7, m20]
  refine ⟨fun p hp => ?_, fun p j j' hp a b => h.2 p j j' hp ((hh j p).mp a) ((hh j' p).mp b)⟩
  obtain ⟨a, ha⟩ := h.1 p hp
  exact ⟨a, ha.fr (by rw [h2]) (hg _ (by omega) (by omega)) (by rw [m26]) (by rw [m27]) (fun j => hh j p)⟩
theorem InvC.fr {ρ ρ' : RS} {o o' : Nat → Nat} {μ μ' : MS} (h : InvC o ρ μ) (h2 : rQ ρ' 913 = rQ ρ 913) (hg : ∀ s, 500 ≤ s → s < 520 → ag ρ ρ' o o' s) (m28 : μ'.2 28 = μ.2 28) (m29 : μ'.2 29 = μ.2 29) : InvC o' ρ' μ' := fun k hk => by
  obtain ⟨u, e, m, hc⟩ := h k hk
  exact ⟨u, e, m, hc.fr (by rw [h2]) (hg _ (by omega) (by omega)) (hg _ (by omega) (by omega)) (by rw [m28]) (fun t _ => by rw [m29])⟩
theorem InvM.fr {ρ ρ' : RS} {o o' : Nat → Nat} {μ μ' : MS} (h : InvM o ρ μ) (h2 : rV ρ' 906 = rV ρ 906) (hg : ag ρ ρ' o o' 540) (m1 : μ'.1 21 = μ.1 21) (m2 : μ'.1 22 = μ.1 22) (m3 : μ'.1 23 = μ.1 23) : InvM o' ρ' μ' := by
  obtain ⟨e, b, f, l, hm⟩ := h
  exact ⟨e, b, f, l, hm.fr h2 hg m1 m2 m3⟩
theorem InvS.fr {ρ ρ' : RS} {μ μ' : MS} (h : InvS ρ μ) (h1 : rI ρ' 907 = rI ρ 907) (h2 : rI ρ' 908 = rI ρ 908) (h3 : rI ρ' 911 = rI ρ 911) (h4 : rI ρ' 912 = rI ρ 912) (h5 : rA ρ' 101 = rA ρ 101) (m1 : μ'.1 24 = μ.1 24) (m2 : μ'.1 25 = μ.1 25) (m3 : μ'.1 36 = μ.1 36) (m4 : μ'.1 37 = μ.1 37) (m5 : μ'.2 43 = μ.2 43) : InvS ρ' μ' := by
  unfold InvS at h ⊢
  rw [h1, h2, h3, h4, h5, m1, m2, m3, m4, m5]
  exact h
/-! whole rows at once -/
def rc (ρ : RS) (k : Nat) (g : Nat → Int32) : RS := (ρ.1, va_up ρ.2.1 k g, ρ.2.2)
def mc (μ : MS) (k : Nat) (g : Nat → Int32) : MS := (μ.1, va_up μ.2 k g)
theorem ra_rc (ρ : RS) (k : Nat) (i v : Int32) : ra ρ k i v = rc ρ k (upd (rA ρ k) i.toNatClampNeg v) := rfl
theorem sa_mc (μ : MS) (k : Nat) (i v : Int32) : sa μ k i v = mc μ k (upd (μ.2 k) i.toNatClampNeg v) := rfl
theorem wa_wc (ρ : RS) (a : Nat) (i v : Int32) : wa ρ a i v = wc ρ a (upd (pA ρ a) i.toNatClampNeg v) := rfl
theorem rc_rc (ρ : RS) (k : Nat) (g g' : Nat → Int32) : rc (rc ρ k g) k g' = rc ρ k g' := by
  unfold rc
  rw [bx_uu]
theorem mc_mc (μ : MS) (k : Nat) (g g' : Nat → Int32) : mc (mc μ k g) k g' = mc μ k g' := by
  unfold mc
  rw [bx_uu]
theorem wc_wc (ρ : RS) (a : Nat) (g g' : Nat → Int32) : wc (wc ρ a g) a g' = wc ρ a g' := by
  unfold wc rp
  simp only [bx_uu]
theorem va_self {α : Type} (f : Nat → α) (k : Nat) : va_up f k (f k) = f := by
  funext j
  unfold va_up
  by_cases h : j = k
  · rw [if_pos h, h]
  · rw [if_neg h]
theorem rc_self (ρ : RS) (k : Nat) : rc ρ k (rA ρ k) = ρ := by
  unfold rc rA
  rw [va_self]
theorem mc_self (μ : MS) (k : Nat) : mc μ k (μ.2 k) = μ := by
  unfold mc
  rw [va_self]
theorem wc_self (ρ : RS) (a : Nat) : wc ρ a (pA ρ a) = ρ := by
  unfold wc rp pA
  rw [va_self]
theorem rA_rc (ρ : RS) (k : Nat) (g : Nat → Int32) (j : Nat) : rA (rc ρ k g) j = if j = k then g else rA ρ j := rfl
theorem m2_mc (μ : MS) (k : Nat) (g : Nat → Int32) (j : Nat) : (mc μ k g).2 j = if j = k then g else μ.2 j := rfl
theorem ag_rc {ρ : RS} {o : Nat → Nat} {s k : Nat} {g : Nat → Int32} : ag ρ (rc ρ k g) o o s := ag_sm rfl
