def lkP {β : Type} (d : β) (P : List (Nat × β)) (a : Nat) : β := match P.find? (fun q => q.1 == a) with
  | some q => q.2
  | none => d
def ndA (L : List Nat) : Prop := ∀ (i j a : Nat), L[i]? = some a → L[j]? = some a → i = j
theorem lkP_at {β : Type} (d : β) {P : List (Nat × β)} (h : ndA (P.map (fun q => q.1))) {i a : Nat} {e : β} (hi : P[i]? = some (a, e)) : lkP d P a = e := by
  unfold lkP
  cases hf : P.find? (fun q => q.1 == a) with
  | none =>
    have h1 := List.find?_eq_none.mp hf (a, e) (List.mem_of_getElem? hi)
    simp at h1
  | some r =>
    have h1 : r.1 == a := List.find?_some (p := fun q : Nat × β => q.1 == a) hf
    have h2 := List.mem_of_find?_eq_some hf
    obtain ⟨j, hj⟩ := List.mem_iff_getElem?.mp h2
    have h3 : r.1 = a := by simpa using h1
    have h4 : i = j := h i j a (by rw [List.getElem?_map, hi]; rfl) (by rw [List.getElem?_map, hj]; show some r.1 = _; rw [h3])
    subst h4
    rw [hi] at hj
    show r.2 = e
    rw [← Option.some.inj hj]
def kdE (e : va_E) : Nat := match e with
  | .inr (k, _) => k
  | .inl _ => 11
def inE (e : va_E) (j : Nat) : Int32 := match e with
  | .inr (_, fs) => match fs[j]? with
    | some (.int v) => v
    | _ => 0
  | .inl _ => 0
def rfE (e : va_E) (j : Nat) : Option Nat := match e with
  | .inr (_, fs) => match fs[j]? with
    | some (.ref a) => some a
    | _ => none
  | .inl _ => none
def lnE (e : va_E) : Nat := match e with
  | .inl (_, n, _) => n
  | .inr _ => 0
def coE (e : va_E) : Nat → Int32 := match e with
  | .inl (_, _, .inl f) => f
  | _ => fun _ => 0
def d0E : va_E := .inr (0, [])
def poE (P : va_W) : PS := (P.map (fun q => q.1), fun a => kdE (lkP d0E P a), fun a j => inE (lkP d0E P a) j, fun a j => rfE (lkP d0E P a) j, fun a => lnE (lkP d0E P a), fun a => coE (lkP d0E P a))
def gE (cI : ClassId) (e : va_E) : va_E := if kdE e = 0 then .inr (0, [va_rf (rfE e 0), .int (inE e 1), .int (inE e 2)]) else if kdE e = 3 then .inr (3, [.int (inE e 0), .int (inE e 1), .int (inE e 2), .int (inE e 3)]) else if kdE e = 4 then .inr (4, [va_rf (rfE e 0), va_rf (rfE e 1), va_rf (rfE e 2), .int (inE e 3), .int (inE e 4)]) else if kdE e = 6 then .inr (6, [va_rf (rfE e 0), .int (inE e 1)]) else .inl (cI, lnE e, .inl (coE e))
theorem pf_gE (cI : ClassId) (x1 : Nat → Int32) (x2 : Nat → Nat → Int32) (x3 : Nat → Nat → Option Nat) (x4 : Nat → Option Nat) (P : va_W) (a : Nat) : pf cI (x1, x2, x3, x4, poE P) a = gE cI (lkP d0E P a) := rfl
theorem pl_gE (cI : ClassId) (x1 : Nat → Int32) (x2 : Nat → Nat → Int32) (x3 : Nat → Nat → Option Nat) (x4 : Nat → Option Nat) (P : va_W) (h : ndA (P.map (fun q => q.1))) (hg : ∀ q ∈ P, gE cI q.2 = q.2) : va_pl (P.map (fun q => q.1)) (pf cI (x1, x2, x3, x4, poE P)) = P := by
  unfold va_pl
  rw [List.map_map]
  refine (List.map_congr_left (g := fun q => q) (fun q hq => ?_)).trans (List.map_id' P)
  obtain ⟨i, hi⟩ := List.mem_iff_getElem?.mp hq
  show (q.1, pf cI (x1, x2, x3, x4, poE P) q.1) = q
  rw [pf_gE, lkP_at d0E h (i := i) (a := q.1) (e := q.2) hi, hg q hq]
theorem nd_of {A : Nat → Prop} {P : va_W} (h : va_D A P) : ndA (P.map (fun q => q.1)) := by
  intro i j a hi hj
  rw [List.getElem?_map] at hi hj
  cases h1 : P[i]? with
  | none => rw [h1] at hi; cases hi
  | some x =>
    cases h2 : P[j]? with
    | none => rw [h2] at hj; cases hj
    | some y =>
      rw [h1] at hi; rw [h2] at hj
      exact h.1 i j x y h1 h2 ((Option.some.inj hi).trans (Option.some.inj hj).symm)
def csI (cI c1 c2 c3 c4 : ClassId) (k : Nat) : ClassId := match k with
  | 0 => cI
  | 1 => c1
  | 2 => c2
  | 3 => c3
  | _ => c4
def rI0 (k : Nat) : Int32 := if k = 908 then 2 else if k = 911 then -1 else if k = 912 then -1 else 0
def rA0 (k : Nat) : Nat → Int32 := if k = 101 then mM1 else fun _ => 0
def adI (h : Nat) (q0 : Nat) (u1 : Nat → Nat) (q2 : Nat) (u3 : Nat → Nat) (q4 : Nat) (q5 : Nat) (q6 : Nat) (q7 : Nat) (u8 : Nat → Nat) (q9 : Nat) (q10 : Nat) (q11 : Nat) (u12 : Nat → Nat) (q13 : Nat) (q14 : Nat) (u15 : Nat → Nat) (q16 : Nat) (u17 : Nat → Nat) (q18 : Nat) (u19 : Nat → Nat) (q20 : Nat) (u21 : Nat → Nat) (q22 : Nat) (q24 : Nat) (q26 : Nat) (q28 : Nat) (q30 : Nat) (q32 : Nat) (q34 : Nat) (q36 : Nat) (q38 : Nat) (q40 : Nat) (k : Nat) : Nat := if k = 1009 then h else if k = 1008 then q0 else if k = 1005 then q2 else if k = 1002 then u8 0 else if k = 1007 then q7 else if k = 1001 then q11 else if k = 800 then u1 0 else if k = 802 then u1 1 else if k = 500 then u3 0 else if k = 204 then u8 4 else if k = 205 then u8 5 else if k = 701 then u8 6 else if k = 702 then u8 7 else if k = 703 then u8 8 else if k = 704 then u8 9 else if k = 705 then u8 10 else if k = 100 then u12 0 else if k = 101 then u12 1 else if k = 102 then u12 2 else if k = 916 then q13 else if k = 207 then u8 3 else if k = 902 then q4 else if k = 904 then q5 else if k = 913 then q9 else if k = 914 then q10 else 0
def rQ0 (q14 q16 q18 q20 q22 q24 q26 q28 q30 q32 q34 q36 q38 q40 : Nat) (k : Nat) : Nat → Option Nat := if k = 913 then (va_up (va_up (va_up (va_up (fun _ => none) (0 : Int32).toNatClampNeg (some q14)) (1 : Int32).toNatClampNeg (some q16)) (2 : Int32).toNatClampNeg (some q18)) (3 : Int32).toNatClampNeg (some q20)) else if k = 914 then (va_up (va_up (va_up (va_up (va_up (va_up (va_up (va_up (va_up (va_up (fun _ => none) (0 : Int32).toNatClampNeg (some q22)) (1 : Int32).toNatClampNeg (some q24)) (2 : Int32).toNatClampNeg (some q26)) (3 : Int32).toNatClampNeg (some q28)) (4 : Int32).toNatClampNeg (some q30)) (5 : Int32).toNatClampNeg (some q32)) (6 : Int32).toNatClampNeg (some q34)) (7 : Int32).toNatClampNeg (some q36)) (8 : Int32).toNatClampNeg (some q38)) (9 : Int32).toNatClampNeg (some q40)) else fun _ => none
def rV0 (a b c : Nat) (k : Nat) : Option Nat := if k = 200 then some a else if k = 201 then some b else if k = 906 then some c else none
def poI (cI : ClassId) (q6 : Nat) (x0 : Nat) (x1 : Nat) (a0 : Nat) (a1 : Nat) (a2 : Nat) (a3 : Nat) (b0 : Nat) (b1 : Nat) (b2 : Nat) (b3 : Nat) (p0 : Nat) (p1 : Nat) (p2 : Nat) (p3 : Nat) (p4 : Nat) (p5 : Nat) (p6 : Nat) (p7 : Nat) (p8 : Nat) (p9 : Nat) : va_W := [(q6, .inl (cI, 6, .inl (upd (upd (upd (upd (upd (upd (fun _ => 0) (0 : Int32).toNatClampNeg (4)) (1 : Int32).toNatClampNeg (4)) (2 : Int32).toNatClampNeg (0)) (3 : Int32).toNatClampNeg (0)) (4 : Int32).toNatClampNeg (2)) (5 : Int32).toNatClampNeg (2)))), (x0, .inl (cI, 0, .inl (fun _ => 0))), (x1, .inl (cI, 6, .inl (fun _ => 0))), (a0, .inr (6, [.ref b0, .int 0])), (b0, .inl (cI, 6, .inl (fun _ => 0))), (a1, .inr (6, [.ref b1, .int 0])), (b1, .inl (cI, 6, .inl (fun _ => 0))), (a2, .inr (6, [.ref b2, .int 0])), (b2, .inl (cI, 6, .inl (fun _ => 0))), (a3, .inr (6, [.ref b3, .int 0])), (b3, .inl (cI, 6, .inl (fun _ => 0))), (p0, .inr (3, [.int 0, .int 0, .int 0, .int 0])), (p1, .inr (3, [.int 0, .int 0, .int 0, .int 0])), (p2, .inr (3, [.int 0, .int 0, .int 0, .int 0])), (p3, .inr (3, [.int 0, .int 0, .int 0, .int 0])), (p4, .inr (3, [.int 0, .int 0, .int 0, .int 0])), (p5, .inr (3, [.int 0, .int 0, .int 0, .int 0])), (p6, .inr (3, [.int 0, .int 0, .int 0, .int 0])), (p7, .inr (3, [.int 0, .int 0, .int 0, .int 0])), (p8, .inr (3, [.int 0, .int 0, .int 0, .int 0])), (p9, .inr (3, [.int 0, .int 0, .int 0, .int 0]))]
def rho0 (cI : ClassId) (q6 : Nat) (x0 : Nat) (x1 : Nat) (a0 : Nat) (a1 : Nat) (a2 : Nat) (a3 : Nat) (b0 : Nat) (b1 : Nat) (b2 : Nat) (b3 : Nat) (p0 : Nat) (p1 : Nat) (p2 : Nat) (p3 : Nat) (p4 : Nat) (p5 : Nat) (p6 : Nat) (p7 : Nat) (p8 : Nat) (p9 : Nat) : RS := (rI0, rA0, rQ0 a0 a1 a2 a3 p0 p1 p2 p3 p4 p5 p6 p7 p8 p9, rV0 x0 x1 q6, poE (poI cI q6 x0 x1 a0 a1 a2 a3 b0 b1 b2 b3 p0 p1 p2 p3 p4 p5 p6 p7 p8 p9))
def ow0 (q6 : Nat) (x0 : Nat) (x1 : Nat) (a0 : Nat) (a1 : Nat) (a2 : Nat) (a3 : Nat) (b0 : Nat) (b1 : Nat) (b2 : Nat) (b3 : Nat) (p0 : Nat) (p1 : Nat) (p2 : Nat) (p3 : Nat) (p4 : Nat) (p5 : Nat) (p6 : Nat) (p7 : Nat) (p8 : Nat) (p9 : Nat) : Nat → Nat := lkP 9999 [(q6, 540), (x0, 9000), (x1, 9001), (a0, 500), (b0, 510), (a1, 501), (b1, 511), (a2, 502), (b2, 512), (a3, 503), (b3, 513), (p0, 520), (p1, 521), (p2, 522), (p3, 523), (p4, 524), (p5, 525), (p6, 526), (p7, 527), (p8, 528), (p9, 529)]
set_option maxHeartbeats 4000000 in
theorem inv0 (cI : ClassId) (q6 : Nat) (x0 : Nat) (x1 : Nat) (a0 : Nat) (a1 : Nat) (a2 : Nat) (a3 : Nat) (b0 : Nat) (b1 : Nat) (b2 : Nat) (b3 : Nat) (p0 : Nat) (p1 : Nat) (p2 : Nat) (p3 : Nat) (p4 : Nat) (p5 : Nat) (p6 : Nat) (p7 : Nat) (p8 : Nat) (p9 : Nat) (h : ndA [q6, x0, x1, a0, b0, a1, b1, a2, b2, a3, b3, p0, p1, p2, p3, p4, p5, p6, p7, p8, p9]) : Inv (rho0 cI q6 x0 x1 a0 a1 a2 a3 b0 b1 b2 b3 p0 p1 p2 p3 p4 p5 p6 p7 p8 p9) mSI := by
  have hn : ndA ((poI cI q6 x0 x1 a0 a1 a2 a3 b0 b1 b2 b3 p0 p1 p2 p3 p4 p5 p6 p7 p8 p9).map (fun q => q.1)) := h
  have ho : ndA (([(q6, 540), (x0, 9000), (x1, 9001), (a0, 500), (b0, 510), (a1, 501), (b1, 511), (a2, 502), (b2, 512), (a3, 503), (b3, 513), (p0, 520), (p1, 521), (p2, 522), (p3, 523), (p4, 524), (p5, 525), (p6, 526), (p7, 527), (p8, 528), (p9, 529)] : List (Nat × Nat)).map (fun q => q.1)) := h
  have l_q6 : lkP d0E (poI cI q6 x0 x1 a0 a1 a2 a3 b0 b1 b2 b3 p0 p1 p2 p3 p4 p5 p6 p7 p8 p9) q6 = .inl (cI, 6, .inl (upd (upd (upd (upd (upd (upd (fun _ => 0) (0 : Int32).toNatClampNeg (4)) (1 : Int32).toNatClampNeg (4)) (2 : Int32).toNatClampNeg (0)) (3 : Int32).toNatClampNeg (0)) (4 : Int32).toNatClampNeg (2)) (5 : Int32).toNatClampNeg (2))) := lkP_at d0E hn (i := 0) rfl
  have o_q6 : ow0 q6 x0 x1 a0 a1 a2 a3 b0 b1 b2 b3 p0 p1 p2 p3 p4 p5 p6 p7 p8 p9 q6 = 540 := lkP_at 9999 ho (i := 0) rfl
  have m_q6 : q6 ∈ (poI cI q6 x0 x1 a0 a1 a2 a3 b0 b1 b2 b3 p0 p1 p2 p3 p4 p5 p6 p7 p8 p9).map (fun q => q.1) := List.mem_of_getElem? (i := 0) rfl
  have k_q6 : isK (rho0 cI q6 x0 x1 a0 a1 a2 a3 b0 b1 b2 b3 p0 p1 p2 p3 p4 p5 p6 p7 p8 p9) q6 11 = true := decide_eq_true ⟨m_q6, (congrArg kdE l_q6).trans rfl⟩
  have l_a0 : lkP d0E (poI cI q6 x0 x1 a0 a1 a2 a3 b0 b1 b2 b3 p0 p1 p2 p3 p4 p5 p6 p7 p8 p9) a0 = .inr (6, [.ref b0, .int 0]) := lkP_at d0E hn (i := 3) rfl
  have o_a0 : ow0 q6 x0 x1 a0 a1 a2 a3 b0 b1 b2 b3 p0 p1 p2 p3 p4 p5 p6 p7 p8 p9 a0 = 500 := lkP_at 9999 ho (i := 3) rfl
  have m_a0 : a0 ∈ (poI cI q6 x0 x1 a0 a1 a2 a3 b0 b1 b2 b3 p0 p1 p2 p3 p4 p5 p6 p7 p8 p9).map (fun q => q.1) := List.mem_of_getElem? (i := 3) rfl
  have k_a0 : isK (rho0 cI q6 x0 x1 a0 a1 a2 a3 b0 b1 b2 b3 p0 p1 p2 p3 p4 p5 p6 p7 p8 p9) a0 6 = true := decide_eq_true ⟨m_a0, (congrArg kdE l_a0).trans rfl⟩
  have l_b0 : lkP d0E (poI cI q6 x0 x1 a0 a1 a2 a3 b0 b1 b2 b3 p0 p1 p2 p3 p4 p5 p6 p7 p8 p9) b0 = .inl (cI, 6, .inl (fun _ => 0)) := lkP_at d0E hn (i := 4) rfl
  have o_b0 : ow0 q6 x0 x1 a0 a1 a2 a3 b0 b1 b2 b3 p0 p1 p2 p3 p4 p5 p6 p7 p8 p9 b0 = 510 := lkP_at 9999 ho (i := 4) rfl
  have m_b0 : b0 ∈ (poI cI q6 x0 x1 a0 a1 a2 a3 b0 b1 b2 b3 p0 p1 p2 p3 p4 p5 p6 p7 p8 p9).map (fun q => q.1) := List.mem_of_getElem? (i := 4) rfl
  have k_b0 : isK (rho0 cI q6 x0 x1 a0 a1 a2 a3 b0 b1 b2 b3 p0 p1 p2 p3 p4 p5 p6 p7 p8 p9) b0 11 = true := decide_eq_true ⟨m_b0, (congrArg kdE l_b0).trans rfl⟩
  have l_a1 : lkP d0E (poI cI q6 x0 x1 a0 a1 a2 a3 b0 b1 b2 b3 p0 p1 p2 p3 p4 p5 p6 p7 p8 p9) a1 = .inr (6, [.ref b1, .int 0]) := lkP_at d0E hn (i := 5) rfl
  have o_a1 : ow0 q6 x0 x1 a0 a1 a2 a3 b0 b1 b2 b3 p0 p1 p2 p3 p4 p5 p6 p7 p8 p9 a1 = 501 := lkP_at 9999 ho (i := 5) rfl
  have m_a1 : a1 ∈ (poI cI q6 x0 x1 a0 a1 a2 a3 b0 b1 b2 b3 p0 p1 p2 p3 p4 p5 p6 p7 p8 p9).map (fun q => q.1) := List.mem_of_getElem? (i := 5) rfl
  have k_a1 : isK (rho0 cI q6 x0 x1 a0 a1 a2 a3 b0 b1 b2 b3 p0 p1 p2 p3 p4 p5 p6 p7 p8 p9) a1 6 = true := decide_eq_true ⟨m_a1, (congrArg kdE l_a1).trans rfl⟩
  have l_b1 : lkP d0E (poI cI q6 x0 x1 a0 a1 a2 a3 b0 b1 b2 b3 p0 p1 p2 p3 p4 p5 p6 p7 p8 p9) b1 = .inl (cI, 6, .inl (fun _ => 0)) := lkP_at d0E hn (i := 6) rfl
  have o_b1 : ow0 q6 x0 x1 a0 a1 a2 a3 b0 b1 b2 b3 p0 p1 p2 p3 p4 p5 p6 p7 p8 p9 b1 = 511 := lkP_at 9999 ho (i := 6) rfl
  have m_b1 : b1 ∈ (poI cI q6 x0 x1 a0 a1 a2 a3 b0 b1 b2 b3 p0 p1 p2 p3 p4 p5 p6 p7 p8 p9).map (fun q => q.1) := List.mem_of_getElem? (i := 6) rfl
  have k_b1 : isK (rho0 cI q6 x0 x1 a0 a1 a2 a3 b0 b1 b2 b3 p0 p1 p2 p3 p4 p5 p6 p7 p8 p9) b1 11 = true := decide_eq_true ⟨m_b1, (congrArg kdE l_b1).trans rfl⟩
  have l_a2 : lkP d0E (poI cI q6 x0 x1 a0 a1 a2 a3 b0 b1 b2 b3 p0 p1 p2 p3 p4 p5 p6 p7 p8 p9) a2 = .inr (6, [.ref b2, .int 0]) := lkP_at d0E hn (i := 7) rfl
  have o_a2 : ow0 q6 x0 x1 a0 a1 a2 a3 b0 b1 b2 b3 p0 p1 p2 p3 p4 p5 p6 p7 p8 p9 a2 = 502 := lkP_at 9999 ho (i := 7) rfl
  have m_a2 : a2 ∈ (poI cI q6 x0 x1 a0 a1 a2 a3 b0 b1 b2 b3 p0 p1 p2 p3 p4 p5 p6 p7 p8 p9).map (fun q => q.1) := List.mem_of_getElem? (i := 7) rfl
  have k_a2 : isK (rho0 cI q6 x0 x1 a0 a1 a2 a3 b0 b1 b2 b3 p0 p1 p2 p3 p4 p5 p6 p7 p8 p9) a2 6 = true := decide_eq_true ⟨m_a2, (congrArg kdE l_a2).trans rfl⟩
  have l_b2 : lkP d0E (poI cI q6 x0 x1 a0 a1 a2 a3 b0 b1 b2 b3 p0 p1 p2 p3 p4 p5 p6 p7 p8 p9) b2 = .inl (cI, 6, .inl (fun _ => 0)) := lkP_at d0E hn (i := 8) rfl
  have o_b2 : ow0 q6 x0 x1 a0 a1 a2 a3 b0 b1 b2 b3 p0 p1 p2 p3 p4 p5 p6 p7 p8 p9 b2 = 512 := lkP_at 9999 ho (i := 8) rfl
  have m_b2 : b2 ∈ (poI cI q6 x0 x1 a0 a1 a2 a3 b0 b1 b2 b3 p0 p1 p2 p3 p4 p5 p6 p7 p8 p9).map (fun q => q.1) := List.mem_of_getElem? (i := 8) rfl
  have k_b2 : isK (rho0 cI q6 x0 x1 a0 a1 a2 a3 b0 b1 b2 b3 p0 p1 p2 p3 p4 p5 p6 p7 p8 p9) b2 11 = true := decide_eq_true ⟨m_b2, (congrArg kdE l_b2).trans rfl⟩
  have l_a3 : lkP d0E (poI cI q6 x0 x1 a0 a1 a2 a3 b0 b1 b2 b3 p0 p1 p2 p3 p4 p5 p6 p7 p8 p9) a3 = .inr (6, [.ref b3, .int 0]) := lkP_at d0E hn (i := 9) rfl
  have o_a3 : ow0 q6 x0 x1 a0 a1 a2 a3 b0 b1 b2 b3 p0 p1 p2 p3 p4 p5 p6 p7 p8 p9 a3 = 503 := lkP_at 9999 ho (i := 9) rfl
  have m_a3 : a3 ∈ (poI cI q6 x0 x1 a0 a1 a2 a3 b0 b1 b2 b3 p0 p1 p2 p3 p4 p5 p6 p7 p8 p9).map (fun q => q.1) := List.mem_of_getElem? (i := 9) rfl
  have k_a3 : isK (rho0 cI q6 x0 x1 a0 a1 a2 a3 b0 b1 b2 b3 p0 p1 p2 p3 p4 p5 p6 p7 p8 p9) a3 6 = true := decide_eq_true ⟨m_a3, (congrArg kdE l_a3).trans rfl⟩
  have l_b3 : lkP d0E (poI cI q6 x0 x1 a0 a1 a2 a3 b0 b1 b2 b3 p0 p1 p2 p3 p4 p5 p6 p7 p8 p9) b3 = .inl (cI, 6, .inl (fun _ => 0)) := lkP_at d0E hn (i := 10) rfl
  have o_b3 : ow0 q6 x0 x1 a0 a1 a2 a3 b0 b1 b2 b3 p0 p1 p2 p3 p4 p5 p6 p7 p8 p9 b3 = 513 := lkP_at 9999 ho (i := 10) rfl
  have m_b3 : b3 ∈ (poI cI q6 x0 x1 a0 a1 a2 a3 b0 b1 b2 b3 p0 p1 p2 p3 p4 p5 p6 p7 p8 p9).map (fun q => q.1) := List.mem_of_getElem? (i := 10) rfl
  have k_b3 : isK (rho0 cI q6 x0 x1 a0 a1 a2 a3 b0 b1 b2 b3 p0 p1 p2 p3 p4 p5 p6 p7 p8 p9) b3 11 = true := decide_eq_true ⟨m_b3, (congrArg kdE l_b3).trans rfl⟩
  have l_p0 : lkP d0E (poI cI q6 x0 x1 a0 a1 a2 a3 b0 b1 b2 b3 p0 p1 p2 p3 p4 p5 p6 p7 p8 p9) p0 = .inr (3, [.int 0, .int 0, .int 0, .int 0]) := lkP_at d0E hn (i := 11) rfl
  have o_p0 : ow0 q6 x0 x1 a0 a1 a2 a3 b0 b1 b2 b3 p0 p1 p2 p3 p4 p5 p6 p7 p8 p9 p0 = 520 := lkP_at 9999 ho (i := 11) rfl
  have m_p0 : p0 ∈ (poI cI q6 x0 x1 a0 a1 a2 a3 b0 b1 b2 b3 p0 p1 p2 p3 p4 p5 p6 p7 p8 p9).map (fun q => q.1) := List.mem_of_getElem? (i := 11) rfl
  have k_p0 : isK (rho0 cI q6 x0 x1 a0 a1 a2 a3 b0 b1 b2 b3 p0 p1 p2 p3 p4 p5 p6 p7 p8 p9) p0 3 = true := decide_eq_true ⟨m_p0, (congrArg kdE l_p0).trans rfl⟩
  have l_p1 : lkP d0E (poI cI q6 x0 x1 a0 a1 a2 a3 b0 b1 b2 b3 p0 p1 p2 p3 p4 p5 p6 p7 p8 p9) p1 = .inr (3, [.int 0, .int 0, .int 0, .int 0]) := lkP_at d0E hn (i := 12) rfl
  have o_p1 : ow0 q6 x0 x1 a0 a1 a2 a3 b0 b1 b2 b3 p0 p1 p2 p3 p4 p5 p6 p7 p8 p9 p1 = 521 := lkP_at 9999 ho (i := 12) rfl
  have m_p1 : p1 ∈ (poI cI q6 x0 x1 a0 a1 a2 a3 b0 b1 b2 b3 p0 p1 p2 p3 p4 p5 p6 p7 p8 p9).map (fun q => q.1) := List.mem_of_getElem? (i := 12) rfl
  have k_p1 : isK (rho0 cI q6 x0 x1 a0 a1 a2 a3 b0 b1 b2 b3 p0 p1 p2 p3 p4 p5 p6 p7 p8 p9) p1 3 = true := decide_eq_true ⟨m_p1, (congrArg kdE l_p1).trans rfl⟩
  have l_p2 : lkP d0E (poI cI q6 x0 x1 a0 a1 a2 a3 b0 b1 b2 b3 p0 p1 p2 p3 p4 p5 p6 p7 p8 p9) p2 = .inr (3, [.int 0, .int 0, .int 0, .int 0]) := lkP_at d0E hn (i := 13) rfl
  have o_p2 : ow0 q6 x0 x1 a0 a1 a2 a3 b0 b1 b2 b3 p0 p1 p2 p3 p4 p5 p6 p7 p8 p9 p2 = 522 := lkP_at 9999 ho (i := 13) rfl
  have m_p2 : p2 ∈ (poI cI q6 x0 x1 a0 a1 a2 a3 b0 b1 b2 b3 p0 p1 p2 p3 p4 p5 p6 p7 p8 p9).map (fun q => q.1) := List.mem_of_getElem? (i := 13) rfl
  have k_p2 : isK (rho0 cI q6 x0 x1 a0 a1 a2 a3 b0 b1 b2 b3 p0 p1 p2 p3 p4 p5 p6 p7 p8 p9) p2 3 = true := decide_eq_true ⟨m_p2, (congrArg kdE l_p2).trans rfl⟩
  have l_p3 : lkP d0E (poI cI q6 x0 x1 a0 a1 a2 a3 b0 b1 b2 b3 p0 p1 p2 p3 p4 p5 p6 p7 p8 p9) p3 = .inr (3, [.int 0, .int 0, .int 0, .int 0]) := lkP_at d0E hn (i := 14) rfl
  have o_p3 : ow0 q6 x0 x1 a0 a1 a2 a3 b0 b1 b2 b3 p0 p1 p2 p3 p4 p5 p6 p7 p8 p9 p3 = 523 := lkP_at 9999 ho (i := 14) rfl
  have m_p3 : p3 ∈ (poI cI q6 x0 x1 a0 a1 a2 a3 b0 b1 b2 b3 p0 p1 p2 p3 p4 p5 p6 p7 p8 p9).map (fun q => q.1) := List.mem_of_getElem? (i := 14) rfl
  have k_p3 : isK (rho0 cI q6 x0 x1 a0 a1 a2 a3 b0 b1 b2 b3 p0 p1 p2 p3 p4 p5 p6 p7 p8 p9) p3 3 = true := decide_eq_true ⟨m_p3, (congrArg kdE l_p3).trans rfl⟩
  have l_p4 : lkP d0E (poI cI q6 x0 x1 a0 a1 a2 a3 b0 b1 b2 b3 p0 p1 p2 p3 p4 p5 p6 p7 p8 p9) p4 = .inr (3, [.int 0, .int 0, .int 0, .int 0]) := lkP_at d0E hn (i := 15) rfl
  have o_p4 : ow0 q6 x0 x1 a0 a1 a2 a3 b0 b1 b2 b3 p0 p1 p2 p3 p4 p5 p6 p7 p8 p9 p4 = 524 := lkP_at 9999 ho (i := 15) rfl
  have m_p4 : p4 ∈ (poI cI q6 x0 x1 a0 a1 a2 a3 b0 b1 b2 b3 p0 p1 p2 p3 p4 p5 p6 p7 p8 p9).map (fun q => q.1) := List.mem_of_getElem? (i := 15) rfl
  have k_p4 : isK (rho0 cI q6 x0 x1 a0 a1 a2 a3 b0 b1 b2 b3 p0 p1 p2 p3 p4 p5 p6 p7 p8 p9) p4 3 = true := decide_eq_true ⟨m_p4, (congrArg kdE l_p4).trans rfl⟩
  have l_p5 : lkP d0E (poI cI q6 x0 x1 a0 a1 a2 a3 b0 b1 b2 b3 p0 p1 p2 p3 p4 p5 p6 p7 p8 p9) p5 = .inr (3, [.int 0, .int 0, .int 0, .int 0]) := lkP_at d0E hn (i := 16) rfl
  have o_p5 : ow0 q6 x0 x1 a0 a1 a2 a3 b0 b1 b2 b3 p0 p1 p2 p3 p4 p5 p6 p7 p8 p9 p5 = 525 := lkP_at 9999 ho (i := 16) rfl
  have m_p5 : p5 ∈ (poI cI q6 x0 x1 a0 a1 a2 a3 b0 b1 b2 b3 p0 p1 p2 p3 p4 p5 p6 p7 p8 p9).map (fun q => q.1) := List.mem_of_getElem? (i := 16) rfl
  have k_p5 : isK (rho0 cI q6 x0 x1 a0 a1 a2 a3 b0 b1 b2 b3 p0 p1 p2 p3 p4 p5 p6 p7 p8 p9) p5 3 = true := decide_eq_true ⟨m_p5, (congrArg kdE l_p5).trans rfl⟩
  have l_p6 : lkP d0E (poI cI q6 x0 x1 a0 a1 a2 a3 b0 b1 b2 b3 p0 p1 p2 p3 p4 p5 p6 p7 p8 p9) p6 = .inr (3, [.int 0, .int 0, .int 0, .int 0]) := lkP_at d0E hn (i := 17) rfl
  have o_p6 : ow0 q6 x0 x1 a0 a1 a2 a3 b0 b1 b2 b3 p0 p1 p2 p3 p4 p5 p6 p7 p8 p9 p6 = 526 := lkP_at 9999 ho (i := 17) rfl
  have m_p6 : p6 ∈ (poI cI q6 x0 x1 a0 a1 a2 a3 b0 b1 b2 b3 p0 p1 p2 p3 p4 p5 p6 p7 p8 p9).map (fun q => q.1) := List.mem_of_getElem? (i := 17) rfl
  have k_p6 : isK (rho0 cI q6 x0 x1 a0 a1 a2 a3 b0 b1 b2 b3 p0 p1 p2 p3 p4 p5 p6 p7 p8 p9) p6 3 = true := decide_eq_true ⟨m_p6, (congrArg kdE l_p6).trans rfl⟩
  have l_p7 : lkP d0E (poI cI q6 x0 x1 a0 a1 a2 a3 b0 b1 b2 b3 p0 p1 p2 p3 p4 p5 p6 p7 p8 p9) p7 = .inr (3, [.int 0, .int 0, .int 0, .int 0]) := lkP_at d0E hn (i := 18) rfl
  have o_p7 : ow0 q6 x0 x1 a0 a1 a2 a3 b0 b1 b2 b3 p0 p1 p2 p3 p4 p5 p6 p7 p8 p9 p7 = 527 := lkP_at 9999 ho (i := 18) rfl
  have m_p7 : p7 ∈ (poI cI q6 x0 x1 a0 a1 a2 a3 b0 b1 b2 b3 p0 p1 p2 p3 p4 p5 p6 p7 p8 p9).map (fun q => q.1) := List.mem_of_getElem? (i := 18) rfl
  have k_p7 : isK (rho0 cI q6 x0 x1 a0 a1 a2 a3 b0 b1 b2 b3 p0 p1 p2 p3 p4 p5 p6 p7 p8 p9) p7 3 = true := decide_eq_true ⟨m_p7, (congrArg kdE l_p7).trans rfl⟩
  have l_p8 : lkP d0E (poI cI q6 x0 x1 a0 a1 a2 a3 b0 b1 b2 b3 p0 p1 p2 p3 p4 p5 p6 p7 p8 p9) p8 = .inr (3, [.int 0, .int 0, .int 0, .int 0]) := lkP_at d0E hn (i := 19) rfl
  have o_p8 : ow0 q6 x0 x1 a0 a1 a2 a3 b0 b1 b2 b3 p0 p1 p2 p3 p4 p5 p6 p7 p8 p9 p8 = 528 := lkP_at 9999 ho (i := 19) rfl
  have m_p8 : p8 ∈ (poI cI q6 x0 x1 a0 a1 a2 a3 b0 b1 b2 b3 p0 p1 p2 p3 p4 p5 p6 p7 p8 p9).map (fun q => q.1) := List.mem_of_getElem? (i := 19) rfl
  have k_p8 : isK (rho0 cI q6 x0 x1 a0 a1 a2 a3 b0 b1 b2 b3 p0 p1 p2 p3 p4 p5 p6 p7 p8 p9) p8 3 = true := decide_eq_true ⟨m_p8, (congrArg kdE l_p8).trans rfl⟩
  have l_p9 : lkP d0E (poI cI q6 x0 x1 a0 a1 a2 a3 b0 b1 b2 b3 p0 p1 p2 p3 p4 p5 p6 p7 p8 p9) p9 = .inr (3, [.int 0, .int 0, .int 0, .int 0]) := lkP_at d0E hn (i := 20) rfl
  have o_p9 : ow0 q6 x0 x1 a0 a1 a2 a3 b0 b1 b2 b3 p0 p1 p2 p3 p4 p5 p6 p7 p8 p9 p9 = 529 := lkP_at 9999 ho (i := 20) rfl
  have m_p9 : p9 ∈ (poI cI q6 x0 x1 a0 a1 a2 a3 b0 b1 b2 b3 p0 p1 p2 p3 p4 p5 p6 p7 p8 p9).map (fun q => q.1) := List.mem_of_getElem? (i := 20) rfl
  have k_p9 : isK (rho0 cI q6 x0 x1 a0 a1 a2 a3 b0 b1 b2 b3 p0 p1 p2 p3 p4 p5 p6 p7 p8 p9) p9 3 = true := decide_eq_true ⟨m_p9, (congrArg kdE l_p9).trans rfl⟩
  refine ⟨ow0 q6 x0 x1 a0 a1 a2 a3 b0 b1 b2 b3 p0 p1 p2 p3 p4 p5 p6 p7 p8 p9, 0, 0, ?_, ?_, ?_, ?_, ?_, ?_, ?_⟩
  · exact ⟨0, by decide, rfl, rfl, fun j hj => absurd hj (Nat.not_lt_zero j)⟩
  · exact ⟨by decide, rfl, rfl, fun i _ => Or.inl ⟨rfl, fun hi => absurd hi (Nat.not_lt_zero i)⟩⟩
  · exact ⟨by decide, rfl, rfl, fun i _ => Or.inl ⟨rfl, fun hi => absurd hi (Nat.not_lt_zero i), fun _ => rfl⟩⟩
  · refine ⟨fun p hp => ?_, fun p j j' _ hj _ => absurd hj.1 (Nat.not_lt_zero j)⟩
    have hh : ∀ (p j : Nat), ¬ held mSI 0 j p := fun p j hj => absurd hj.1 (Nat.not_lt_zero j)
    rcases (show p = 0 ∨ p = 1 ∨ p = 2 ∨ p = 3 ∨ p = 4 ∨ p = 5 ∨ p = 6 ∨ p = 7 ∨ p = 8 ∨ p = 9 by omega) with rfl | rfl | rfl | rfl | rfl | rfl | rfl | rfl | rfl | rfl
    · exact ⟨p0, ⟨rfl, k_p0, o_p0⟩, Or.inl ⟨(congrArg (fun e => inE e 0) l_p0).trans rfl, rfl⟩, Or.inr ⟨(congrArg (fun e => inE e 3) l_p0).trans rfl, hh _⟩⟩
    · exact ⟨p1, ⟨rfl, k_p1, o_p1⟩, Or.inl ⟨(congrArg (fun e => inE e 0) l_p1).trans rfl, rfl⟩, Or.inr ⟨(congrArg (fun e => inE e 3) l_p1).trans rfl, hh _⟩⟩
    · exact ⟨p2, ⟨rfl, k_p2, o_p2⟩, Or.inl ⟨(congrArg (fun e => inE e 0) l_p2).trans rfl, rfl⟩, Or.inr ⟨(congrArg (fun e => inE e 3) l_p2).trans rfl, hh _⟩⟩
    · exact ⟨p3, ⟨rfl, k_p3, o_p3⟩, Or.inl ⟨(congrArg (fun e => inE e 0) l_p3).trans rfl, rfl⟩, Or.inr ⟨(congrArg (fun e => inE e 3) l_p3).trans rfl, hh _⟩⟩
    · exact ⟨p4, ⟨rfl, k_p4, o_p4⟩, Or.inl ⟨(congrArg (fun e => inE e 0) l_p4).trans rfl, rfl⟩, Or.inr ⟨(congrArg (fun e => inE e 3) l_p4).trans rfl, hh _⟩⟩
    · exact ⟨p5, ⟨rfl, k_p5, o_p5⟩, Or.inl ⟨(congrArg (fun e => inE e 0) l_p5).trans rfl, rfl⟩, Or.inr ⟨(congrArg (fun e => inE e 3) l_p5).trans rfl, hh _⟩⟩
    · exact ⟨p6, ⟨rfl, k_p6, o_p6⟩, Or.inl ⟨(congrArg (fun e => inE e 0) l_p6).trans rfl, rfl⟩, Or.inr ⟨(congrArg (fun e => inE e 3) l_p6).trans rfl, hh _⟩⟩
    · exact ⟨p7, ⟨rfl, k_p7, o_p7⟩, Or.inl ⟨(congrArg (fun e => inE e 0) l_p7).trans rfl, rfl⟩, Or.inr ⟨(congrArg (fun e => inE e 3) l_p7).trans rfl, hh _⟩⟩
    · exact ⟨p8, ⟨rfl, k_p8, o_p8⟩, Or.inl ⟨(congrArg (fun e => inE e 0) l_p8).trans rfl, rfl⟩, Or.inr ⟨(congrArg (fun e => inE e 3) l_p8).trans rfl, hh _⟩⟩
    · exact ⟨p9, ⟨rfl, k_p9, o_p9⟩, Or.inl ⟨(congrArg (fun e => inE e 0) l_p9).trans rfl, rfl⟩, Or.inr ⟨(congrArg (fun e => inE e 3) l_p9).trans rfl, hh _⟩⟩
  · intro k hk
    rcases (show k = 0 ∨ k = 1 ∨ k = 2 ∨ k = 3 by omega) with rfl | rfl | rfl | rfl
    · exact ⟨a0, b0, 0, ⟨rfl, k_a0, o_a0⟩, ⟨(congrArg (fun e => rfE e 0) l_a0).trans rfl, k_b0, o_b0, (congrArg lnE l_b0).trans rfl⟩, ⟨by decide, (congrArg (fun e => inE e 1) l_a0).trans rfl, rfl⟩, fun t ht => absurd ht (Nat.not_lt_zero t)⟩
    · exact ⟨a1, b1, 0, ⟨rfl, k_a1, o_a1⟩, ⟨(congrArg (fun e => rfE e 0) l_a1).trans rfl, k_b1, o_b1, (congrArg lnE l_b1).trans rfl⟩, ⟨by decide, (congrArg (fun e => inE e 1) l_a1).trans rfl, rfl⟩, fun t ht => absurd ht (Nat.not_lt_zero t)⟩
    · exact ⟨a2, b2, 0, ⟨rfl, k_a2, o_a2⟩, ⟨(congrArg (fun e => rfE e 0) l_a2).trans rfl, k_b2, o_b2, (congrArg lnE l_b2).trans rfl⟩, ⟨by decide, (congrArg (fun e => inE e 1) l_a2).trans rfl, rfl⟩, fun t ht => absurd ht (Nat.not_lt_zero t)⟩
    · exact ⟨a3, b3, 0, ⟨rfl, k_a3, o_a3⟩, ⟨(congrArg (fun e => rfE e 0) l_a3).trans rfl, k_b3, o_b3, (congrArg lnE l_b3).trans rfl⟩, ⟨by decide, (congrArg (fun e => inE e 1) l_a3).trans rfl, rfl⟩, fun t ht => absurd ht (Nat.not_lt_zero t)⟩
  · exact ⟨q6, 4, 2, 2, ⟨rfl, k_q6, o_q6, (congrArg lnE l_q6).trans rfl⟩, by decide, ⟨(congrArg (fun e => coE e 0) l_q6).trans rfl, (congrArg (fun e => coE e 1) l_q6).trans rfl, (congrArg (fun e => coE e 4) l_q6).trans rfl, (congrArg (fun e => coE e 5) l_q6).trans rfl⟩, rfl, rfl, rfl⟩
  · exact ⟨⟨0, by decide, rfl, rfl⟩, ⟨2, by decide, rfl, rfl⟩, Or.inl ⟨rfl, rfl, rfl⟩, fun p _ => rfl⟩
set_option maxHeartbeats 8000000 in
set_option maxRecDepth 100000 in
theorem conv0 {D : va_G} {A : Nat → Prop} {cI c1 c2 c3 c4 : ClassId} {h : Nat} {q0 : Nat} {u1 : Nat → Nat} {q2 : Nat} {u3 : Nat → Nat} {q4 : Nat} {q5 : Nat} {q6 : Nat} {q7 : Nat} {u8 : Nat → Nat} {q9 : Nat} {q10 : Nat} {q11 : Nat} {u12 : Nat → Nat} {q13 : Nat} {q14 : Nat} {u15 : Nat → Nat} {q16 : Nat} {u17 : Nat → Nat} {q18 : Nat} {u19 : Nat → Nat} {q20 : Nat} {u21 : Nat → Nat} {q22 : Nat} {q24 : Nat} {q26 : Nat} {q28 : Nat} {q30 : Nat} {q32 : Nat} {q34 : Nat} {q36 : Nat} {q38 : Nat} {q40 : Nat} {t : State} (hP : va_P D vwCl [(h, .inr (9, [.ref q0, .ref q2, .ref q4, .int 0, .ref q5, .int 0, .ref q6, .int (0 : Int32), .int (2 : Int32), .ref q7, .ref (u8 0), .int (-1 : Int32), .int (-1 : Int32), .ref q9, .ref q10, .ref q11, .ref q13])), (q0, .inr (8, [.ref (u1 0), .int 0, .ref (u1 1)])), ((u1 0), .inl (cI, 130, .inl (fun _ => 0))), ((u1 1), .inl (cI, 120, .inl (fun _ => 0))), (q2, .inr (5, [.ref (u3 0), .int 0])), ((u3 0), .inl (cI, 6, .inl (fun _ => 0))), (q4, .inl (c1, 40, .inr (.inr (.inr (.inr (fun _ => none)))))), (q5, .inl (c2, 30, .inr (.inr (.inr (.inr (fun _ => none)))))), (q6, .inl (cI, 6, .inl (upd (upd (upd (upd (upd (upd (fun _ => 0) (0 : Int32).toNatClampNeg (4)) (1 : Int32).toNatClampNeg (4)) (2 : Int32).toNatClampNeg (0)) (3 : Int32).toNatClampNeg (0)) (4 : Int32).toNatClampNeg (2)) (5 : Int32).toNatClampNeg (2)))), (q7, .inr (7, [.ref (u8 0), .ref (u8 6), .ref (u8 7), .ref (u8 8), .ref (u8 9), .ref (u8 10), .int 0, .int 0, .int 0, .int 0])), ((u8 0), .inr (2, [.ref (u8 1), .ref (u8 2), .int 0, .int 0, .ref (u8 3), .ref (u8 4), .ref (u8 5), .int 0])), ((u8 1), .inl (cI, 0, .inl (fun _ => 0))), ((u8 2), .inl (cI, 6, .inl (fun _ => 0))), ((u8 3), .inl (cI, 5, .inl (fun _ => 0))), ((u8 4), .inl (cI, 121, .inl (fun _ => 0))), ((u8 5), .inl (cI, 6, .inl (fun _ => 0))), ((u8 6), .inl (cI, 5184, .inl (fun _ => 0))), ((u8 7), .inl (cI, 6, .inl (fun _ => 0))), ((u8 8), .inl (cI, 5, .inl (fun _ => 0))), ((u8 9), .inl (cI, 6, .inl (fun _ => 0))), ((u8 10), .inl (cI, 6, .inl (fun _ => 0))), (q9, .inl (c3, 4, .inr (.inr (.inr (.inr (va_up (va_up (va_up (va_up (fun _ => none) (0 : Int32).toNatClampNeg (some q14)) (1 : Int32).toNatClampNeg (some q16)) (2 : Int32).toNatClampNeg (some q18)) (3 : Int32).toNatClampNeg (some q20))))))), (q10, .inl (c4, 10, .inr (.inr (.inr (.inr (va_up (va_up (va_up (va_up (va_up (va_up (va_up (va_up (va_up (va_up (fun _ => none) (0 : Int32).toNatClampNeg (some q22)) (1 : Int32).toNatClampNeg (some q24)) (2 : Int32).toNatClampNeg (some q26)) (3 : Int32).toNatClampNeg (some q28)) (4 : Int32).toNatClampNeg (some q30)) (5 : Int32).toNatClampNeg (some q32)) (6 : Int32).toNatClampNeg (some q34)) (7 : Int32).toNatClampNeg (some q36)) (8 : Int32).toNatClampNeg (some q38)) (9 : Int32).toNatClampNeg (some q40))))))), (q11, .inr (1, [.ref (u12 0), .ref (u12 1), .ref (u12 2), .int 0])), ((u12 0), .inl (cI, 10, .inl (fun _ => 0))), ((u12 1), .inl (cI, 10, .inl mM1)), ((u12 2), .inl (cI, 30, .inl (fun _ => 0))), (q13, .inl (cI, 6, .inl (fun _ => 0))), (q14, .inr (6, [.ref (u15 0), .int 0])), ((u15 0), .inl (cI, 6, .inl (fun _ => 0))), (q16, .inr (6, [.ref (u17 0), .int 0])), ((u17 0), .inl (cI, 6, .inl (fun _ => 0))), (q18, .inr (6, [.ref (u19 0), .int 0])), ((u19 0), .inl (cI, 6, .inl (fun _ => 0))), (q20, .inr (6, [.ref (u21 0), .int 0])), ((u21 0), .inl (cI, 6, .inl (fun _ => 0))), (q22, .inr (3, [.int 0, .int 0, .int 0, .int 0])), (q24, .inr (3, [.int 0, .int 0, .int 0, .int 0])), (q26, .inr (3, [.int 0, .int 0, .int 0, .int 0])), (q28, .inr (3, [.int 0, .int 0, .int 0, .int 0])), (q30, .inr (3, [.int 0, .int 0, .int 0, .int 0])), (q32, .inr (3, [.int 0, .int 0, .int 0, .int 0])), (q34, .inr (3, [.int 0, .int 0, .int 0, .int 0])), (q36, .inr (3, [.int 0, .int 0, .int 0, .int 0])), (q38, .inr (3, [.int 0, .int 0, .int 0, .int 0])), (q40, .inr (3, [.int 0, .int 0, .int 0, .int 0]))] t.heap) (hK : va_K D vwCl [(cI, .int), (c1, .object "RobeHouse$Cloth"), (c2, .object "RobeHouse$Robe"), (c3, .object "RobeHouse$Rules"), (c4, .object "RobeHouse$Person")] t) (hD : va_D A [(h, .inr (9, [.ref q0, .ref q2, .ref q4, .int 0, .ref q5, .int 0, .ref q6, .int (0 : Int32), .int (2 : Int32), .ref q7, .ref (u8 0), .int (-1 : Int32), .int (-1 : Int32), .ref q9, .ref q10, .ref q11, .ref q13])), (q0, .inr (8, [.ref (u1 0), .int 0, .ref (u1 1)])), ((u1 0), .inl (cI, 130, .inl (fun _ => 0))), ((u1 1), .inl (cI, 120, .inl (fun _ => 0))), (q2, .inr (5, [.ref (u3 0), .int 0])), ((u3 0), .inl (cI, 6, .inl (fun _ => 0))), (q4, .inl (c1, 40, .inr (.inr (.inr (.inr (fun _ => none)))))), (q5, .inl (c2, 30, .inr (.inr (.inr (.inr (fun _ => none)))))), (q6, .inl (cI, 6, .inl (upd (upd (upd (upd (upd (upd (fun _ => 0) (0 : Int32).toNatClampNeg (4)) (1 : Int32).toNatClampNeg (4)) (2 : Int32).toNatClampNeg (0)) (3 : Int32).toNatClampNeg (0)) (4 : Int32).toNatClampNeg (2)) (5 : Int32).toNatClampNeg (2)))), (q7, .inr (7, [.ref (u8 0), .ref (u8 6), .ref (u8 7), .ref (u8 8), .ref (u8 9), .ref (u8 10), .int 0, .int 0, .int 0, .int 0])), ((u8 0), .inr (2, [.ref (u8 1), .ref (u8 2), .int 0, .int 0, .ref (u8 3), .ref (u8 4), .ref (u8 5), .int 0])), ((u8 1), .inl (cI, 0, .inl (fun _ => 0))), ((u8 2), .inl (cI, 6, .inl (fun _ => 0))), ((u8 3), .inl (cI, 5, .inl (fun _ => 0))), ((u8 4), .inl (cI, 121, .inl (fun _ => 0))), ((u8 5), .inl (cI, 6, .inl (fun _ => 0))), ((u8 6), .inl (cI, 5184, .inl (fun _ => 0))), ((u8 7), .inl (cI, 6, .inl (fun _ => 0))), ((u8 8), .inl (cI, 5, .inl (fun _ => 0))), ((u8 9), .inl (cI, 6, .inl (fun _ => 0))), ((u8 10), .inl (cI, 6, .inl (fun _ => 0))), (q9, .inl (c3, 4, .inr (.inr (.inr (.inr (va_up (va_up (va_up (va_up (fun _ => none) (0 : Int32).toNatClampNeg (some q14)) (1 : Int32).toNatClampNeg (some q16)) (2 : Int32).toNatClampNeg (some q18)) (3 : Int32).toNatClampNeg (some q20))))))), (q10, .inl (c4, 10, .inr (.inr (.inr (.inr (va_up (va_up (va_up (va_up (va_up (va_up (va_up (va_up (va_up (va_up (fun _ => none) (0 : Int32).toNatClampNeg (some q22)) (1 : Int32).toNatClampNeg (some q24)) (2 : Int32).toNatClampNeg (some q26)) (3 : Int32).toNatClampNeg (some q28)) (4 : Int32).toNatClampNeg (some q30)) (5 : Int32).toNatClampNeg (some q32)) (6 : Int32).toNatClampNeg (some q34)) (7 : Int32).toNatClampNeg (some q36)) (8 : Int32).toNatClampNeg (some q38)) (9 : Int32).toNatClampNeg (some q40))))))), (q11, .inr (1, [.ref (u12 0), .ref (u12 1), .ref (u12 2), .int 0])), ((u12 0), .inl (cI, 10, .inl (fun _ => 0))), ((u12 1), .inl (cI, 10, .inl mM1)), ((u12 2), .inl (cI, 30, .inl (fun _ => 0))), (q13, .inl (cI, 6, .inl (fun _ => 0))), (q14, .inr (6, [.ref (u15 0), .int 0])), ((u15 0), .inl (cI, 6, .inl (fun _ => 0))), (q16, .inr (6, [.ref (u17 0), .int 0])), ((u17 0), .inl (cI, 6, .inl (fun _ => 0))), (q18, .inr (6, [.ref (u19 0), .int 0])), ((u19 0), .inl (cI, 6, .inl (fun _ => 0))), (q20, .inr (6, [.ref (u21 0), .int 0])), ((u21 0), .inl (cI, 6, .inl (fun _ => 0))), (q22, .inr (3, [.int 0, .int 0, .int 0, .int 0])), (q24, .inr (3, [.int 0, .int 0, .int 0, .int 0])), (q26, .inr (3, [.int 0, .int 0, .int 0, .int 0])), (q28, .inr (3, [.int 0, .int 0, .int 0, .int 0])), (q30, .inr (3, [.int 0, .int 0, .int 0, .int 0])), (q32, .inr (3, [.int 0, .int 0, .int 0, .int 0])), (q34, .inr (3, [.int 0, .int 0, .int 0, .int 0])), (q36, .inr (3, [.int 0, .int 0, .int 0, .int 0])), (q38, .inr (3, [.int 0, .int 0, .int 0, .int 0])), (q40, .inr (3, [.int 0, .int 0, .int 0, .int 0]))]) : ∃ cs ad ρ, posQ D cs ad A ρ t ∧ cs 0 = cI ∧ ad 1009 = h ∧ Inv ρ mSI := by
  have hDp := hD.sub (ws' := poI cI q6 (u8 1) (u8 2) q14 q16 q18 q20 (u15 0) (u17 0) (u19 0) (u21 0) q22 q24 q26 q28 q30 q32 q34 q36 q38 q40) [8, 11, 12, 28, 29, 30, 31, 32, 33, 34, 35, 36, 37, 38, 39, 40, 41, 42, 43, 44, 45] (by decide) rfl
  have hnd := nd_of hDp
  have hpl := pl_gE cI rI0 rA0 (rQ0 q14 q16 q18 q20 q22 q24 q26 q28 q30 q32 q34 q36 q38 q40) (rV0 (u8 1) (u8 2) q6) (poI cI q6 (u8 1) (u8 2) q14 q16 q18 q20 (u15 0) (u17 0) (u19 0) (u21 0) q22 q24 q26 q28 q30 q32 q34 q36 q38 q40) hnd (by intro q hq; simp only [poI, List.mem_cons, List.not_mem_nil, or_false] at hq; rcases hq with rfl | rfl | rfl | rfl | rfl | rfl | rfl | rfl | rfl | rfl | rfl | rfl | rfl | rfl | rfl | rfl | rfl | rfl | rfl | rfl | rfl <;> rfl)
  have e : wR (csI cI c1 c2 c3 c4) (adI h q0 u1 q2 u3 q4 q5 q6 q7 u8 q9 q10 q11 u12 q13 q14 u15 q16 u17 q18 u19 q20 u21 q22 q24 q26 q28 q30 q32 q34 q36 q38 q40) (rho0 cI q6 (u8 1) (u8 2) q14 q16 q18 q20 (u15 0) (u17 0) (u19 0) (u21 0) q22 q24 q26 q28 q30 q32 q34 q36 q38 q40) = xR (csI cI c1 c2 c3 c4) (adI h q0 u1 q2 u3 q4 q5 q6 q7 u8 q9 q10 q11 u12 q13 q14 u15 q16 u17 q18 u19 q20 u21 q22 q24 q26 q28 q30 q32 q34 q36 q38 q40) (rho0 cI q6 (u8 1) (u8 2) q14 q16 q18 q20 (u15 0) (u17 0) (u19 0) (u21 0) q22 q24 q26 q28 q30 q32 q34 q36 q38 q40) ++ poI cI q6 (u8 1) (u8 2) q14 q16 q18 q20 (u15 0) (u17 0) (u19 0) (u21 0) q22 q24 q26 q28 q30 q32 q34 q36 q38 q40 := congrArg (fun z => xR (csI cI c1 c2 c3 c4) (adI h q0 u1 q2 u3 q4 q5 q6 q7 u8 q9 q10 q11 u12 q13 q14 u15 q16 u17 q18 u19 q20 u21 q22 q24 q26 q28 q30 q32 q34 q36 q38 q40) (rho0 cI q6 (u8 1) (u8 2) q14 q16 q18 q20 (u15 0) (u17 0) (u19 0) (u21 0) q22 q24 q26 q28 q30 q32 q34 q36 q38 q40) ++ z) hpl
  refine ⟨csI cI c1 c2 c3 c4, adI h q0 u1 q2 u3 q4 q5 q6 q7 u8 q9 q10 q11 u12 q13 q14 u15 q16 u17 q18 u19 q20 u21 q22 q24 q26 q28 q30 q32 q34 q36 q38 q40, rho0 cI q6 (u8 1) (u8 2) q14 q16 q18 q20 (u15 0) (u17 0) (u19 0) (u21 0) q22 q24 q26 q28 q30 q32 q34 q36 q38 q40, ⟨?_, hK, ?_⟩, rfl, rfl, inv0 cI q6 (u8 1) (u8 2) q14 q16 q18 q20 (u15 0) (u17 0) (u19 0) (u21 0) q22 q24 q26 q28 q30 q32 q34 q36 q38 q40 hnd⟩
  · rw [e]; exact hP.sub [0, 1, 4, 10, 9, 23, 2, 3, 5, 14, 15, 16, 17, 18, 19, 20, 24, 25, 26, 27, 13, 6, 7, 21, 22, 8, 11, 12, 28, 29, 30, 31, 32, 33, 34, 35, 36, 37, 38, 39, 40, 41, 42, 43, 44, 45] rfl
  · rw [e]; exact hD.sub [0, 1, 4, 10, 9, 23, 2, 3, 5, 14, 15, 16, 17, 18, 19, 20, 24, 25, 26, 27, 13, 6, 7, 21, 22, 8, 11, 12, 28, 29, 30, 31, 32, 33, 34, 35, 36, 37, 38, 39, 40, 41, 42, 43, 44, 45] (by decide) rfl
