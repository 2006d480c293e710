/-! ===== the reader of pieces as a text: what it is in, and what a character does ===== -/
/-- pieces begun, part, width, edges read, bar read, place, holes, edges -/
abbrev RS : Type := Nat × Nat × Nat × Nat × Bool × Int × List Nat × (Nat → Nat)
abbrev qb (q : RS) : Nat := q.1
abbrev qp (q : RS) : Nat := q.2.1
abbrev qw (q : RS) : Nat := q.2.2.1
abbrev qe (q : RS) : Nat := q.2.2.2.1
abbrev qr (q : RS) : Bool := q.2.2.2.2.1
abbrev qx (q : RS) : Int := q.2.2.2.2.2.1
abbrev qh (q : RS) : List Nat := q.2.2.2.2.2.2.1
abbrev qd (q : RS) : Nat → Nat := q.2.2.2.2.2.2.2
def zdg (c : Nat) : Int := if 48 ≤ c ∧ c ≤ 57 then (c : Int) - 48 else -1
def qlast (q : RS) : Int := match hx_nth (qh q) ((qh q).length - 1) with
  | some x => (x : Int)
  | none => -1
def qisP (q : RS) (v : Int) : Bool := decide (qlast q < v ∧ v < (qw q : Int))
def qbegP (q : RS) (v : Int) : Bool := decide (0 < v ∧ v * 10 < (qw q : Int) ∧ qlast q < v * 10 + 9)
def qbegin (q : RS) : RS := (qb q + 1, 0, 0, 0, false, -1, [], qd q)
def qclose (q : RS) : RS := if qp q = 3 ∧ (qh q).length < 4 then (qb q, 2, qw q, qe q, qr q, qx q, qh q ++ [(qx q).toNat], qd q) else q
def fup (f : Nat → Nat) (k x : Nat) : Nat → Nat := fun j => if j = k then x else f j
def aN (q : RS) (c : Nat) : Option RS := if c = 59 then some (qbegin q) else if c = 46 ∧ (qh q).length < 4 ∧ qlast q < (qw q : Int) - 1 then some (qb q, 3, qw q, qe q, qr q, -1, qh q, qd q) else none
def aW (q : RS) (c : Nat) : Option RS := if c = 91 then (if 0 < qw q then some (qb q, 1, qw q, qe q, qr q, qx q, qh q, qd q) else none) else if zdg c = -1 ∨ (qw q : Int) * 10 + zdg c < 1 ∨ 60 < (qw q : Int) * 10 + zdg c then none else some (qb q, qp q, ((qw q : Int) * 10 + zdg c).toNat, qe q, qr q, qx q, qh q, qd q)
def aE (q : RS) (c : Nat) : Option RS := if qe q = 5 ∧ qr q = false then (if c = 124 then some (qb q, qp q, qw q, qe q, true, qx q, qh q, qd q) else none) else if 10 ≤ qe q then (if c = 93 then some (qb q, 2, qw q, qe q, qr q, qx q, qh q, qd q) else none) else if zdg c = -1 ∨ (if qe q % 5 = 4 then 9 else 5) < zdg c then none else some (qb q, qp q, qw q, qe q + 1, qr q, qx q, qh q, fup (qd q) (qe q) (zdg c).toNat)
def aP (q : RS) (c : Nat) : Option RS := if zdg c = -1 then (if qisP q (qx q) = true then aN (qclose q) c else none) else if qx q = 0 then none else if qisP q (if qx q = -1 then zdg c else qx q * 10 + zdg c) = true ∨ qbegP q (if qx q = -1 then zdg c else qx q * 10 + zdg c) = true then some (qb q, qp q, qw q, qe q, qr q, (if qx q = -1 then zdg c else qx q * 10 + zdg c), qh q, qd q) else none
/-- one character more -/
def aT (q : RS) (c : Nat) : Option RS := if qp q = 0 then aW q c else if qp q = 1 then aE q c else if qp q = 2 then aN q c else aP q c
def qwhole (q : RS) : Bool := decide (qp q = 2) || (decide (qp q = 3) && qisP q (qx q))
/-- what holds of each state -/
def Qok (q : RS) : Prop := qp q ≤ 3 ∧ qw q ≤ 60 ∧ qe q ≤ 10 ∧ (qh q).length ≤ 4 ∧ (∀ x ∈ qh q, x < 60) ∧ -1 ≤ qx q ∧ qx q < 100 ∧ (qp q = 3 → (qh q).length < 4)
def RepR (D : Nat → Nat → Int32) (q : RS) : Prop := D 12 0 = nI (qb q) ∧ D 12 1 = nI (qw q) ∧ D 12 3 = nI (qh q).length ∧ D 12 5 = nI (qp q) ∧ D 12 6 = nI (qe q) ∧ D 12 7 = nI (if qr q = true then 1 else 0) ∧ D 12 8 = iI (qx q) ∧ (∀ i x, hx_nth (qh q) i = some x → D 14 i = nI x) ∧ (∀ j, j < qe q → D 13 j = nI (qd q j))
/-- only the reader's cells have changed -/
def eqR (D D2 : Nat → Nat → Int32) : Prop := ∀ a, a ≠ 12 → a ≠ 13 → a ≠ 14 → D2 a = D a

theorem zdg_r (c : Nat) : -1 ≤ zdg c ∧ zdg c ≤ 9 := by
  unfold zdg
  split <;> omega
theorem m32 {sc : Nat × (Nat → Int32)} {d : Nat} {D : Nat → Nat → Int32} {G : Nat → Nat → Int64} {c : Nat} (hc : c < 200) : Cl sc d 32 [.int (nI c)] (hx_S0, D, G) (.inl (some (.int (iI (zdg c))))) (hx_S0, D, G) := by
  refine Cq.p ?_
  refine Cq.c (fun _ _ _ => c32) ?_
  refine Rq.b (fun _ => b32_0) (fun h0 => ?_) (fun h0 => ?_)
  · try simp (disch := omega) only [Int32.le_iff_toInt_le, Int32.lt_iff_toInt_lt, z_eq, z_nI, z_0, z_m1, z_sub, nI_add, nI_mulN, pk_sub, nI_clamp, Nat.reduceAdd, Nat.reduceMul, Nat.reduceSub, Nat.zero_add, Nat.add_zero] at h0
    all_goals (try (exfalso; omega))
    all_goals
      refine Rq.s (fun _ => b32_19) ?_
      try simp (disch := omega) only [nI_add, nI_mulN, pk_sub, nI_clamp, Nat.reduceAdd, Nat.reduceMul, Nat.reduceSub, Nat.zero_add, Nat.add_zero]
      refine Rq.e (b32_20) ?_
      first
        | (refine Qp.i ?_; unfold zdg; rw [if_neg (by omega)]; rfl)
        | (refine Qp.i ?_; unfold zdg; rw [if_pos (by omega), i_nI]; congr 1; omega)
  · try simp (disch := omega) only [Int32.le_iff_toInt_le, Int32.lt_iff_toInt_lt, z_eq, z_nI, z_0, z_m1, z_sub, nI_add, nI_mulN, pk_sub, nI_clamp, Nat.reduceAdd, Nat.reduceMul, Nat.reduceSub, Nat.zero_add, Nat.add_zero] at h0
    all_goals (try (exfalso; omega))
    all_goals
      refine Rq.b (fun _ => b32_6) (fun h6 => ?_) (fun h6 => ?_)
      · try simp (disch := omega) only [Int32.le_iff_toInt_le, Int32.lt_iff_toInt_lt, z_eq, z_nI, z_0, z_m1, z_sub, nI_add, nI_mulN, pk_sub, nI_clamp, Nat.reduceAdd, Nat.reduceMul, Nat.reduceSub, Nat.zero_add, Nat.add_zero] at h6
        all_goals (try (exfalso; omega))
        all_goals
          refine Rq.s (fun _ => b32_19) ?_
          try simp (disch := omega) only [nI_add, nI_mulN, pk_sub, nI_clamp, Nat.reduceAdd, Nat.reduceMul, Nat.reduceSub, Nat.zero_add, Nat.add_zero]
          refine Rq.e (b32_20) ?_
          first
            | (refine Qp.i ?_; unfold zdg; rw [if_neg (by omega)]; rfl)
            | (refine Qp.i ?_; unfold zdg; rw [if_pos (by omega), i_nI]; congr 1; omega)
      · try simp (disch := omega) only [Int32.le_iff_toInt_le, Int32.lt_iff_toInt_lt, z_eq, z_nI, z_0, z_m1, z_sub, nI_add, nI_mulN, pk_sub, nI_clamp, Nat.reduceAdd, Nat.reduceMul, Nat.reduceSub, Nat.zero_add, Nat.add_zero] at h6
        all_goals (try (exfalso; omega))
        all_goals
          refine Rq.s (fun _ => b32_12) ?_
          try simp (disch := omega) only [nI_add, nI_mulN, pk_sub, nI_clamp, Nat.reduceAdd, Nat.reduceMul, Nat.reduceSub, Nat.zero_add, Nat.add_zero]
          refine Rq.e (b32_20b) ?_
          first
            | (refine Qp.i ?_; unfold zdg; rw [if_neg (by omega)]; rfl)
            | (refine Qp.i ?_; unfold zdg; rw [if_pos (by omega), i_nI]; congr 1; omega)
theorem m29 {sc : Nat × (Nat → Int32)} {d : Nat} {D : Nat → Nat → Int32} {G : Nat → Nat → Int64} {q : RS} (HR : RepR D q) (HQ : Qok q) : Cl sc d 29 [.ref 12] (hx_S0, D, G) (.inl (some (.int (iI (qlast q))))) (hx_S0, D, G) := by
  obtain ⟨p0, p1, p3, p5, p6, p7, p8, ph, pd⟩ := id HR
  obtain ⟨k0, k1, k2, k3, k4, k5, k6, k7⟩ := id HQ
  refine Cq.p ?_
  refine Cq.c (fun _ _ _ => c29) ?_
  refine Rq.b (fun _ => b29_0) (fun h0 => ?_) (fun h0 => ?_)
  · try simp (disch := omega) only [Int32.le_iff_toInt_le, Int32.lt_iff_toInt_lt, z_eq, z_nI, z_0, z_m1, z_sub, nI_add, nI_mulN, pk_sub, nI_clamp, Nat.reduceAdd, Nat.reduceMul, Nat.reduceSub, Nat.zero_add, Nat.add_zero, p3] at h0
    all_goals (try (exfalso; omega))
    all_goals
      obtain ⟨x, hx⟩ : ∃ x, hx_nth (qh q) ((qh q).length - 1) = some x := ⟨_, by rw [hx_nth_eq]; exact List.getElem?_eq_getElem (by omega)⟩
      have phx := ph _ _ hx
      refine Rq.s (fun _ => b29_11 (by (try simp (disch := omega) only [nI_add, nI_mulN, pk_sub, nI_clamp, Nat.reduceAdd, Nat.reduceMul, Nat.reduceSub, Nat.zero_add, Nat.add_zero, p3, phx]); exact nI_inbT (by omega) (by omega))) ?_
      try simp (disch := omega) only [nI_add, nI_mulN, pk_sub, nI_clamp, Nat.reduceAdd, Nat.reduceMul, Nat.reduceSub, Nat.zero_add, Nat.add_zero, p3, phx]
      refine Rq.e (b29_22) ?_
      first
        | (refine Qp.i ?_; unfold qlast; rw [hx, i_nI])
        | (refine Qp.i ?_; unfold qlast; rw [show hx_nth (qh q) ((qh q).length - 1) = none by rw [hx_nth_eq]; exact List.getElem?_eq_none (by omega)]; rfl)
  · try simp (disch := omega) only [Int32.le_iff_toInt_le, Int32.lt_iff_toInt_lt, z_eq, z_nI, z_0, z_m1, z_sub, nI_add, nI_mulN, pk_sub, nI_clamp, Nat.reduceAdd, Nat.reduceMul, Nat.reduceSub, Nat.zero_add, Nat.add_zero, p3] at h0
    all_goals (try (exfalso; omega))
    all_goals
      refine Rq.s (fun _ => b29_7) ?_
      try simp (disch := omega) only [nI_add, nI_mulN, pk_sub, nI_clamp, Nat.reduceAdd, Nat.reduceMul, Nat.reduceSub, Nat.zero_add, Nat.add_zero, p3]
      refine Rq.e (b29_22b) ?_
      first
        | (refine Qp.i ?_; unfold qlast; rw [hx, i_nI])
        | (refine Qp.i ?_; unfold qlast; rw [show hx_nth (qh q) ((qh q).length - 1) = none by rw [hx_nth_eq]; exact List.getElem?_eq_none (by omega)]; rfl)
theorem qlast_r {q : RS} (HQ : Qok q) : -1 ≤ qlast q ∧ qlast q < 60 := by
  unfold qlast
  split
  · rename_i x hx
    rw [hx_nth_eq] at hx
    have := HQ.2.2.2.2.1 x (List.mem_of_getElem? hx)
    omega
  · omega
theorem m30 {sc : Nat × (Nat → Int32)} {d : Nat} {D : Nat → Nat → Int32} {G : Nat → Nat → Int64} {q : RS} {v : Int} (HR : RepR D q) (HQ : Qok q) (h1 : -1 ≤ v) (h2 : v < 1000) : Cl sc (d + 1) 30 [.ref 12, .int (iI v)] (hx_S0, D, G) (.inl (some (.int (nI (if qisP q v = true then 1 else 0))))) (hx_S0, D, G) := by
  obtain ⟨p0, p1, p3, p5, p6, p7, p8, ph, pd⟩ := id HR
  obtain ⟨k0, k1, k2, k3, k4, k5, k6, k7⟩ := id HQ
  have hl := qlast_r HQ
  refine Cq.p ?_
  refine Cq.c (fun _ _ _ => c30) ?_
  refine Rq.s (fun _ => b30_0 (by (try simp (disch := omega) only [nI_add, nI_mulN, pk_sub, nI_clamp, Nat.reduceAdd, Nat.reduceMul, Nat.reduceSub, Nat.zero_add, Nat.add_zero, p1]); exact m29 HR HQ)) ?_
  refine Rq.b (fun _ => b30_5) (fun h5 => ?_) (fun h5 => ?_)
  · try simp (disch := omega) only [Int32.le_iff_toInt_le, Int32.lt_iff_toInt_lt, z_eq, z_nI, z_0, z_m1, z_sub, z_iI, nI_add, nI_mulN, pk_sub, nI_clamp, Nat.reduceAdd, Nat.reduceMul, Nat.reduceSub, Nat.zero_add, Nat.add_zero, p1] at h5
    all_goals (try (exfalso; omega))
    all_goals
      refine Rq.s (fun _ => b30_20) ?_
      try simp (disch := omega) only [nI_add, nI_mulN, pk_sub, nI_clamp, Nat.reduceAdd, Nat.reduceMul, Nat.reduceSub, Nat.zero_add, Nat.add_zero, p1]
      refine Rq.e (b30_21 (by first | exact Or.inl rfl | exact Or.inr rfl | (split <;> first | exact Or.inl rfl | exact Or.inr rfl))) ?_
      first
        | (refine Qp.i ?_; rw [show qisP q v = true by unfold qisP; exact decide_eq_true (by omega)]; rfl)
        | (refine Qp.i ?_; rw [show qisP q v = false by unfold qisP; exact decide_eq_false (by omega)]; rfl)
  · try simp (disch := omega) only [Int32.le_iff_toInt_le, Int32.lt_iff_toInt_lt, z_eq, z_nI, z_0, z_m1, z_sub, z_iI, nI_add, nI_mulN, pk_sub, nI_clamp, Nat.reduceAdd, Nat.reduceMul, Nat.reduceSub, Nat.zero_add, Nat.add_zero, p1] at h5
    all_goals (try (exfalso; omega))
    all_goals
      refine Rq.b (fun _ => b30_8) (fun h8 => ?_) (fun h8 => ?_)
      · try simp (disch := omega) only [Int32.le_iff_toInt_le, Int32.lt_iff_toInt_lt, z_eq, z_nI, z_0, z_m1, z_sub, z_iI, nI_add, nI_mulN, pk_sub, nI_clamp, Nat.reduceAdd, Nat.reduceMul, Nat.reduceSub, Nat.zero_add, Nat.add_zero, p1] at h8
        all_goals (try (exfalso; omega))
        all_goals
          refine Rq.s (fun _ => b30_20) ?_
          try simp (disch := omega) only [nI_add, nI_mulN, pk_sub, nI_clamp, Nat.reduceAdd, Nat.reduceMul, Nat.reduceSub, Nat.zero_add, Nat.add_zero, p1]
          refine Rq.e (b30_21 (by first | exact Or.inl rfl | exact Or.inr rfl | (split <;> first | exact Or.inl rfl | exact Or.inr rfl))) ?_
          first
            | (refine Qp.i ?_; rw [show qisP q v = true by unfold qisP; exact decide_eq_true (by omega)]; rfl)
            | (refine Qp.i ?_; rw [show qisP q v = false by unfold qisP; exact decide_eq_false (by omega)]; rfl)
      · try simp (disch := omega) only [Int32.le_iff_toInt_le, Int32.lt_iff_toInt_lt, z_eq, z_nI, z_0, z_m1, z_sub, z_iI, nI_add, nI_mulN, pk_sub, nI_clamp, Nat.reduceAdd, Nat.reduceMul, Nat.reduceSub, Nat.zero_add, Nat.add_zero, p1] at h8
        all_goals (try (exfalso; omega))
        all_goals
          refine Rq.s (fun _ => b30_16) ?_
          try simp (disch := omega) only [nI_add, nI_mulN, pk_sub, nI_clamp, Nat.reduceAdd, Nat.reduceMul, Nat.reduceSub, Nat.zero_add, Nat.add_zero, p1]
          refine Rq.e (b30_21b (by first | exact Or.inl rfl | exact Or.inr rfl | (split <;> first | exact Or.inl rfl | exact Or.inr rfl))) ?_
          first
            | (refine Qp.i ?_; rw [show qisP q v = true by unfold qisP; exact decide_eq_true (by omega)]; rfl)
            | (refine Qp.i ?_; rw [show qisP q v = false by unfold qisP; exact decide_eq_false (by omega)]; rfl)
theorem iI_mul (a b : Int) : iI a * iI b = iI (a * b) := (Int32.ofInt_mul a b).symm
theorem m31 {sc : Nat × (Nat → Int32)} {d : Nat} {D : Nat → Nat → Int32} {G : Nat → Nat → Int64} {q : RS} {v : Int} (HR : RepR D q) (HQ : Qok q) (h1 : -1 ≤ v) (h2 : v < 1000) : Cl sc (d + 1) 31 [.ref 12, .int (iI v)] (hx_S0, D, G) (.inl (some (.int (nI (if qbegP q v = true then 1 else 0))))) (hx_S0, D, G) := by
  obtain ⟨p0, p1, p3, p5, p6, p7, p8, ph, pd⟩ := id HR
  obtain ⟨k0, k1, k2, k3, k4, k5, k6, k7⟩ := id HQ
  have hl := qlast_r HQ
  have e10 := i_nI 10
  have e9 := i_nI 9
  refine Cq.p ?_
  refine Cq.c (fun _ _ _ => c31) ?_
  refine Rq.b (fun _ => b31_0) (fun h0 => ?_) (fun h0 => ?_)
  · try simp (disch := omega) only [Int32.le_iff_toInt_le, Int32.lt_iff_toInt_lt, z_eq, z_nI, z_0, z_m1, z_sub, z_iI, nI_add, nI_mulN, pk_sub, nI_clamp, Nat.reduceAdd, Nat.reduceMul, Nat.reduceSub, Nat.zero_add, Nat.add_zero, iI_mul, iI_add, p1, e10, e9] at h0
    all_goals (try (exfalso; omega))
    all_goals
      refine Rq.s (fun _ => b31_33) ?_
      try simp (disch := omega) only [nI_add, nI_mulN, pk_sub, nI_clamp, Nat.reduceAdd, Nat.reduceMul, Nat.reduceSub, Nat.zero_add, Nat.add_zero, iI_mul, iI_add, p1, e10, e9]
      refine Rq.e (b31_34 (by first | exact Or.inl rfl | exact Or.inr rfl | (split <;> first | exact Or.inl rfl | exact Or.inr rfl))) ?_
      first
        | (refine Qp.i ?_; rw [show qbegP q v = true by unfold qbegP; exact decide_eq_true (by omega)]; rfl)
        | (refine Qp.i ?_; rw [show qbegP q v = false by unfold qbegP; exact decide_eq_false (by omega)]; rfl)
  · try simp (disch := omega) only [Int32.le_iff_toInt_le, Int32.lt_iff_toInt_lt, z_eq, z_nI, z_0, z_m1, z_sub, z_iI, nI_add, nI_mulN, pk_sub, nI_clamp, Nat.reduceAdd, Nat.reduceMul, Nat.reduceSub, Nat.zero_add, Nat.add_zero, iI_mul, iI_add, p1, e10, e9] at h0
    all_goals (try (exfalso; omega))
    all_goals
      refine Rq.b (fun _ => b31_4) (fun h4 => ?_) (fun h4 => ?_)
      · try simp (disch := omega) only [Int32.le_iff_toInt_le, Int32.lt_iff_toInt_lt, z_eq, z_nI, z_0, z_m1, z_sub, z_iI, nI_add, nI_mulN, pk_sub, nI_clamp, Nat.reduceAdd, Nat.reduceMul, Nat.reduceSub, Nat.zero_add, Nat.add_zero, iI_mul, iI_add, p1, e10, e9] at h4
        all_goals (try (exfalso; omega))
        all_goals
          refine Rq.s (fun _ => b31_33) ?_
          try simp (disch := omega) only [nI_add, nI_mulN, pk_sub, nI_clamp, Nat.reduceAdd, Nat.reduceMul, Nat.reduceSub, Nat.zero_add, Nat.add_zero, iI_mul, iI_add, p1, e10, e9]
          refine Rq.e (b31_34 (by first | exact Or.inl rfl | exact Or.inr rfl | (split <;> first | exact Or.inl rfl | exact Or.inr rfl))) ?_
          first
            | (refine Qp.i ?_; rw [show qbegP q v = true by unfold qbegP; exact decide_eq_true (by omega)]; rfl)
            | (refine Qp.i ?_; rw [show qbegP q v = false by unfold qbegP; exact decide_eq_false (by omega)]; rfl)
      · try simp (disch := omega) only [Int32.le_iff_toInt_le, Int32.lt_iff_toInt_lt, z_eq, z_nI, z_0, z_m1, z_sub, z_iI, nI_add, nI_mulN, pk_sub, nI_clamp, Nat.reduceAdd, Nat.reduceMul, Nat.reduceSub, Nat.zero_add, Nat.add_zero, iI_mul, iI_add, p1, e10, e9] at h4
        all_goals (try (exfalso; omega))
        all_goals
          refine Rq.s (fun _ => b31_15 (by (try simp (disch := omega) only [nI_add, nI_mulN, pk_sub, nI_clamp, Nat.reduceAdd, Nat.reduceMul, Nat.reduceSub, Nat.zero_add, Nat.add_zero, iI_mul, iI_add, p1, e10, e9]); exact m29 HR HQ)) ?_
          try simp (disch := omega) only [nI_add, nI_mulN, pk_sub, nI_clamp, Nat.reduceAdd, Nat.reduceMul, Nat.reduceSub, Nat.zero_add, Nat.add_zero, iI_mul, iI_add, p1, e10, e9]
          refine Rq.b (fun _ => b31_26) (fun h26 => ?_) (fun h26 => ?_)
          · try simp (disch := omega) only [Int32.le_iff_toInt_le, Int32.lt_iff_toInt_lt, z_eq, z_nI, z_0, z_m1, z_sub, z_iI, nI_add, nI_mulN, pk_sub, nI_clamp, Nat.reduceAdd, Nat.reduceMul, Nat.reduceSub, Nat.zero_add, Nat.add_zero, iI_mul, iI_add, p1, e10, e9] at h26
            all_goals (try (exfalso; omega))
            all_goals
              refine Rq.s (fun _ => b31_33) ?_
              try simp (disch := omega) only [nI_add, nI_mulN, pk_sub, nI_clamp, Nat.reduceAdd, Nat.reduceMul, Nat.reduceSub, Nat.zero_add, Nat.add_zero, iI_mul, iI_add, p1, e10, e9]
              refine Rq.e (b31_34 (by first | exact Or.inl rfl | exact Or.inr rfl | (split <;> first | exact Or.inl rfl | exact Or.inr rfl))) ?_
              first
                | (refine Qp.i ?_; rw [show qbegP q v = true by unfold qbegP; exact decide_eq_true (by omega)]; rfl)
                | (refine Qp.i ?_; rw [show qbegP q v = false by unfold qbegP; exact decide_eq_false (by omega)]; rfl)
          · try simp (disch := omega) only [Int32.le_iff_toInt_le, Int32.lt_iff_toInt_lt, z_eq, z_nI, z_0, z_m1, z_sub, z_iI, nI_add, nI_mulN, pk_sub, nI_clamp, Nat.reduceAdd, Nat.reduceMul, Nat.reduceSub, Nat.zero_add, Nat.add_zero, iI_mul, iI_add, p1, e10, e9] at h26
            all_goals (try (exfalso; omega))
            all_goals
              refine Rq.s (fun _ => b31_29) ?_
              try simp (disch := omega) only [nI_add, nI_mulN, pk_sub, nI_clamp, Nat.reduceAdd, Nat.reduceMul, Nat.reduceSub, Nat.zero_add, Nat.add_zero, iI_mul, iI_add, p1, e10, e9]
              refine Rq.e (b31_34b (by first | exact Or.inl rfl | exact Or.inr rfl | (split <;> first | exact Or.inl rfl | exact Or.inr rfl))) ?_
              first
                | (refine Qp.i ?_; rw [show qbegP q v = true by unfold qbegP; exact decide_eq_true (by omega)]; rfl)
                | (refine Qp.i ?_; rw [show qbegP q v = false by unfold qbegP; exact decide_eq_false (by omega)]; rfl)
theorem RepR.up {D D2 : Nat → Nat → Int32} {q q2 : RS} (HR : RepR D q) (h13 : D2 13 = D 13) (h14 : D2 14 = D 14) (eh : qh q2 = qh q) (ed : qd q2 = qd q) (ee : qe q2 = qe q) (c0 : D2 12 0 = nI (qb q2)) (c1 : D2 12 1 = nI (qw q2)) (c3 : D2 12 3 = nI (qh q).length) (c5 : D2 12 5 = nI (qp q2)) (c6 : D2 12 6 = nI (qe q)) (c7 : D2 12 7 = nI (if qr q2 = true then 1 else 0)) (c8 : D2 12 8 = iI (qx q2)) : RepR D2 q2 := by
  obtain ⟨p0, p1, p3, p5, p6, p7, p8, ph, pd⟩ := id HR
  refine ⟨c0, c1, by rw [eh]; exact c3, c5, by rw [ee]; exact c6, c7, c8, fun i x h => ?_, fun j hj => ?_⟩
  · rw [h14]
    exact ph i x (by rw [← eh]; exact h)
  · rw [h13, ed]
    exact pd j (by rw [← ee]; exact hj)
def QT (o : Option RS) (D : Nat → Nat → Int32) : hx_RS → (Nat → Nat → Int32) → Prop := fun r D2 => eqR D D2 ∧ ((∃ q2, o = some q2 ∧ r = .inl (some (.int (nI 1))) ∧ RepR D2 q2) ∨ (o = none ∧ r = .inl (some (.int (nI 0)))))
theorem QT.s {o : Option RS} {D D2 : Nat → Nat → Int32} {q2 : RS} (h : o = some q2) (e : eqR D D2) (R : RepR D2 q2) : QT o D (.inl (some (.int (nI 1)))) D2 := ⟨e, Or.inl ⟨q2, h, rfl, R⟩⟩
theorem QT.n {o : Option RS} {D D2 : Nat → Nat → Int32} (h : o = none) (e : eqR D D2) : QT o D (.inl (some (.int (nI 0)))) D2 := ⟨e, Or.inr ⟨h, rfl⟩⟩
theorem eqR.rf {D : Nat → Nat → Int32} : eqR D D := fun _ _ _ _ => rfl
theorem eqR.up {D D2 : Nat → Nat → Int32} (h : eqR D D2) {k i : Nat} {x : Int32} (hk : k = 12 ∨ k = 13 ∨ k = 14) : eqR D (hx_up D2 k i x) := fun a a1 a2 a3 => by
  rw [hx_up_ne (by omega)]
  exact h a a1 a2 a3
theorem eqR.tr {D D2 D3 : Nat → Nat → Int32} (h : eqR D D2) (h2 : eqR D2 D3) : eqR D D3 := fun a a1 a2 a3 => by rw [h2 a a1 a2 a3, h a a1 a2 a3]
theorem m21 {sc : Nat × (Nat → Int32)} {d : Nat} {D : Nat → Nat → Int32} {G : Nat → Nat → Int64} {b : Nat} {e : Nat → Nat} (h0 : D 12 0 = nI b) : Cq sc d 21 [.ref 12] D G (fun r D2 => r = .inl none ∧ eqR D D2 ∧ RepR D2 (b + 1, 0, 0, 0, false, -1, [], e)) := by
  refine Cq.c (fun _ _ _ => c21) ?_
  refine Rq.s (fun _ => b21_0) ?_
  try simp (disch := omega) only [nI_add, nI_mulN, pk_sub, nI_clamp, Nat.reduceAdd, Nat.reduceMul, Nat.reduceSub, Nat.zero_add, Nat.add_zero, hx_up_s, h0]
  refine Rq.s (fun _ => b21_20) ?_
  try simp (disch := omega) only [nI_add, nI_mulN, pk_sub, nI_clamp, Nat.reduceAdd, Nat.reduceMul, Nat.reduceSub, Nat.zero_add, Nat.add_zero, hx_up_s, h0]
  refine Rq.e (b21_40) ?_
  refine ⟨rfl, ?_, ?_⟩
  · exact eqR.up (eqR.up (eqR.up (eqR.up (eqR.up (eqR.up (eqR.up eqR.rf (Or.inl rfl)) (Or.inl rfl)) (Or.inl rfl)) (Or.inl rfl)) (Or.inl rfl)) (Or.inl rfl)) (Or.inl rfl)
  · refine ⟨by simp [hx_up_at], by simp [hx_up_at], by simp [hx_up_at]; rfl, by simp [hx_up_at], by simp [hx_up_at], by simp [hx_up_at], by simp [hx_up_at]; rfl, fun i x h => ?_, fun j hj => absurd hj (Nat.not_lt_zero _)⟩
    rw [hx_nth_eq] at h
    cases h
abbrev q0 : RS := (1, 0, 0, 0, false, -1, [], fun _ => 0)
theorem m20 {sc : Nat × (Nat → Int32)} {d : Nat} {D : Nat → Nat → Int32} {G : Nat → Nat → Int64} : Cq sc (d + 1) 20 [.ref 12] D G (fun r D2 => r = .inl none ∧ eqR D D2 ∧ RepR D2 q0) := by
  refine Cq.c (fun _ _ _ => c20) ?_
  obtain ⟨_, D4, hC4, rfl, e1, e2⟩ := m21 (sc := sc) (d := d) (D := hx_up D 12 0 (nI 0)) (G := G) (b := 0) (e := fun _ => 0) (hx_up_s _ _ _ _)
  refine Rq.s (fun _ => b20_0 hC4) ?_
  refine Rq.e (b20_9) ?_
  exact ⟨rfl, eqR.tr (eqR.up eqR.rf (Or.inl rfl)) e1, e2⟩
theorem m24 {sc : Nat × (Nat → Int32)} {d : Nat} {D : Nat → Nat → Int32} {G : Nat → Nat → Int64} {q : RS} (HR : RepR D q) (HQ : Qok q) (hx : qp q = 3 → 0 ≤ qx q) : Cq sc d 24 [.ref 12] D G (fun r D2 => r = .inl none ∧ eqR D D2 ∧ RepR D2 (qclose q)) := by
  obtain ⟨p0, p1, p3, p5, p6, p7, p8, ph, pd⟩ := id HR
  obtain ⟨k0, k1, k2, k3, k4, k5, k6, k7⟩ := id HQ
  refine Cq.c (fun _ _ _ => c24) ?_
  refine Rq.b (fun _ => b24_0) (fun h0 => ?_) (fun h0 => ?_)
  · try simp (disch := omega) only [Int32.le_iff_toInt_le, Int32.lt_iff_toInt_lt, z_eq, z_nI, z_0, z_m1, z_sub, nI_add, nI_mulN, pk_sub, nI_clamp, Nat.reduceAdd, Nat.reduceMul, Nat.reduceSub, Nat.zero_add, Nat.add_zero, p5, p3, p8] at h0
    all_goals (try (exfalso; omega))
    all_goals
      refine Rq.e (b24_44) ?_
      refine ⟨rfl, eqR.rf, ?_⟩
      rw [show qclose q = q by unfold qclose; rw [if_neg (fun z => by omega)]]
      exact HR
  · try simp (disch := omega) only [Int32.le_iff_toInt_le, Int32.lt_iff_toInt_lt, z_eq, z_nI, z_0, z_m1, z_sub, nI_add, nI_mulN, pk_sub, nI_clamp, Nat.reduceAdd, Nat.reduceMul, Nat.reduceSub, Nat.zero_add, Nat.add_zero, p5, p3, p8] at h0
    all_goals (try (exfalso; omega))
    all_goals
      refine Rq.b (fun _ => b24_8) (fun h8 => ?_) (fun h8 => ?_)
      · try simp (disch := omega) only [Int32.le_iff_toInt_le, Int32.lt_iff_toInt_lt, z_eq, z_nI, z_0, z_m1, z_sub, nI_add, nI_mulN, pk_sub, nI_clamp, Nat.reduceAdd, Nat.reduceMul, Nat.reduceSub, Nat.zero_add, Nat.add_zero, p5, p3, p8] at h8
        all_goals (try (exfalso; omega))
        all_goals
          refine Rq.e (b24_44) ?_
          refine ⟨rfl, eqR.rf, ?_⟩
          rw [show qclose q = q by unfold qclose; rw [if_neg (fun z => by omega)]]
          exact HR
      · try simp (disch := omega) only [Int32.le_iff_toInt_le, Int32.lt_iff_toInt_lt, z_eq, z_nI, z_0, z_m1, z_sub, nI_add, nI_mulN, pk_sub, nI_clamp, Nat.reduceAdd, Nat.reduceMul, Nat.reduceSub, Nat.zero_add, Nat.add_zero, p5, p3, p8] at h8
        all_goals (try (exfalso; omega))
        all_goals
          refine Rq.s (fun _ => b24_16 (by (try simp (disch := omega) only [nI_add, nI_mulN, pk_sub, nI_clamp, Nat.reduceAdd, Nat.reduceMul, Nat.reduceSub, Nat.zero_add, Nat.add_zero, p5, p3, p8]); exact nI_inbT (by omega) (by omega))) ?_
          try simp (disch := omega) only [nI_add, nI_mulN, pk_sub, nI_clamp, Nat.reduceAdd, Nat.reduceMul, Nat.reduceSub, Nat.zero_add, Nat.add_zero, p5, p3, p8]
          refine Rq.s (fun _ => b24_39) ?_
          try simp (disch := omega) only [nI_add, nI_mulN, pk_sub, nI_clamp, Nat.reduceAdd, Nat.reduceMul, Nat.reduceSub, Nat.zero_add, Nat.add_zero, p5, p3, p8]
          refine Rq.e (b24_44) ?_
          refine ⟨rfl, eqR.up (eqR.up (eqR.up eqR.rf (Or.inr (Or.inr rfl))) (Or.inl rfl)) (Or.inl rfl), ?_⟩
          have e : qclose q = (qb q, 2, qw q, qe q, qr q, qx q, qh q ++ [(qx q).toNat], qd q) := by unfold qclose; rw [if_pos ⟨by omega, by omega⟩]
          rw [e]
          refine ⟨by simp [hx_up_at, p0], by simp [hx_up_at, p1], by simp only [hx_up_ne (show (12 : Nat) ≠ 14 by omega), hx_up_s, hx_up_in _ _ _ (show (3 : Nat) ≠ 5 by omega)]; show _ = nI (qh q ++ [(qx q).toNat]).length; rw [List.length_append]; rfl, by simp [hx_up_at], by simp [hx_up_at, p6], by simp [hx_up_at, p7], by simp [hx_up_at, p8], fun i x h => ?_, fun j hj => ?_⟩
          · rw [hx_nth_eq] at h
            simp only [hx_up_ne (show (14 : Nat) ≠ 12 by omega), hx_up_at, true_and]
            by_cases ei : i = (qh q).length
            · rw [if_pos ei]
              rw [ei, List.getElem?_append_right (Nat.le_refl _), Nat.sub_self] at h
              cases h
              simp [iI_nI (hx (by omega))]
            · rw [if_neg ei]
              have hl := (List.getElem?_eq_some_iff.mp h).1
              rw [List.length_append, List.length_singleton] at hl
              rw [List.getElem?_append_left (by omega)] at h
              exact ph i x (by rw [hx_nth_eq]; exact h)
          · simp only [hx_up_ne (show (13 : Nat) ≠ 12 by omega), hx_up_ne (show (13 : Nat) ≠ 14 by omega)]
            exact pd j hj
theorem m23 {sc : Nat × (Nat → Int32)} {d : Nat} {D : Nat → Nat → Int32} {G : Nat → Nat → Int64} {q : RS} (HR : RepR D q) (HQ : Qok q) : Cl sc (d + 2) 23 [.ref 12] (hx_S0, D, G) (.inl (some (.int (nI (if qwhole q = true then 1 else 0))))) (hx_S0, D, G) := by
  obtain ⟨p0, p1, p3, p5, p6, p7, p8, ph, pd⟩ := id HR
  obtain ⟨k0, k1, k2, k3, k4, k5, k6, k7⟩ := id HQ
  have hw : ∀ v, (qp q = 2 ∨ (qp q = 3 ∧ qisP q (qx q) = true) → v = nI 1) → (¬ (qp q = 2 ∨ (qp q = 3 ∧ qisP q (qx q) = true)) → v = nI 0) → v = nI (if qwhole q = true then 1 else 0) := by
    intro v h1 h2
    by_cases c : qp q = 2 ∨ (qp q = 3 ∧ qisP q (qx q) = true)
    · rw [h1 c, if_pos]
      unfold qwhole
      rcases c with c | ⟨c1, c2⟩
      · rw [decide_eq_true c]
        rfl
      · rw [decide_eq_true c1, c2]
        simp
    · rw [h2 c, if_neg]
      intro z
      unfold qwhole at z
      rw [Bool.or_eq_true, Bool.and_eq_true, decide_eq_true_eq, decide_eq_true_eq] at z
      exact c z
  refine Cq.p ?_
  refine Cq.c (fun _ _ _ => c23) ?_
  refine Rq.b (fun _ => b23_0) (fun h0 => ?_) (fun h0 => ?_)
  · try simp (disch := omega) only [Int32.le_iff_toInt_le, Int32.lt_iff_toInt_lt, z_eq, z_nI, z_0, z_m1, z_sub, nI_add, nI_mulN, pk_sub, nI_clamp, Nat.reduceAdd, Nat.reduceMul, Nat.reduceSub, Nat.zero_add, Nat.add_zero, p5, p8] at h0
    all_goals (try (exfalso; omega))
    all_goals
      refine Rq.s (fun _ => b23_27) ?_
      try simp (disch := omega) only [nI_add, nI_mulN, pk_sub, nI_clamp, Nat.reduceAdd, Nat.reduceMul, Nat.reduceSub, Nat.zero_add, Nat.add_zero, p5, p8]
      refine Rq.e (b23_32 (by first | exact Or.inl rfl | exact Or.inr rfl | (split <;> first | exact Or.inl rfl | exact Or.inr rfl))) ?_
      first
        | (refine Qp.i (hw _ (fun _ => rfl) (fun z => (z (Or.inl (by omega))).elim)); done)
        | (refine Qp.i (hw _ (fun _ => rfl) (fun z => (z (Or.inr ⟨by omega, eq_true_of_ne_false hc⟩)).elim)); done)
        | (refine Qp.i (hw _ (fun z => ?_) (fun _ => rfl)); rcases z with z | z; (exfalso; omega); exfalso; rw [hc] at z; exact absurd z.2 (by decide))
        | (refine Qp.i (hw _ (fun z => ?_) (fun _ => rfl)); exfalso; omega)
  · try simp (disch := omega) only [Int32.le_iff_toInt_le, Int32.lt_iff_toInt_lt, z_eq, z_nI, z_0, z_m1, z_sub, nI_add, nI_mulN, pk_sub, nI_clamp, Nat.reduceAdd, Nat.reduceMul, Nat.reduceSub, Nat.zero_add, Nat.add_zero, p5, p8] at h0
    all_goals (try (exfalso; omega))
    all_goals
      refine Rq.b (fun _ => b23_8) (fun h8 => ?_) (fun h8 => ?_)
      · try simp (disch := omega) only [Int32.le_iff_toInt_le, Int32.lt_iff_toInt_lt, z_eq, z_nI, z_0, z_m1, z_sub, nI_add, nI_mulN, pk_sub, nI_clamp, Nat.reduceAdd, Nat.reduceMul, Nat.reduceSub, Nat.zero_add, Nat.add_zero, p5, p8] at h8
        all_goals (try (exfalso; omega))
        all_goals
          refine Rq.s (fun _ => b23_31) ?_
          try simp (disch := omega) only [nI_add, nI_mulN, pk_sub, nI_clamp, Nat.reduceAdd, Nat.reduceMul, Nat.reduceSub, Nat.zero_add, Nat.add_zero, p5, p8]
          refine Rq.e (b23_32b (by first | exact Or.inl rfl | exact Or.inr rfl | (split <;> first | exact Or.inl rfl | exact Or.inr rfl))) ?_
          first
            | (refine Qp.i (hw _ (fun _ => rfl) (fun z => (z (Or.inl (by omega))).elim)); done)
            | (refine Qp.i (hw _ (fun _ => rfl) (fun z => (z (Or.inr ⟨by omega, eq_true_of_ne_false hc⟩)).elim)); done)
            | (refine Qp.i (hw _ (fun z => ?_) (fun _ => rfl)); rcases z with z | z; (exfalso; omega); exfalso; rw [hc] at z; exact absurd z.2 (by decide))
            | (refine Qp.i (hw _ (fun z => ?_) (fun _ => rfl)); exfalso; omega)
      · try simp (disch := omega) only [Int32.le_iff_toInt_le, Int32.lt_iff_toInt_lt, z_eq, z_nI, z_0, z_m1, z_sub, nI_add, nI_mulN, pk_sub, nI_clamp, Nat.reduceAdd, Nat.reduceMul, Nat.reduceSub, Nat.zero_add, Nat.add_zero, p5, p8] at h8
        all_goals (try (exfalso; omega))
        all_goals
          refine Rq.s (fun _ => b23_16 (by (try simp (disch := omega) only [nI_add, nI_mulN, pk_sub, nI_clamp, Nat.reduceAdd, Nat.reduceMul, Nat.reduceSub, Nat.zero_add, Nat.add_zero, p5, p8]); exact m30 HR HQ k5 (by omega))) ?_
          by_cases hc : qisP q (qx q) = false
          · refine Rq.bt (fun _ => b23_24) (by rw [hc]; rfl) ?_
            refine Rq.s (fun _ => b23_31) ?_
            try simp (disch := omega) only [nI_add, nI_mulN, pk_sub, nI_clamp, Nat.reduceAdd, Nat.reduceMul, Nat.reduceSub, Nat.zero_add, Nat.add_zero, p5, p8]
            refine Rq.e (b23_32b (by first | exact Or.inl rfl | exact Or.inr rfl | (split <;> first | exact Or.inl rfl | exact Or.inr rfl))) ?_
            first
              | (refine Qp.i (hw _ (fun _ => rfl) (fun z => (z (Or.inl (by omega))).elim)); done)
              | (refine Qp.i (hw _ (fun _ => rfl) (fun z => (z (Or.inr ⟨by omega, eq_true_of_ne_false hc⟩)).elim)); done)
              | (refine Qp.i (hw _ (fun z => ?_) (fun _ => rfl)); rcases z with z | z; (exfalso; omega); exfalso; rw [hc] at z; exact absurd z.2 (by decide))
              | (refine Qp.i (hw _ (fun z => ?_) (fun _ => rfl)); exfalso; omega)
          · refine Rq.bf (fun _ => b23_24) (by rw [eq_true_of_ne_false hc]; decide) ?_
            refine Rq.s (fun _ => b23_27) ?_
            try simp (disch := omega) only [nI_add, nI_mulN, pk_sub, nI_clamp, Nat.reduceAdd, Nat.reduceMul, Nat.reduceSub, Nat.zero_add, Nat.add_zero, p5, p8]
            refine Rq.e (b23_32 (by first | exact Or.inl rfl | exact Or.inr rfl | (split <;> first | exact Or.inl rfl | exact Or.inr rfl))) ?_
            first
              | (refine Qp.i (hw _ (fun _ => rfl) (fun z => (z (Or.inl (by omega))).elim)); done)
              | (refine Qp.i (hw _ (fun _ => rfl) (fun z => (z (Or.inr ⟨by omega, eq_true_of_ne_false hc⟩)).elim)); done)
              | (refine Qp.i (hw _ (fun z => ?_) (fun _ => rfl)); rcases z with z | z; (exfalso; omega); exfalso; rw [hc] at z; exact absurd z.2 (by decide))
              | (refine Qp.i (hw _ (fun z => ?_) (fun _ => rfl)); exfalso; omega)
/-! each state is well formed -/
theorem qclose_ok {q : RS} (HQ : Qok q) (hx : qp q = 3 → qisP q (qx q) = true) : Qok (qclose q) := by
  obtain ⟨k0, k1, k2, k3, k4, k5, k6, k7⟩ := id HQ
  unfold qclose
  split
  · rename_i h
    have hp := of_decide_eq_true (hx h.1)
    have hl := qlast_r HQ
    refine ⟨by show 2 ≤ 3; omega, k1, k2, ?_, fun x hx2 => ?_, k5, k6, fun z => ?_⟩
    · show (qh q ++ [(qx q).toNat]).length ≤ 4
      rw [List.length_append, List.length_singleton]
      omega
    · have hx3 : x ∈ qh q ++ [(qx q).toNat] := hx2
      rcases List.mem_append.mp hx3 with h3 | h3
      · exact k4 x h3
      · rw [List.mem_singleton] at h3
        omega
    · exact absurd z (by show ¬ 2 = 3; omega)
  · exact HQ
theorem aN_ok {q q2 : RS} {c : Nat} (HQ : Qok q) (h : aN q c = some q2) : Qok q2 := by
  obtain ⟨k0, k1, k2, k3, k4, k5, k6, k7⟩ := id HQ
  unfold aN at h
  split at h
  · cases h
    exact ⟨Nat.zero_le _, Nat.zero_le _, Nat.zero_le _, Nat.zero_le _, fun x hx => (by cases hx), Int.le_refl _, by show (-1 : Int) < 100; omega, fun z => absurd z (by show ¬ 0 = 3; omega)⟩
  · split at h
    · rename_i h2
      cases h
      exact ⟨Nat.le_refl _, k1, k2, k3, k4, Int.le_refl _, by show (-1 : Int) < 100; omega, fun _ => h2.2.1⟩
    · cases h
theorem aT_ok {q q2 : RS} {c : Nat} (HQ : Qok q) (h : aT q c = some q2) : Qok q2 := by
  obtain ⟨k0, k1, k2, k3, k4, k5, k6, k7⟩ := id HQ
  have hl := qlast_r HQ
  have hd := zdg_r c
  unfold aT at h
  split at h
  · rename_i h0
    unfold aW at h
    split at h
    · split at h
      · cases h
        exact ⟨by show 1 ≤ 3; omega, k1, k2, k3, k4, k5, k6, fun z => absurd z (by show ¬ 1 = 3; omega)⟩
      · cases h
    · split at h
      · cases h
      · rename_i h3
        cases h
        exact ⟨k0, by show ((qw q : Int) * 10 + zdg c).toNat ≤ 60; omega, k2, k3, k4, k5, k6, k7⟩
  · split at h
    · rename_i h1
      unfold aE at h
      split at h
      · split at h
        · cases h
          exact ⟨k0, k1, k2, k3, k4, k5, k6, k7⟩
        · cases h
      · split at h
        · split at h
          · cases h
            exact ⟨by show 2 ≤ 3; omega, k1, k2, k3, k4, k5, k6, fun z => absurd z (by show ¬ 2 = 3; omega)⟩
          · cases h
        · by_cases h9 : zdg c = -1 ∨ (if qe q % 5 = 4 then 9 else 5) < zdg c
          · rw [if_pos h9] at h
            cases h
          · rw [if_neg h9] at h
            cases h
            exact ⟨k0, k1, by show qe q + 1 ≤ 10; omega, k3, k4, k5, k6, k7⟩
    · split at h
      · exact aN_ok HQ h
      · rename_i h1 h2 h3
        have hp3 : qp q = 3 := by omega
        unfold aP at h
        split at h
        · split at h
          · rename_i h5
            exact aN_ok (qclose_ok HQ (fun _ => h5)) h
          · cases h
        · split at h
          · cases h
          · by_cases h6 : qisP q (if qx q = -1 then zdg c else qx q * 10 + zdg c) = true ∨ qbegP q (if qx q = -1 then zdg c else qx q * 10 + zdg c) = true
            · rw [if_pos h6] at h
              cases h
              refine ⟨k0, k1, k2, k3, k4, ?_, ?_, k7⟩
              · show -1 ≤ (if qx q = -1 then zdg c else qx q * 10 + zdg c)
                split <;> omega
              · show (if qx q = -1 then zdg c else qx q * 10 + zdg c) < 100
                rcases h6 with h6 | h6
                · have := of_decide_eq_true h6
                  omega
                · have := of_decide_eq_true h6
                  omega
            · rw [if_neg h6] at h
              cases h
theorem q0_ok : Qok q0 := ⟨by decide, by decide, by decide, by decide, fun x hx => (by cases hx), by decide, by decide, fun z => absurd z (by decide)⟩
/-- the state behind s characters -/
def aSt (b : Nat → Nat) : Nat → Option RS
  | 0 => some q0
  | s + 1 => match aSt b s with
    | some q => aT q (b s)
    | none => none
theorem aSt_s {b : Nat → Nat} {s : Nat} {q : RS} (h : aSt b s = some q) : aSt b (s + 1) = aT q (b s) := by
  show (match aSt b s with
    | some q => aT q (b s)
    | none => none) = _
  rw [h]
theorem aSt_ok {b : Nat → Nat} : ∀ s q, aSt b s = some q → Qok q
  | 0, q, h => by
    cases h
    exact q0_ok
  | s + 1, q, h => by
    cases e : aSt b s with
    | none =>
      have : aSt b (s + 1) = none := by
        show (match aSt b s with
          | some q => aT q (b s)
          | none => none) = _
        rw [e]
      rw [this] at h
      cases h
    | some q1 =>
      rw [aSt_s e] at h
      exact aT_ok (aSt_ok s q1 e) h
theorem aSt_none {b : Nat → Nat} {s : Nat} (h : aSt b s = none) : ∀ k, aSt b (s + k) = none
  | 0 => h
  | k + 1 => by
    show (match aSt b (s + k) with
      | some q => aT q (b (s + k))
      | none => none) = _
    rw [aSt_none h k]
theorem m25 {sc : Nat × (Nat → Int32)} {d : Nat} {D : Nat → Nat → Int32} {G : Nat → Nat → Int64} {q : RS} {c : Nat} (HR : RepR D q) (HQ : Qok q) (hc : c < 200) : Cq sc (d + 1) 25 [.ref 12, .int (nI c)] D G (QT (aW q c) D) := by
  obtain ⟨p0, p1, p3, p5, p6, p7, p8, ph, pd⟩ := id HR
  obtain ⟨k0, k1, k2, k3, k4, k5, k6, k7⟩ := id HQ
  have hd := zdg_r c
  have e10 : nI (qw q * 10) = iI ((qw q : Int) * 10) := by rw [i_nI]; congr 1
  refine Cq.c (fun _ _ _ => c25) ?_
  refine Rq.b (fun _ => b25_0) (fun h0 => ?_) (fun h0 => ?_)
  · try simp (disch := omega) only [Int32.le_iff_toInt_le, Int32.lt_iff_toInt_lt, z_eq, z_nI, z_0, z_m1, z_sub, z_iI, nI_add, nI_mulN, pk_sub, nI_clamp, Nat.reduceAdd, Nat.reduceMul, Nat.reduceSub, Nat.zero_add, Nat.add_zero, e10, iI_add, p1] at h0
    all_goals (try (exfalso; omega))
    all_goals
      refine Rq.s (fun _ => b25_24 (by (try simp (disch := omega) only [nI_add, nI_mulN, pk_sub, nI_clamp, Nat.reduceAdd, Nat.reduceMul, Nat.reduceSub, Nat.zero_add, Nat.add_zero, e10, iI_add, p1]); exact m32 hc)) ?_
      try simp (disch := omega) only [nI_add, nI_mulN, pk_sub, nI_clamp, Nat.reduceAdd, Nat.reduceMul, Nat.reduceSub, Nat.zero_add, Nat.add_zero, e10, iI_add, p1]
      refine Rq.s (fun _ => b25_35 (by (try simp (disch := omega) only [nI_add, nI_mulN, pk_sub, nI_clamp, Nat.reduceAdd, Nat.reduceMul, Nat.reduceSub, Nat.zero_add, Nat.add_zero, e10, iI_add, p1]); exact m32 hc)) ?_
      try simp (disch := omega) only [nI_add, nI_mulN, pk_sub, nI_clamp, Nat.reduceAdd, Nat.reduceMul, Nat.reduceSub, Nat.zero_add, Nat.add_zero, e10, iI_add, p1]
      refine Rq.b (fun _ => b25_41) (fun h41 => ?_) (fun h41 => ?_)
      · try simp (disch := omega) only [Int32.le_iff_toInt_le, Int32.lt_iff_toInt_lt, z_eq, z_nI, z_0, z_m1, z_sub, z_iI, nI_add, nI_mulN, pk_sub, nI_clamp, Nat.reduceAdd, Nat.reduceMul, Nat.reduceSub, Nat.zero_add, Nat.add_zero, e10, iI_add, p1] at h41
        all_goals (try (exfalso; omega))
        all_goals
          refine Rq.e (b25_56) ?_
          refine QT.n ?_ eqR.rf
          unfold aW
          rw [if_neg (by omega), if_pos (by omega)]
      · try simp (disch := omega) only [Int32.le_iff_toInt_le, Int32.lt_iff_toInt_lt, z_eq, z_nI, z_0, z_m1, z_sub, z_iI, nI_add, nI_mulN, pk_sub, nI_clamp, Nat.reduceAdd, Nat.reduceMul, Nat.reduceSub, Nat.zero_add, Nat.add_zero, e10, iI_add, p1] at h41
        all_goals (try (exfalso; omega))
        all_goals
          refine Rq.b (fun _ => b25_45) (fun h45 => ?_) (fun h45 => ?_)
          · try simp (disch := omega) only [Int32.le_iff_toInt_le, Int32.lt_iff_toInt_lt, z_eq, z_nI, z_0, z_m1, z_sub, z_iI, nI_add, nI_mulN, pk_sub, nI_clamp, Nat.reduceAdd, Nat.reduceMul, Nat.reduceSub, Nat.zero_add, Nat.add_zero, e10, iI_add, p1] at h45
            all_goals (try (exfalso; omega))
            all_goals
              refine Rq.e (b25_56) ?_
              refine QT.n ?_ eqR.rf
              unfold aW
              rw [if_neg (by omega), if_pos (by omega)]
          · try simp (disch := omega) only [Int32.le_iff_toInt_le, Int32.lt_iff_toInt_lt, z_eq, z_nI, z_0, z_m1, z_sub, z_iI, nI_add, nI_mulN, pk_sub, nI_clamp, Nat.reduceAdd, Nat.reduceMul, Nat.reduceSub, Nat.zero_add, Nat.add_zero, e10, iI_add, p1] at h45
            all_goals (try (exfalso; omega))
            all_goals
              refine Rq.b (fun _ => b25_50) (fun h50 => ?_) (fun h50 => ?_)
              · try simp (disch := omega) only [Int32.le_iff_toInt_le, Int32.lt_iff_toInt_lt, z_eq, z_nI, z_0, z_m1, z_sub, z_iI, nI_add, nI_mulN, pk_sub, nI_clamp, Nat.reduceAdd, Nat.reduceMul, Nat.reduceSub, Nat.zero_add, Nat.add_zero, e10, iI_add, p1] at h50
                all_goals (try (exfalso; omega))
                all_goals
                  refine Rq.e (b25_58) ?_
                  refine QT.s (q2 := (qb q, qp q, ((qw q : Int) * 10 + zdg c).toNat, qe q, qr q, qx q, qh q, qd q)) ?_ (eqR.up eqR.rf (Or.inl rfl)) ?_
                  · unfold aW
                    rw [if_neg (by omega), if_neg (by omega)]
                  · exact HR.up (by simp [hx_up_ne]) (by simp [hx_up_ne]) rfl rfl rfl (by simp [hx_up_at, p0]) (by rw [hx_up_s, iI_nI (by omega)]) (by simp [hx_up_at, p3]) (by simp [hx_up_at, p5]) (by simp [hx_up_at, p6]) (by simp [hx_up_at, p7]) (by simp [hx_up_at, p8])
              · try simp (disch := omega) only [Int32.le_iff_toInt_le, Int32.lt_iff_toInt_lt, z_eq, z_nI, z_0, z_m1, z_sub, z_iI, nI_add, nI_mulN, pk_sub, nI_clamp, Nat.reduceAdd, Nat.reduceMul, Nat.reduceSub, Nat.zero_add, Nat.add_zero, e10, iI_add, p1] at h50
                all_goals (try (exfalso; omega))
                all_goals
                  refine Rq.e (b25_56) ?_
                  refine QT.n ?_ eqR.rf
                  unfold aW
                  rw [if_neg (by omega), if_pos (by omega)]
  · try simp (disch := omega) only [Int32.le_iff_toInt_le, Int32.lt_iff_toInt_lt, z_eq, z_nI, z_0, z_m1, z_sub, z_iI, nI_add, nI_mulN, pk_sub, nI_clamp, Nat.reduceAdd, Nat.reduceMul, Nat.reduceSub, Nat.zero_add, Nat.add_zero, e10, iI_add, p1] at h0
    all_goals (try (exfalso; omega))
    all_goals
      refine Rq.b (fun _ => b25_6) (fun h6 => ?_) (fun h6 => ?_)
      · try simp (disch := omega) only [Int32.le_iff_toInt_le, Int32.lt_iff_toInt_lt, z_eq, z_nI, z_0, z_m1, z_sub, z_iI, nI_add, nI_mulN, pk_sub, nI_clamp, Nat.reduceAdd, Nat.reduceMul, Nat.reduceSub, Nat.zero_add, Nat.add_zero, e10, iI_add, p1] at h6
        all_goals (try (exfalso; omega))
        all_goals (try simp (disch := omega) only [nI_add, nI_mulN, pk_sub, nI_clamp, Nat.reduceAdd, Nat.reduceMul, Nat.reduceSub, Nat.zero_add, Nat.add_zero, e10, iI_add, p1])
        all_goals
          refine Rq.s (fun _ => b25_22) ?_
          try simp (disch := omega) only [nI_add, nI_mulN, pk_sub, nI_clamp, Nat.reduceAdd, Nat.reduceMul, Nat.reduceSub, Nat.zero_add, Nat.add_zero, e10, iI_add, p1]
          refine Rq.e (b25_23 (by first | exact Or.inl rfl | exact Or.inr rfl | (split <;> first | exact Or.inl rfl | exact Or.inr rfl))) ?_
          refine QT.n ?_ (eqR.up eqR.rf (Or.inl rfl))
          unfold aW
          rw [if_pos (by omega), if_neg (by omega)]
      · try simp (disch := omega) only [Int32.le_iff_toInt_le, Int32.lt_iff_toInt_lt, z_eq, z_nI, z_0, z_m1, z_sub, z_iI, nI_add, nI_mulN, pk_sub, nI_clamp, Nat.reduceAdd, Nat.reduceMul, Nat.reduceSub, Nat.zero_add, Nat.add_zero, e10, iI_add, p1] at h6
        all_goals (try (exfalso; omega))
        all_goals (try simp (disch := omega) only [nI_add, nI_mulN, pk_sub, nI_clamp, Nat.reduceAdd, Nat.reduceMul, Nat.reduceSub, Nat.zero_add, Nat.add_zero, e10, iI_add, p1])
        all_goals
          refine Rq.s (fun _ => b25_18) ?_
          try simp (disch := omega) only [nI_add, nI_mulN, pk_sub, nI_clamp, Nat.reduceAdd, Nat.reduceMul, Nat.reduceSub, Nat.zero_add, Nat.add_zero, e10, iI_add, p1]
          refine Rq.e (b25_23b (by first | exact Or.inl rfl | exact Or.inr rfl | (split <;> first | exact Or.inl rfl | exact Or.inr rfl))) ?_
          refine QT.s (q2 := (qb q, 1, qw q, qe q, qr q, qx q, qh q, qd q)) ?_ (eqR.up eqR.rf (Or.inl rfl)) ?_
          · unfold aW
            rw [if_pos (by omega), if_pos (by omega)]
          · exact HR.up (by simp [hx_up_ne]) (by simp [hx_up_ne]) rfl rfl rfl (by simp [hx_up_at, p0]) (by simp [hx_up_at, p1]) (by simp [hx_up_at, p3]) (by simp [hx_up_at, p5]) (by simp [hx_up_at, p6]) (by simp [hx_up_at, p7]) (by simp [hx_up_at, p8])
theorem m26 {sc : Nat × (Nat → Int32)} {d : Nat} {D : Nat → Nat → Int32} {G : Nat → Nat → Int64} {q : RS} {c : Nat} (HR : RepR D q) (HQ : Qok q) (hc : c < 200) : Cq sc (d + 1) 26 [.ref 12, .int (nI c)] D G (QT (aE q c) D) := by
  obtain ⟨p0, p1, p3, p5, p6, p7, p8, ph, pd⟩ := id HR
  obtain ⟨k0, k1, k2, k3, k4, k5, k6, k7⟩ := id HQ
  have hd := zdg_r c
  obtain ⟨br, e7, hbr⟩ : ∃ br, D 12 7 = nI br ∧ ((br = 1 ∧ qr q = true) ∨ (br = 0 ∧ qr q = false)) := by
    cases hb : qr q with
    | true => exact ⟨1, by rw [p7, hb]; rfl, Or.inl ⟨rfl, rfl⟩⟩
    | false => exact ⟨0, by rw [p7, hb]; rfl, Or.inr ⟨rfl, rfl⟩⟩
  have hb1 : br = 0 → qr q = false := fun h => by rcases hbr with z | z; (exfalso; omega); exact z.2
  have hb2 : br ≠ 0 → ¬ (qe q = 5 ∧ qr q = false) := fun h z => by rcases hbr with y | y; (rw [y.2] at z; exact absurd z.2 (by decide)); exfalso; omega
  have hbl : br ≤ 1 := by omega
  have hnb : (qe q ≠ 5 ∨ br ≠ 0) → ¬ (qe q = 5 ∧ qr q = false) := fun h z => by rcases h with h | h; (exact h z.1); exact hb2 h z
  refine Cq.c (fun _ _ _ => c26) ?_
  refine Rq.b (fun _ => b26_0) (fun h0 => ?_) (fun h0 => ?_)
  · try simp (disch := omega) only [Int32.le_iff_toInt_le, Int32.lt_iff_toInt_lt, z_eq, z_nI, z_0, z_m1, z_sub, z_iI, nI_add, nI_mulN, pk_sub, nI_clamp, Nat.reduceAdd, Nat.reduceMul, Nat.reduceSub, Nat.zero_add, Nat.add_zero, pk_rem, hx_up_in, hx_up_s, p6, e7] at h0
    all_goals (try (exfalso; omega))
    all_goals
      refine Rq.b (fun _ => b26_32) (fun h32 => ?_) (fun h32 => ?_)
      · try simp (disch := omega) only [Int32.le_iff_toInt_le, Int32.lt_iff_toInt_lt, z_eq, z_nI, z_0, z_m1, z_sub, z_iI, nI_add, nI_mulN, pk_sub, nI_clamp, Nat.reduceAdd, Nat.reduceMul, Nat.reduceSub, Nat.zero_add, Nat.add_zero, pk_rem, hx_up_in, hx_up_s, p6, e7] at h32
        all_goals (try (exfalso; omega))
        all_goals
          refine Rq.s (fun _ => b26_58 (by (try simp (disch := omega) only [nI_add, nI_mulN, pk_sub, nI_clamp, Nat.reduceAdd, Nat.reduceMul, Nat.reduceSub, Nat.zero_add, Nat.add_zero, pk_rem, hx_up_in, hx_up_s, p6, e7]); exact m32 hc)) ?_
          refine Rq.b (fun _ => b26_62 (by decide)) (fun h62 => ?_) (fun h62 => ?_)
          · try simp (disch := omega) only [Int32.le_iff_toInt_le, Int32.lt_iff_toInt_lt, z_eq, z_nI, z_0, z_m1, z_sub, z_iI, nI_add, nI_mulN, pk_sub, nI_clamp, Nat.reduceAdd, Nat.reduceMul, Nat.reduceSub, Nat.zero_add, Nat.add_zero, pk_rem, hx_up_in, hx_up_s, p6, e7] at h62
            all_goals (try (exfalso; omega))
            all_goals
              refine Rq.s (fun _ => b26_78) ?_
              try simp (disch := omega) only [nI_add, nI_mulN, pk_sub, nI_clamp, Nat.reduceAdd, Nat.reduceMul, Nat.reduceSub, Nat.zero_add, Nat.add_zero, pk_rem, hx_up_in, hx_up_s, p6, e7]
              refine Rq.s (fun _ => b26_79 (by (try simp (disch := omega) only [nI_add, nI_mulN, pk_sub, nI_clamp, Nat.reduceAdd, Nat.reduceMul, Nat.reduceSub, Nat.zero_add, Nat.add_zero, pk_rem, hx_up_in, hx_up_s, p6, e7]); exact nI_inbT (by omega) (by omega))) ?_
              try simp (disch := omega) only [nI_add, nI_mulN, pk_sub, nI_clamp, Nat.reduceAdd, Nat.reduceMul, Nat.reduceSub, Nat.zero_add, Nat.add_zero, pk_rem, hx_up_in, hx_up_s, p6, e7]
              refine Rq.b (fun _ => b26_100) (fun h100 => ?_) (fun h100 => ?_)
              · try simp (disch := omega) only [Int32.le_iff_toInt_le, Int32.lt_iff_toInt_lt, z_eq, z_nI, z_0, z_m1, z_sub, z_iI, nI_add, nI_mulN, pk_sub, nI_clamp, Nat.reduceAdd, Nat.reduceMul, Nat.reduceSub, Nat.zero_add, Nat.add_zero, pk_rem, hx_up_in, hx_up_s, p6, e7] at h100
                all_goals (try (exfalso; omega))
                all_goals
                  refine Rq.s (fun _ => b26_114) ?_
                  try simp (disch := omega) only [nI_add, nI_mulN, pk_sub, nI_clamp, Nat.reduceAdd, Nat.reduceMul, Nat.reduceSub, Nat.zero_add, Nat.add_zero, pk_rem, hx_up_in, hx_up_s, p6, e7]
                  refine Rq.e (b26_115 (by first | exact Or.inl rfl | exact Or.inr rfl | (split <;> first | exact Or.inl rfl | exact Or.inr rfl))) ?_
                  refine QT.n ?_ (eqR.up (eqR.up eqR.rf (Or.inr (Or.inl rfl))) (Or.inl rfl))
                  unfold aE
                  rw [if_neg (hnb (by omega)), if_neg (by omega), if_pos (by omega)]
              · try simp (disch := omega) only [Int32.le_iff_toInt_le, Int32.lt_iff_toInt_lt, z_eq, z_nI, z_0, z_m1, z_sub, z_iI, nI_add, nI_mulN, pk_sub, nI_clamp, Nat.reduceAdd, Nat.reduceMul, Nat.reduceSub, Nat.zero_add, Nat.add_zero, pk_rem, hx_up_in, hx_up_s, p6, e7] at h100
                all_goals (try (exfalso; omega))
                all_goals
                  refine Rq.b (fun _ => b26_105) (fun h105 => ?_) (fun h105 => ?_)
                  · try simp (disch := omega) only [Int32.le_iff_toInt_le, Int32.lt_iff_toInt_lt, z_eq, z_nI, z_0, z_m1, z_sub, z_iI, nI_add, nI_mulN, pk_sub, nI_clamp, Nat.reduceAdd, Nat.reduceMul, Nat.reduceSub, Nat.zero_add, Nat.add_zero, pk_rem, hx_up_in, hx_up_s, p6, e7] at h105
                    all_goals (try (exfalso; omega))
                    all_goals
                      refine Rq.s (fun _ => b26_114) ?_
                      try simp (disch := omega) only [nI_add, nI_mulN, pk_sub, nI_clamp, Nat.reduceAdd, Nat.reduceMul, Nat.reduceSub, Nat.zero_add, Nat.add_zero, pk_rem, hx_up_in, hx_up_s, p6, e7]
                      refine Rq.e (b26_115 (by first | exact Or.inl rfl | exact Or.inr rfl | (split <;> first | exact Or.inl rfl | exact Or.inr rfl))) ?_
                      refine QT.n ?_ (eqR.up (eqR.up eqR.rf (Or.inr (Or.inl rfl))) (Or.inl rfl))
                      unfold aE
                      rw [if_neg (hnb (by omega)), if_neg (by omega), if_pos (by omega)]
                  · try simp (disch := omega) only [Int32.le_iff_toInt_le, Int32.lt_iff_toInt_lt, z_eq, z_nI, z_0, z_m1, z_sub, z_iI, nI_add, nI_mulN, pk_sub, nI_clamp, Nat.reduceAdd, Nat.reduceMul, Nat.reduceSub, Nat.zero_add, Nat.add_zero, pk_rem, hx_up_in, hx_up_s, p6, e7] at h105
                    all_goals (try (exfalso; omega))
                    all_goals
                      refine Rq.s (fun _ => b26_110) ?_
                      try simp (disch := omega) only [nI_add, nI_mulN, pk_sub, nI_clamp, Nat.reduceAdd, Nat.reduceMul, Nat.reduceSub, Nat.zero_add, Nat.add_zero, pk_rem, hx_up_in, hx_up_s, p6, e7]
                      refine Rq.e (b26_115b (by first | exact Or.inl rfl | exact Or.inr rfl | (split <;> first | exact Or.inl rfl | exact Or.inr rfl))) ?_
                      refine QT.s (q2 := (qb q, qp q, qw q, qe q + 1, qr q, qx q, qh q, fup (qd q) (qe q) (zdg c).toNat)) ?_ (eqR.up (eqR.up eqR.rf (Or.inr (Or.inl rfl))) (Or.inl rfl)) ?_
                      · unfold aE
                        rw [if_neg (hnb (by omega)), if_neg (by omega), if_neg (by omega)]
                      · refine ⟨by simp [hx_up_at, p0], by simp [hx_up_at, p1], by simp [hx_up_at, p3], by simp [hx_up_at, p5], by simp [hx_up_at], by simp [hx_up_at, p7], by simp [hx_up_at, p8], fun i x h => ?_, fun j hj => ?_⟩
                        · simp only [hx_up_ne (show (14 : Nat) ≠ 12 by omega), hx_up_ne (show (14 : Nat) ≠ 13 by omega)]
                          exact ph i x h
                        · have hj2 : j < qe q + 1 := hj
                          show _ = nI (fup (qd q) (qe q) (zdg c).toNat j)
                          unfold fup
                          by_cases ej : j = qe q
                          · simp [hx_up_at, ej, iI_nI (show 0 ≤ zdg c by omega)]
                          · simp [hx_up_at, ej]
                            exact pd j (by omega)
          · try simp (disch := omega) only [Int32.le_iff_toInt_le, Int32.lt_iff_toInt_lt, z_eq, z_nI, z_0, z_m1, z_sub, z_iI, nI_add, nI_mulN, pk_sub, nI_clamp, Nat.reduceAdd, Nat.reduceMul, Nat.reduceSub, Nat.zero_add, Nat.add_zero, pk_rem, hx_up_in, hx_up_s, p6, e7] at h62
            all_goals (try (exfalso; omega))
            all_goals
              refine Rq.s (fun _ => b26_73) ?_
              try simp (disch := omega) only [nI_add, nI_mulN, pk_sub, nI_clamp, Nat.reduceAdd, Nat.reduceMul, Nat.reduceSub, Nat.zero_add, Nat.add_zero, pk_rem, hx_up_in, hx_up_s, p6, e7]
              refine Rq.s (fun _ => b26_79 (by (try simp (disch := omega) only [nI_add, nI_mulN, pk_sub, nI_clamp, Nat.reduceAdd, Nat.reduceMul, Nat.reduceSub, Nat.zero_add, Nat.add_zero, pk_rem, hx_up_in, hx_up_s, p6, e7]); exact nI_inbT (by omega) (by omega))) ?_
              try simp (disch := omega) only [nI_add, nI_mulN, pk_sub, nI_clamp, Nat.reduceAdd, Nat.reduceMul, Nat.reduceSub, Nat.zero_add, Nat.add_zero, pk_rem, hx_up_in, hx_up_s, p6, e7]
              refine Rq.b (fun _ => b26_100) (fun h100 => ?_) (fun h100 => ?_)
              · try simp (disch := omega) only [Int32.le_iff_toInt_le, Int32.lt_iff_toInt_lt, z_eq, z_nI, z_0, z_m1, z_sub, z_iI, nI_add, nI_mulN, pk_sub, nI_clamp, Nat.reduceAdd, Nat.reduceMul, Nat.reduceSub, Nat.zero_add, Nat.add_zero, pk_rem, hx_up_in, hx_up_s, p6, e7] at h100
                all_goals (try (exfalso; omega))
                all_goals
                  refine Rq.s (fun _ => b26_114) ?_
                  try simp (disch := omega) only [nI_add, nI_mulN, pk_sub, nI_clamp, Nat.reduceAdd, Nat.reduceMul, Nat.reduceSub, Nat.zero_add, Nat.add_zero, pk_rem, hx_up_in, hx_up_s, p6, e7]
                  refine Rq.e (b26_115 (by first | exact Or.inl rfl | exact Or.inr rfl | (split <;> first | exact Or.inl rfl | exact Or.inr rfl))) ?_
                  refine QT.n ?_ (eqR.up (eqR.up eqR.rf (Or.inr (Or.inl rfl))) (Or.inl rfl))
                  unfold aE
                  rw [if_neg (hnb (by omega)), if_neg (by omega), if_pos (by omega)]
              · try simp (disch := omega) only [Int32.le_iff_toInt_le, Int32.lt_iff_toInt_lt, z_eq, z_nI, z_0, z_m1, z_sub, z_iI, nI_add, nI_mulN, pk_sub, nI_clamp, Nat.reduceAdd, Nat.reduceMul, Nat.reduceSub, Nat.zero_add, Nat.add_zero, pk_rem, hx_up_in, hx_up_s, p6, e7] at h100
                all_goals (try (exfalso; omega))
                all_goals
                  refine Rq.b (fun _ => b26_105) (fun h105 => ?_) (fun h105 => ?_)
                  · try simp (disch := omega) only [Int32.le_iff_toInt_le, Int32.lt_iff_toInt_lt, z_eq, z_nI, z_0, z_m1, z_sub, z_iI, nI_add, nI_mulN, pk_sub, nI_clamp, Nat.reduceAdd, Nat.reduceMul, Nat.reduceSub, Nat.zero_add, Nat.add_zero, pk_rem, hx_up_in, hx_up_s, p6, e7] at h105
                    all_goals (try (exfalso; omega))
                    all_goals
                      refine Rq.s (fun _ => b26_114) ?_
                      try simp (disch := omega) only [nI_add, nI_mulN, pk_sub, nI_clamp, Nat.reduceAdd, Nat.reduceMul, Nat.reduceSub, Nat.zero_add, Nat.add_zero, pk_rem, hx_up_in, hx_up_s, p6, e7]
                      refine Rq.e (b26_115 (by first | exact Or.inl rfl | exact Or.inr rfl | (split <;> first | exact Or.inl rfl | exact Or.inr rfl))) ?_
                      refine QT.n ?_ (eqR.up (eqR.up eqR.rf (Or.inr (Or.inl rfl))) (Or.inl rfl))
                      unfold aE
                      rw [if_neg (hnb (by omega)), if_neg (by omega), if_pos (by omega)]
                  · try simp (disch := omega) only [Int32.le_iff_toInt_le, Int32.lt_iff_toInt_lt, z_eq, z_nI, z_0, z_m1, z_sub, z_iI, nI_add, nI_mulN, pk_sub, nI_clamp, Nat.reduceAdd, Nat.reduceMul, Nat.reduceSub, Nat.zero_add, Nat.add_zero, pk_rem, hx_up_in, hx_up_s, p6, e7] at h105
                    all_goals (try (exfalso; omega))
                    all_goals
                      refine Rq.s (fun _ => b26_110) ?_
                      try simp (disch := omega) only [nI_add, nI_mulN, pk_sub, nI_clamp, Nat.reduceAdd, Nat.reduceMul, Nat.reduceSub, Nat.zero_add, Nat.add_zero, pk_rem, hx_up_in, hx_up_s, p6, e7]
                      refine Rq.e (b26_115b (by first | exact Or.inl rfl | exact Or.inr rfl | (split <;> first | exact Or.inl rfl | exact Or.inr rfl))) ?_
                      refine QT.s (q2 := (qb q, qp q, qw q, qe q + 1, qr q, qx q, qh q, fup (qd q) (qe q) (zdg c).toNat)) ?_ (eqR.up (eqR.up eqR.rf (Or.inr (Or.inl rfl))) (Or.inl rfl)) ?_
                      · unfold aE
                        rw [if_neg (hnb (by omega)), if_neg (by omega), if_neg (by omega)]
                      · refine ⟨by simp [hx_up_at, p0], by simp [hx_up_at, p1], by simp [hx_up_at, p3], by simp [hx_up_at, p5], by simp [hx_up_at], by simp [hx_up_at, p7], by simp [hx_up_at, p8], fun i x h => ?_, fun j hj => ?_⟩
                        · simp only [hx_up_ne (show (14 : Nat) ≠ 12 by omega), hx_up_ne (show (14 : Nat) ≠ 13 by omega)]
                          exact ph i x h
                        · have hj2 : j < qe q + 1 := hj
                          show _ = nI (fup (qd q) (qe q) (zdg c).toNat j)
                          unfold fup
                          by_cases ej : j = qe q
                          · simp [hx_up_at, ej, iI_nI (show 0 ≤ zdg c by omega)]
                          · simp [hx_up_at, ej]
                            exact pd j (by omega)
      · try simp (disch := omega) only [Int32.le_iff_toInt_le, Int32.lt_iff_toInt_lt, z_eq, z_nI, z_0, z_m1, z_sub, z_iI, nI_add, nI_mulN, pk_sub, nI_clamp, Nat.reduceAdd, Nat.reduceMul, Nat.reduceSub, Nat.zero_add, Nat.add_zero, pk_rem, hx_up_in, hx_up_s, p6, e7] at h32
        all_goals (try (exfalso; omega))
        all_goals
          refine Rq.b (fun _ => b26_41) (fun h41 => ?_) (fun h41 => ?_)
          · try simp (disch := omega) only [Int32.le_iff_toInt_le, Int32.lt_iff_toInt_lt, z_eq, z_nI, z_0, z_m1, z_sub, z_iI, nI_add, nI_mulN, pk_sub, nI_clamp, Nat.reduceAdd, Nat.reduceMul, Nat.reduceSub, Nat.zero_add, Nat.add_zero, pk_rem, hx_up_in, hx_up_s, p6, e7] at h41
            all_goals (try (exfalso; omega))
            all_goals (try simp (disch := omega) only [nI_add, nI_mulN, pk_sub, nI_clamp, Nat.reduceAdd, Nat.reduceMul, Nat.reduceSub, Nat.zero_add, Nat.add_zero, pk_rem, hx_up_in, hx_up_s, p6, e7])
            all_goals
              refine Rq.s (fun _ => b26_56) ?_
              try simp (disch := omega) only [nI_add, nI_mulN, pk_sub, nI_clamp, Nat.reduceAdd, Nat.reduceMul, Nat.reduceSub, Nat.zero_add, Nat.add_zero, pk_rem, hx_up_in, hx_up_s, p6, e7]
              refine Rq.e (b26_57 (by first | exact Or.inl rfl | exact Or.inr rfl | (split <;> first | exact Or.inl rfl | exact Or.inr rfl))) ?_
              refine QT.n ?_ (eqR.up eqR.rf (Or.inl rfl))
              unfold aE
              rw [if_neg (hnb (by omega)), if_pos (by omega), if_neg (by omega)]
          · try simp (disch := omega) only [Int32.le_iff_toInt_le, Int32.lt_iff_toInt_lt, z_eq, z_nI, z_0, z_m1, z_sub, z_iI, nI_add, nI_mulN, pk_sub, nI_clamp, Nat.reduceAdd, Nat.reduceMul, Nat.reduceSub, Nat.zero_add, Nat.add_zero, pk_rem, hx_up_in, hx_up_s, p6, e7] at h41
            all_goals (try (exfalso; omega))
            all_goals (try simp (disch := omega) only [nI_add, nI_mulN, pk_sub, nI_clamp, Nat.reduceAdd, Nat.reduceMul, Nat.reduceSub, Nat.zero_add, Nat.add_zero, pk_rem, hx_up_in, hx_up_s, p6, e7])
            all_goals
              refine Rq.s (fun _ => b26_52) ?_
              try simp (disch := omega) only [nI_add, nI_mulN, pk_sub, nI_clamp, Nat.reduceAdd, Nat.reduceMul, Nat.reduceSub, Nat.zero_add, Nat.add_zero, pk_rem, hx_up_in, hx_up_s, p6, e7]
              refine Rq.e (b26_57b (by first | exact Or.inl rfl | exact Or.inr rfl | (split <;> first | exact Or.inl rfl | exact Or.inr rfl))) ?_
              refine QT.s (q2 := (qb q, 2, qw q, qe q, qr q, qx q, qh q, qd q)) ?_ (eqR.up eqR.rf (Or.inl rfl)) ?_
              · unfold aE
                rw [if_neg (hnb (by omega)), if_pos (by omega), if_pos (by omega)]
              · exact HR.up (by simp [hx_up_ne]) (by simp [hx_up_ne]) rfl rfl rfl (by simp [hx_up_at, p0]) (by simp [hx_up_at, p1]) (by simp [hx_up_at, p3]) (by simp [hx_up_at, p5]) (by simp [hx_up_at, p6]) (by simp [hx_up_at, p7]) (by simp [hx_up_at, p8])
  · try simp (disch := omega) only [Int32.le_iff_toInt_le, Int32.lt_iff_toInt_lt, z_eq, z_nI, z_0, z_m1, z_sub, z_iI, nI_add, nI_mulN, pk_sub, nI_clamp, Nat.reduceAdd, Nat.reduceMul, Nat.reduceSub, Nat.zero_add, Nat.add_zero, pk_rem, hx_up_in, hx_up_s, p6, e7] at h0
    all_goals (try (exfalso; omega))
    all_goals
      refine Rq.b (fun _ => b26_8) (fun h8 => ?_) (fun h8 => ?_)
      · try simp (disch := omega) only [Int32.le_iff_toInt_le, Int32.lt_iff_toInt_lt, z_eq, z_nI, z_0, z_m1, z_sub, z_iI, nI_add, nI_mulN, pk_sub, nI_clamp, Nat.reduceAdd, Nat.reduceMul, Nat.reduceSub, Nat.zero_add, Nat.add_zero, pk_rem, hx_up_in, hx_up_s, p6, e7] at h8
        all_goals (try (exfalso; omega))
        all_goals
          refine Rq.b (fun _ => b26_32) (fun h32 => ?_) (fun h32 => ?_)
          · try simp (disch := omega) only [Int32.le_iff_toInt_le, Int32.lt_iff_toInt_lt, z_eq, z_nI, z_0, z_m1, z_sub, z_iI, nI_add, nI_mulN, pk_sub, nI_clamp, Nat.reduceAdd, Nat.reduceMul, Nat.reduceSub, Nat.zero_add, Nat.add_zero, pk_rem, hx_up_in, hx_up_s, p6, e7] at h32
            all_goals (try (exfalso; omega))
            all_goals
              refine Rq.s (fun _ => b26_58 (by (try simp (disch := omega) only [nI_add, nI_mulN, pk_sub, nI_clamp, Nat.reduceAdd, Nat.reduceMul, Nat.reduceSub, Nat.zero_add, Nat.add_zero, pk_rem, hx_up_in, hx_up_s, p6, e7]); exact m32 hc)) ?_
              refine Rq.b (fun _ => b26_62 (by decide)) (fun h62 => ?_) (fun h62 => ?_)
              · try simp (disch := omega) only [Int32.le_iff_toInt_le, Int32.lt_iff_toInt_lt, z_eq, z_nI, z_0, z_m1, z_sub, z_iI, nI_add, nI_mulN, pk_sub, nI_clamp, Nat.reduceAdd, Nat.reduceMul, Nat.reduceSub, Nat.zero_add, Nat.add_zero, pk_rem, hx_up_in, hx_up_s, p6, e7] at h62
                all_goals (try (exfalso; omega))
                all_goals
                  refine Rq.s (fun _ => b26_78) ?_
                  try simp (disch := omega) only [nI_add, nI_mulN, pk_sub, nI_clamp, Nat.reduceAdd, Nat.reduceMul, Nat.reduceSub, Nat.zero_add, Nat.add_zero, pk_rem, hx_up_in, hx_up_s, p6, e7]
                  refine Rq.s (fun _ => b26_79 (by (try simp (disch := omega) only [nI_add, nI_mulN, pk_sub, nI_clamp, Nat.reduceAdd, Nat.reduceMul, Nat.reduceSub, Nat.zero_add, Nat.add_zero, pk_rem, hx_up_in, hx_up_s, p6, e7]); exact nI_inbT (by omega) (by omega))) ?_
                  try simp (disch := omega) only [nI_add, nI_mulN, pk_sub, nI_clamp, Nat.reduceAdd, Nat.reduceMul, Nat.reduceSub, Nat.zero_add, Nat.add_zero, pk_rem, hx_up_in, hx_up_s, p6, e7]
                  refine Rq.b (fun _ => b26_100) (fun h100 => ?_) (fun h100 => ?_)
                  · try simp (disch := omega) only [Int32.le_iff_toInt_le, Int32.lt_iff_toInt_lt, z_eq, z_nI, z_0, z_m1, z_sub, z_iI, nI_add, nI_mulN, pk_sub, nI_clamp, Nat.reduceAdd, Nat.reduceMul, Nat.reduceSub, Nat.zero_add, Nat.add_zero, pk_rem, hx_up_in, hx_up_s, p6, e7] at h100
                    all_goals (try (exfalso; omega))
                    all_goals
                      refine Rq.s (fun _ => b26_114) ?_
                      try simp (disch := omega) only [nI_add, nI_mulN, pk_sub, nI_clamp, Nat.reduceAdd, Nat.reduceMul, Nat.reduceSub, Nat.zero_add, Nat.add_zero, pk_rem, hx_up_in, hx_up_s, p6, e7]
                      refine Rq.e (b26_115 (by first | exact Or.inl rfl | exact Or.inr rfl | (split <;> first | exact Or.inl rfl | exact Or.inr rfl))) ?_
                      refine QT.n ?_ (eqR.up (eqR.up eqR.rf (Or.inr (Or.inl rfl))) (Or.inl rfl))
                      unfold aE
                      rw [if_neg (hnb (by omega)), if_neg (by omega), if_pos (by omega)]
                  · try simp (disch := omega) only [Int32.le_iff_toInt_le, Int32.lt_iff_toInt_lt, z_eq, z_nI, z_0, z_m1, z_sub, z_iI, nI_add, nI_mulN, pk_sub, nI_clamp, Nat.reduceAdd, Nat.reduceMul, Nat.reduceSub, Nat.zero_add, Nat.add_zero, pk_rem, hx_up_in, hx_up_s, p6, e7] at h100
                    all_goals (try (exfalso; omega))
                    all_goals
                      refine Rq.b (fun _ => b26_105) (fun h105 => ?_) (fun h105 => ?_)
                      · try simp (disch := omega) only [Int32.le_iff_toInt_le, Int32.lt_iff_toInt_lt, z_eq, z_nI, z_0, z_m1, z_sub, z_iI, nI_add, nI_mulN, pk_sub, nI_clamp, Nat.reduceAdd, Nat.reduceMul, Nat.reduceSub, Nat.zero_add, Nat.add_zero, pk_rem, hx_up_in, hx_up_s, p6, e7] at h105
                        all_goals (try (exfalso; omega))
                        all_goals
                          refine Rq.s (fun _ => b26_114) ?_
                          try simp (disch := omega) only [nI_add, nI_mulN, pk_sub, nI_clamp, Nat.reduceAdd, Nat.reduceMul, Nat.reduceSub, Nat.zero_add, Nat.add_zero, pk_rem, hx_up_in, hx_up_s, p6, e7]
                          refine Rq.e (b26_115 (by first | exact Or.inl rfl | exact Or.inr rfl | (split <;> first | exact Or.inl rfl | exact Or.inr rfl))) ?_
                          refine QT.n ?_ (eqR.up (eqR.up eqR.rf (Or.inr (Or.inl rfl))) (Or.inl rfl))
                          unfold aE
                          rw [if_neg (hnb (by omega)), if_neg (by omega), if_pos (by omega)]
                      · try simp (disch := omega) only [Int32.le_iff_toInt_le, Int32.lt_iff_toInt_lt, z_eq, z_nI, z_0, z_m1, z_sub, z_iI, nI_add, nI_mulN, pk_sub, nI_clamp, Nat.reduceAdd, Nat.reduceMul, Nat.reduceSub, Nat.zero_add, Nat.add_zero, pk_rem, hx_up_in, hx_up_s, p6, e7] at h105
                        all_goals (try (exfalso; omega))
                        all_goals
                          refine Rq.s (fun _ => b26_110) ?_
                          try simp (disch := omega) only [nI_add, nI_mulN, pk_sub, nI_clamp, Nat.reduceAdd, Nat.reduceMul, Nat.reduceSub, Nat.zero_add, Nat.add_zero, pk_rem, hx_up_in, hx_up_s, p6, e7]
                          refine Rq.e (b26_115b (by first | exact Or.inl rfl | exact Or.inr rfl | (split <;> first | exact Or.inl rfl | exact Or.inr rfl))) ?_
                          refine QT.s (q2 := (qb q, qp q, qw q, qe q + 1, qr q, qx q, qh q, fup (qd q) (qe q) (zdg c).toNat)) ?_ (eqR.up (eqR.up eqR.rf (Or.inr (Or.inl rfl))) (Or.inl rfl)) ?_
                          · unfold aE
                            rw [if_neg (hnb (by omega)), if_neg (by omega), if_neg (by omega)]
                          · refine ⟨by simp [hx_up_at, p0], by simp [hx_up_at, p1], by simp [hx_up_at, p3], by simp [hx_up_at, p5], by simp [hx_up_at], by simp [hx_up_at, p7], by simp [hx_up_at, p8], fun i x h => ?_, fun j hj => ?_⟩
                            · simp only [hx_up_ne (show (14 : Nat) ≠ 12 by omega), hx_up_ne (show (14 : Nat) ≠ 13 by omega)]
                              exact ph i x h
                            · have hj2 : j < qe q + 1 := hj
                              show _ = nI (fup (qd q) (qe q) (zdg c).toNat j)
                              unfold fup
                              by_cases ej : j = qe q
                              · simp [hx_up_at, ej, iI_nI (show 0 ≤ zdg c by omega)]
                              · simp [hx_up_at, ej]
                                exact pd j (by omega)
              · try simp (disch := omega) only [Int32.le_iff_toInt_le, Int32.lt_iff_toInt_lt, z_eq, z_nI, z_0, z_m1, z_sub, z_iI, nI_add, nI_mulN, pk_sub, nI_clamp, Nat.reduceAdd, Nat.reduceMul, Nat.reduceSub, Nat.zero_add, Nat.add_zero, pk_rem, hx_up_in, hx_up_s, p6, e7] at h62
                all_goals (try (exfalso; omega))
                all_goals
                  refine Rq.s (fun _ => b26_73) ?_
                  try simp (disch := omega) only [nI_add, nI_mulN, pk_sub, nI_clamp, Nat.reduceAdd, Nat.reduceMul, Nat.reduceSub, Nat.zero_add, Nat.add_zero, pk_rem, hx_up_in, hx_up_s, p6, e7]
                  refine Rq.s (fun _ => b26_79 (by (try simp (disch := omega) only [nI_add, nI_mulN, pk_sub, nI_clamp, Nat.reduceAdd, Nat.reduceMul, Nat.reduceSub, Nat.zero_add, Nat.add_zero, pk_rem, hx_up_in, hx_up_s, p6, e7]); exact nI_inbT (by omega) (by omega))) ?_
                  try simp (disch := omega) only [nI_add, nI_mulN, pk_sub, nI_clamp, Nat.reduceAdd, Nat.reduceMul, Nat.reduceSub, Nat.zero_add, Nat.add_zero, pk_rem, hx_up_in, hx_up_s, p6, e7]
                  refine Rq.b (fun _ => b26_100) (fun h100 => ?_) (fun h100 => ?_)
                  · try simp (disch := omega) only [Int32.le_iff_toInt_le, Int32.lt_iff_toInt_lt, z_eq, z_nI, z_0, z_m1, z_sub, z_iI, nI_add, nI_mulN, pk_sub, nI_clamp, Nat.reduceAdd, Nat.reduceMul, Nat.reduceSub, Nat.zero_add, Nat.add_zero, pk_rem, hx_up_in, hx_up_s, p6, e7] at h100
                    all_goals (try (exfalso; omega))
                    all_goals
                      refine Rq.s (fun _ => b26_114) ?_
                      try simp (disch := omega) only [nI_add, nI_mulN, pk_sub, nI_clamp, Nat.reduceAdd, Nat.reduceMul, Nat.reduceSub, Nat.zero_add, Nat.add_zero, pk_rem, hx_up_in, hx_up_s, p6, e7]
                      refine Rq.e (b26_115 (by first | exact Or.inl rfl | exact Or.inr rfl | (split <;> first | exact Or.inl rfl | exact Or.inr rfl))) ?_
                      refine QT.n ?_ (eqR.up (eqR.up eqR.rf (Or.inr (Or.inl rfl))) (Or.inl rfl))
                      unfold aE
                      rw [if_neg (hnb (by omega)), if_neg (by omega), if_pos (by omega)]
                  · try simp (disch := omega) only [Int32.le_iff_toInt_le, Int32.lt_iff_toInt_lt, z_eq, z_nI, z_0, z_m1, z_sub, z_iI, nI_add, nI_mulN, pk_sub, nI_clamp, Nat.reduceAdd, Nat.reduceMul, Nat.reduceSub, Nat.zero_add, Nat.add_zero, pk_rem, hx_up_in, hx_up_s, p6, e7] at h100
                    all_goals (try (exfalso; omega))
                    all_goals
                      refine Rq.b (fun _ => b26_105) (fun h105 => ?_) (fun h105 => ?_)
                      · try simp (disch := omega) only [Int32.le_iff_toInt_le, Int32.lt_iff_toInt_lt, z_eq, z_nI, z_0, z_m1, z_sub, z_iI, nI_add, nI_mulN, pk_sub, nI_clamp, Nat.reduceAdd, Nat.reduceMul, Nat.reduceSub, Nat.zero_add, Nat.add_zero, pk_rem, hx_up_in, hx_up_s, p6, e7] at h105
                        all_goals (try (exfalso; omega))
                        all_goals
                          refine Rq.s (fun _ => b26_114) ?_
                          try simp (disch := omega) only [nI_add, nI_mulN, pk_sub, nI_clamp, Nat.reduceAdd, Nat.reduceMul, Nat.reduceSub, Nat.zero_add, Nat.add_zero, pk_rem, hx_up_in, hx_up_s, p6, e7]
                          refine Rq.e (b26_115 (by first | exact Or.inl rfl | exact Or.inr rfl | (split <;> first | exact Or.inl rfl | exact Or.inr rfl))) ?_
                          refine QT.n ?_ (eqR.up (eqR.up eqR.rf (Or.inr (Or.inl rfl))) (Or.inl rfl))
                          unfold aE
                          rw [if_neg (hnb (by omega)), if_neg (by omega), if_pos (by omega)]
                      · try simp (disch := omega) only [Int32.le_iff_toInt_le, Int32.lt_iff_toInt_lt, z_eq, z_nI, z_0, z_m1, z_sub, z_iI, nI_add, nI_mulN, pk_sub, nI_clamp, Nat.reduceAdd, Nat.reduceMul, Nat.reduceSub, Nat.zero_add, Nat.add_zero, pk_rem, hx_up_in, hx_up_s, p6, e7] at h105
                        all_goals (try (exfalso; omega))
                        all_goals
                          refine Rq.s (fun _ => b26_110) ?_
                          try simp (disch := omega) only [nI_add, nI_mulN, pk_sub, nI_clamp, Nat.reduceAdd, Nat.reduceMul, Nat.reduceSub, Nat.zero_add, Nat.add_zero, pk_rem, hx_up_in, hx_up_s, p6, e7]
                          refine Rq.e (b26_115b (by first | exact Or.inl rfl | exact Or.inr rfl | (split <;> first | exact Or.inl rfl | exact Or.inr rfl))) ?_
                          refine QT.s (q2 := (qb q, qp q, qw q, qe q + 1, qr q, qx q, qh q, fup (qd q) (qe q) (zdg c).toNat)) ?_ (eqR.up (eqR.up eqR.rf (Or.inr (Or.inl rfl))) (Or.inl rfl)) ?_
                          · unfold aE
                            rw [if_neg (hnb (by omega)), if_neg (by omega), if_neg (by omega)]
                          · refine ⟨by simp [hx_up_at, p0], by simp [hx_up_at, p1], by simp [hx_up_at, p3], by simp [hx_up_at, p5], by simp [hx_up_at], by simp [hx_up_at, p7], by simp [hx_up_at, p8], fun i x h => ?_, fun j hj => ?_⟩
                            · simp only [hx_up_ne (show (14 : Nat) ≠ 12 by omega), hx_up_ne (show (14 : Nat) ≠ 13 by omega)]
                              exact ph i x h
                            · have hj2 : j < qe q + 1 := hj
                              show _ = nI (fup (qd q) (qe q) (zdg c).toNat j)
                              unfold fup
                              by_cases ej : j = qe q
                              · simp [hx_up_at, ej, iI_nI (show 0 ≤ zdg c by omega)]
                              · simp [hx_up_at, ej]
                                exact pd j (by omega)
          · try simp (disch := omega) only [Int32.le_iff_toInt_le, Int32.lt_iff_toInt_lt, z_eq, z_nI, z_0, z_m1, z_sub, z_iI, nI_add, nI_mulN, pk_sub, nI_clamp, Nat.reduceAdd, Nat.reduceMul, Nat.reduceSub, Nat.zero_add, Nat.add_zero, pk_rem, hx_up_in, hx_up_s, p6, e7] at h32
            all_goals (try (exfalso; omega))
            all_goals
              refine Rq.b (fun _ => b26_41) (fun h41 => ?_) (fun h41 => ?_)
              · try simp (disch := omega) only [Int32.le_iff_toInt_le, Int32.lt_iff_toInt_lt, z_eq, z_nI, z_0, z_m1, z_sub, z_iI, nI_add, nI_mulN, pk_sub, nI_clamp, Nat.reduceAdd, Nat.reduceMul, Nat.reduceSub, Nat.zero_add, Nat.add_zero, pk_rem, hx_up_in, hx_up_s, p6, e7] at h41
                all_goals (try (exfalso; omega))
                all_goals (try simp (disch := omega) only [nI_add, nI_mulN, pk_sub, nI_clamp, Nat.reduceAdd, Nat.reduceMul, Nat.reduceSub, Nat.zero_add, Nat.add_zero, pk_rem, hx_up_in, hx_up_s, p6, e7])
                all_goals
                  refine Rq.s (fun _ => b26_56) ?_
                  try simp (disch := omega) only [nI_add, nI_mulN, pk_sub, nI_clamp, Nat.reduceAdd, Nat.reduceMul, Nat.reduceSub, Nat.zero_add, Nat.add_zero, pk_rem, hx_up_in, hx_up_s, p6, e7]
                  refine Rq.e (b26_57 (by first | exact Or.inl rfl | exact Or.inr rfl | (split <;> first | exact Or.inl rfl | exact Or.inr rfl))) ?_
                  refine QT.n ?_ (eqR.up eqR.rf (Or.inl rfl))
                  unfold aE
                  rw [if_neg (hnb (by omega)), if_pos (by omega), if_neg (by omega)]
              · try simp (disch := omega) only [Int32.le_iff_toInt_le, Int32.lt_iff_toInt_lt, z_eq, z_nI, z_0, z_m1, z_sub, z_iI, nI_add, nI_mulN, pk_sub, nI_clamp, Nat.reduceAdd, Nat.reduceMul, Nat.reduceSub, Nat.zero_add, Nat.add_zero, pk_rem, hx_up_in, hx_up_s, p6, e7] at h41
                all_goals (try (exfalso; omega))
                all_goals (try simp (disch := omega) only [nI_add, nI_mulN, pk_sub, nI_clamp, Nat.reduceAdd, Nat.reduceMul, Nat.reduceSub, Nat.zero_add, Nat.add_zero, pk_rem, hx_up_in, hx_up_s, p6, e7])
                all_goals
                  refine Rq.s (fun _ => b26_52) ?_
                  try simp (disch := omega) only [nI_add, nI_mulN, pk_sub, nI_clamp, Nat.reduceAdd, Nat.reduceMul, Nat.reduceSub, Nat.zero_add, Nat.add_zero, pk_rem, hx_up_in, hx_up_s, p6, e7]
                  refine Rq.e (b26_57b (by first | exact Or.inl rfl | exact Or.inr rfl | (split <;> first | exact Or.inl rfl | exact Or.inr rfl))) ?_
                  refine QT.s (q2 := (qb q, 2, qw q, qe q, qr q, qx q, qh q, qd q)) ?_ (eqR.up eqR.rf (Or.inl rfl)) ?_
                  · unfold aE
                    rw [if_neg (hnb (by omega)), if_pos (by omega), if_pos (by omega)]
                  · exact HR.up (by simp [hx_up_ne]) (by simp [hx_up_ne]) rfl rfl rfl (by simp [hx_up_at, p0]) (by simp [hx_up_at, p1]) (by simp [hx_up_at, p3]) (by simp [hx_up_at, p5]) (by simp [hx_up_at, p6]) (by simp [hx_up_at, p7]) (by simp [hx_up_at, p8])
      · try simp (disch := omega) only [Int32.le_iff_toInt_le, Int32.lt_iff_toInt_lt, z_eq, z_nI, z_0, z_m1, z_sub, z_iI, nI_add, nI_mulN, pk_sub, nI_clamp, Nat.reduceAdd, Nat.reduceMul, Nat.reduceSub, Nat.zero_add, Nat.add_zero, pk_rem, hx_up_in, hx_up_s, p6, e7] at h8
        all_goals (try (exfalso; omega))
        all_goals
          refine Rq.b (fun _ => b26_15) (fun h15 => ?_) (fun h15 => ?_)
          · try simp (disch := omega) only [Int32.le_iff_toInt_le, Int32.lt_iff_toInt_lt, z_eq, z_nI, z_0, z_m1, z_sub, z_iI, nI_add, nI_mulN, pk_sub, nI_clamp, Nat.reduceAdd, Nat.reduceMul, Nat.reduceSub, Nat.zero_add, Nat.add_zero, pk_rem, hx_up_in, hx_up_s, p6, e7] at h15
            all_goals (try (exfalso; omega))
            all_goals (try simp (disch := omega) only [nI_add, nI_mulN, pk_sub, nI_clamp, Nat.reduceAdd, Nat.reduceMul, Nat.reduceSub, Nat.zero_add, Nat.add_zero, pk_rem, hx_up_in, hx_up_s, p6, e7])
            all_goals
              refine Rq.s (fun _ => b26_30) ?_
              try simp (disch := omega) only [nI_add, nI_mulN, pk_sub, nI_clamp, Nat.reduceAdd, Nat.reduceMul, Nat.reduceSub, Nat.zero_add, Nat.add_zero, pk_rem, hx_up_in, hx_up_s, p6, e7]
              refine Rq.e (b26_31 (by first | exact Or.inl rfl | exact Or.inr rfl | (split <;> first | exact Or.inl rfl | exact Or.inr rfl))) ?_
              refine QT.n ?_ (eqR.up eqR.rf (Or.inl rfl))
              unfold aE
              rw [if_pos ⟨by omega, hb1 (by omega)⟩, if_neg (by omega)]
          · try simp (disch := omega) only [Int32.le_iff_toInt_le, Int32.lt_iff_toInt_lt, z_eq, z_nI, z_0, z_m1, z_sub, z_iI, nI_add, nI_mulN, pk_sub, nI_clamp, Nat.reduceAdd, Nat.reduceMul, Nat.reduceSub, Nat.zero_add, Nat.add_zero, pk_rem, hx_up_in, hx_up_s, p6, e7] at h15
            all_goals (try (exfalso; omega))
            all_goals (try simp (disch := omega) only [nI_add, nI_mulN, pk_sub, nI_clamp, Nat.reduceAdd, Nat.reduceMul, Nat.reduceSub, Nat.zero_add, Nat.add_zero, pk_rem, hx_up_in, hx_up_s, p6, e7])
            all_goals
              refine Rq.s (fun _ => b26_26) ?_
              try simp (disch := omega) only [nI_add, nI_mulN, pk_sub, nI_clamp, Nat.reduceAdd, Nat.reduceMul, Nat.reduceSub, Nat.zero_add, Nat.add_zero, pk_rem, hx_up_in, hx_up_s, p6, e7]
              refine Rq.e (b26_31b (by first | exact Or.inl rfl | exact Or.inr rfl | (split <;> first | exact Or.inl rfl | exact Or.inr rfl))) ?_
              refine QT.s (q2 := (qb q, qp q, qw q, qe q, true, qx q, qh q, qd q)) ?_ (eqR.up eqR.rf (Or.inl rfl)) ?_
              · unfold aE
                rw [if_pos ⟨by omega, hb1 (by omega)⟩, if_pos (by omega)]
              · exact HR.up (by simp [hx_up_ne]) (by simp [hx_up_ne]) rfl rfl rfl (by simp [hx_up_at, p0]) (by simp [hx_up_at, p1]) (by simp [hx_up_at, p3]) (by simp [hx_up_at, p5]) (by simp [hx_up_at, p6]) (by simp [hx_up_at, p7]) (by simp [hx_up_at, p8])
theorem m27 {sc : Nat × (Nat → Int32)} {d : Nat} {D : Nat → Nat → Int32} {G : Nat → Nat → Int64} {q : RS} {c : Nat} (HR : RepR D q) (HQ : Qok q) (hc : c < 200) : Cq sc (d + 1) 27 [.ref 12, .int (nI c)] D G (QT (aN q c) D) := by
  obtain ⟨p0, p1, p3, p5, p6, p7, p8, ph, pd⟩ := id HR
  obtain ⟨k0, k1, k2, k3, k4, k5, k6, k7⟩ := id HQ
  have hl := qlast_r HQ
  have HR3 : RepR (hx_up (hx_up D 12 5 (nI 3)) 12 8 (-1)) (qb q, 3, qw q, qe q, qr q, -1, qh q, qd q) := HR.up (by simp [hx_up_ne]) (by simp [hx_up_ne]) rfl rfl rfl (by simp [hx_up_at, p0]) (by simp [hx_up_at, p1]) (by simp [hx_up_at, p3]) (by simp [hx_up_at]) (by simp [hx_up_at, p6]) (by simp [hx_up_at, p7]) (by simp [hx_up_at]; rfl)
  refine Cq.c (fun _ _ _ => c27) ?_
  refine Rq.b (fun _ => b27_0) (fun h0 => ?_) (fun h0 => ?_)
  · try simp (disch := omega) only [Int32.le_iff_toInt_le, Int32.lt_iff_toInt_lt, z_eq, z_nI, z_0, z_m1, z_sub, z_iI, nI_add, nI_mulN, pk_sub, nI_clamp, Nat.reduceAdd, Nat.reduceMul, Nat.reduceSub, Nat.zero_add, Nat.add_zero, hx_up_in, p1, p3] at h0
    all_goals (try (exfalso; omega))
    all_goals
      refine Rq.b (fun _ => b27_12) (fun h12 => ?_) (fun h12 => ?_)
      · try simp (disch := omega) only [Int32.le_iff_toInt_le, Int32.lt_iff_toInt_lt, z_eq, z_nI, z_0, z_m1, z_sub, z_iI, nI_add, nI_mulN, pk_sub, nI_clamp, Nat.reduceAdd, Nat.reduceMul, Nat.reduceSub, Nat.zero_add, Nat.add_zero, hx_up_in, p1, p3] at h12
        all_goals (try (exfalso; omega))
        all_goals (try simp (disch := omega) only [nI_add, nI_mulN, pk_sub, nI_clamp, Nat.reduceAdd, Nat.reduceMul, Nat.reduceSub, Nat.zero_add, Nat.add_zero, hx_up_in, p1, p3])
        all_goals
          refine Rq.s (fun _ => b27_53) ?_
          try simp (disch := omega) only [nI_add, nI_mulN, pk_sub, nI_clamp, Nat.reduceAdd, Nat.reduceMul, Nat.reduceSub, Nat.zero_add, Nat.add_zero, hx_up_in, p1, p3]
          refine Rq.e (b27_54 (by first | exact Or.inl rfl | exact Or.inr rfl | (split <;> first | exact Or.inl rfl | exact Or.inr rfl))) ?_
          refine QT.n ?_ (eqR.up (eqR.up eqR.rf (Or.inl rfl)) (Or.inl rfl))
          unfold aN
          rw [if_neg (by omega), if_neg (by omega)]
      · try simp (disch := omega) only [Int32.le_iff_toInt_le, Int32.lt_iff_toInt_lt, z_eq, z_nI, z_0, z_m1, z_sub, z_iI, nI_add, nI_mulN, pk_sub, nI_clamp, Nat.reduceAdd, Nat.reduceMul, Nat.reduceSub, Nat.zero_add, Nat.add_zero, hx_up_in, p1, p3] at h12
        all_goals (try (exfalso; omega))
        all_goals (try simp (disch := omega) only [nI_add, nI_mulN, pk_sub, nI_clamp, Nat.reduceAdd, Nat.reduceMul, Nat.reduceSub, Nat.zero_add, Nat.add_zero, hx_up_in, p1, p3])
        all_goals
          refine Rq.b (fun _ => b27_28) (fun h28 => ?_) (fun h28 => ?_)
          · try simp (disch := omega) only [Int32.le_iff_toInt_le, Int32.lt_iff_toInt_lt, z_eq, z_nI, z_0, z_m1, z_sub, z_iI, nI_add, nI_mulN, pk_sub, nI_clamp, Nat.reduceAdd, Nat.reduceMul, Nat.reduceSub, Nat.zero_add, Nat.add_zero, hx_up_in, p1, p3] at h28
            all_goals (try (exfalso; omega))
            all_goals
              refine Rq.s (fun _ => b27_53) ?_
              try simp (disch := omega) only [nI_add, nI_mulN, pk_sub, nI_clamp, Nat.reduceAdd, Nat.reduceMul, Nat.reduceSub, Nat.zero_add, Nat.add_zero, hx_up_in, p1, p3]
              refine Rq.e (b27_54 (by first | exact Or.inl rfl | exact Or.inr rfl | (split <;> first | exact Or.inl rfl | exact Or.inr rfl))) ?_
              refine QT.n ?_ (eqR.up (eqR.up eqR.rf (Or.inl rfl)) (Or.inl rfl))
              unfold aN
              rw [if_neg (by omega), if_neg (by omega)]
          · try simp (disch := omega) only [Int32.le_iff_toInt_le, Int32.lt_iff_toInt_lt, z_eq, z_nI, z_0, z_m1, z_sub, z_iI, nI_add, nI_mulN, pk_sub, nI_clamp, Nat.reduceAdd, Nat.reduceMul, Nat.reduceSub, Nat.zero_add, Nat.add_zero, hx_up_in, p1, p3] at h28
            all_goals (try (exfalso; omega))
            all_goals
              have m29q := m29 (sc := sc) (d := d) (G := G) HR3 (q := (qb q, 3, qw q, qe q, qr q, -1, qh q, qd q)) ⟨by show 3 ≤ 3; omega, k1, k2, k3, k4, Int.le_refl _, by show (-1 : Int) < 100; omega, fun _ => by show (qh q).length < 4; omega⟩
              refine Rq.s (fun _ => b27_36 m29q) ?_
              show Rq sc (d + 1) 27 (40, [some (.ref 12), some (.int (nI c))], [.int (iI (qlast q))], (hx_S0, hx_up (hx_up D 12 5 (nI 3)) 12 8 (-1), G), 0) G _
              refine Rq.b (fun _ => b27_40) (fun h40 => ?_) (fun h40 => ?_)
              · try simp (disch := omega) only [Int32.le_iff_toInt_le, Int32.lt_iff_toInt_lt, z_eq, z_nI, z_0, z_m1, z_sub, z_iI, nI_add, nI_mulN, pk_sub, nI_clamp, Nat.reduceAdd, Nat.reduceMul, Nat.reduceSub, Nat.zero_add, Nat.add_zero, hx_up_in, p1, p3] at h40
                all_goals (try (exfalso; omega))
                all_goals
                  refine Rq.s (fun _ => b27_53) ?_
                  try simp (disch := omega) only [nI_add, nI_mulN, pk_sub, nI_clamp, Nat.reduceAdd, Nat.reduceMul, Nat.reduceSub, Nat.zero_add, Nat.add_zero, hx_up_in, p1, p3]
                  refine Rq.e (b27_54 (by first | exact Or.inl rfl | exact Or.inr rfl | (split <;> first | exact Or.inl rfl | exact Or.inr rfl))) ?_
                  refine QT.n ?_ (eqR.up (eqR.up eqR.rf (Or.inl rfl)) (Or.inl rfl))
                  unfold aN
                  rw [if_neg (by omega), if_neg (by omega)]
              · try simp (disch := omega) only [Int32.le_iff_toInt_le, Int32.lt_iff_toInt_lt, z_eq, z_nI, z_0, z_m1, z_sub, z_iI, nI_add, nI_mulN, pk_sub, nI_clamp, Nat.reduceAdd, Nat.reduceMul, Nat.reduceSub, Nat.zero_add, Nat.add_zero, hx_up_in, p1, p3] at h40
                all_goals (try (exfalso; omega))
                all_goals
                  refine Rq.s (fun _ => b27_49) ?_
                  try simp (disch := omega) only [nI_add, nI_mulN, pk_sub, nI_clamp, Nat.reduceAdd, Nat.reduceMul, Nat.reduceSub, Nat.zero_add, Nat.add_zero, hx_up_in, p1, p3]
                  refine Rq.e (b27_54b (by first | exact Or.inl rfl | exact Or.inr rfl | (split <;> first | exact Or.inl rfl | exact Or.inr rfl))) ?_
                  refine QT.s ?_ (eqR.up (eqR.up eqR.rf (Or.inl rfl)) (Or.inl rfl)) HR3
                  unfold aN
                  rw [if_neg (by omega), if_pos ⟨by omega, by omega, by omega⟩]
  · try simp (disch := omega) only [Int32.le_iff_toInt_le, Int32.lt_iff_toInt_lt, z_eq, z_nI, z_0, z_m1, z_sub, z_iI, nI_add, nI_mulN, pk_sub, nI_clamp, Nat.reduceAdd, Nat.reduceMul, Nat.reduceSub, Nat.zero_add, Nat.add_zero, hx_up_in, p1, p3] at h0
    all_goals (try (exfalso; omega))
    all_goals
      obtain ⟨_, D4, hC4, rfl, e1, e2⟩ := m21 (sc := sc) (d := d) (D := D) (G := G) (b := qb q) (e := qd q) p0
      refine Rq.s (fun _ => b27_6 hC4) ?_
      refine Rq.e (b27_10) ?_
      refine QT.s (q2 := qbegin q) ?_ e1 e2
      unfold aN
      rw [if_pos (by omega)]
theorem m29x {sc : Nat × (Nat → Int32)} {d : Nat} {D : Nat → Nat → Int32} {G : Nat → Nat → Int64} {q : RS} (HR : RepR D q) (HK : (∀ x ∈ qh q, x < 60) ∧ (qh q).length ≤ 4) : Cl sc d 29 [.ref 12] (hx_S0, D, G) (.inl (some (.int (iI (qlast q))))) (hx_S0, D, G) ∧ -1 ≤ qlast q ∧ qlast q < 60 := by
  obtain ⟨p0, p1, p3, p5, p6, p7, p8, ph, pd⟩ := id HR
  have hl : -1 ≤ qlast q ∧ qlast q < 60 := by
    unfold qlast
    split
    · rename_i x hx
      rw [hx_nth_eq] at hx
      have := HK.1 x (List.mem_of_getElem? hx)
      omega
    · omega
  have k3 := HK.2
  refine ⟨Cq.p ?_, hl⟩
  refine Cq.c (fun _ _ _ => c29) ?_
  refine Rq.b (fun _ => b29_0) (fun h0 => ?_) (fun h0 => ?_)
  · try simp (disch := omega) only [Int32.le_iff_toInt_le, Int32.lt_iff_toInt_lt, z_eq, z_nI, z_0, z_m1, z_sub, nI_add, nI_mulN, pk_sub, nI_clamp, Nat.reduceAdd, Nat.reduceMul, Nat.reduceSub, Nat.zero_add, Nat.add_zero, p3] at h0
    all_goals (try (exfalso; omega))
    all_goals
      obtain ⟨x, hx⟩ : ∃ x, hx_nth (qh q) ((qh q).length - 1) = some x := ⟨_, by rw [hx_nth_eq]; exact List.getElem?_eq_getElem (by omega)⟩
      have phx := ph _ _ hx
      refine Rq.s (fun _ => b29_11 (by (try simp (disch := omega) only [nI_add, nI_mulN, pk_sub, nI_clamp, Nat.reduceAdd, Nat.reduceMul, Nat.reduceSub, Nat.zero_add, Nat.add_zero, p3, phx]); exact nI_inbT (by omega) (by omega))) ?_
      try simp (disch := omega) only [nI_add, nI_mulN, pk_sub, nI_clamp, Nat.reduceAdd, Nat.reduceMul, Nat.reduceSub, Nat.zero_add, Nat.add_zero, p3, phx]
      refine Rq.e (b29_22) ?_
      first
        | (refine Qp.i ?_; unfold qlast; rw [hx, i_nI])
        | (refine Qp.i ?_; unfold qlast; rw [show hx_nth (qh q) ((qh q).length - 1) = none by rw [hx_nth_eq]; exact List.getElem?_eq_none (by omega)]; rfl)
  · try simp (disch := omega) only [Int32.le_iff_toInt_le, Int32.lt_iff_toInt_lt, z_eq, z_nI, z_0, z_m1, z_sub, nI_add, nI_mulN, pk_sub, nI_clamp, Nat.reduceAdd, Nat.reduceMul, Nat.reduceSub, Nat.zero_add, Nat.add_zero, p3] at h0
    all_goals (try (exfalso; omega))
    all_goals
      refine Rq.s (fun _ => b29_7) ?_
      try simp (disch := omega) only [nI_add, nI_mulN, pk_sub, nI_clamp, Nat.reduceAdd, Nat.reduceMul, Nat.reduceSub, Nat.zero_add, Nat.add_zero, p3]
      refine Rq.e (b29_22b) ?_
      first
        | (refine Qp.i ?_; unfold qlast; rw [hx, i_nI])
        | (refine Qp.i ?_; unfold qlast; rw [show hx_nth (qh q) ((qh q).length - 1) = none by rw [hx_nth_eq]; exact List.getElem?_eq_none (by omega)]; rfl)
theorem m30x {sc : Nat × (Nat → Int32)} {d : Nat} {D : Nat → Nat → Int32} {G : Nat → Nat → Int64} {q : RS} {v : Int} (HR : RepR D q) (HK : qp q ≤ 3 ∧ qw q ≤ 60 ∧ qe q ≤ 10 ∧ (qh q).length ≤ 4 ∧ (∀ x ∈ qh q, x < 60)) (h1 : -1 ≤ v) (h2 : v < 2000) : Cl sc (d + 1) 30 [.ref 12, .int (iI v)] (hx_S0, D, G) (.inl (some (.int (nI (if qisP q v = true then 1 else 0))))) (hx_S0, D, G) := by
  obtain ⟨p0, p1, p3, p5, p6, p7, p8, ph, pd⟩ := id HR
  obtain ⟨k0, k1, k2, k3, k4⟩ := id HK
  obtain ⟨m29q, hl⟩ := m29x (sc := sc) (d := d) (G := G) HR ⟨k4, k3⟩
  refine Cq.p ?_
  refine Cq.c (fun _ _ _ => c30) ?_
  refine Rq.s (fun _ => b30_0 (by (try simp (disch := omega) only [nI_add, nI_mulN, pk_sub, nI_clamp, Nat.reduceAdd, Nat.reduceMul, Nat.reduceSub, Nat.zero_add, Nat.add_zero, p1]); exact m29q)) ?_
  refine Rq.b (fun _ => b30_5) (fun h5 => ?_) (fun h5 => ?_)
  · try simp (disch := omega) only [Int32.le_iff_toInt_le, Int32.lt_iff_toInt_lt, z_eq, z_nI, z_0, z_m1, z_sub, z_iI, nI_add, nI_mulN, pk_sub, nI_clamp, Nat.reduceAdd, Nat.reduceMul, Nat.reduceSub, Nat.zero_add, Nat.add_zero, p1] at h5
    all_goals (try (exfalso; omega))
    all_goals
      refine Rq.s (fun _ => b30_20) ?_
      try simp (disch := omega) only [nI_add, nI_mulN, pk_sub, nI_clamp, Nat.reduceAdd, Nat.reduceMul, Nat.reduceSub, Nat.zero_add, Nat.add_zero, p1]
      refine Rq.e (b30_21 (by first | exact Or.inl rfl | exact Or.inr rfl | (split <;> first | exact Or.inl rfl | exact Or.inr rfl))) ?_
      first
        | (refine Qp.i ?_; rw [show qisP q v = true by unfold qisP; exact decide_eq_true (by omega)]; rfl)
        | (refine Qp.i ?_; rw [show qisP q v = false by unfold qisP; exact decide_eq_false (by omega)]; rfl)
  · try simp (disch := omega) only [Int32.le_iff_toInt_le, Int32.lt_iff_toInt_lt, z_eq, z_nI, z_0, z_m1, z_sub, z_iI, nI_add, nI_mulN, pk_sub, nI_clamp, Nat.reduceAdd, Nat.reduceMul, Nat.reduceSub, Nat.zero_add, Nat.add_zero, p1] at h5
    all_goals (try (exfalso; omega))
    all_goals
      refine Rq.b (fun _ => b30_8) (fun h8 => ?_) (fun h8 => ?_)
      · try simp (disch := omega) only [Int32.le_iff_toInt_le, Int32.lt_iff_toInt_lt, z_eq, z_nI, z_0, z_m1, z_sub, z_iI, nI_add, nI_mulN, pk_sub, nI_clamp, Nat.reduceAdd, Nat.reduceMul, Nat.reduceSub, Nat.zero_add, Nat.add_zero, p1] at h8
        all_goals (try (exfalso; omega))
        all_goals
          refine Rq.s (fun _ => b30_20) ?_
          try simp (disch := omega) only [nI_add, nI_mulN, pk_sub, nI_clamp, Nat.reduceAdd, Nat.reduceMul, Nat.reduceSub, Nat.zero_add, Nat.add_zero, p1]
          refine Rq.e (b30_21 (by first | exact Or.inl rfl | exact Or.inr rfl | (split <;> first | exact Or.inl rfl | exact Or.inr rfl))) ?_
          first
            | (refine Qp.i ?_; rw [show qisP q v = true by unfold qisP; exact decide_eq_true (by omega)]; rfl)
            | (refine Qp.i ?_; rw [show qisP q v = false by unfold qisP; exact decide_eq_false (by omega)]; rfl)
      · try simp (disch := omega) only [Int32.le_iff_toInt_le, Int32.lt_iff_toInt_lt, z_eq, z_nI, z_0, z_m1, z_sub, z_iI, nI_add, nI_mulN, pk_sub, nI_clamp, Nat.reduceAdd, Nat.reduceMul, Nat.reduceSub, Nat.zero_add, Nat.add_zero, p1] at h8
        all_goals (try (exfalso; omega))
        all_goals
          refine Rq.s (fun _ => b30_16) ?_
          try simp (disch := omega) only [nI_add, nI_mulN, pk_sub, nI_clamp, Nat.reduceAdd, Nat.reduceMul, Nat.reduceSub, Nat.zero_add, Nat.add_zero, p1]
          refine Rq.e (b30_21b (by first | exact Or.inl rfl | exact Or.inr rfl | (split <;> first | exact Or.inl rfl | exact Or.inr rfl))) ?_
          first
            | (refine Qp.i ?_; rw [show qisP q v = true by unfold qisP; exact decide_eq_true (by omega)]; rfl)
            | (refine Qp.i ?_; rw [show qisP q v = false by unfold qisP; exact decide_eq_false (by omega)]; rfl)
theorem m31x {sc : Nat × (Nat → Int32)} {d : Nat} {D : Nat → Nat → Int32} {G : Nat → Nat → Int64} {q : RS} {v : Int} (HR : RepR D q) (HK : qp q ≤ 3 ∧ qw q ≤ 60 ∧ qe q ≤ 10 ∧ (qh q).length ≤ 4 ∧ (∀ x ∈ qh q, x < 60)) (h1 : -1 ≤ v) (h2 : v < 2000) : Cl sc (d + 1) 31 [.ref 12, .int (iI v)] (hx_S0, D, G) (.inl (some (.int (nI (if qbegP q v = true then 1 else 0))))) (hx_S0, D, G) := by
  obtain ⟨p0, p1, p3, p5, p6, p7, p8, ph, pd⟩ := id HR
  obtain ⟨k0, k1, k2, k3, k4⟩ := id HK
  obtain ⟨m29q, hl⟩ := m29x (sc := sc) (d := d) (G := G) HR ⟨k4, k3⟩
  have e10 := i_nI 10
  have e9 := i_nI 9
  refine Cq.p ?_
  refine Cq.c (fun _ _ _ => c31) ?_
  refine Rq.b (fun _ => b31_0) (fun h0 => ?_) (fun h0 => ?_)
  · try simp (disch := omega) only [Int32.le_iff_toInt_le, Int32.lt_iff_toInt_lt, z_eq, z_nI, z_0, z_m1, z_sub, z_iI, nI_add, nI_mulN, pk_sub, nI_clamp, Nat.reduceAdd, Nat.reduceMul, Nat.reduceSub, Nat.zero_add, Nat.add_zero, iI_mul, iI_add, p1, e10, e9] at h0
    all_goals (try (exfalso; omega))
    all_goals
      refine Rq.s (fun _ => b31_33) ?_
      try simp (disch := omega) only [nI_add, nI_mulN, pk_sub, nI_clamp, Nat.reduceAdd, Nat.reduceMul, Nat.reduceSub, Nat.zero_add, Nat.add_zero, iI_mul, iI_add, p1, e10, e9]
      refine Rq.e (b31_34 (by first | exact Or.inl rfl | exact Or.inr rfl | (split <;> first | exact Or.inl rfl | exact Or.inr rfl))) ?_
      first
        | (refine Qp.i ?_; rw [show qbegP q v = true by unfold qbegP; exact decide_eq_true (by omega)]; rfl)
        | (refine Qp.i ?_; rw [show qbegP q v = false by unfold qbegP; exact decide_eq_false (by omega)]; rfl)
  · try simp (disch := omega) only [Int32.le_iff_toInt_le, Int32.lt_iff_toInt_lt, z_eq, z_nI, z_0, z_m1, z_sub, z_iI, nI_add, nI_mulN, pk_sub, nI_clamp, Nat.reduceAdd, Nat.reduceMul, Nat.reduceSub, Nat.zero_add, Nat.add_zero, iI_mul, iI_add, p1, e10, e9] at h0
    all_goals (try (exfalso; omega))
    all_goals
      refine Rq.b (fun _ => b31_4) (fun h4 => ?_) (fun h4 => ?_)
      · try simp (disch := omega) only [Int32.le_iff_toInt_le, Int32.lt_iff_toInt_lt, z_eq, z_nI, z_0, z_m1, z_sub, z_iI, nI_add, nI_mulN, pk_sub, nI_clamp, Nat.reduceAdd, Nat.reduceMul, Nat.reduceSub, Nat.zero_add, Nat.add_zero, iI_mul, iI_add, p1, e10, e9] at h4
        all_goals (try (exfalso; omega))
        all_goals
          refine Rq.s (fun _ => b31_33) ?_
          try simp (disch := omega) only [nI_add, nI_mulN, pk_sub, nI_clamp, Nat.reduceAdd, Nat.reduceMul, Nat.reduceSub, Nat.zero_add, Nat.add_zero, iI_mul, iI_add, p1, e10, e9]
          refine Rq.e (b31_34 (by first | exact Or.inl rfl | exact Or.inr rfl | (split <;> first | exact Or.inl rfl | exact Or.inr rfl))) ?_
          first
            | (refine Qp.i ?_; rw [show qbegP q v = true by unfold qbegP; exact decide_eq_true (by omega)]; rfl)
            | (refine Qp.i ?_; rw [show qbegP q v = false by unfold qbegP; exact decide_eq_false (by omega)]; rfl)
      · try simp (disch := omega) only [Int32.le_iff_toInt_le, Int32.lt_iff_toInt_lt, z_eq, z_nI, z_0, z_m1, z_sub, z_iI, nI_add, nI_mulN, pk_sub, nI_clamp, Nat.reduceAdd, Nat.reduceMul, Nat.reduceSub, Nat.zero_add, Nat.add_zero, iI_mul, iI_add, p1, e10, e9] at h4
        all_goals (try (exfalso; omega))
        all_goals
          refine Rq.s (fun _ => b31_15 (by (try simp (disch := omega) only [nI_add, nI_mulN, pk_sub, nI_clamp, Nat.reduceAdd, Nat.reduceMul, Nat.reduceSub, Nat.zero_add, Nat.add_zero, iI_mul, iI_add, p1, e10, e9]); exact m29q)) ?_
          try simp (disch := omega) only [nI_add, nI_mulN, pk_sub, nI_clamp, Nat.reduceAdd, Nat.reduceMul, Nat.reduceSub, Nat.zero_add, Nat.add_zero, iI_mul, iI_add, p1, e10, e9]
          refine Rq.b (fun _ => b31_26) (fun h26 => ?_) (fun h26 => ?_)
          · try simp (disch := omega) only [Int32.le_iff_toInt_le, Int32.lt_iff_toInt_lt, z_eq, z_nI, z_0, z_m1, z_sub, z_iI, nI_add, nI_mulN, pk_sub, nI_clamp, Nat.reduceAdd, Nat.reduceMul, Nat.reduceSub, Nat.zero_add, Nat.add_zero, iI_mul, iI_add, p1, e10, e9] at h26
            all_goals (try (exfalso; omega))
            all_goals
              refine Rq.s (fun _ => b31_33) ?_
              try simp (disch := omega) only [nI_add, nI_mulN, pk_sub, nI_clamp, Nat.reduceAdd, Nat.reduceMul, Nat.reduceSub, Nat.zero_add, Nat.add_zero, iI_mul, iI_add, p1, e10, e9]
              refine Rq.e (b31_34 (by first | exact Or.inl rfl | exact Or.inr rfl | (split <;> first | exact Or.inl rfl | exact Or.inr rfl))) ?_
              first
                | (refine Qp.i ?_; rw [show qbegP q v = true by unfold qbegP; exact decide_eq_true (by omega)]; rfl)
                | (refine Qp.i ?_; rw [show qbegP q v = false by unfold qbegP; exact decide_eq_false (by omega)]; rfl)
          · try simp (disch := omega) only [Int32.le_iff_toInt_le, Int32.lt_iff_toInt_lt, z_eq, z_nI, z_0, z_m1, z_sub, z_iI, nI_add, nI_mulN, pk_sub, nI_clamp, Nat.reduceAdd, Nat.reduceMul, Nat.reduceSub, Nat.zero_add, Nat.add_zero, iI_mul, iI_add, p1, e10, e9] at h26
            all_goals (try (exfalso; omega))
            all_goals
              refine Rq.s (fun _ => b31_29) ?_
              try simp (disch := omega) only [nI_add, nI_mulN, pk_sub, nI_clamp, Nat.reduceAdd, Nat.reduceMul, Nat.reduceSub, Nat.zero_add, Nat.add_zero, iI_mul, iI_add, p1, e10, e9]
              refine Rq.e (b31_34b (by first | exact Or.inl rfl | exact Or.inr rfl | (split <;> first | exact Or.inl rfl | exact Or.inr rfl))) ?_
              first
                | (refine Qp.i ?_; rw [show qbegP q v = true by unfold qbegP; exact decide_eq_true (by omega)]; rfl)
                | (refine Qp.i ?_; rw [show qbegP q v = false by unfold qbegP; exact decide_eq_false (by omega)]; rfl)
theorem m28 {sc : Nat × (Nat → Int32)} {d : Nat} {D : Nat → Nat → Int32} {G : Nat → Nat → Int64} {q : RS} {c : Nat} (HR : RepR D q) (HQ : Qok q) (hc : c < 200) : Cq sc (d + 3) 28 [.ref 12, .int (nI c)] D G (QT (aP q c) D) := by
  obtain ⟨p0, p1, p3, p5, p6, p7, p8, ph, pd⟩ := id HR
  obtain ⟨k0, k1, k2, k3, k4, k5, k6, k7⟩ := id HQ
  have hd := zdg_r c
  have hl := qlast_r HQ
  have e10 := i_nI 10
  by_cases hdg : zdg c = -1
  · skip
    refine Cq.c (fun _ _ _ => c28) ?_
    refine Rq.s (fun _ => b28_0 (by (try simp (disch := omega) only [nI_add, nI_mulN, pk_sub, nI_clamp, Nat.reduceAdd, Nat.reduceMul, Nat.reduceSub, Nat.zero_add, Nat.add_zero, p8]); exact m32 hc)) ?_
    refine Rq.bt (fun _ => b28_4) (by rw [z_eq, z_iI (by omega) (by omega), z_m1]; omega) ?_
    refine Rq.s (fun _ => b28_80 (by (try simp (disch := omega) only [nI_add, nI_mulN, pk_sub, nI_clamp, Nat.reduceAdd, Nat.reduceMul, Nat.reduceSub, Nat.zero_add, Nat.add_zero, p8]); exact m30 HR HQ k5 (by omega))) ?_
    by_cases hp : qisP q (qx q) = true
    · refine Rq.bt (fun _ => b28_88) (by rw [if_pos hp]; decide) ?_
      obtain ⟨_, D4, hC4, rfl, e1, e2⟩ := m24 (sc := sc) (d := d + 2) (G := G) HR HQ (fun _ => by have := of_decide_eq_true hp; have := qlast_r HQ; omega)
      refine Rq.s (fun _ => b28_93 hC4) ?_
      obtain ⟨r9, D5, hC5, e3, e4⟩ := m27 (sc := sc) (d := d + 1) (G := G) e2 (qclose_ok HQ (fun _ => hp)) hc
      have eP : aP q c = aN (qclose q) c := by unfold aP; rw [if_pos (by omega), if_pos hp]
      rw [← eP] at e4
      rcases e4 with ⟨q2, e5, rfl, e6⟩ | ⟨e5, rfl⟩
      · refine Rq.s (fun _ => b28_97 hC5) ?_
        refine Rq.e (b28_102 (Or.inr rfl)) ?_
        exact QT.s e5 (eqR.tr e1 e3) e6
      · refine Rq.s (fun _ => b28_97 hC5) ?_
        refine Rq.e (b28_102 (Or.inl rfl)) ?_
        exact QT.n e5 (eqR.tr e1 e3)
    · refine Rq.bf (fun _ => b28_88) (by rw [if_neg hp]; exact fun z => z rfl) ?_
      refine Rq.e (b28_91) ?_
      refine QT.n ?_ eqR.rf
      unfold aP
      rw [if_pos (by omega), if_neg hp]
  by_cases hx1 : qx q = -1
  · skip
    refine Cq.c (fun _ _ _ => c28) ?_
    refine Rq.s (fun _ => b28_0 (by (try simp (disch := omega) only [nI_add, nI_mulN, pk_sub, nI_clamp, Nat.reduceAdd, Nat.reduceMul, Nat.reduceSub, Nat.zero_add, Nat.add_zero, e10, iI_mul, iI_add, hx_up_s, p8]); exact m32 hc)) ?_
    refine Rq.b (fun _ => b28_4) (fun h4 => ?_) (fun h4 => ?_)
    · try simp (disch := omega) only [Int32.le_iff_toInt_le, Int32.lt_iff_toInt_lt, z_eq, z_nI, z_0, z_m1, z_sub, z_iI, nI_add, nI_mulN, pk_sub, nI_clamp, Nat.reduceAdd, Nat.reduceMul, Nat.reduceSub, Nat.zero_add, Nat.add_zero, e10, iI_mul, iI_add, hx_up_s, p8] at h4
      all_goals (try (exfalso; omega))
      all_goals
        exfalso; omega
    · try simp (disch := omega) only [Int32.le_iff_toInt_le, Int32.lt_iff_toInt_lt, z_eq, z_nI, z_0, z_m1, z_sub, z_iI, nI_add, nI_mulN, pk_sub, nI_clamp, Nat.reduceAdd, Nat.reduceMul, Nat.reduceSub, Nat.zero_add, Nat.add_zero, e10, iI_mul, iI_add, hx_up_s, p8] at h4
      all_goals (try (exfalso; omega))
      all_goals
        refine Rq.b (fun _ => b28_10) (fun h10 => ?_) (fun h10 => ?_)
        · try simp (disch := omega) only [Int32.le_iff_toInt_le, Int32.lt_iff_toInt_lt, z_eq, z_nI, z_0, z_m1, z_sub, z_iI, nI_add, nI_mulN, pk_sub, nI_clamp, Nat.reduceAdd, Nat.reduceMul, Nat.reduceSub, Nat.zero_add, Nat.add_zero, e10, iI_mul, iI_add, hx_up_s, p8] at h10
          all_goals (try (exfalso; omega))
          all_goals
            refine Rq.s (fun _ => b28_21) ?_
            try simp (disch := omega) only [nI_add, nI_mulN, pk_sub, nI_clamp, Nat.reduceAdd, Nat.reduceMul, Nat.reduceSub, Nat.zero_add, Nat.add_zero, e10, iI_mul, iI_add, hx_up_s, p8]
            refine Rq.b (fun _ => b28_22) (fun h22 => ?_) (fun h22 => ?_)
            · try simp (disch := omega) only [Int32.le_iff_toInt_le, Int32.lt_iff_toInt_lt, z_eq, z_nI, z_0, z_m1, z_sub, z_iI, nI_add, nI_mulN, pk_sub, nI_clamp, Nat.reduceAdd, Nat.reduceMul, Nat.reduceSub, Nat.zero_add, Nat.add_zero, e10, iI_mul, iI_add, hx_up_s, p8] at h22
              all_goals (try (exfalso; omega))
              all_goals
                refine Rq.s (fun _ => b28_36) ?_
                try simp (disch := omega) only [nI_add, nI_mulN, pk_sub, nI_clamp, Nat.reduceAdd, Nat.reduceMul, Nat.reduceSub, Nat.zero_add, Nat.add_zero, e10, iI_mul, iI_add, hx_up_s, p8]
                have HR4 : RepR (hx_up D 12 8 (iI (zdg c))) (qb q, qp q, qw q, qe q, qr q, (zdg c), qh q, qd q) := HR.up (by simp [hx_up_ne]) (by simp [hx_up_ne]) rfl rfl rfl (by simp [hx_up_at, p0]) (by simp [hx_up_at, p1]) (by simp [hx_up_at, p3]) (by simp [hx_up_at, p5]) (by simp [hx_up_at, p6]) (by simp [hx_up_at, p7]) (by simp [hx_up_at])
                have HQ4 : -1 ≤ (zdg c) ∧ (zdg c) < 100 → Qok (qb q, qp q, qw q, qe q, qr q, (zdg c), qh q, qd q) := fun h => ⟨k0, k1, k2, k3, k4, h.1, h.2, k7⟩
                have hP4 : Cl sc (d + 2) 30 [.ref 12, .int (iI (zdg c))] (hx_S0, hx_up D 12 8 (iI (zdg c)), G) (.inl (some (.int (nI (if qisP q (zdg c) = true then 1 else 0))))) (hx_S0, hx_up D 12 8 (iI (zdg c)), G) := m30x (q := (qb q, qp q, qw q, qe q, qr q, (zdg c), qh q, qd q)) HR4 ⟨k0, k1, k2, k3, k4⟩ (by omega) (by omega)
                have hB4 : Cl sc (d + 2) 31 [.ref 12, .int (iI (zdg c))] (hx_S0, hx_up D 12 8 (iI (zdg c)), G) (.inl (some (.int (nI (if qbegP q (zdg c) = true then 1 else 0))))) (hx_S0, hx_up D 12 8 (iI (zdg c)), G) := m31x (q := (qb q, qp q, qw q, qe q, qr q, (zdg c), qh q, qd q)) HR4 ⟨k0, k1, k2, k3, k4⟩ (by omega) (by omega)
                refine Rq.b (fun _ => b28_45) (fun h45 => ?_) (fun h45 => ?_)
                · try simp (disch := omega) only [Int32.le_iff_toInt_le, Int32.lt_iff_toInt_lt, z_eq, z_nI, z_0, z_m1, z_sub, z_iI, nI_add, nI_mulN, pk_sub, nI_clamp, Nat.reduceAdd, Nat.reduceMul, Nat.reduceSub, Nat.zero_add, Nat.add_zero, e10, iI_mul, iI_add, hx_up_s, p8] at h45
                  all_goals (try (exfalso; omega))
                  all_goals (try simp (disch := omega) only [nI_add, nI_mulN, pk_sub, nI_clamp, Nat.reduceAdd, Nat.reduceMul, Nat.reduceSub, Nat.zero_add, Nat.add_zero, e10, iI_mul, iI_add, hx_up_s, p8])
                  all_goals
                    refine Rq.s (fun _ => b28_78) ?_
                    try simp (disch := omega) only [nI_add, nI_mulN, pk_sub, nI_clamp, Nat.reduceAdd, Nat.reduceMul, Nat.reduceSub, Nat.zero_add, Nat.add_zero, e10, iI_mul, iI_add, hx_up_s, p8]
                    refine Rq.e (b28_79 (by first | exact Or.inl rfl | exact Or.inr rfl | (split <;> first | exact Or.inl rfl | exact Or.inr rfl))) ?_
                    refine QT.n ?_ (eqR.up eqR.rf (Or.inl rfl))
                    unfold aP
                    rw [if_neg (by omega), if_pos (by omega)]
                · try simp (disch := omega) only [Int32.le_iff_toInt_le, Int32.lt_iff_toInt_lt, z_eq, z_nI, z_0, z_m1, z_sub, z_iI, nI_add, nI_mulN, pk_sub, nI_clamp, Nat.reduceAdd, Nat.reduceMul, Nat.reduceSub, Nat.zero_add, Nat.add_zero, e10, iI_mul, iI_add, hx_up_s, p8] at h45
                  all_goals (try (exfalso; omega))
                  all_goals (try simp (disch := omega) only [nI_add, nI_mulN, pk_sub, nI_clamp, Nat.reduceAdd, Nat.reduceMul, Nat.reduceSub, Nat.zero_add, Nat.add_zero, e10, iI_mul, iI_add, hx_up_s, p8])
                  all_goals
                    refine Rq.s (fun _ => b28_52b (by rw [hx_up_s]; exact hP4)) ?_
                    by_cases hp : qisP q (zdg c) = true
                    · refine Rq.bt (fun _ => b28_60) (by rw [if_pos hp]; decide) ?_
                      refine Rq.s (fun _ => b28_74) ?_
                      try simp (disch := omega) only [nI_add, nI_mulN, pk_sub, nI_clamp, Nat.reduceAdd, Nat.reduceMul, Nat.reduceSub, Nat.zero_add, Nat.add_zero, e10, iI_mul, iI_add, hx_up_s, p8]
                      refine Rq.e (b28_79c (by first | exact Or.inl rfl | exact Or.inr rfl | (split <;> first | exact Or.inl rfl | exact Or.inr rfl))) ?_
                      refine QT.s (q2 := (qb q, qp q, qw q, qe q, qr q, (zdg c), qh q, qd q)) ?_ (eqR.up eqR.rf (Or.inl rfl)) HR4
                      have eP : aP q c = if qisP q (zdg c) = true ∨ qbegP q (zdg c) = true then some (qb q, qp q, qw q, qe q, qr q, (zdg c), qh q, qd q) else none := by
                        unfold aP
                        rw [if_neg (by omega), if_neg (by omega), if_pos hx1]
                      rw [eP, if_pos]
                      first | exact Or.inl hp | exact Or.inr (eq_true_of_ne_false hg)
                    · refine Rq.bf (fun _ => b28_60) (by rw [if_neg hp]; exact fun z => z rfl) ?_
                      refine Rq.s (fun _ => b28_63b (by rw [hx_up_s]; exact hB4)) ?_
                      by_cases hg : qbegP q (zdg c) = false
                      · refine Rq.bt (fun _ => b28_71) (by rw [hg]; rfl) ?_
                        refine Rq.s (fun _ => b28_78) ?_
                        try simp (disch := omega) only [nI_add, nI_mulN, pk_sub, nI_clamp, Nat.reduceAdd, Nat.reduceMul, Nat.reduceSub, Nat.zero_add, Nat.add_zero, e10, iI_mul, iI_add, hx_up_s, p8]
                        refine Rq.e (b28_79 (by first | exact Or.inl rfl | exact Or.inr rfl | (split <;> first | exact Or.inl rfl | exact Or.inr rfl))) ?_
                        refine QT.n ?_ (eqR.up eqR.rf (Or.inl rfl))
                        unfold aP
                        rw [if_neg (by omega), if_pos (by omega)]
                      · refine Rq.bf (fun _ => b28_71) (by rw [eq_true_of_ne_false hg]; decide) ?_
                        refine Rq.s (fun _ => b28_74) ?_
                        try simp (disch := omega) only [nI_add, nI_mulN, pk_sub, nI_clamp, Nat.reduceAdd, Nat.reduceMul, Nat.reduceSub, Nat.zero_add, Nat.add_zero, e10, iI_mul, iI_add, hx_up_s, p8]
                        refine Rq.e (b28_79c (by first | exact Or.inl rfl | exact Or.inr rfl | (split <;> first | exact Or.inl rfl | exact Or.inr rfl))) ?_
                        refine QT.s (q2 := (qb q, qp q, qw q, qe q, qr q, (zdg c), qh q, qd q)) ?_ (eqR.up eqR.rf (Or.inl rfl)) HR4
                        have eP : aP q c = if qisP q (zdg c) = true ∨ qbegP q (zdg c) = true then some (qb q, qp q, qw q, qe q, qr q, (zdg c), qh q, qd q) else none := by
                          unfold aP
                          rw [if_neg (by omega), if_neg (by omega), if_pos hx1]
                        rw [eP, if_pos]
                        first | exact Or.inl hp | exact Or.inr (eq_true_of_ne_false hg)
            · try simp (disch := omega) only [Int32.le_iff_toInt_le, Int32.lt_iff_toInt_lt, z_eq, z_nI, z_0, z_m1, z_sub, z_iI, nI_add, nI_mulN, pk_sub, nI_clamp, Nat.reduceAdd, Nat.reduceMul, Nat.reduceSub, Nat.zero_add, Nat.add_zero, e10, iI_mul, iI_add, hx_up_s, p8] at h22
              all_goals (try (exfalso; omega))
              all_goals
                refine Rq.s (fun _ => b28_32) ?_
                have HR4 : RepR (hx_up D 12 8 (iI (zdg c))) (qb q, qp q, qw q, qe q, qr q, (zdg c), qh q, qd q) := HR.up (by simp [hx_up_ne]) (by simp [hx_up_ne]) rfl rfl rfl (by simp [hx_up_at, p0]) (by simp [hx_up_at, p1]) (by simp [hx_up_at, p3]) (by simp [hx_up_at, p5]) (by simp [hx_up_at, p6]) (by simp [hx_up_at, p7]) (by simp [hx_up_at])
                have HQ4 : -1 ≤ (zdg c) ∧ (zdg c) < 100 → Qok (qb q, qp q, qw q, qe q, qr q, (zdg c), qh q, qd q) := fun h => ⟨k0, k1, k2, k3, k4, h.1, h.2, k7⟩
                have hP4 : Cl sc (d + 2) 30 [.ref 12, .int (iI (zdg c))] (hx_S0, hx_up D 12 8 (iI (zdg c)), G) (.inl (some (.int (nI (if qisP q (zdg c) = true then 1 else 0))))) (hx_S0, hx_up D 12 8 (iI (zdg c)), G) := m30x (q := (qb q, qp q, qw q, qe q, qr q, (zdg c), qh q, qd q)) HR4 ⟨k0, k1, k2, k3, k4⟩ (by omega) (by omega)
                have hB4 : Cl sc (d + 2) 31 [.ref 12, .int (iI (zdg c))] (hx_S0, hx_up D 12 8 (iI (zdg c)), G) (.inl (some (.int (nI (if qbegP q (zdg c) = true then 1 else 0))))) (hx_S0, hx_up D 12 8 (iI (zdg c)), G) := m31x (q := (qb q, qp q, qw q, qe q, qr q, (zdg c), qh q, qd q)) HR4 ⟨k0, k1, k2, k3, k4⟩ (by omega) (by omega)
                refine Rq.b (fun _ => b28_45b) (fun h45 => ?_) (fun h45 => ?_)
                · try simp (disch := omega) only [Int32.le_iff_toInt_le, Int32.lt_iff_toInt_lt, z_eq, z_nI, z_0, z_m1, z_sub, z_iI, nI_add, nI_mulN, pk_sub, nI_clamp, Nat.reduceAdd, Nat.reduceMul, Nat.reduceSub, Nat.zero_add, Nat.add_zero, e10, iI_mul, iI_add, hx_up_s, p8] at h45
                  all_goals (try (exfalso; omega))
                  all_goals (try simp (disch := omega) only [nI_add, nI_mulN, pk_sub, nI_clamp, Nat.reduceAdd, Nat.reduceMul, Nat.reduceSub, Nat.zero_add, Nat.add_zero, e10, iI_mul, iI_add, hx_up_s, p8])
                  all_goals
                    refine Rq.s (fun _ => b28_78b) ?_
                    try simp (disch := omega) only [nI_add, nI_mulN, pk_sub, nI_clamp, Nat.reduceAdd, Nat.reduceMul, Nat.reduceSub, Nat.zero_add, Nat.add_zero, e10, iI_mul, iI_add, hx_up_s, p8]
                    refine Rq.e (b28_79b (by first | exact Or.inl rfl | exact Or.inr rfl | (split <;> first | exact Or.inl rfl | exact Or.inr rfl))) ?_
                    refine QT.n ?_ (eqR.up eqR.rf (Or.inl rfl))
                    unfold aP
                    rw [if_neg (by omega), if_pos (by omega)]
                · try simp (disch := omega) only [Int32.le_iff_toInt_le, Int32.lt_iff_toInt_lt, z_eq, z_nI, z_0, z_m1, z_sub, z_iI, nI_add, nI_mulN, pk_sub, nI_clamp, Nat.reduceAdd, Nat.reduceMul, Nat.reduceSub, Nat.zero_add, Nat.add_zero, e10, iI_mul, iI_add, hx_up_s, p8] at h45
                  all_goals (try (exfalso; omega))
                  all_goals (try simp (disch := omega) only [nI_add, nI_mulN, pk_sub, nI_clamp, Nat.reduceAdd, Nat.reduceMul, Nat.reduceSub, Nat.zero_add, Nat.add_zero, e10, iI_mul, iI_add, hx_up_s, p8])
                  all_goals
                    refine Rq.s (fun _ => b28_52b (by rw [hx_up_s]; exact hP4)) ?_
                    by_cases hp : qisP q (zdg c) = true
                    · refine Rq.bt (fun _ => b28_60b) (by rw [if_pos hp]; decide) ?_
                      refine Rq.s (fun _ => b28_74b) ?_
                      try simp (disch := omega) only [nI_add, nI_mulN, pk_sub, nI_clamp, Nat.reduceAdd, Nat.reduceMul, Nat.reduceSub, Nat.zero_add, Nat.add_zero, e10, iI_mul, iI_add, hx_up_s, p8]
                      refine Rq.e (b28_79c (by first | exact Or.inl rfl | exact Or.inr rfl | (split <;> first | exact Or.inl rfl | exact Or.inr rfl))) ?_
                      refine QT.s (q2 := (qb q, qp q, qw q, qe q, qr q, (zdg c), qh q, qd q)) ?_ (eqR.up eqR.rf (Or.inl rfl)) HR4
                      have eP : aP q c = if qisP q (zdg c) = true ∨ qbegP q (zdg c) = true then some (qb q, qp q, qw q, qe q, qr q, (zdg c), qh q, qd q) else none := by
                        unfold aP
                        rw [if_neg (by omega), if_neg (by omega), if_pos hx1]
                      rw [eP, if_pos]
                      first | exact Or.inl hp | exact Or.inr (eq_true_of_ne_false hg)
                    · refine Rq.bf (fun _ => b28_60b) (by rw [if_neg hp]; exact fun z => z rfl) ?_
                      refine Rq.s (fun _ => b28_63b (by rw [hx_up_s]; exact hB4)) ?_
                      by_cases hg : qbegP q (zdg c) = false
                      · refine Rq.bt (fun _ => b28_71b) (by rw [hg]; rfl) ?_
                        refine Rq.s (fun _ => b28_78b) ?_
                        try simp (disch := omega) only [nI_add, nI_mulN, pk_sub, nI_clamp, Nat.reduceAdd, Nat.reduceMul, Nat.reduceSub, Nat.zero_add, Nat.add_zero, e10, iI_mul, iI_add, hx_up_s, p8]
                        refine Rq.e (b28_79b (by first | exact Or.inl rfl | exact Or.inr rfl | (split <;> first | exact Or.inl rfl | exact Or.inr rfl))) ?_
                        refine QT.n ?_ (eqR.up eqR.rf (Or.inl rfl))
                        have eP : aP q c = if qisP q (zdg c) = true ∨ qbegP q (zdg c) = true then some (qb q, qp q, qw q, qe q, qr q, (zdg c), qh q, qd q) else none := by
                          unfold aP
                          rw [if_neg (by omega), if_neg (by omega), if_pos hx1]
                        rw [eP, if_neg]
                        intro z
                        rcases z with z | z
                        · exact hp z
                        · rw [hg] at z
                          exact absurd z (by decide)
                      · refine Rq.bf (fun _ => b28_71b) (by rw [eq_true_of_ne_false hg]; decide) ?_
                        refine Rq.s (fun _ => b28_74b) ?_
                        try simp (disch := omega) only [nI_add, nI_mulN, pk_sub, nI_clamp, Nat.reduceAdd, Nat.reduceMul, Nat.reduceSub, Nat.zero_add, Nat.add_zero, e10, iI_mul, iI_add, hx_up_s, p8]
                        refine Rq.e (b28_79c (by first | exact Or.inl rfl | exact Or.inr rfl | (split <;> first | exact Or.inl rfl | exact Or.inr rfl))) ?_
                        refine QT.s (q2 := (qb q, qp q, qw q, qe q, qr q, (zdg c), qh q, qd q)) ?_ (eqR.up eqR.rf (Or.inl rfl)) HR4
                        have eP : aP q c = if qisP q (zdg c) = true ∨ qbegP q (zdg c) = true then some (qb q, qp q, qw q, qe q, qr q, (zdg c), qh q, qd q) else none := by
                          unfold aP
                          rw [if_neg (by omega), if_neg (by omega), if_pos hx1]
                        rw [eP, if_pos]
                        first | exact Or.inl hp | exact Or.inr (eq_true_of_ne_false hg)
        · try simp (disch := omega) only [Int32.le_iff_toInt_le, Int32.lt_iff_toInt_lt, z_eq, z_nI, z_0, z_m1, z_sub, z_iI, nI_add, nI_mulN, pk_sub, nI_clamp, Nat.reduceAdd, Nat.reduceMul, Nat.reduceSub, Nat.zero_add, Nat.add_zero, e10, iI_mul, iI_add, hx_up_s, p8] at h10
          all_goals (try (exfalso; omega))
          all_goals
            refine Rq.s (fun _ => b28_17) ?_
            try simp (disch := omega) only [nI_add, nI_mulN, pk_sub, nI_clamp, Nat.reduceAdd, Nat.reduceMul, Nat.reduceSub, Nat.zero_add, Nat.add_zero, e10, iI_mul, iI_add, hx_up_s, p8]
            refine Rq.b (fun _ => b28_22b) (fun h22 => ?_) (fun h22 => ?_)
            · try simp (disch := omega) only [Int32.le_iff_toInt_le, Int32.lt_iff_toInt_lt, z_eq, z_nI, z_0, z_m1, z_sub, z_iI, nI_add, nI_mulN, pk_sub, nI_clamp, Nat.reduceAdd, Nat.reduceMul, Nat.reduceSub, Nat.zero_add, Nat.add_zero, e10, iI_mul, iI_add, hx_up_s, p8] at h22
              all_goals (try (exfalso; omega))
              all_goals
                refine Rq.s (fun _ => b28_36) ?_
                try simp (disch := omega) only [nI_add, nI_mulN, pk_sub, nI_clamp, Nat.reduceAdd, Nat.reduceMul, Nat.reduceSub, Nat.zero_add, Nat.add_zero, e10, iI_mul, iI_add, hx_up_s, p8]
                have HR4 : RepR (hx_up D 12 8 (iI (zdg c))) (qb q, qp q, qw q, qe q, qr q, (zdg c), qh q, qd q) := HR.up (by simp [hx_up_ne]) (by simp [hx_up_ne]) rfl rfl rfl (by simp [hx_up_at, p0]) (by simp [hx_up_at, p1]) (by simp [hx_up_at, p3]) (by simp [hx_up_at, p5]) (by simp [hx_up_at, p6]) (by simp [hx_up_at, p7]) (by simp [hx_up_at])
                have HQ4 : -1 ≤ (zdg c) ∧ (zdg c) < 100 → Qok (qb q, qp q, qw q, qe q, qr q, (zdg c), qh q, qd q) := fun h => ⟨k0, k1, k2, k3, k4, h.1, h.2, k7⟩
                have hP4 : Cl sc (d + 2) 30 [.ref 12, .int (iI (zdg c))] (hx_S0, hx_up D 12 8 (iI (zdg c)), G) (.inl (some (.int (nI (if qisP q (zdg c) = true then 1 else 0))))) (hx_S0, hx_up D 12 8 (iI (zdg c)), G) := m30x (q := (qb q, qp q, qw q, qe q, qr q, (zdg c), qh q, qd q)) HR4 ⟨k0, k1, k2, k3, k4⟩ (by omega) (by omega)
                have hB4 : Cl sc (d + 2) 31 [.ref 12, .int (iI (zdg c))] (hx_S0, hx_up D 12 8 (iI (zdg c)), G) (.inl (some (.int (nI (if qbegP q (zdg c) = true then 1 else 0))))) (hx_S0, hx_up D 12 8 (iI (zdg c)), G) := m31x (q := (qb q, qp q, qw q, qe q, qr q, (zdg c), qh q, qd q)) HR4 ⟨k0, k1, k2, k3, k4⟩ (by omega) (by omega)
                refine Rq.b (fun _ => b28_45) (fun h45 => ?_) (fun h45 => ?_)
                · try simp (disch := omega) only [Int32.le_iff_toInt_le, Int32.lt_iff_toInt_lt, z_eq, z_nI, z_0, z_m1, z_sub, z_iI, nI_add, nI_mulN, pk_sub, nI_clamp, Nat.reduceAdd, Nat.reduceMul, Nat.reduceSub, Nat.zero_add, Nat.add_zero, e10, iI_mul, iI_add, hx_up_s, p8] at h45
                  all_goals (try (exfalso; omega))
                  all_goals (try simp (disch := omega) only [nI_add, nI_mulN, pk_sub, nI_clamp, Nat.reduceAdd, Nat.reduceMul, Nat.reduceSub, Nat.zero_add, Nat.add_zero, e10, iI_mul, iI_add, hx_up_s, p8])
                  all_goals
                    refine Rq.s (fun _ => b28_78) ?_
                    try simp (disch := omega) only [nI_add, nI_mulN, pk_sub, nI_clamp, Nat.reduceAdd, Nat.reduceMul, Nat.reduceSub, Nat.zero_add, Nat.add_zero, e10, iI_mul, iI_add, hx_up_s, p8]
                    refine Rq.e (b28_79 (by first | exact Or.inl rfl | exact Or.inr rfl | (split <;> first | exact Or.inl rfl | exact Or.inr rfl))) ?_
                    refine QT.n ?_ (eqR.up eqR.rf (Or.inl rfl))
                    unfold aP
                    rw [if_neg (by omega), if_pos (by omega)]
                · try simp (disch := omega) only [Int32.le_iff_toInt_le, Int32.lt_iff_toInt_lt, z_eq, z_nI, z_0, z_m1, z_sub, z_iI, nI_add, nI_mulN, pk_sub, nI_clamp, Nat.reduceAdd, Nat.reduceMul, Nat.reduceSub, Nat.zero_add, Nat.add_zero, e10, iI_mul, iI_add, hx_up_s, p8] at h45
                  all_goals (try (exfalso; omega))
                  all_goals (try simp (disch := omega) only [nI_add, nI_mulN, pk_sub, nI_clamp, Nat.reduceAdd, Nat.reduceMul, Nat.reduceSub, Nat.zero_add, Nat.add_zero, e10, iI_mul, iI_add, hx_up_s, p8])
                  all_goals
                    refine Rq.s (fun _ => b28_52b (by rw [hx_up_s]; exact hP4)) ?_
                    by_cases hp : qisP q (zdg c) = true
                    · refine Rq.bt (fun _ => b28_60) (by rw [if_pos hp]; decide) ?_
                      refine Rq.s (fun _ => b28_74) ?_
                      try simp (disch := omega) only [nI_add, nI_mulN, pk_sub, nI_clamp, Nat.reduceAdd, Nat.reduceMul, Nat.reduceSub, Nat.zero_add, Nat.add_zero, e10, iI_mul, iI_add, hx_up_s, p8]
                      refine Rq.e (b28_79c (by first | exact Or.inl rfl | exact Or.inr rfl | (split <;> first | exact Or.inl rfl | exact Or.inr rfl))) ?_
                      refine QT.s (q2 := (qb q, qp q, qw q, qe q, qr q, (zdg c), qh q, qd q)) ?_ (eqR.up eqR.rf (Or.inl rfl)) HR4
                      have eP : aP q c = if qisP q (zdg c) = true ∨ qbegP q (zdg c) = true then some (qb q, qp q, qw q, qe q, qr q, (zdg c), qh q, qd q) else none := by
                        unfold aP
                        rw [if_neg (by omega), if_neg (by omega), if_pos hx1]
                      rw [eP, if_pos]
                      first | exact Or.inl hp | exact Or.inr (eq_true_of_ne_false hg)
                    · refine Rq.bf (fun _ => b28_60) (by rw [if_neg hp]; exact fun z => z rfl) ?_
                      refine Rq.s (fun _ => b28_63b (by rw [hx_up_s]; exact hB4)) ?_
                      by_cases hg : qbegP q (zdg c) = false
                      · refine Rq.bt (fun _ => b28_71) (by rw [hg]; rfl) ?_
                        refine Rq.s (fun _ => b28_78) ?_
                        try simp (disch := omega) only [nI_add, nI_mulN, pk_sub, nI_clamp, Nat.reduceAdd, Nat.reduceMul, Nat.reduceSub, Nat.zero_add, Nat.add_zero, e10, iI_mul, iI_add, hx_up_s, p8]
                        refine Rq.e (b28_79 (by first | exact Or.inl rfl | exact Or.inr rfl | (split <;> first | exact Or.inl rfl | exact Or.inr rfl))) ?_
                        refine QT.n ?_ (eqR.up eqR.rf (Or.inl rfl))
                        unfold aP
                        rw [if_neg (by omega), if_pos (by omega)]
                      · refine Rq.bf (fun _ => b28_71) (by rw [eq_true_of_ne_false hg]; decide) ?_
                        refine Rq.s (fun _ => b28_74) ?_
                        try simp (disch := omega) only [nI_add, nI_mulN, pk_sub, nI_clamp, Nat.reduceAdd, Nat.reduceMul, Nat.reduceSub, Nat.zero_add, Nat.add_zero, e10, iI_mul, iI_add, hx_up_s, p8]
                        refine Rq.e (b28_79c (by first | exact Or.inl rfl | exact Or.inr rfl | (split <;> first | exact Or.inl rfl | exact Or.inr rfl))) ?_
                        refine QT.s (q2 := (qb q, qp q, qw q, qe q, qr q, (zdg c), qh q, qd q)) ?_ (eqR.up eqR.rf (Or.inl rfl)) HR4
                        have eP : aP q c = if qisP q (zdg c) = true ∨ qbegP q (zdg c) = true then some (qb q, qp q, qw q, qe q, qr q, (zdg c), qh q, qd q) else none := by
                          unfold aP
                          rw [if_neg (by omega), if_neg (by omega), if_pos hx1]
                        rw [eP, if_pos]
                        first | exact Or.inl hp | exact Or.inr (eq_true_of_ne_false hg)
            · try simp (disch := omega) only [Int32.le_iff_toInt_le, Int32.lt_iff_toInt_lt, z_eq, z_nI, z_0, z_m1, z_sub, z_iI, nI_add, nI_mulN, pk_sub, nI_clamp, Nat.reduceAdd, Nat.reduceMul, Nat.reduceSub, Nat.zero_add, Nat.add_zero, e10, iI_mul, iI_add, hx_up_s, p8] at h22
              all_goals (try (exfalso; omega))
              all_goals
                refine Rq.s (fun _ => b28_32) ?_
                have HR4 : RepR (hx_up D 12 8 (iI (zdg c))) (qb q, qp q, qw q, qe q, qr q, (zdg c), qh q, qd q) := HR.up (by simp [hx_up_ne]) (by simp [hx_up_ne]) rfl rfl rfl (by simp [hx_up_at, p0]) (by simp [hx_up_at, p1]) (by simp [hx_up_at, p3]) (by simp [hx_up_at, p5]) (by simp [hx_up_at, p6]) (by simp [hx_up_at, p7]) (by simp [hx_up_at])
                have HQ4 : -1 ≤ (zdg c) ∧ (zdg c) < 100 → Qok (qb q, qp q, qw q, qe q, qr q, (zdg c), qh q, qd q) := fun h => ⟨k0, k1, k2, k3, k4, h.1, h.2, k7⟩
                have hP4 : Cl sc (d + 2) 30 [.ref 12, .int (iI (zdg c))] (hx_S0, hx_up D 12 8 (iI (zdg c)), G) (.inl (some (.int (nI (if qisP q (zdg c) = true then 1 else 0))))) (hx_S0, hx_up D 12 8 (iI (zdg c)), G) := m30x (q := (qb q, qp q, qw q, qe q, qr q, (zdg c), qh q, qd q)) HR4 ⟨k0, k1, k2, k3, k4⟩ (by omega) (by omega)
                have hB4 : Cl sc (d + 2) 31 [.ref 12, .int (iI (zdg c))] (hx_S0, hx_up D 12 8 (iI (zdg c)), G) (.inl (some (.int (nI (if qbegP q (zdg c) = true then 1 else 0))))) (hx_S0, hx_up D 12 8 (iI (zdg c)), G) := m31x (q := (qb q, qp q, qw q, qe q, qr q, (zdg c), qh q, qd q)) HR4 ⟨k0, k1, k2, k3, k4⟩ (by omega) (by omega)
                refine Rq.b (fun _ => b28_45b) (fun h45 => ?_) (fun h45 => ?_)
                · try simp (disch := omega) only [Int32.le_iff_toInt_le, Int32.lt_iff_toInt_lt, z_eq, z_nI, z_0, z_m1, z_sub, z_iI, nI_add, nI_mulN, pk_sub, nI_clamp, Nat.reduceAdd, Nat.reduceMul, Nat.reduceSub, Nat.zero_add, Nat.add_zero, e10, iI_mul, iI_add, hx_up_s, p8] at h45
                  all_goals (try (exfalso; omega))
                  all_goals (try simp (disch := omega) only [nI_add, nI_mulN, pk_sub, nI_clamp, Nat.reduceAdd, Nat.reduceMul, Nat.reduceSub, Nat.zero_add, Nat.add_zero, e10, iI_mul, iI_add, hx_up_s, p8])
                  all_goals
                    refine Rq.s (fun _ => b28_78b) ?_
                    try simp (disch := omega) only [nI_add, nI_mulN, pk_sub, nI_clamp, Nat.reduceAdd, Nat.reduceMul, Nat.reduceSub, Nat.zero_add, Nat.add_zero, e10, iI_mul, iI_add, hx_up_s, p8]
                    refine Rq.e (b28_79b (by first | exact Or.inl rfl | exact Or.inr rfl | (split <;> first | exact Or.inl rfl | exact Or.inr rfl))) ?_
                    refine QT.n ?_ (eqR.up eqR.rf (Or.inl rfl))
                    unfold aP
                    rw [if_neg (by omega), if_pos (by omega)]
                · try simp (disch := omega) only [Int32.le_iff_toInt_le, Int32.lt_iff_toInt_lt, z_eq, z_nI, z_0, z_m1, z_sub, z_iI, nI_add, nI_mulN, pk_sub, nI_clamp, Nat.reduceAdd, Nat.reduceMul, Nat.reduceSub, Nat.zero_add, Nat.add_zero, e10, iI_mul, iI_add, hx_up_s, p8] at h45
                  all_goals (try (exfalso; omega))
                  all_goals (try simp (disch := omega) only [nI_add, nI_mulN, pk_sub, nI_clamp, Nat.reduceAdd, Nat.reduceMul, Nat.reduceSub, Nat.zero_add, Nat.add_zero, e10, iI_mul, iI_add, hx_up_s, p8])
                  all_goals
                    refine Rq.s (fun _ => b28_52b (by rw [hx_up_s]; exact hP4)) ?_
                    by_cases hp : qisP q (zdg c) = true
                    · refine Rq.bt (fun _ => b28_60b) (by rw [if_pos hp]; decide) ?_
                      refine Rq.s (fun _ => b28_74b) ?_
                      try simp (disch := omega) only [nI_add, nI_mulN, pk_sub, nI_clamp, Nat.reduceAdd, Nat.reduceMul, Nat.reduceSub, Nat.zero_add, Nat.add_zero, e10, iI_mul, iI_add, hx_up_s, p8]
                      refine Rq.e (b28_79c (by first | exact Or.inl rfl | exact Or.inr rfl | (split <;> first | exact Or.inl rfl | exact Or.inr rfl))) ?_
                      refine QT.s (q2 := (qb q, qp q, qw q, qe q, qr q, (zdg c), qh q, qd q)) ?_ (eqR.up eqR.rf (Or.inl rfl)) HR4
                      have eP : aP q c = if qisP q (zdg c) = true ∨ qbegP q (zdg c) = true then some (qb q, qp q, qw q, qe q, qr q, (zdg c), qh q, qd q) else none := by
                        unfold aP
                        rw [if_neg (by omega), if_neg (by omega), if_pos hx1]
                      rw [eP, if_pos]
                      first | exact Or.inl hp | exact Or.inr (eq_true_of_ne_false hg)
                    · refine Rq.bf (fun _ => b28_60b) (by rw [if_neg hp]; exact fun z => z rfl) ?_
                      refine Rq.s (fun _ => b28_63b (by rw [hx_up_s]; exact hB4)) ?_
                      by_cases hg : qbegP q (zdg c) = false
                      · refine Rq.bt (fun _ => b28_71b) (by rw [hg]; rfl) ?_
                        refine Rq.s (fun _ => b28_78b) ?_
                        try simp (disch := omega) only [nI_add, nI_mulN, pk_sub, nI_clamp, Nat.reduceAdd, Nat.reduceMul, Nat.reduceSub, Nat.zero_add, Nat.add_zero, e10, iI_mul, iI_add, hx_up_s, p8]
                        refine Rq.e (b28_79b (by first | exact Or.inl rfl | exact Or.inr rfl | (split <;> first | exact Or.inl rfl | exact Or.inr rfl))) ?_
                        refine QT.n ?_ (eqR.up eqR.rf (Or.inl rfl))
                        have eP : aP q c = if qisP q (zdg c) = true ∨ qbegP q (zdg c) = true then some (qb q, qp q, qw q, qe q, qr q, (zdg c), qh q, qd q) else none := by
                          unfold aP
                          rw [if_neg (by omega), if_neg (by omega), if_pos hx1]
                        rw [eP, if_neg]
                        intro z
                        rcases z with z | z
                        · exact hp z
                        · rw [hg] at z
                          exact absurd z (by decide)
                      · refine Rq.bf (fun _ => b28_71b) (by rw [eq_true_of_ne_false hg]; decide) ?_
                        refine Rq.s (fun _ => b28_74b) ?_
                        try simp (disch := omega) only [nI_add, nI_mulN, pk_sub, nI_clamp, Nat.reduceAdd, Nat.reduceMul, Nat.reduceSub, Nat.zero_add, Nat.add_zero, e10, iI_mul, iI_add, hx_up_s, p8]
                        refine Rq.e (b28_79c (by first | exact Or.inl rfl | exact Or.inr rfl | (split <;> first | exact Or.inl rfl | exact Or.inr rfl))) ?_
                        refine QT.s (q2 := (qb q, qp q, qw q, qe q, qr q, (zdg c), qh q, qd q)) ?_ (eqR.up eqR.rf (Or.inl rfl)) HR4
                        have eP : aP q c = if qisP q (zdg c) = true ∨ qbegP q (zdg c) = true then some (qb q, qp q, qw q, qe q, qr q, (zdg c), qh q, qd q) else none := by
                          unfold aP
                          rw [if_neg (by omega), if_neg (by omega), if_pos hx1]
                        rw [eP, if_pos]
                        first | exact Or.inl hp | exact Or.inr (eq_true_of_ne_false hg)
  · skip
    refine Cq.c (fun _ _ _ => c28) ?_
    refine Rq.s (fun _ => b28_0 (by (try simp (disch := omega) only [nI_add, nI_mulN, pk_sub, nI_clamp, Nat.reduceAdd, Nat.reduceMul, Nat.reduceSub, Nat.zero_add, Nat.add_zero, e10, iI_mul, iI_add, hx_up_s, p8]); exact m32 hc)) ?_
    refine Rq.b (fun _ => b28_4) (fun h4 => ?_) (fun h4 => ?_)
    · try simp (disch := omega) only [Int32.le_iff_toInt_le, Int32.lt_iff_toInt_lt, z_eq, z_nI, z_0, z_m1, z_sub, z_iI, nI_add, nI_mulN, pk_sub, nI_clamp, Nat.reduceAdd, Nat.reduceMul, Nat.reduceSub, Nat.zero_add, Nat.add_zero, e10, iI_mul, iI_add, hx_up_s, p8] at h4
      all_goals (try (exfalso; omega))
      all_goals
        exfalso; omega
    · try simp (disch := omega) only [Int32.le_iff_toInt_le, Int32.lt_iff_toInt_lt, z_eq, z_nI, z_0, z_m1, z_sub, z_iI, nI_add, nI_mulN, pk_sub, nI_clamp, Nat.reduceAdd, Nat.reduceMul, Nat.reduceSub, Nat.zero_add, Nat.add_zero, e10, iI_mul, iI_add, hx_up_s, p8] at h4
      all_goals (try (exfalso; omega))
      all_goals
        refine Rq.b (fun _ => b28_10) (fun h10 => ?_) (fun h10 => ?_)
        · try simp (disch := omega) only [Int32.le_iff_toInt_le, Int32.lt_iff_toInt_lt, z_eq, z_nI, z_0, z_m1, z_sub, z_iI, nI_add, nI_mulN, pk_sub, nI_clamp, Nat.reduceAdd, Nat.reduceMul, Nat.reduceSub, Nat.zero_add, Nat.add_zero, e10, iI_mul, iI_add, hx_up_s, p8] at h10
          all_goals (try (exfalso; omega))
          all_goals
            refine Rq.s (fun _ => b28_21) ?_
            try simp (disch := omega) only [nI_add, nI_mulN, pk_sub, nI_clamp, Nat.reduceAdd, Nat.reduceMul, Nat.reduceSub, Nat.zero_add, Nat.add_zero, e10, iI_mul, iI_add, hx_up_s, p8]
            refine Rq.b (fun _ => b28_22) (fun h22 => ?_) (fun h22 => ?_)
            · try simp (disch := omega) only [Int32.le_iff_toInt_le, Int32.lt_iff_toInt_lt, z_eq, z_nI, z_0, z_m1, z_sub, z_iI, nI_add, nI_mulN, pk_sub, nI_clamp, Nat.reduceAdd, Nat.reduceMul, Nat.reduceSub, Nat.zero_add, Nat.add_zero, e10, iI_mul, iI_add, hx_up_s, p8] at h22
              all_goals (try (exfalso; omega))
              all_goals
                refine Rq.s (fun _ => b28_36) ?_
                try simp (disch := omega) only [nI_add, nI_mulN, pk_sub, nI_clamp, Nat.reduceAdd, Nat.reduceMul, Nat.reduceSub, Nat.zero_add, Nat.add_zero, e10, iI_mul, iI_add, hx_up_s, p8]
                have HR4 : RepR (hx_up D 12 8 (iI (qx q * 10 + zdg c))) (qb q, qp q, qw q, qe q, qr q, (qx q * 10 + zdg c), qh q, qd q) := HR.up (by simp [hx_up_ne]) (by simp [hx_up_ne]) rfl rfl rfl (by simp [hx_up_at, p0]) (by simp [hx_up_at, p1]) (by simp [hx_up_at, p3]) (by simp [hx_up_at, p5]) (by simp [hx_up_at, p6]) (by simp [hx_up_at, p7]) (by simp [hx_up_at])
                have HQ4 : -1 ≤ (qx q * 10 + zdg c) ∧ (qx q * 10 + zdg c) < 100 → Qok (qb q, qp q, qw q, qe q, qr q, (qx q * 10 + zdg c), qh q, qd q) := fun h => ⟨k0, k1, k2, k3, k4, h.1, h.2, k7⟩
                have hP4 : Cl sc (d + 2) 30 [.ref 12, .int (iI (qx q * 10 + zdg c))] (hx_S0, hx_up D 12 8 (iI (qx q * 10 + zdg c)), G) (.inl (some (.int (nI (if qisP q (qx q * 10 + zdg c) = true then 1 else 0))))) (hx_S0, hx_up D 12 8 (iI (qx q * 10 + zdg c)), G) := m30x (q := (qb q, qp q, qw q, qe q, qr q, (qx q * 10 + zdg c), qh q, qd q)) HR4 ⟨k0, k1, k2, k3, k4⟩ (by omega) (by omega)
                have hB4 : Cl sc (d + 2) 31 [.ref 12, .int (iI (qx q * 10 + zdg c))] (hx_S0, hx_up D 12 8 (iI (qx q * 10 + zdg c)), G) (.inl (some (.int (nI (if qbegP q (qx q * 10 + zdg c) = true then 1 else 0))))) (hx_S0, hx_up D 12 8 (iI (qx q * 10 + zdg c)), G) := m31x (q := (qb q, qp q, qw q, qe q, qr q, (qx q * 10 + zdg c), qh q, qd q)) HR4 ⟨k0, k1, k2, k3, k4⟩ (by omega) (by omega)
                refine Rq.b (fun _ => b28_45) (fun h45 => ?_) (fun h45 => ?_)
                · try simp (disch := omega) only [Int32.le_iff_toInt_le, Int32.lt_iff_toInt_lt, z_eq, z_nI, z_0, z_m1, z_sub, z_iI, nI_add, nI_mulN, pk_sub, nI_clamp, Nat.reduceAdd, Nat.reduceMul, Nat.reduceSub, Nat.zero_add, Nat.add_zero, e10, iI_mul, iI_add, hx_up_s, p8] at h45
                  all_goals (try (exfalso; omega))
                  all_goals (try simp (disch := omega) only [nI_add, nI_mulN, pk_sub, nI_clamp, Nat.reduceAdd, Nat.reduceMul, Nat.reduceSub, Nat.zero_add, Nat.add_zero, e10, iI_mul, iI_add, hx_up_s, p8])
                  all_goals
                    refine Rq.s (fun _ => b28_78) ?_
                    try simp (disch := omega) only [nI_add, nI_mulN, pk_sub, nI_clamp, Nat.reduceAdd, Nat.reduceMul, Nat.reduceSub, Nat.zero_add, Nat.add_zero, e10, iI_mul, iI_add, hx_up_s, p8]
                    refine Rq.e (b28_79 (by first | exact Or.inl rfl | exact Or.inr rfl | (split <;> first | exact Or.inl rfl | exact Or.inr rfl))) ?_
                    refine QT.n ?_ (eqR.up eqR.rf (Or.inl rfl))
                    unfold aP
                    rw [if_neg (by omega), if_pos (by omega)]
                · try simp (disch := omega) only [Int32.le_iff_toInt_le, Int32.lt_iff_toInt_lt, z_eq, z_nI, z_0, z_m1, z_sub, z_iI, nI_add, nI_mulN, pk_sub, nI_clamp, Nat.reduceAdd, Nat.reduceMul, Nat.reduceSub, Nat.zero_add, Nat.add_zero, e10, iI_mul, iI_add, hx_up_s, p8] at h45
                  all_goals (try (exfalso; omega))
                  all_goals (try simp (disch := omega) only [nI_add, nI_mulN, pk_sub, nI_clamp, Nat.reduceAdd, Nat.reduceMul, Nat.reduceSub, Nat.zero_add, Nat.add_zero, e10, iI_mul, iI_add, hx_up_s, p8])
                  all_goals
                    refine Rq.s (fun _ => b28_52 (by rw [hx_up_s]; exact hP4)) ?_
                    by_cases hp : qisP q (qx q * 10 + zdg c) = true
                    · refine Rq.bt (fun _ => b28_60) (by rw [if_pos hp]; decide) ?_
                      refine Rq.s (fun _ => b28_74) ?_
                      try simp (disch := omega) only [nI_add, nI_mulN, pk_sub, nI_clamp, Nat.reduceAdd, Nat.reduceMul, Nat.reduceSub, Nat.zero_add, Nat.add_zero, e10, iI_mul, iI_add, hx_up_s, p8]
                      refine Rq.e (b28_79c (by first | exact Or.inl rfl | exact Or.inr rfl | (split <;> first | exact Or.inl rfl | exact Or.inr rfl))) ?_
                      refine QT.s (q2 := (qb q, qp q, qw q, qe q, qr q, (qx q * 10 + zdg c), qh q, qd q)) ?_ (eqR.up eqR.rf (Or.inl rfl)) HR4
                      have eP : aP q c = if qisP q (qx q * 10 + zdg c) = true ∨ qbegP q (qx q * 10 + zdg c) = true then some (qb q, qp q, qw q, qe q, qr q, (qx q * 10 + zdg c), qh q, qd q) else none := by
                        unfold aP
                        rw [if_neg (by omega), if_neg (by omega), if_neg hx1]
                      rw [eP, if_pos]
                      first | exact Or.inl hp | exact Or.inr (eq_true_of_ne_false hg)
                    · refine Rq.bf (fun _ => b28_60) (by rw [if_neg hp]; exact fun z => z rfl) ?_
                      refine Rq.s (fun _ => b28_63 (by rw [hx_up_s]; exact hB4)) ?_
                      by_cases hg : qbegP q (qx q * 10 + zdg c) = false
                      · refine Rq.bt (fun _ => b28_71) (by rw [hg]; rfl) ?_
                        refine Rq.s (fun _ => b28_78) ?_
                        try simp (disch := omega) only [nI_add, nI_mulN, pk_sub, nI_clamp, Nat.reduceAdd, Nat.reduceMul, Nat.reduceSub, Nat.zero_add, Nat.add_zero, e10, iI_mul, iI_add, hx_up_s, p8]
                        refine Rq.e (b28_79 (by first | exact Or.inl rfl | exact Or.inr rfl | (split <;> first | exact Or.inl rfl | exact Or.inr rfl))) ?_
                        refine QT.n ?_ (eqR.up eqR.rf (Or.inl rfl))
                        have eP : aP q c = if qisP q (qx q * 10 + zdg c) = true ∨ qbegP q (qx q * 10 + zdg c) = true then some (qb q, qp q, qw q, qe q, qr q, (qx q * 10 + zdg c), qh q, qd q) else none := by
                          unfold aP
                          rw [if_neg (by omega), if_neg (by omega), if_neg hx1]
                        rw [eP, if_neg]
                        intro z
                        rcases z with z | z
                        · exact hp z
                        · rw [hg] at z
                          exact absurd z (by decide)
                      · refine Rq.bf (fun _ => b28_71) (by rw [eq_true_of_ne_false hg]; decide) ?_
                        refine Rq.s (fun _ => b28_74) ?_
                        try simp (disch := omega) only [nI_add, nI_mulN, pk_sub, nI_clamp, Nat.reduceAdd, Nat.reduceMul, Nat.reduceSub, Nat.zero_add, Nat.add_zero, e10, iI_mul, iI_add, hx_up_s, p8]
                        refine Rq.e (b28_79c (by first | exact Or.inl rfl | exact Or.inr rfl | (split <;> first | exact Or.inl rfl | exact Or.inr rfl))) ?_
                        refine QT.s (q2 := (qb q, qp q, qw q, qe q, qr q, (qx q * 10 + zdg c), qh q, qd q)) ?_ (eqR.up eqR.rf (Or.inl rfl)) HR4
                        have eP : aP q c = if qisP q (qx q * 10 + zdg c) = true ∨ qbegP q (qx q * 10 + zdg c) = true then some (qb q, qp q, qw q, qe q, qr q, (qx q * 10 + zdg c), qh q, qd q) else none := by
                          unfold aP
                          rw [if_neg (by omega), if_neg (by omega), if_neg hx1]
                        rw [eP, if_pos]
                        first | exact Or.inl hp | exact Or.inr (eq_true_of_ne_false hg)
            · try simp (disch := omega) only [Int32.le_iff_toInt_le, Int32.lt_iff_toInt_lt, z_eq, z_nI, z_0, z_m1, z_sub, z_iI, nI_add, nI_mulN, pk_sub, nI_clamp, Nat.reduceAdd, Nat.reduceMul, Nat.reduceSub, Nat.zero_add, Nat.add_zero, e10, iI_mul, iI_add, hx_up_s, p8] at h22
              all_goals (try (exfalso; omega))
              all_goals
                refine Rq.s (fun _ => b28_32) ?_
                have HR4 : RepR (hx_up D 12 8 (iI (qx q * 10 + zdg c))) (qb q, qp q, qw q, qe q, qr q, (qx q * 10 + zdg c), qh q, qd q) := HR.up (by simp [hx_up_ne]) (by simp [hx_up_ne]) rfl rfl rfl (by simp [hx_up_at, p0]) (by simp [hx_up_at, p1]) (by simp [hx_up_at, p3]) (by simp [hx_up_at, p5]) (by simp [hx_up_at, p6]) (by simp [hx_up_at, p7]) (by simp [hx_up_at])
                have HQ4 : -1 ≤ (qx q * 10 + zdg c) ∧ (qx q * 10 + zdg c) < 100 → Qok (qb q, qp q, qw q, qe q, qr q, (qx q * 10 + zdg c), qh q, qd q) := fun h => ⟨k0, k1, k2, k3, k4, h.1, h.2, k7⟩
                have hP4 : Cl sc (d + 2) 30 [.ref 12, .int (iI (qx q * 10 + zdg c))] (hx_S0, hx_up D 12 8 (iI (qx q * 10 + zdg c)), G) (.inl (some (.int (nI (if qisP q (qx q * 10 + zdg c) = true then 1 else 0))))) (hx_S0, hx_up D 12 8 (iI (qx q * 10 + zdg c)), G) := m30x (q := (qb q, qp q, qw q, qe q, qr q, (qx q * 10 + zdg c), qh q, qd q)) HR4 ⟨k0, k1, k2, k3, k4⟩ (by omega) (by omega)
                have hB4 : Cl sc (d + 2) 31 [.ref 12, .int (iI (qx q * 10 + zdg c))] (hx_S0, hx_up D 12 8 (iI (qx q * 10 + zdg c)), G) (.inl (some (.int (nI (if qbegP q (qx q * 10 + zdg c) = true then 1 else 0))))) (hx_S0, hx_up D 12 8 (iI (qx q * 10 + zdg c)), G) := m31x (q := (qb q, qp q, qw q, qe q, qr q, (qx q * 10 + zdg c), qh q, qd q)) HR4 ⟨k0, k1, k2, k3, k4⟩ (by omega) (by omega)
                refine Rq.b (fun _ => b28_45b) (fun h45 => ?_) (fun h45 => ?_)
                · try simp (disch := omega) only [Int32.le_iff_toInt_le, Int32.lt_iff_toInt_lt, z_eq, z_nI, z_0, z_m1, z_sub, z_iI, nI_add, nI_mulN, pk_sub, nI_clamp, Nat.reduceAdd, Nat.reduceMul, Nat.reduceSub, Nat.zero_add, Nat.add_zero, e10, iI_mul, iI_add, hx_up_s, p8] at h45
                  all_goals (try (exfalso; omega))
                  all_goals (try simp (disch := omega) only [nI_add, nI_mulN, pk_sub, nI_clamp, Nat.reduceAdd, Nat.reduceMul, Nat.reduceSub, Nat.zero_add, Nat.add_zero, e10, iI_mul, iI_add, hx_up_s, p8])
                  all_goals
                    refine Rq.s (fun _ => b28_78b) ?_
                    try simp (disch := omega) only [nI_add, nI_mulN, pk_sub, nI_clamp, Nat.reduceAdd, Nat.reduceMul, Nat.reduceSub, Nat.zero_add, Nat.add_zero, e10, iI_mul, iI_add, hx_up_s, p8]
                    refine Rq.e (b28_79b (by first | exact Or.inl rfl | exact Or.inr rfl | (split <;> first | exact Or.inl rfl | exact Or.inr rfl))) ?_
                    refine QT.n ?_ (eqR.up eqR.rf (Or.inl rfl))
                    unfold aP
                    rw [if_neg (by omega), if_pos (by omega)]
                · try simp (disch := omega) only [Int32.le_iff_toInt_le, Int32.lt_iff_toInt_lt, z_eq, z_nI, z_0, z_m1, z_sub, z_iI, nI_add, nI_mulN, pk_sub, nI_clamp, Nat.reduceAdd, Nat.reduceMul, Nat.reduceSub, Nat.zero_add, Nat.add_zero, e10, iI_mul, iI_add, hx_up_s, p8] at h45
                  all_goals (try (exfalso; omega))
                  all_goals (try simp (disch := omega) only [nI_add, nI_mulN, pk_sub, nI_clamp, Nat.reduceAdd, Nat.reduceMul, Nat.reduceSub, Nat.zero_add, Nat.add_zero, e10, iI_mul, iI_add, hx_up_s, p8])
                  all_goals
                    refine Rq.s (fun _ => b28_52 (by rw [hx_up_s]; exact hP4)) ?_
                    by_cases hp : qisP q (qx q * 10 + zdg c) = true
                    · refine Rq.bt (fun _ => b28_60b) (by rw [if_pos hp]; decide) ?_
                      refine Rq.s (fun _ => b28_74b) ?_
                      try simp (disch := omega) only [nI_add, nI_mulN, pk_sub, nI_clamp, Nat.reduceAdd, Nat.reduceMul, Nat.reduceSub, Nat.zero_add, Nat.add_zero, e10, iI_mul, iI_add, hx_up_s, p8]
                      refine Rq.e (b28_79c (by first | exact Or.inl rfl | exact Or.inr rfl | (split <;> first | exact Or.inl rfl | exact Or.inr rfl))) ?_
                      refine QT.n ?_ (eqR.up eqR.rf (Or.inl rfl))
                      unfold aP
                      rw [if_neg (by omega), if_pos (by omega)]
                    · refine Rq.bf (fun _ => b28_60b) (by rw [if_neg hp]; exact fun z => z rfl) ?_
                      refine Rq.s (fun _ => b28_63 (by rw [hx_up_s]; exact hB4)) ?_
                      by_cases hg : qbegP q (qx q * 10 + zdg c) = false
                      · refine Rq.bt (fun _ => b28_71b) (by rw [hg]; rfl) ?_
                        refine Rq.s (fun _ => b28_78b) ?_
                        try simp (disch := omega) only [nI_add, nI_mulN, pk_sub, nI_clamp, Nat.reduceAdd, Nat.reduceMul, Nat.reduceSub, Nat.zero_add, Nat.add_zero, e10, iI_mul, iI_add, hx_up_s, p8]
                        refine Rq.e (b28_79b (by first | exact Or.inl rfl | exact Or.inr rfl | (split <;> first | exact Or.inl rfl | exact Or.inr rfl))) ?_
                        refine QT.n ?_ (eqR.up eqR.rf (Or.inl rfl))
                        unfold aP
                        rw [if_neg (by omega), if_pos (by omega)]
                      · refine Rq.bf (fun _ => b28_71b) (by rw [eq_true_of_ne_false hg]; decide) ?_
                        refine Rq.s (fun _ => b28_74b) ?_
                        try simp (disch := omega) only [nI_add, nI_mulN, pk_sub, nI_clamp, Nat.reduceAdd, Nat.reduceMul, Nat.reduceSub, Nat.zero_add, Nat.add_zero, e10, iI_mul, iI_add, hx_up_s, p8]
                        refine Rq.e (b28_79c (by first | exact Or.inl rfl | exact Or.inr rfl | (split <;> first | exact Or.inl rfl | exact Or.inr rfl))) ?_
                        refine QT.n ?_ (eqR.up eqR.rf (Or.inl rfl))
                        unfold aP
                        rw [if_neg (by omega), if_pos (by omega)]
        · try simp (disch := omega) only [Int32.le_iff_toInt_le, Int32.lt_iff_toInt_lt, z_eq, z_nI, z_0, z_m1, z_sub, z_iI, nI_add, nI_mulN, pk_sub, nI_clamp, Nat.reduceAdd, Nat.reduceMul, Nat.reduceSub, Nat.zero_add, Nat.add_zero, e10, iI_mul, iI_add, hx_up_s, p8] at h10
          all_goals (try (exfalso; omega))
          all_goals
            refine Rq.s (fun _ => b28_17) ?_
            try simp (disch := omega) only [nI_add, nI_mulN, pk_sub, nI_clamp, Nat.reduceAdd, Nat.reduceMul, Nat.reduceSub, Nat.zero_add, Nat.add_zero, e10, iI_mul, iI_add, hx_up_s, p8]
            refine Rq.b (fun _ => b28_22b) (fun h22 => ?_) (fun h22 => ?_)
            · try simp (disch := omega) only [Int32.le_iff_toInt_le, Int32.lt_iff_toInt_lt, z_eq, z_nI, z_0, z_m1, z_sub, z_iI, nI_add, nI_mulN, pk_sub, nI_clamp, Nat.reduceAdd, Nat.reduceMul, Nat.reduceSub, Nat.zero_add, Nat.add_zero, e10, iI_mul, iI_add, hx_up_s, p8] at h22
              all_goals (try (exfalso; omega))
              all_goals
                refine Rq.s (fun _ => b28_36) ?_
                try simp (disch := omega) only [nI_add, nI_mulN, pk_sub, nI_clamp, Nat.reduceAdd, Nat.reduceMul, Nat.reduceSub, Nat.zero_add, Nat.add_zero, e10, iI_mul, iI_add, hx_up_s, p8]
                have HR4 : RepR (hx_up D 12 8 (iI (qx q * 10 + zdg c))) (qb q, qp q, qw q, qe q, qr q, (qx q * 10 + zdg c), qh q, qd q) := HR.up (by simp [hx_up_ne]) (by simp [hx_up_ne]) rfl rfl rfl (by simp [hx_up_at, p0]) (by simp [hx_up_at, p1]) (by simp [hx_up_at, p3]) (by simp [hx_up_at, p5]) (by simp [hx_up_at, p6]) (by simp [hx_up_at, p7]) (by simp [hx_up_at])
                have HQ4 : -1 ≤ (qx q * 10 + zdg c) ∧ (qx q * 10 + zdg c) < 100 → Qok (qb q, qp q, qw q, qe q, qr q, (qx q * 10 + zdg c), qh q, qd q) := fun h => ⟨k0, k1, k2, k3, k4, h.1, h.2, k7⟩
                have hP4 : Cl sc (d + 2) 30 [.ref 12, .int (iI (qx q * 10 + zdg c))] (hx_S0, hx_up D 12 8 (iI (qx q * 10 + zdg c)), G) (.inl (some (.int (nI (if qisP q (qx q * 10 + zdg c) = true then 1 else 0))))) (hx_S0, hx_up D 12 8 (iI (qx q * 10 + zdg c)), G) := m30x (q := (qb q, qp q, qw q, qe q, qr q, (qx q * 10 + zdg c), qh q, qd q)) HR4 ⟨k0, k1, k2, k3, k4⟩ (by omega) (by omega)
                have hB4 : Cl sc (d + 2) 31 [.ref 12, .int (iI (qx q * 10 + zdg c))] (hx_S0, hx_up D 12 8 (iI (qx q * 10 + zdg c)), G) (.inl (some (.int (nI (if qbegP q (qx q * 10 + zdg c) = true then 1 else 0))))) (hx_S0, hx_up D 12 8 (iI (qx q * 10 + zdg c)), G) := m31x (q := (qb q, qp q, qw q, qe q, qr q, (qx q * 10 + zdg c), qh q, qd q)) HR4 ⟨k0, k1, k2, k3, k4⟩ (by omega) (by omega)
                refine Rq.b (fun _ => b28_45) (fun h45 => ?_) (fun h45 => ?_)
                · try simp (disch := omega) only [Int32.le_iff_toInt_le, Int32.lt_iff_toInt_lt, z_eq, z_nI, z_0, z_m1, z_sub, z_iI, nI_add, nI_mulN, pk_sub, nI_clamp, Nat.reduceAdd, Nat.reduceMul, Nat.reduceSub, Nat.zero_add, Nat.add_zero, e10, iI_mul, iI_add, hx_up_s, p8] at h45
                  all_goals (try (exfalso; omega))
                  all_goals (try simp (disch := omega) only [nI_add, nI_mulN, pk_sub, nI_clamp, Nat.reduceAdd, Nat.reduceMul, Nat.reduceSub, Nat.zero_add, Nat.add_zero, e10, iI_mul, iI_add, hx_up_s, p8])
                  all_goals
                    refine Rq.s (fun _ => b28_78) ?_
                    try simp (disch := omega) only [nI_add, nI_mulN, pk_sub, nI_clamp, Nat.reduceAdd, Nat.reduceMul, Nat.reduceSub, Nat.zero_add, Nat.add_zero, e10, iI_mul, iI_add, hx_up_s, p8]
                    refine Rq.e (b28_79 (by first | exact Or.inl rfl | exact Or.inr rfl | (split <;> first | exact Or.inl rfl | exact Or.inr rfl))) ?_
                    refine QT.n ?_ (eqR.up eqR.rf (Or.inl rfl))
                    unfold aP
                    rw [if_neg (by omega), if_pos (by omega)]
                · try simp (disch := omega) only [Int32.le_iff_toInt_le, Int32.lt_iff_toInt_lt, z_eq, z_nI, z_0, z_m1, z_sub, z_iI, nI_add, nI_mulN, pk_sub, nI_clamp, Nat.reduceAdd, Nat.reduceMul, Nat.reduceSub, Nat.zero_add, Nat.add_zero, e10, iI_mul, iI_add, hx_up_s, p8] at h45
                  all_goals (try (exfalso; omega))
                  all_goals (try simp (disch := omega) only [nI_add, nI_mulN, pk_sub, nI_clamp, Nat.reduceAdd, Nat.reduceMul, Nat.reduceSub, Nat.zero_add, Nat.add_zero, e10, iI_mul, iI_add, hx_up_s, p8])
                  all_goals
                    refine Rq.s (fun _ => b28_52 (by rw [hx_up_s]; exact hP4)) ?_
                    by_cases hp : qisP q (qx q * 10 + zdg c) = true
                    · refine Rq.bt (fun _ => b28_60) (by rw [if_pos hp]; decide) ?_
                      refine Rq.s (fun _ => b28_74) ?_
                      try simp (disch := omega) only [nI_add, nI_mulN, pk_sub, nI_clamp, Nat.reduceAdd, Nat.reduceMul, Nat.reduceSub, Nat.zero_add, Nat.add_zero, e10, iI_mul, iI_add, hx_up_s, p8]
                      refine Rq.e (b28_79c (by first | exact Or.inl rfl | exact Or.inr rfl | (split <;> first | exact Or.inl rfl | exact Or.inr rfl))) ?_
                      refine QT.s (q2 := (qb q, qp q, qw q, qe q, qr q, (qx q * 10 + zdg c), qh q, qd q)) ?_ (eqR.up eqR.rf (Or.inl rfl)) HR4
                      have eP : aP q c = if qisP q (qx q * 10 + zdg c) = true ∨ qbegP q (qx q * 10 + zdg c) = true then some (qb q, qp q, qw q, qe q, qr q, (qx q * 10 + zdg c), qh q, qd q) else none := by
                        unfold aP
                        rw [if_neg (by omega), if_neg (by omega), if_neg hx1]
                      rw [eP, if_pos]
                      first | exact Or.inl hp | exact Or.inr (eq_true_of_ne_false hg)
                    · refine Rq.bf (fun _ => b28_60) (by rw [if_neg hp]; exact fun z => z rfl) ?_
                      refine Rq.s (fun _ => b28_63 (by rw [hx_up_s]; exact hB4)) ?_
                      by_cases hg : qbegP q (qx q * 10 + zdg c) = false
                      · refine Rq.bt (fun _ => b28_71) (by rw [hg]; rfl) ?_
                        refine Rq.s (fun _ => b28_78) ?_
                        try simp (disch := omega) only [nI_add, nI_mulN, pk_sub, nI_clamp, Nat.reduceAdd, Nat.reduceMul, Nat.reduceSub, Nat.zero_add, Nat.add_zero, e10, iI_mul, iI_add, hx_up_s, p8]
                        refine Rq.e (b28_79 (by first | exact Or.inl rfl | exact Or.inr rfl | (split <;> first | exact Or.inl rfl | exact Or.inr rfl))) ?_
                        refine QT.n ?_ (eqR.up eqR.rf (Or.inl rfl))
                        have eP : aP q c = if qisP q (qx q * 10 + zdg c) = true ∨ qbegP q (qx q * 10 + zdg c) = true then some (qb q, qp q, qw q, qe q, qr q, (qx q * 10 + zdg c), qh q, qd q) else none := by
                          unfold aP
                          rw [if_neg (by omega), if_neg (by omega), if_neg hx1]
                        rw [eP, if_neg]
                        intro z
                        rcases z with z | z
                        · exact hp z
                        · rw [hg] at z
                          exact absurd z (by decide)
                      · refine Rq.bf (fun _ => b28_71) (by rw [eq_true_of_ne_false hg]; decide) ?_
                        refine Rq.s (fun _ => b28_74) ?_
                        try simp (disch := omega) only [nI_add, nI_mulN, pk_sub, nI_clamp, Nat.reduceAdd, Nat.reduceMul, Nat.reduceSub, Nat.zero_add, Nat.add_zero, e10, iI_mul, iI_add, hx_up_s, p8]
                        refine Rq.e (b28_79c (by first | exact Or.inl rfl | exact Or.inr rfl | (split <;> first | exact Or.inl rfl | exact Or.inr rfl))) ?_
                        refine QT.s (q2 := (qb q, qp q, qw q, qe q, qr q, (qx q * 10 + zdg c), qh q, qd q)) ?_ (eqR.up eqR.rf (Or.inl rfl)) HR4
                        have eP : aP q c = if qisP q (qx q * 10 + zdg c) = true ∨ qbegP q (qx q * 10 + zdg c) = true then some (qb q, qp q, qw q, qe q, qr q, (qx q * 10 + zdg c), qh q, qd q) else none := by
                          unfold aP
                          rw [if_neg (by omega), if_neg (by omega), if_neg hx1]
                        rw [eP, if_pos]
                        first | exact Or.inl hp | exact Or.inr (eq_true_of_ne_false hg)
            · try simp (disch := omega) only [Int32.le_iff_toInt_le, Int32.lt_iff_toInt_lt, z_eq, z_nI, z_0, z_m1, z_sub, z_iI, nI_add, nI_mulN, pk_sub, nI_clamp, Nat.reduceAdd, Nat.reduceMul, Nat.reduceSub, Nat.zero_add, Nat.add_zero, e10, iI_mul, iI_add, hx_up_s, p8] at h22
              all_goals (try (exfalso; omega))
              all_goals
                refine Rq.s (fun _ => b28_32) ?_
                have HR4 : RepR (hx_up D 12 8 (iI (qx q * 10 + zdg c))) (qb q, qp q, qw q, qe q, qr q, (qx q * 10 + zdg c), qh q, qd q) := HR.up (by simp [hx_up_ne]) (by simp [hx_up_ne]) rfl rfl rfl (by simp [hx_up_at, p0]) (by simp [hx_up_at, p1]) (by simp [hx_up_at, p3]) (by simp [hx_up_at, p5]) (by simp [hx_up_at, p6]) (by simp [hx_up_at, p7]) (by simp [hx_up_at])
                have HQ4 : -1 ≤ (qx q * 10 + zdg c) ∧ (qx q * 10 + zdg c) < 100 → Qok (qb q, qp q, qw q, qe q, qr q, (qx q * 10 + zdg c), qh q, qd q) := fun h => ⟨k0, k1, k2, k3, k4, h.1, h.2, k7⟩
                have hP4 : Cl sc (d + 2) 30 [.ref 12, .int (iI (qx q * 10 + zdg c))] (hx_S0, hx_up D 12 8 (iI (qx q * 10 + zdg c)), G) (.inl (some (.int (nI (if qisP q (qx q * 10 + zdg c) = true then 1 else 0))))) (hx_S0, hx_up D 12 8 (iI (qx q * 10 + zdg c)), G) := m30x (q := (qb q, qp q, qw q, qe q, qr q, (qx q * 10 + zdg c), qh q, qd q)) HR4 ⟨k0, k1, k2, k3, k4⟩ (by omega) (by omega)
                have hB4 : Cl sc (d + 2) 31 [.ref 12, .int (iI (qx q * 10 + zdg c))] (hx_S0, hx_up D 12 8 (iI (qx q * 10 + zdg c)), G) (.inl (some (.int (nI (if qbegP q (qx q * 10 + zdg c) = true then 1 else 0))))) (hx_S0, hx_up D 12 8 (iI (qx q * 10 + zdg c)), G) := m31x (q := (qb q, qp q, qw q, qe q, qr q, (qx q * 10 + zdg c), qh q, qd q)) HR4 ⟨k0, k1, k2, k3, k4⟩ (by omega) (by omega)
                refine Rq.b (fun _ => b28_45b) (fun h45 => ?_) (fun h45 => ?_)
                · try simp (disch := omega) only [Int32.le_iff_toInt_le, Int32.lt_iff_toInt_lt, z_eq, z_nI, z_0, z_m1, z_sub, z_iI, nI_add, nI_mulN, pk_sub, nI_clamp, Nat.reduceAdd, Nat.reduceMul, Nat.reduceSub, Nat.zero_add, Nat.add_zero, e10, iI_mul, iI_add, hx_up_s, p8] at h45
                  all_goals (try (exfalso; omega))
                  all_goals (try simp (disch := omega) only [nI_add, nI_mulN, pk_sub, nI_clamp, Nat.reduceAdd, Nat.reduceMul, Nat.reduceSub, Nat.zero_add, Nat.add_zero, e10, iI_mul, iI_add, hx_up_s, p8])
                  all_goals
                    refine Rq.s (fun _ => b28_78b) ?_
                    try simp (disch := omega) only [nI_add, nI_mulN, pk_sub, nI_clamp, Nat.reduceAdd, Nat.reduceMul, Nat.reduceSub, Nat.zero_add, Nat.add_zero, e10, iI_mul, iI_add, hx_up_s, p8]
                    refine Rq.e (b28_79b (by first | exact Or.inl rfl | exact Or.inr rfl | (split <;> first | exact Or.inl rfl | exact Or.inr rfl))) ?_
                    refine QT.n ?_ (eqR.up eqR.rf (Or.inl rfl))
                    unfold aP
                    rw [if_neg (by omega), if_pos (by omega)]
                · try simp (disch := omega) only [Int32.le_iff_toInt_le, Int32.lt_iff_toInt_lt, z_eq, z_nI, z_0, z_m1, z_sub, z_iI, nI_add, nI_mulN, pk_sub, nI_clamp, Nat.reduceAdd, Nat.reduceMul, Nat.reduceSub, Nat.zero_add, Nat.add_zero, e10, iI_mul, iI_add, hx_up_s, p8] at h45
                  all_goals (try (exfalso; omega))
                  all_goals (try simp (disch := omega) only [nI_add, nI_mulN, pk_sub, nI_clamp, Nat.reduceAdd, Nat.reduceMul, Nat.reduceSub, Nat.zero_add, Nat.add_zero, e10, iI_mul, iI_add, hx_up_s, p8])
                  all_goals
                    refine Rq.s (fun _ => b28_52 (by rw [hx_up_s]; exact hP4)) ?_
                    by_cases hp : qisP q (qx q * 10 + zdg c) = true
                    · refine Rq.bt (fun _ => b28_60b) (by rw [if_pos hp]; decide) ?_
                      refine Rq.s (fun _ => b28_74b) ?_
                      try simp (disch := omega) only [nI_add, nI_mulN, pk_sub, nI_clamp, Nat.reduceAdd, Nat.reduceMul, Nat.reduceSub, Nat.zero_add, Nat.add_zero, e10, iI_mul, iI_add, hx_up_s, p8]
                      refine Rq.e (b28_79c (by first | exact Or.inl rfl | exact Or.inr rfl | (split <;> first | exact Or.inl rfl | exact Or.inr rfl))) ?_
                      refine QT.n ?_ (eqR.up eqR.rf (Or.inl rfl))
                      unfold aP
                      rw [if_neg (by omega), if_pos (by omega)]
                    · refine Rq.bf (fun _ => b28_60b) (by rw [if_neg hp]; exact fun z => z rfl) ?_
                      refine Rq.s (fun _ => b28_63 (by rw [hx_up_s]; exact hB4)) ?_
                      by_cases hg : qbegP q (qx q * 10 + zdg c) = false
                      · refine Rq.bt (fun _ => b28_71b) (by rw [hg]; rfl) ?_
                        refine Rq.s (fun _ => b28_78b) ?_
                        try simp (disch := omega) only [nI_add, nI_mulN, pk_sub, nI_clamp, Nat.reduceAdd, Nat.reduceMul, Nat.reduceSub, Nat.zero_add, Nat.add_zero, e10, iI_mul, iI_add, hx_up_s, p8]
                        refine Rq.e (b28_79b (by first | exact Or.inl rfl | exact Or.inr rfl | (split <;> first | exact Or.inl rfl | exact Or.inr rfl))) ?_
                        refine QT.n ?_ (eqR.up eqR.rf (Or.inl rfl))
                        unfold aP
                        rw [if_neg (by omega), if_pos (by omega)]
                      · refine Rq.bf (fun _ => b28_71b) (by rw [eq_true_of_ne_false hg]; decide) ?_
                        refine Rq.s (fun _ => b28_74b) ?_
                        try simp (disch := omega) only [nI_add, nI_mulN, pk_sub, nI_clamp, Nat.reduceAdd, Nat.reduceMul, Nat.reduceSub, Nat.zero_add, Nat.add_zero, e10, iI_mul, iI_add, hx_up_s, p8]
                        refine Rq.e (b28_79c (by first | exact Or.inl rfl | exact Or.inr rfl | (split <;> first | exact Or.inl rfl | exact Or.inr rfl))) ?_
                        refine QT.n ?_ (eqR.up eqR.rf (Or.inl rfl))
                        unfold aP
                        rw [if_neg (by omega), if_pos (by omega)]
theorem m22 {sc : Nat × (Nat → Int32)} {d : Nat} {D : Nat → Nat → Int32} {G : Nat → Nat → Int64} {q : RS} {c : Nat} (HR : RepR D q) (HQ : Qok q) (hc : c < 200) : Cq sc (d + 4) 22 [.ref 12, .int (nI c)] D G (QT (aT q c) D) := by
  obtain ⟨p0, p1, p3, p5, p6, p7, p8, ph, pd⟩ := id HR
  obtain ⟨k0, k1, k2, k3, k4, k5, k6, k7⟩ := id HQ
  refine Cq.c (fun _ _ _ => c22) ?_
  rcases (by omega : qp q = 0 ∨ qp q = 1 ∨ qp q = 2 ∨ qp q = 3) with e | e | e | e
  · have eT : aT q c = aW q c := by unfold aT; rw [if_pos e]
    rw [eT]
    refine Rq.s (fun _ K => b22_0 (fun _ => K) (fun h => by exfalso; (try simp (disch := omega) only [Int32.le_iff_toInt_le, Int32.lt_iff_toInt_lt, z_eq, z_nI, z_0, z_1, z_2, z_3, p5] at h) <;> omega) (fun h => by exfalso; (try simp (disch := omega) only [Int32.le_iff_toInt_le, Int32.lt_iff_toInt_lt, z_eq, z_nI, z_0, z_1, z_2, z_3, p5] at h) <;> omega) (fun h => by exfalso; (try simp (disch := omega) only [Int32.le_iff_toInt_le, Int32.lt_iff_toInt_lt, z_eq, z_nI, z_0, z_1, z_2, z_3, p5] at h) <;> omega)) ?_
    obtain ⟨r9, D5, hC5, e3, e4⟩ := m25 (sc := sc) (d := d + 2) (G := G) HR HQ hc
    rcases e4 with ⟨q2, e5, rfl, e6⟩ | ⟨e5, rfl⟩
    · refine Rq.s (fun _ => b22_32 hC5) ?_
      exact Rq.e (b22_37 (Or.inr rfl)) (QT.s e5 e3 e6)
    · refine Rq.s (fun _ => b22_32 hC5) ?_
      exact Rq.e (b22_37 (Or.inl rfl)) (QT.n e5 e3)
  · have eT : aT q c = aE q c := by unfold aT; rw [if_neg (by omega), if_pos e]
    rw [eT]
    refine Rq.s (fun _ K => b22_0 (fun h => by exfalso; (try simp (disch := omega) only [Int32.le_iff_toInt_le, Int32.lt_iff_toInt_lt, z_eq, z_nI, z_0, z_1, z_2, z_3, p5] at h) <;> omega) (fun _ => K) (fun h => by exfalso; (try simp (disch := omega) only [Int32.le_iff_toInt_le, Int32.lt_iff_toInt_lt, z_eq, z_nI, z_0, z_1, z_2, z_3, p5] at h) <;> omega) (fun h => by exfalso; (try simp (disch := omega) only [Int32.le_iff_toInt_le, Int32.lt_iff_toInt_lt, z_eq, z_nI, z_0, z_1, z_2, z_3, p5] at h) <;> omega)) ?_
    obtain ⟨r9, D5, hC5, e3, e4⟩ := m26 (sc := sc) (d := d + 2) (G := G) HR HQ hc
    rcases e4 with ⟨q2, e5, rfl, e6⟩ | ⟨e5, rfl⟩
    · refine Rq.s (fun _ => b22_38 hC5) ?_
      exact Rq.e (b22_43 (Or.inr rfl)) (QT.s e5 e3 e6)
    · refine Rq.s (fun _ => b22_38 hC5) ?_
      exact Rq.e (b22_43 (Or.inl rfl)) (QT.n e5 e3)
  · have eT : aT q c = aN q c := by unfold aT; rw [if_neg (by omega), if_neg (by omega), if_pos e]
    rw [eT]
    refine Rq.s (fun _ K => b22_0 (fun h => by exfalso; (try simp (disch := omega) only [Int32.le_iff_toInt_le, Int32.lt_iff_toInt_lt, z_eq, z_nI, z_0, z_1, z_2, z_3, p5] at h) <;> omega) (fun h => by exfalso; (try simp (disch := omega) only [Int32.le_iff_toInt_le, Int32.lt_iff_toInt_lt, z_eq, z_nI, z_0, z_1, z_2, z_3, p5] at h) <;> omega) (fun _ => K) (fun h => by exfalso; (try simp (disch := omega) only [Int32.le_iff_toInt_le, Int32.lt_iff_toInt_lt, z_eq, z_nI, z_0, z_1, z_2, z_3, p5] at h) <;> omega)) ?_
    obtain ⟨r9, D5, hC5, e3, e4⟩ := m27 (sc := sc) (d := d + 2) (G := G) HR HQ hc
    rcases e4 with ⟨q2, e5, rfl, e6⟩ | ⟨e5, rfl⟩
    · refine Rq.s (fun _ => b22_44 hC5) ?_
      exact Rq.e (b22_49 (Or.inr rfl)) (QT.s e5 e3 e6)
    · refine Rq.s (fun _ => b22_44 hC5) ?_
      exact Rq.e (b22_49 (Or.inl rfl)) (QT.n e5 e3)
  · have eT : aT q c = aP q c := by unfold aT; rw [if_neg (by omega), if_neg (by omega), if_neg (by omega)]
    rw [eT]
    refine Rq.s (fun _ K => b22_0 (fun h => by exfalso; (try simp (disch := omega) only [Int32.le_iff_toInt_le, Int32.lt_iff_toInt_lt, z_eq, z_nI, z_0, z_1, z_2, z_3, p5] at h) <;> omega) (fun h => by exfalso; (try simp (disch := omega) only [Int32.le_iff_toInt_le, Int32.lt_iff_toInt_lt, z_eq, z_nI, z_0, z_1, z_2, z_3, p5] at h) <;> omega) (fun h => by exfalso; (try simp (disch := omega) only [Int32.le_iff_toInt_le, Int32.lt_iff_toInt_lt, z_eq, z_nI, z_0, z_1, z_2, z_3, p5] at h) <;> omega) (fun _ => K)) ?_
    obtain ⟨r9, D5, hC5, e3, e4⟩ := m28 (sc := sc) (d := d) (G := G) HR HQ hc
    rcases e4 with ⟨q2, e5, rfl, e6⟩ | ⟨e5, rfl⟩
    · refine Rq.s (fun _ => b22_50 hC5) ?_
      exact Rq.e (b22_55 (Or.inr rfl)) (QT.s e5 e3 e6)
    · refine Rq.s (fun _ => b22_50 hC5) ?_
      exact Rq.e (b22_55 (Or.inl rfl)) (QT.n e5 e3)
/-- the first error among m characters from i on -/
def zfe (b : Nat → Nat) : Nat → Nat → Nat
  | 0, i => i
  | m + 1, i => match aSt b (i + 1) with
    | none => i
    | some _ => zfe b m (i + 1)
theorem zfe_n {b : Nat → Nat} {m i : Nat} (h : aSt b (i + 1) = none) : zfe b (m + 1) i = i := by rw [zfe, h]
theorem zfe_s {b : Nat → Nat} {m i : Nat} {q : RS} (h : aSt b (i + 1) = some q) : zfe b (m + 1) i = zfe b m (i + 1) := by rw [zfe, h]
theorem zfe_spec {b : Nat → Nat} : ∀ m i, (∃ q, aSt b i = some q) → zfe b m i ≤ i + m ∧ i ≤ zfe b m i ∧ (∃ q, aSt b (zfe b m i) = some q) ∧ (zfe b m i < i + m → aSt b (zfe b m i + 1) = none)
  | 0, i, h => ⟨Nat.le_refl _, Nat.le_refl _, h, fun z => absurd z (by show ¬ i < i + 0; omega)⟩
  | m + 1, i, h => by
    cases e : aSt b (i + 1) with
    | none =>
      rw [zfe_n e]
      exact ⟨by omega, Nat.le_refl _, h, fun _ => e⟩
    | some q =>
      rw [zfe_s e]
      obtain ⟨h1, h2, h3, h4⟩ := zfe_spec m (i + 1) ⟨q, e⟩
      exact ⟨by omega, by omega, h3, fun z => h4 (by omega)⟩
/-- where reading stops, there it is -/
theorem zfe_at {b : Nat → Nat} {len e : Nat} {q : RS} (he : e < len) (h : aSt b e = some q) (h2 : aT q (b e) = none) : zfe b len 0 = e := by
  obtain ⟨h3, h4, ⟨q3, h5⟩, h6⟩ := zfe_spec (b := b) len 0 ⟨_, rfl⟩
  have h7 : aSt b (e + 1) = none := by rw [aSt_s h]; exact h2
  rcases Nat.lt_trichotomy (zfe b len 0) e with c | c | c
  · have := aSt_none (h6 (by omega)) (e - (zfe b len 0 + 1))
    rw [show zfe b len 0 + 1 + (e - (zfe b len 0 + 1)) = e by omega, h] at this
    cases this
  · exact c
  · have := aSt_none h7 (zfe b len 0 - (e + 1))
    rw [show e + 1 + (zfe b len 0 - (e + 1)) = zfe b len 0 by omega, h5] at this
    cases this
theorem zfe_end {b : Nat → Nat} {len : Nat} {q : RS} (h : aSt b len = some q) : zfe b len 0 = len := by
  obtain ⟨h3, h4, h5, h6⟩ := zfe_spec (b := b) len 0 ⟨_, rfl⟩
  by_cases c : zfe b len 0 < len
  · have := aSt_none (h6 (by omega)) (len - (zfe b len 0 + 1))
    rw [show zfe b len 0 + 1 + (len - (zfe b len 0 + 1)) = len by omega, h] at this
    cases this
  · omega
def BF (D : Nat → Nat → Int32) (len : Nat) (b : Nat → Nat) : Prop := D 0 7 = nI len ∧ len ≤ 60 ∧ (∀ i, i < len → D 11 i = nI (b i)) ∧ ∀ i, i < len → b i < 200
theorem m86 {sc : Nat × (Nat → Int32)} {d : Nat} {D : Nat → Nat → Int32} {G : Nat → Nat → Int64} {len : Nat} {b : Nat → Nat} (HB : BF D len b) : Cq sc (d + 5) 86 [.ref 0] D G (fun r D2 => r = .inl (some (.int (nI (zfe b len 0)))) ∧ eqR D D2 ∧ ∀ q, aSt b len = some q → RepR D2 q) := by
  obtain ⟨b0, b1, b2, b3⟩ := id HB
  have L : ∀ n i q D3, len - i = n → i ≤ len → eqR D D3 → RepR D3 q → aSt b i = some q → zfe b len 0 = zfe b (len - i) i → Rq sc (d + 5) 86 (9, [some (.ref 0), some (.int (nI i))], [], (hx_S0, D3, G), 0) G (fun r D2 => r = .inl (some (.int (nI (zfe b len 0)))) ∧ eqR D D2 ∧ ∀ q, aSt b len = some q → RepR D2 q) := by
    intro n
    induction n using Nat.strongRecOn with
    | _ n ih =>
    intro i q D3 hn hi hE HR hq hz
    have k0 : D3 0 = D 0 := hE 0 (by omega) (by omega) (by omega)
    have k11 : D3 11 = D 11 := hE 11 (by omega) (by omega) (by omega)
    refine Rq.b (fun _ => b86_9) (fun h9 => ?_) (fun h9 => ?_)
    · try simp (disch := omega) only [Int32.le_iff_toInt_le, Int32.lt_iff_toInt_lt, z_eq, z_nI, z_0, z_m1, z_sub, nI_add, nI_mulN, pk_sub, nI_clamp, Nat.reduceAdd, Nat.reduceMul, Nat.reduceSub, Nat.zero_add, Nat.add_zero, k0, b0] at h9
      all_goals (try (exfalso; omega))
      all_goals
        refine Rq.e (b86_41) ?_
        refine ⟨?_, hE, fun q9 h9 => ?_⟩
        · rw [k0, b0, hz, show i = len by omega, Nat.sub_self]
          rfl
        · rw [show i = len by omega, h9] at hq
          cases hq
          exact HR
    · try simp (disch := omega) only [Int32.le_iff_toInt_le, Int32.lt_iff_toInt_lt, z_eq, z_nI, z_0, z_m1, z_sub, nI_add, nI_mulN, pk_sub, nI_clamp, Nat.reduceAdd, Nat.reduceMul, Nat.reduceSub, Nat.zero_add, Nat.add_zero, k0, b0] at h9
      all_goals (try (exfalso; omega))
      all_goals
        have b2i := b2 i (by omega)
        have b3i := b3 i (by omega)
        obtain ⟨r9, D5, hC5, e3, e4⟩ := m22 (sc := sc) (d := d) (G := G) HR (aSt_ok _ _ hq) b3i
        rcases e4 with ⟨q2, e5, rfl, e6⟩ | ⟨e5, rfl⟩
        · refine Rq.s (fun _ => b86_17 (nI_inbT (by omega) (by omega)) (by rw [nI_clamp (by omega), k11, b2i]; exact hC5)) ?_
          refine Rq.bt (fun _ => b86_30) (by decide) ?_
          refine Rq.s (fun _ => b86_35) ?_
          rw [nI_add]
          have e7 : aSt b (i + 1) = some q2 := by rw [aSt_s hq]; exact e5
          exact ih _ (by omega) (i + 1) q2 D5 rfl (by omega) (eqR.tr hE e3) e6 e7 (by rw [hz, show len - i = (len - (i + 1)) + 1 by omega, zfe_s e7])
        · refine Rq.s (fun _ => b86_17 (nI_inbT (by omega) (by omega)) (by rw [nI_clamp (by omega), k11, b2i]; exact hC5)) ?_
          refine Rq.bf (fun _ => b86_30) (fun z => z rfl) ?_
          have e7 : aSt b (i + 1) = none := by rw [aSt_s hq]; exact e5
          refine Rq.e (b86_33) ⟨by rw [hz, show len - i = (len - (i + 1)) + 1 by omega, zfe_n e7], eqR.tr hE e3, fun q9 h9 => ?_⟩
          have := aSt_none e7 (len - (i + 1))
          rw [show i + 1 + (len - (i + 1)) = len by omega, h9] at this
          cases this
  refine Cq.c (fun _ _ _ => c86) ?_
  obtain ⟨_, D4, hC4, rfl, e1, e2⟩ := m20 (sc := sc) (d := d + 3) (D := D) (G := G)
  refine Rq.s (fun _ => b86_0 hC4) ?_
  refine Rq.s (fun _ => b86_7) ?_
  try simp (disch := omega) only [nI_add, nI_mulN, pk_sub, nI_clamp, Nat.reduceAdd, Nat.reduceMul, Nat.reduceSub, Nat.zero_add, Nat.add_zero]
  exact L _ 0 q0 D4 rfl (by omega) e1 e2 rfl rfl
