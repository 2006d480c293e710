/-! ===== whole numbers below 0 too ===== -/
theorem i_nI (n : Nat) : nI n = iI (n : Int) := (nI_ofInt n).symm
theorem iI_sub (a b : Int) : iI a - iI b = iI (a - b) := (Int32.ofInt_sub a b).symm
theorem iI_add (a b : Int) : iI a + iI b = iI (a + b) := (Int32.ofInt_add a b).symm
theorem z_iI {z : Int} (h1 : -2147483648 ≤ z) (h2 : z < 2147483648) : (iI z).toInt = z := by
  unfold iI
  rw [Int32.toInt_ofInt]
  have e : (Int32.size : Nat) = 4294967296 := rfl
  exact Int.bmod_eq_of_le (by rw [e]; omega) (by rw [e]; omega)
theorem iI_abs {z : Int} (h1 : -1000000 ≤ z) (h2 : z < 1000000) : hx_absv (iI z) = iI (if z < 0 then -z else z) := by
  unfold hx_absv
  by_cases h : z < 0
  · rw [if_pos h, if_neg]
    · show iI 0 - iI z = _
      rw [iI_sub]
      congr 1
      omega
    · rw [Int32.le_iff_toInt_le, z_iI (by omega) (by omega)]
      have : (0 : Int32).toInt = 0 := rfl
      omega
  · rw [if_neg h, if_pos]
    rw [Int32.le_iff_toInt_le, z_iI (by omega) (by omega)]
    have : (0 : Int32).toInt = 0 := rfl
    omega
theorem iI_abs2 {z : Int} (h1 : -1000000 ≤ z) (h2 : z < 1000000) : (if iI z < 0 then -iI z else iI z) = iI (if z < 0 then -z else z) := by
  by_cases h : z < 0
  · rw [if_pos h, if_pos]
    · unfold iI
      exact (Int32.ofInt_neg z).symm
    · rw [Int32.lt_iff_toInt_lt, z_iI (by omega) (by omega)]
      exact h
  · rw [if_neg h, if_neg]
    rw [Int32.lt_iff_toInt_lt, z_iI (by omega) (by omega)]
    exact h
theorem iI_nI {z : Int} (h : 0 ≤ z) : iI z = nI z.toNat := by
  rw [i_nI]
  congr 1
  omega
/-! ===== the holes along a row ===== -/
/-- a distance -/
abbrev zd (st : Nat → Nat) (i : Nat) : Int := (st (i + 1) : Int) - (st i : Int)
def zwr (m : Nat) (st : Nat → Nat) (s0 s1 i : Nat) : Bool := decide (1 ≤ i ∧ i + 1 < m ∧ (s1 : Int) < (if zd st i - (zd st (i - 1) - s0) < 0 then -(zd st i - (zd st (i - 1) - s0)) else zd st i - (zd st (i - 1) - s0)))
def zlo (s gap : Int) : Nat → Int → Int → Nat → Nat
  | 0, _, _, _ => 0
  | k + 1, next, sum, t => if next - s < 1 then 0 else if gap ≤ sum + (next - s) then t else zlo s gap k (next - s) (sum + (next - s)) (t + 1)
def zlk (m : Nat) (st : Nat → Nat) (s0 s1 i : Nat) : Nat := if zwr m st s0 s1 i = true then (if zd st i < zd st (i - 1) - s0 then 0 else zlo s0 (zd st i) 5 (zd st (i - 1) - s0) (zd st (i - 1) - s0) 1) else 0
def zhp (m : Nat) (st ow : Nat → Nat) (s0 s1 i j : Nat) : Int32 := if m ≤ i then -1 else if j = 0 then nI (st i) else if j = 1 then nI (ow i) else if j = 2 then (if i + 1 < m then iI (zd st i) else -1) else if j = 3 then nI (if zwr m st s0 s1 i = true then 1 else 0) else nI (zlk m st s0 s1 i)
/-- the class's line of holes -/
def Line (D : Nat → Nat → Int32) (m : Nat) (st ow : Nat → Nat) (s0 s1 : Nat) : Prop := D 19 2 = nI m ∧ m ≤ 28 ∧ (∀ i, i < m → D 20 i = nI (st i)) ∧ (∀ i, i < m → D 21 i = nI (ow i)) ∧ (∀ i, i < m → st i < 420) ∧ D 19 3 = nI s0 ∧ D 19 4 = nI s1 ∧ s0 ≤ 9 ∧ s1 ≤ 9 ∧ (∀ i, i + 1 < m → st i < st (i + 1))

theorem m12 {sc : Nat × (Nat → Int32)} {d : Nat} {D : Nat → Nat → Int32} {G : Nat → Nat → Int64} {m : Nat} {st ow : Nat → Nat} {s0 s1 : Nat} {i : Nat} (HL : Line D m st ow s0 s1) (hi : i + 1 < m) : Cl sc d 12 [.ref 19, .int (nI i)] (hx_S0, D, G) (.inl (some (.int (iI (zd st i))))) (hx_S0, D, G) := by
  obtain ⟨l0, lm, l1, l2, l3, l4, l5, l6, l7, l8⟩ := id HL
  have l1i := l1 i (by omega)
  have l1j := l1 (i + 1) (by omega)
  refine Cq.p ?_
  refine Cq.c (fun _ _ _ => c12) ?_
  refine Rq.b (fun _ => b12_0) (fun h0 => ?_) (fun h0 => ?_)
  · try simp (disch := omega) only [Int32.le_iff_toInt_le, Int32.lt_iff_toInt_lt, z_eq, z_nI, z_0, z_m1, z_sub, nI_add, nI_mulN, pk_sub, nI_clamp, Nat.reduceAdd, Nat.reduceMul, Nat.reduceSub, Nat.zero_add, Nat.add_zero, l0, l1i, l1j] at h0
    all_goals (try (exfalso; omega))
    all_goals
      refine Rq.e (b12_14) ?_
      omega
  · try simp (disch := omega) only [Int32.le_iff_toInt_le, Int32.lt_iff_toInt_lt, z_eq, z_nI, z_0, z_m1, z_sub, nI_add, nI_mulN, pk_sub, nI_clamp, Nat.reduceAdd, Nat.reduceMul, Nat.reduceSub, Nat.zero_add, Nat.add_zero, l0, l1i, l1j] at h0
    all_goals (try (exfalso; omega))
    all_goals
      refine Rq.b (fun _ => b12_4) (fun h4 => ?_) (fun h4 => ?_)
      · try simp (disch := omega) only [Int32.le_iff_toInt_le, Int32.lt_iff_toInt_lt, z_eq, z_nI, z_0, z_m1, z_sub, nI_add, nI_mulN, pk_sub, nI_clamp, Nat.reduceAdd, Nat.reduceMul, Nat.reduceSub, Nat.zero_add, Nat.add_zero, l0, l1i, l1j] at h4
        all_goals (try (exfalso; omega))
        all_goals
          refine Rq.e (b12_16 (by (try simp (disch := omega) only [nI_add, nI_mulN, pk_sub, nI_clamp, Nat.reduceAdd, Nat.reduceMul, Nat.reduceSub, Nat.zero_add, Nat.add_zero, l0, l1i, l1j]); exact nI_inbT (by omega) (by omega)) (by (try simp (disch := omega) only [nI_add, nI_mulN, pk_sub, nI_clamp, Nat.reduceAdd, Nat.reduceMul, Nat.reduceSub, Nat.zero_add, Nat.add_zero, l0, l1i, l1j]); exact nI_inbT (by omega) (by omega))) ?_
          refine Qp.i ?_
          simp (disch := omega) only [nI_add, nI_clamp, l1i, l1j]
          rw [i_nI, i_nI, iI_sub]
      · try simp (disch := omega) only [Int32.le_iff_toInt_le, Int32.lt_iff_toInt_lt, z_eq, z_nI, z_0, z_m1, z_sub, nI_add, nI_mulN, pk_sub, nI_clamp, Nat.reduceAdd, Nat.reduceMul, Nat.reduceSub, Nat.zero_add, Nat.add_zero, l0, l1i, l1j] at h4
        all_goals (try (exfalso; omega))
        all_goals
          refine Rq.e (b12_14) ?_
          omega
theorem m12n {sc : Nat × (Nat → Int32)} {d : Nat} {D : Nat → Nat → Int32} {G : Nat → Nat → Int64} {m : Nat} {st ow : Nat → Nat} {s0 s1 : Nat} {x : Int32} (HL : Line D m st ow s0 s1) (hx : x.toInt < 0 ∨ (m : Int) ≤ x.toInt + 1) : Cl sc d 12 [.ref 19, .int x] (hx_S0, D, G) (.inl (some (.int (-1)))) (hx_S0, D, G) := by
  obtain ⟨l0, lm, l1, l2, l3, l4, l5, l6, l7, l8⟩ := id HL
  refine Cq.p ?_
  refine Cq.c (fun _ _ _ => c12) ?_
  refine Rq.b (fun _ => b12_0) (fun h0 => ?_) (fun h0 => ?_)
  · try simp (disch := omega) only [Int32.le_iff_toInt_le, Int32.lt_iff_toInt_lt, z_eq, z_nI, z_0, z_m1, z_sub, nI_add, nI_mulN, pk_sub, nI_clamp, Nat.reduceAdd, Nat.reduceMul, Nat.reduceSub, Nat.zero_add, Nat.add_zero, l0] at h0
    all_goals (try (exfalso; omega))
    all_goals
      refine Rq.e (b12_14) ?_
      exact Qp.i rfl
  · try simp (disch := omega) only [Int32.le_iff_toInt_le, Int32.lt_iff_toInt_lt, z_eq, z_nI, z_0, z_m1, z_sub, nI_add, nI_mulN, pk_sub, nI_clamp, Nat.reduceAdd, Nat.reduceMul, Nat.reduceSub, Nat.zero_add, Nat.add_zero, l0] at h0
    all_goals (try (exfalso; omega))
    all_goals
      refine Rq.b (fun _ => b12_4) (fun h4 => ?_) (fun h4 => ?_)
      · try simp (disch := omega) only [Int32.le_iff_toInt_le, Int32.lt_iff_toInt_lt, z_eq, z_nI, z_0, z_m1, z_sub, nI_add, nI_mulN, pk_sub, nI_clamp, Nat.reduceAdd, Nat.reduceMul, Nat.reduceSub, Nat.zero_add, Nat.add_zero, l0] at h4
        all_goals (try (exfalso; omega))
        all_goals
          refine Rq.e (b12_16 (by (try simp (disch := omega) only [nI_add, nI_mulN, pk_sub, nI_clamp, Nat.reduceAdd, Nat.reduceMul, Nat.reduceSub, Nat.zero_add, Nat.add_zero, l0]); exact nI_inbT (by omega) (by omega)) (by (try simp (disch := omega) only [nI_add, nI_mulN, pk_sub, nI_clamp, Nat.reduceAdd, Nat.reduceMul, Nat.reduceSub, Nat.zero_add, Nat.add_zero, l0]); exact nI_inbT (by omega) (by omega))) ?_
          omega
      · try simp (disch := omega) only [Int32.le_iff_toInt_le, Int32.lt_iff_toInt_lt, z_eq, z_nI, z_0, z_m1, z_sub, nI_add, nI_mulN, pk_sub, nI_clamp, Nat.reduceAdd, Nat.reduceMul, Nat.reduceSub, Nat.zero_add, Nat.add_zero, l0] at h4
        all_goals (try (exfalso; omega))
        all_goals
          refine Rq.e (b12_14) ?_
          exact Qp.i rfl
theorem m13 {sc : Nat × (Nat → Int32)} {d : Nat} {D : Nat → Nat → Int32} {G : Nat → Nat → Int64} {m : Nat} {st ow : Nat → Nat} {s0 s1 : Nat} {i : Nat} (HL : Line D m st ow s0 s1) (hi : i < m) (h1 : 1 ≤ i) : Cl sc (d + 1) 13 [.ref 19, .int (nI i)] (hx_S0, D, G) (.inl (some (.int (iI (zd st (i - 1) - s0))))) (hx_S0, D, G) := by
  obtain ⟨l0, lm, l1, l2, l3, l4, l5, l6, l7, l8⟩ := id HL
  refine Cq.p ?_
  refine Cq.c (fun _ _ _ => c13) ?_
  refine Rq.s (fun _ => b13_0 (by (try simp (disch := omega) only [nI_add, nI_mulN, pk_sub, nI_clamp, Nat.reduceAdd, Nat.reduceMul, Nat.reduceSub, Nat.zero_add, Nat.add_zero, l4]); exact m12 HL (by omega))) ?_
  refine Rq.e (b13_7) ?_
  refine Qp.i ?_
  rw [l4, i_nI, iI_sub]
theorem m13n {sc : Nat × (Nat → Int32)} {d : Nat} {D : Nat → Nat → Int32} {G : Nat → Nat → Int64} {m : Nat} {st ow : Nat → Nat} {s0 s1 : Nat} (HL : Line D m st ow s0 s1) : ∃ z, Cl sc (d + 1) 13 [.ref 19, .int (nI 0)] (hx_S0, D, G) (.inl (some (.int z))) (hx_S0, D, G) := by
  obtain ⟨l0, lm, l1, l2, l3, l4, l5, l6, l7, l8⟩ := id HL
  refine ⟨(-1) - nI s0, Cq.p ?_⟩
  refine Cq.c (fun _ _ _ => c13) ?_
  refine Rq.s (fun _ => b13_0 (by (try simp (disch := omega) only [nI_add, nI_mulN, pk_sub, nI_clamp, Nat.reduceAdd, Nat.reduceMul, Nat.reduceSub, Nat.zero_add, Nat.add_zero, l4]); exact m12n HL (Or.inl (by decide)))) ?_
  refine Rq.e (b13_7) ?_
  exact Qp.i (by rw [l4])
theorem m14 {sc : Nat × (Nat → Int32)} {d : Nat} {D : Nat → Nat → Int32} {G : Nat → Nat → Int64} {m : Nat} {st ow : Nat → Nat} {s0 s1 : Nat} {i : Nat} (HL : Line D m st ow s0 s1) (hi : i < m) : Cl sc (d + 2) 14 [.ref 19, .int (nI i)] (hx_S0, D, G) (.inl (some (.int (nI (if zwr m st s0 s1 i = true then 1 else 0))))) (hx_S0, D, G) := by
  obtain ⟨l0, lm, l1, l2, l3, l4, l5, l6, l7, l8⟩ := id HL
  have b0 := l3 i hi
  have b1 : i + 1 < m → st (i + 1) < 420 := fun h => l3 _ h
  have b2 : 1 ≤ i → st (i - 1) < 420 := fun h => l3 _ (by omega)
  have b3 : 1 ≤ i → i - 1 + 1 = i := by omega
  refine Cq.p ?_
  refine Cq.c (fun _ _ _ => c14) ?_
  refine Rq.b (fun _ => b14_0) (fun h0 => ?_) (fun h0 => ?_)
  · try simp (disch := omega) only [Int32.le_iff_toInt_le, Int32.lt_iff_toInt_lt, z_eq, z_nI, z_0, z_m1, z_sub, z_iI, iI_sub, iI_abs, l5, nI_add, nI_mulN, pk_sub, nI_clamp, Nat.reduceAdd, Nat.reduceMul, Nat.reduceSub, Nat.zero_add, Nat.add_zero, l0] at h0
    all_goals (try (exfalso; omega))
    all_goals
      refine Rq.e (b14_15) ?_
      refine Qp.i ?_
      rw [show zwr m st s0 s1 i = false by unfold zwr; exact decide_eq_false (by omega)]
      rfl
  · try simp (disch := omega) only [Int32.le_iff_toInt_le, Int32.lt_iff_toInt_lt, z_eq, z_nI, z_0, z_m1, z_sub, z_iI, iI_sub, iI_abs, l5, nI_add, nI_mulN, pk_sub, nI_clamp, Nat.reduceAdd, Nat.reduceMul, Nat.reduceSub, Nat.zero_add, Nat.add_zero, l0] at h0
    all_goals (try (exfalso; omega))
    all_goals
      refine Rq.b (fun _ => b14_5) (fun h5 => ?_) (fun h5 => ?_)
      · try simp (disch := omega) only [Int32.le_iff_toInt_le, Int32.lt_iff_toInt_lt, z_eq, z_nI, z_0, z_m1, z_sub, z_iI, iI_sub, iI_abs, l5, nI_add, nI_mulN, pk_sub, nI_clamp, Nat.reduceAdd, Nat.reduceMul, Nat.reduceSub, Nat.zero_add, Nat.add_zero, l0] at h5
        all_goals (try (exfalso; omega))
        all_goals
          refine Rq.s (fun _ => b14_17 (by (try simp (disch := omega) only [nI_add, nI_mulN, pk_sub, nI_clamp, Nat.reduceAdd, Nat.reduceMul, Nat.reduceSub, Nat.zero_add, Nat.add_zero, l0]); exact m12 HL (by omega))) ?_
          refine Rq.s (fun _ => b14_22 (by (try simp (disch := omega) only [nI_add, nI_mulN, pk_sub, nI_clamp, Nat.reduceAdd, Nat.reduceMul, Nat.reduceSub, Nat.zero_add, Nat.add_zero, l0]); exact m13 HL (by omega) (by omega))) ?_
          have b4 := b1 (by omega)
          have b5 := b2 (by omega)
          have b6 := b3 (by omega)
          have d0 : zd st i = (st (i + 1) : Int) - st i := rfl
          have d1 : zd st (i - 1) = (st (i - 1 + 1) : Int) - st (i - 1) := rfl
          rw [b6] at d1
          refine Rq.b (fun _ => b14_27) (fun h27 => ?_) (fun h27 => ?_)
          · try simp (disch := omega) only [Int32.le_iff_toInt_le, Int32.lt_iff_toInt_lt, z_eq, z_nI, z_0, z_m1, z_sub, z_iI, iI_sub, iI_abs, l5, nI_add, nI_mulN, pk_sub, nI_clamp, Nat.reduceAdd, Nat.reduceMul, Nat.reduceSub, Nat.zero_add, Nat.add_zero, l0] at h27
            all_goals (try (exfalso; omega))
            all_goals
              refine Rq.s (fun _ => b14_42) ?_
              try simp (disch := omega) only [nI_add, nI_mulN, pk_sub, nI_clamp, Nat.reduceAdd, Nat.reduceMul, Nat.reduceSub, Nat.zero_add, Nat.add_zero, l0]
              refine Rq.e (b14_43 (by first | exact Or.inl rfl | exact Or.inr rfl | (split <;> first | exact Or.inl rfl | exact Or.inr rfl))) ?_
              first | (refine Qp.i ?_; rw [show zwr m st s0 s1 i = false by unfold zwr; exact decide_eq_false (by omega)]; rfl) | (refine Qp.i ?_; rw [show zwr m st s0 s1 i = true by unfold zwr; exact decide_eq_true ⟨by omega, by omega, by omega⟩]; rfl)
          · try simp (disch := omega) only [Int32.le_iff_toInt_le, Int32.lt_iff_toInt_lt, z_eq, z_nI, z_0, z_m1, z_sub, z_iI, iI_sub, iI_abs, l5, nI_add, nI_mulN, pk_sub, nI_clamp, Nat.reduceAdd, Nat.reduceMul, Nat.reduceSub, Nat.zero_add, Nat.add_zero, l0] at h27
            all_goals (try (exfalso; omega))
            all_goals
              refine Rq.s (fun _ => b14_38) ?_
              try simp (disch := omega) only [nI_add, nI_mulN, pk_sub, nI_clamp, Nat.reduceAdd, Nat.reduceMul, Nat.reduceSub, Nat.zero_add, Nat.add_zero, l0]
              refine Rq.e (b14_43b (by first | exact Or.inl rfl | exact Or.inr rfl | (split <;> first | exact Or.inl rfl | exact Or.inr rfl))) ?_
              first | (refine Qp.i ?_; rw [show zwr m st s0 s1 i = false by unfold zwr; exact decide_eq_false (by omega)]; rfl) | (refine Qp.i ?_; rw [show zwr m st s0 s1 i = true by unfold zwr; exact decide_eq_true ⟨by omega, by omega, by omega⟩]; rfl)
      · try simp (disch := omega) only [Int32.le_iff_toInt_le, Int32.lt_iff_toInt_lt, z_eq, z_nI, z_0, z_m1, z_sub, z_iI, iI_sub, iI_abs, l5, nI_add, nI_mulN, pk_sub, nI_clamp, Nat.reduceAdd, Nat.reduceMul, Nat.reduceSub, Nat.zero_add, Nat.add_zero, l0] at h5
        all_goals (try (exfalso; omega))
        all_goals
          refine Rq.e (b14_15) ?_
          refine Qp.i ?_
          rw [show zwr m st s0 s1 i = false by unfold zwr; exact decide_eq_false (by omega)]
          rfl
theorem zlo_u (s gap next sum : Int) (k t : Nat) : zlo s gap (k + 1) next sum t = if next - s < 1 then 0 else if gap ≤ sum + (next - s) then t else zlo s gap k (next - s) (sum + (next - s)) (t + 1) := rfl
theorem m15 {sc : Nat × (Nat → Int32)} {d : Nat} {D : Nat → Nat → Int32} {G : Nat → Nat → Int64} {m : Nat} {st ow : Nat → Nat} {s0 s1 : Nat} {i : Nat} (HL : Line D m st ow s0 s1) (hi : i < m) : Cl sc (d + 3) 15 [.ref 19, .int (nI i)] (hx_S0, D, G) (.inl (some (.int (nI (zlk m st s0 s1 i))))) (hx_S0, D, G) := by
  obtain ⟨l0, lm, l1, l2, l3, l4, l5, l6, l7, l8⟩ := id HL
  have b0 := l3 i hi
  have b1 : i + 1 < m → st (i + 1) < 420 := fun h => l3 _ h
  have b2 : 1 ≤ i → st (i - 1) < 420 := fun h => l3 _ (by omega)
  have b3 : 1 ≤ i → i - 1 + 1 = i := by omega
  by_cases hw : zwr m st s0 s1 i = true
  · have hw2 := hw
    unfold zwr at hw2
    rw [decide_eq_true_eq] at hw2
    have hw3 := hw2.1
    have hw4 := hw2.2.1
    have b4 := b1 (by omega)
    have b5 := b2 (by omega)
    have b6 := b3 (by omega)
    have d0 : zd st i = (st (i + 1) : Int) - st i := rfl
    have d1 : zd st (i - 1) = (st (i - 1 + 1) : Int) - st (i - 1) := rfl
    rw [b6] at d1
    have L : ∀ (k t : Nat) (next sum : Int), t + k = 6 → 1 ≤ t → next ≤ 1000 → -1100 + 9 * (k : Int) ≤ next → sum ≤ 10000 - 1000 * (k : Int) → -10000 + 1100 * (k : Int) ≤ sum → zlk m st s0 s1 i = zlo s0 (zd st i) k next sum t → Rq sc (d + 3) 15 (33, [some (.ref 19), none, some (.int (iI (zd st i))), some (.int (iI next)), some (.int (iI sum)), some (.int (nI t))], [], (hx_S0, D, G), 0) G (Qp (nI (zlk m st s0 s1 i)) D) := by
      intro k
      induction k with
      | zero =>
        intro t next sum h1 h2 n1 n2 n3 n4 hz
        refine Rq.bt (fun _ => b15_33) (by rw [Int32.lt_iff_toInt_lt, z_nI (by omega), z_nI (by omega)]; omega) ?_
        refine Rq.e (b15_74) ?_
        exact Qp.i (by rw [hz]; rfl)
      | succ k ih =>
        intro t next sum h1 h2 n1 n2 n3 n4 hz
        rw [zlo_u] at hz
        refine Rq.bf (fun _ => b15_33) (by rw [Int32.lt_iff_toInt_lt, z_nI (by omega), z_nI (by omega)]; omega) ?_
        refine Rq.b (fun _ => b15_39) (fun h39 => ?_) (fun h39 => ?_)
        · try simp (disch := omega) only [Int32.le_iff_toInt_le, Int32.lt_iff_toInt_lt, z_eq, z_nI, z_0, z_m1, z_sub, z_iI, iI_sub, iI_add, nI_add, nI_mulN, pk_sub, nI_clamp, Nat.reduceAdd, Nat.reduceMul, Nat.reduceSub, Nat.zero_add, Nat.add_zero, l0, l4, i_nI s0] at h39
          all_goals (try (exfalso; omega))
          all_goals (try simp (disch := omega) only [nI_add, nI_mulN, pk_sub, nI_clamp, Nat.reduceAdd, Nat.reduceMul, Nat.reduceSub, Nat.zero_add, Nat.add_zero, iI_sub, iI_add, l0, l4, i_nI s0])
          all_goals
            refine Rq.b (fun _ => b15_59) (fun h59 => ?_) (fun h59 => ?_)
            · try simp (disch := omega) only [Int32.le_iff_toInt_le, Int32.lt_iff_toInt_lt, z_eq, z_nI, z_0, z_m1, z_sub, z_iI, iI_sub, iI_add, nI_add, nI_mulN, pk_sub, nI_clamp, Nat.reduceAdd, Nat.reduceMul, Nat.reduceSub, Nat.zero_add, Nat.add_zero, l0, l4, i_nI s0] at h59
              all_goals (try (exfalso; omega))
              all_goals
                refine Rq.s (fun _ => b15_68) ?_
                try simp (disch := omega) only [nI_add, nI_mulN, pk_sub, nI_clamp, Nat.reduceAdd, Nat.reduceMul, Nat.reduceSub, Nat.zero_add, Nat.add_zero, iI_sub, iI_add, l0, l4, i_nI s0]
                rw [if_neg (by omega), if_neg (by omega)] at hz
                exact ih (t + 1) _ _ (by omega) (by omega) (by omega) (by omega) (by omega) (by omega) hz
            · try simp (disch := omega) only [Int32.le_iff_toInt_le, Int32.lt_iff_toInt_lt, z_eq, z_nI, z_0, z_m1, z_sub, z_iI, iI_sub, iI_add, nI_add, nI_mulN, pk_sub, nI_clamp, Nat.reduceAdd, Nat.reduceMul, Nat.reduceSub, Nat.zero_add, Nat.add_zero, l0, l4, i_nI s0] at h59
              all_goals (try (exfalso; omega))
              all_goals
                refine Rq.e (b15_65) ?_
                exact Qp.i (by rw [hz, if_neg (by omega), if_pos (by omega)])
        · try simp (disch := omega) only [Int32.le_iff_toInt_le, Int32.lt_iff_toInt_lt, z_eq, z_nI, z_0, z_m1, z_sub, z_iI, iI_sub, iI_add, nI_add, nI_mulN, pk_sub, nI_clamp, Nat.reduceAdd, Nat.reduceMul, Nat.reduceSub, Nat.zero_add, Nat.add_zero, l0, l4, i_nI s0] at h39
          all_goals (try (exfalso; omega))
          all_goals (try simp (disch := omega) only [nI_add, nI_mulN, pk_sub, nI_clamp, Nat.reduceAdd, Nat.reduceMul, Nat.reduceSub, Nat.zero_add, Nat.add_zero, iI_sub, iI_add, l0, l4, i_nI s0])
          all_goals
            refine Rq.e (b15_57) ?_
            exact Qp.i (by rw [hz, if_pos (by omega)])
    refine Cq.p ?_
    refine Cq.c (fun _ _ _ => c15) ?_
    refine Rq.s (fun _ => b15_0 (by (try simp (disch := omega) only [nI_add, nI_mulN, pk_sub, nI_clamp, Nat.reduceAdd, Nat.reduceMul, Nat.reduceSub, Nat.zero_add, Nat.add_zero, l0, l4]); exact m12 HL hw4)) ?_
    refine Rq.s (fun _ => b15_5 (by (try simp (disch := omega) only [nI_add, nI_mulN, pk_sub, nI_clamp, Nat.reduceAdd, Nat.reduceMul, Nat.reduceSub, Nat.zero_add, Nat.add_zero, l0, l4]); exact m13 HL hi hw3)) ?_
    refine Rq.s (fun _ => b15_11 (by (try simp (disch := omega) only [nI_add, nI_mulN, pk_sub, nI_clamp, Nat.reduceAdd, Nat.reduceMul, Nat.reduceSub, Nat.zero_add, Nat.add_zero, l0, l4]); exact m14 HL hi)) ?_
    rw [if_pos hw]
    refine Rq.bf (fun _ => b15_17) (by decide) ?_
    refine Rq.b (fun _ => b15_20) (fun h20 => ?_) (fun h20 => ?_)
    · try simp (disch := omega) only [Int32.le_iff_toInt_le, Int32.lt_iff_toInt_lt, z_eq, z_nI, z_0, z_m1, z_sub, z_iI, iI_sub, iI_add, nI_add, nI_mulN, pk_sub, nI_clamp, Nat.reduceAdd, Nat.reduceMul, Nat.reduceSub, Nat.zero_add, Nat.add_zero, l0, l4] at h20
      all_goals (try (exfalso; omega))
      all_goals
        refine Rq.s (fun _ => b15_27) ?_
        try simp (disch := omega) only [nI_add, nI_mulN, pk_sub, nI_clamp, Nat.reduceAdd, Nat.reduceMul, Nat.reduceSub, Nat.zero_add, Nat.add_zero, l0, l4]
        exact L 5 1 _ _ rfl (by omega) (by omega) (by omega) (by omega) (by omega) (by unfold zlk; rw [if_pos hw, if_neg (by omega)])
    · try simp (disch := omega) only [Int32.le_iff_toInt_le, Int32.lt_iff_toInt_lt, z_eq, z_nI, z_0, z_m1, z_sub, z_iI, iI_sub, iI_add, nI_add, nI_mulN, pk_sub, nI_clamp, Nat.reduceAdd, Nat.reduceMul, Nat.reduceSub, Nat.zero_add, Nat.add_zero, l0, l4] at h20
      all_goals (try (exfalso; omega))
      all_goals
        refine Rq.e (b15_25) ?_
        refine Qp.i ?_
        unfold zlk
        rw [if_pos hw, if_pos (by omega)]
  · have hz : zlk m st s0 s1 i = 0 := by unfold zlk; rw [if_neg hw]
    have hd : ∃ z, Cl sc (d + 2) 12 [.ref 19, .int (nI i)] (hx_S0, D, G) (.inl (some (.int z))) (hx_S0, D, G) := by
      by_cases h : i + 1 < m
      · exact ⟨_, m12 HL h⟩
      · exact ⟨_, m12n HL (Or.inr (by rw [z_nI (by omega)]; omega))⟩
    have hs : ∃ z, Cl sc (d + 2) 13 [.ref 19, .int (nI i)] (hx_S0, D, G) (.inl (some (.int z))) (hx_S0, D, G) := by
      by_cases h : 1 ≤ i
      · exact ⟨_, m13 HL hi h⟩
      · rw [show i = 0 by omega]
        exact m13n HL
    obtain ⟨z1, C1⟩ := hd
    obtain ⟨z2, C2⟩ := hs
    refine Cq.p ?_
    refine Cq.c (fun _ _ _ => c15) ?_
    refine Rq.s (fun _ => b15_0 (by (try simp (disch := omega) only [nI_add, nI_mulN, pk_sub, nI_clamp, Nat.reduceAdd, Nat.reduceMul, Nat.reduceSub, Nat.zero_add, Nat.add_zero, l0, l4]); exact C1)) ?_
    refine Rq.s (fun _ => b15_5 (by (try simp (disch := omega) only [nI_add, nI_mulN, pk_sub, nI_clamp, Nat.reduceAdd, Nat.reduceMul, Nat.reduceSub, Nat.zero_add, Nat.add_zero, l0, l4]); exact C2)) ?_
    refine Rq.s (fun _ => b15_11 (by (try simp (disch := omega) only [nI_add, nI_mulN, pk_sub, nI_clamp, Nat.reduceAdd, Nat.reduceMul, Nat.reduceSub, Nat.zero_add, Nat.add_zero, l0, l4]); exact m14 HL hi)) ?_
    rw [if_neg hw]
    refine Rq.bt (fun _ => b15_17) (rfl) ?_
    refine Rq.e (b15_25) ?_
    exact Qp.i (by rw [hz])
abbrev zws (m : Nat) (st : Nat → Nat) (s0 s1 k : Nat) : Nat := zS (fun i => (if zwr m st s0 s1 i = true then 1 else 0)) k
theorem m16 {sc : Nat × (Nat → Int32)} {d : Nat} {D : Nat → Nat → Int32} {G : Nat → Nat → Int64} {m : Nat} {st ow : Nat → Nat} {s0 s1 : Nat} (HL : Line D m st ow s0 s1) : Cl sc (d + 3) 16 [.ref 19] (hx_S0, D, G) (.inl (some (.int (nI (zws m st s0 s1 m))))) (hx_S0, D, G) := by
  obtain ⟨l0, lm, l1, l2, l3, l4, l5, l6, l7, l8⟩ := id HL
  have L : ∀ n i, m - i = n → i ≤ m → Rq sc (d + 3) 16 (4, [some (.ref 19), some (.int (nI (zws m st s0 s1 i))), some (.int (nI i))], [], (hx_S0, D, G), 0) G (Qp (nI (zws m st s0 s1 m)) D) := by
    intro n
    induction n using Nat.strongRecOn with
    | _ n ih =>
    intro i hm hi
    refine Rq.b (fun _ => b16_4) (fun h4 => ?_) (fun h4 => ?_)
    · try simp (disch := omega) only [Int32.le_iff_toInt_le, Int32.lt_iff_toInt_lt, z_eq, z_nI, z_0, z_m1, z_sub, nI_add, nI_mulN, pk_sub, nI_clamp, Nat.reduceAdd, Nat.reduceMul, Nat.reduceSub, Nat.zero_add, Nat.add_zero, l0] at h4
      all_goals (try (exfalso; omega))
      all_goals
        refine Rq.e (b16_34) ?_
        exact Qp.i (by rw [show i = m by omega])
    · try simp (disch := omega) only [Int32.le_iff_toInt_le, Int32.lt_iff_toInt_lt, z_eq, z_nI, z_0, z_m1, z_sub, nI_add, nI_mulN, pk_sub, nI_clamp, Nat.reduceAdd, Nat.reduceMul, Nat.reduceSub, Nat.zero_add, Nat.add_zero, l0] at h4
      all_goals (try (exfalso; omega))
      all_goals
        refine Rq.s (fun _ => b16_12 (by (try simp (disch := omega) only [nI_add, nI_mulN, pk_sub, nI_clamp, Nat.reduceAdd, Nat.reduceMul, Nat.reduceSub, Nat.zero_add, Nat.add_zero, l0]); exact m14 HL (by omega))) ?_
        by_cases hw : zwr m st s0 s1 i = false
        · refine Rq.bt (fun _ => b16_18) (by rw [hw]; rfl) ?_
          refine Rq.s (fun _ => b16_25) ?_
          try simp (disch := omega) only [nI_add, nI_mulN, pk_sub, nI_clamp, Nat.reduceAdd, Nat.reduceMul, Nat.reduceSub, Nat.zero_add, Nat.add_zero, l0]
          refine Rq.s (fun _ => b16_26) ?_
          try simp (disch := omega) only [nI_add, nI_mulN, pk_sub, nI_clamp, Nat.reduceAdd, Nat.reduceMul, Nat.reduceSub, Nat.zero_add, Nat.add_zero, l0]
          have e : zws m st s0 s1 (i + 1) = zws m st s0 s1 i + (if zwr m st s0 s1 i = true then 1 else 0) := rfl
          have := ih _ (by omega) (i + 1) rfl (by omega)
          rw [e] at this
          first | (rw [if_neg (by rw [hw]; decide)] at this; exact this) | (rw [if_pos (eq_true_of_ne_false hw)] at this; exact this)
        · refine Rq.bf (fun _ => b16_18) (by rw [eq_true_of_ne_false hw]; decide) ?_
          refine Rq.s (fun _ => b16_21) ?_
          try simp (disch := omega) only [nI_add, nI_mulN, pk_sub, nI_clamp, Nat.reduceAdd, Nat.reduceMul, Nat.reduceSub, Nat.zero_add, Nat.add_zero, l0]
          refine Rq.s (fun _ => b16_26b) ?_
          try simp (disch := omega) only [nI_add, nI_mulN, pk_sub, nI_clamp, Nat.reduceAdd, Nat.reduceMul, Nat.reduceSub, Nat.zero_add, Nat.add_zero, l0]
          have e : zws m st s0 s1 (i + 1) = zws m st s0 s1 i + (if zwr m st s0 s1 i = true then 1 else 0) := rfl
          have := ih _ (by omega) (i + 1) rfl (by omega)
          rw [e] at this
          first | (rw [if_neg (by rw [hw]; decide)] at this; exact this) | (rw [if_pos (eq_true_of_ne_false hw)] at this; exact this)
  refine Cq.p ?_
  refine Cq.c (fun _ _ _ => c16) ?_
  refine Rq.s (fun _ => b16_0) ?_
  try simp (disch := omega) only [nI_add, nI_mulN, pk_sub, nI_clamp, Nat.reduceAdd, Nat.reduceMul, Nat.reduceSub, Nat.zero_add, Nat.add_zero]
  exact L _ 0 rfl (by omega)
abbrev zls (m : Nat) (st : Nat → Nat) (s0 s1 k : Nat) : Nat := zS (fun i => zlk m st s0 s1 i) k
theorem m17 {sc : Nat × (Nat → Int32)} {d : Nat} {D : Nat → Nat → Int32} {G : Nat → Nat → Int64} {m : Nat} {st ow : Nat → Nat} {s0 s1 : Nat} (HL : Line D m st ow s0 s1) : Cl sc (d + 4) 17 [.ref 19] (hx_S0, D, G) (.inl (some (.int (nI (zls m st s0 s1 m))))) (hx_S0, D, G) := by
  obtain ⟨l0, lm, l1, l2, l3, l4, l5, l6, l7, l8⟩ := id HL
  have L : ∀ n i, m - i = n → i ≤ m → Rq sc (d + 4) 17 (4, [some (.ref 19), some (.int (nI (zls m st s0 s1 i))), some (.int (nI i))], [], (hx_S0, D, G), 0) G (Qp (nI (zls m st s0 s1 m)) D) := by
    intro n
    induction n using Nat.strongRecOn with
    | _ n ih =>
    intro i hm hi
    refine Rq.b (fun _ => b17_4) (fun h4 => ?_) (fun h4 => ?_)
    · try simp (disch := omega) only [Int32.le_iff_toInt_le, Int32.lt_iff_toInt_lt, z_eq, z_nI, z_0, z_m1, z_sub, nI_add, nI_mulN, pk_sub, nI_clamp, Nat.reduceAdd, Nat.reduceMul, Nat.reduceSub, Nat.zero_add, Nat.add_zero, l0] at h4
      all_goals (try (exfalso; omega))
      all_goals
        refine Rq.e (b17_26) ?_
        exact Qp.i (by rw [show i = m by omega])
    · try simp (disch := omega) only [Int32.le_iff_toInt_le, Int32.lt_iff_toInt_lt, z_eq, z_nI, z_0, z_m1, z_sub, nI_add, nI_mulN, pk_sub, nI_clamp, Nat.reduceAdd, Nat.reduceMul, Nat.reduceSub, Nat.zero_add, Nat.add_zero, l0] at h4
      all_goals (try (exfalso; omega))
      all_goals
        refine Rq.s (fun _ => b17_12 (by (try simp (disch := omega) only [nI_add, nI_mulN, pk_sub, nI_clamp, Nat.reduceAdd, Nat.reduceMul, Nat.reduceSub, Nat.zero_add, Nat.add_zero, l0]); exact m15 HL (by omega))) ?_
        refine Rq.s (fun _ => b17_18) ?_
        try simp (disch := omega) only [nI_add, nI_mulN, pk_sub, nI_clamp, Nat.reduceAdd, Nat.reduceMul, Nat.reduceSub, Nat.zero_add, Nat.add_zero, l0]
        exact ih _ (by omega) (i + 1) rfl (by omega)
  refine Cq.p ?_
  refine Cq.c (fun _ _ _ => c17) ?_
  refine Rq.s (fun _ => b17_0) ?_
  try simp (disch := omega) only [nI_add, nI_mulN, pk_sub, nI_clamp, Nat.reduceAdd, Nat.reduceMul, Nat.reduceSub, Nat.zero_add, Nat.add_zero]
  exact L _ 0 rfl (by omega)
