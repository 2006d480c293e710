/-! ===== the class: the line of holes ===== -/
theorem z_1 : (1 : Int32).toInt = 1 := rfl
theorem z_2 : (2 : Int32).toInt = 2 := rfl
theorem z_3 : (3 : Int32).toInt = 3 := rfl
theorem z_4 : (4 : Int32).toInt = 4 := rfl
theorem z_5 : (5 : Int32).toInt = 5 := rfl
theorem z_6 : (6 : Int32).toInt = 6 := rfl
theorem z_7 : (7 : Int32).toInt = 7 := rfl
theorem z_8 : (8 : Int32).toInt = 8 := rfl
theorem z_9 : (9 : Int32).toInt = 9 := rfl
theorem z_10 : (10 : Int32).toInt = 10 := rfl
theorem z_11 : (11 : Int32).toInt = 11 := rfl
theorem z_12 : (12 : Int32).toInt = 12 := rfl
theorem z_13 : (13 : Int32).toInt = 13 := rfl
theorem z_14 : (14 : Int32).toInt = 14 := rfl
theorem z_15 : (15 : Int32).toInt = 15 := rfl
theorem z_16 : (16 : Int32).toInt = 16 := rfl
theorem z_17 : (17 : Int32).toInt = 17 := rfl
theorem z_18 : (18 : Int32).toInt = 18 := rfl
theorem z_19 : (19 : Int32).toInt = 19 := rfl
theorem z_20 : (20 : Int32).toInt = 20 := rfl
theorem z_21 : (21 : Int32).toInt = 21 := rfl
theorem z_22 : (22 : Int32).toInt = 22 := rfl
theorem z_23 : (23 : Int32).toInt = 23 := rfl
theorem z_24 : (24 : Int32).toInt = 24 := rfl
theorem z_25 : (25 : Int32).toInt = 25 := rfl
theorem z_26 : (26 : Int32).toInt = 26 := rfl
theorem z_27 : (27 : Int32).toInt = 27 := rfl
theorem z_28 : (28 : Int32).toInt = 28 := rfl
theorem z_29 : (29 : Int32).toInt = 29 := rfl
theorem z_30 : (30 : Int32).toInt = 30 := rfl
def Qv (v : Value) (D : Nat → Nat → Int32) : hx_RS → (Nat → Nat → Int32) → Prop := fun r D2 => r = .inl (some v) ∧ D2 = D
theorem Cq.pv {sc : Nat × (Nat → Int32)} {d k : Nat} {as : List Value} {D : Nat → Nat → Int32} {G : Nat → Nat → Int64} {v : Value} (h : Cq sc d k as D G (Qv v D)) : Cl sc d k as (hx_S0, D, G) (.inl (some v)) (hx_S0, D, G) := by
  obtain ⟨r, D2, h2, rfl, rfl⟩ := h
  exact h2
def zsh (m : Nat) (st : Nat → Nat) : UInt32 := if m < 3 then FP.fconst0 else fQ (zd st 0 - zd st (m - 1 - 1)) (m - 1 - 1)
theorem zsh_ok {m : Nat} {st ow : Nat → Nat} {s0 s1 : Nat} {D : Nat → Nat → Int32} (HL : Line D m st ow s0 s1) : fA (zsh m st) := by
  obtain ⟨l0, lm, l1, l2, l3, l4, l5, l6, l7, l8⟩ := id HL
  unfold zsh
  split
  · exact fA_0
  · have e1 := l8 0 (by omega)
    have e2 := l8 (m - 1 - 1) (by omega)
    have e3 := l3 (0 + 1) (by omega)
    have e4 := l3 (m - 1 - 1 + 1) (by omega)
    have d0 : zd st 0 = (st (0 + 1) : Int) - st 0 := rfl
    have d1 : zd st (m - 1 - 1) = (st (m - 1 - 1 + 1) : Int) - st (m - 1 - 1) := rfl
    exact fA_all (by omega) (by omega) (by omega) (by omega)
theorem m18 {sc : Nat × (Nat → Int32)} {d : Nat} {D : Nat → Nat → Int32} {G : Nat → Nat → Int64} {m : Nat} {st ow : Nat → Nat} {s0 s1 : Nat} (HL : Line D m st ow s0 s1) : Cl sc (d + 1) 18 [.ref 19] (hx_S0, D, G) (.inl (some (.float (zsh m st)))) (hx_S0, D, G) := by
  obtain ⟨l0, lm, l1, l2, l3, l4, l5, l6, l7, l8⟩ := id HL
  have hA := zsh_ok HL
  refine Cq.pv ?_
  refine Cq.c (fun _ _ _ => c18) ?_
  refine Rq.b (fun _ => b18_0) (fun h0 => ?_) (fun h0 => ?_)
  · try simp (disch := omega) only [Int32.le_iff_toInt_le, Int32.lt_iff_toInt_lt, z_eq, z_nI, z_0, z_m1, z_sub, nI_add, nI_mulN, pk_sub, nI_clamp, Nat.reduceAdd, Nat.reduceMul, Nat.reduceSub, Nat.zero_add, Nat.add_zero, l0] at h0
    all_goals (try (exfalso; omega))
    all_goals (try simp (disch := omega) only [nI_add, nI_mulN, pk_sub, nI_clamp, Nat.reduceAdd, Nat.reduceMul, Nat.reduceSub, Nat.zero_add, Nat.add_zero, l0])
    all_goals
      refine Rq.s (fun _ => b18_14 (by (try simp (disch := omega) only [nI_add, nI_mulN, pk_sub, nI_clamp, Nat.reduceAdd, Nat.reduceMul, Nat.reduceSub, Nat.zero_add, Nat.add_zero, l0]); exact m12 HL (by omega))) ?_
      refine Rq.s (fun _ => b18_19 (by (try simp (disch := omega) only [nI_add, nI_mulN, pk_sub, nI_clamp, Nat.reduceAdd, Nat.reduceMul, Nat.reduceSub, Nat.zero_add, Nat.add_zero, l0]); exact m12 HL (by omega))) ?_
      unfold zsh at hA
      rw [if_neg (by omega)] at hA
      refine Rq.e (b18_26 (by rw [iI_sub, pk_sub (by omega)]; exact hA.1)) ?_
      refine ⟨?_, rfl⟩
      unfold zsh
      rw [if_neg (by omega), iI_sub, pk_sub (by omega)]
  · try simp (disch := omega) only [Int32.le_iff_toInt_le, Int32.lt_iff_toInt_lt, z_eq, z_nI, z_0, z_m1, z_sub, nI_add, nI_mulN, pk_sub, nI_clamp, Nat.reduceAdd, Nat.reduceMul, Nat.reduceSub, Nat.zero_add, Nat.add_zero, l0] at h0
    all_goals (try (exfalso; omega))
    all_goals (try simp (disch := omega) only [nI_add, nI_mulN, pk_sub, nI_clamp, Nat.reduceAdd, Nat.reduceMul, Nat.reduceSub, Nat.zero_add, Nat.add_zero, l0])
    all_goals
      refine Rq.e (b18_12) ?_
      exact ⟨by unfold zsh; rw [if_pos (by omega)], rfl⟩
theorem m11 {sc : Nat × (Nat → Int32)} {d : Nat} {D : Nat → Nat → Int32} {G : Nat → Nat → Int64} {m : Nat} {st ow : Nat → Nat} {s0 s1 : Nat} {i j : Nat} (HL : Line D m st ow s0 s1) (hi : i < 2 ^ 31) (hj : j ≤ 4) : Cl sc (d + 4) 11 [.ref 19, .int (nI i), .int (nI j)] (hx_S0, D, G) (.inl (some (.int (zhp m st ow s0 s1 i j)))) (hx_S0, D, G) := by
  obtain ⟨l0, lm, l1, l2, l3, l4, l5, l6, l7, l8⟩ := id HL
  refine Cq.p ?_
  refine Cq.c (fun _ _ _ => c11) ?_
  by_cases him : m ≤ i
  · refine Rq.bf (fun _ => b11_0) (by rw [l0]; exact nI_nlt him (by omega)) ?_
    exact Rq.e (b11_8) (Qp.i (by unfold zhp; rw [if_pos him]))
  have l1i := l1 i (by omega)
  have l2i := l2 i (by omega)
  have hz : ∀ v, (if j = 0 then nI (st i) else if j = 1 then nI (ow i) else if j = 2 then (if i + 1 < m then iI (zd st i) else -1) else if j = 3 then nI (if zwr m st s0 s1 i = true then 1 else 0) else nI (zlk m st s0 s1 i)) = v → zhp m st ow s0 s1 i j = v := fun v h => by unfold zhp; rw [if_neg him]; exact h
  refine Rq.bt (fun _ => b11_0) (by rw [l0]; exact nI_lt (by omega) (by omega)) ?_
  rcases (by omega : j = 0 ∨ j = 1 ∨ j = 2 ∨ j = 3 ∨ j = 4) with e | e | e | e | e <;> subst e
  · refine Rq.s (fun _ K => b11_10 (fun _ => K) (fun h => by exfalso; (try simp (disch := omega) only [Int32.le_iff_toInt_le, Int32.lt_iff_toInt_lt, z_eq, z_nI, z_0, z_m1, z_sub, z_1, z_2, z_3, z_4, z_5, z_6, z_7, z_8, z_9, z_10, z_11, z_12, z_13, z_14, z_15, z_16, z_17, z_18, z_19, z_20, z_21, z_22, z_23, z_24, z_25, z_26, z_27, z_28, z_29, z_30, nI_add, nI_mulN, pk_sub, nI_clamp, Nat.reduceAdd, Nat.reduceMul, Nat.reduceSub, Nat.zero_add, Nat.add_zero, l0, l1i, l2i] at h) <;> omega) (fun h => by exfalso; (try simp (disch := omega) only [Int32.le_iff_toInt_le, Int32.lt_iff_toInt_lt, z_eq, z_nI, z_0, z_m1, z_sub, z_1, z_2, z_3, z_4, z_5, z_6, z_7, z_8, z_9, z_10, z_11, z_12, z_13, z_14, z_15, z_16, z_17, z_18, z_19, z_20, z_21, z_22, z_23, z_24, z_25, z_26, z_27, z_28, z_29, z_30, nI_add, nI_mulN, pk_sub, nI_clamp, Nat.reduceAdd, Nat.reduceMul, Nat.reduceSub, Nat.zero_add, Nat.add_zero, l0, l1i, l2i] at h) <;> omega) (fun h => by exfalso; (try simp (disch := omega) only [Int32.le_iff_toInt_le, Int32.lt_iff_toInt_lt, z_eq, z_nI, z_0, z_m1, z_sub, z_1, z_2, z_3, z_4, z_5, z_6, z_7, z_8, z_9, z_10, z_11, z_12, z_13, z_14, z_15, z_16, z_17, z_18, z_19, z_20, z_21, z_22, z_23, z_24, z_25, z_26, z_27, z_28, z_29, z_30, nI_add, nI_mulN, pk_sub, nI_clamp, Nat.reduceAdd, Nat.reduceMul, Nat.reduceSub, Nat.zero_add, Nat.add_zero, l0, l1i, l2i] at h) <;> omega) (fun h => by exfalso; (try simp (disch := omega) only [Int32.le_iff_toInt_le, Int32.lt_iff_toInt_lt, z_eq, z_nI, z_0, z_m1, z_sub, z_1, z_2, z_3, z_4, z_5, z_6, z_7, z_8, z_9, z_10, z_11, z_12, z_13, z_14, z_15, z_16, z_17, z_18, z_19, z_20, z_21, z_22, z_23, z_24, z_25, z_26, z_27, z_28, z_29, z_30, nI_add, nI_mulN, pk_sub, nI_clamp, Nat.reduceAdd, Nat.reduceMul, Nat.reduceSub, Nat.zero_add, Nat.add_zero, l0, l1i, l2i] at h) <;> omega)) ?_
    refine Rq.e (b11_40 (by (try simp (disch := omega) only [nI_add, nI_mulN, pk_sub, nI_clamp, Nat.reduceAdd, Nat.reduceMul, Nat.reduceSub, Nat.zero_add, Nat.add_zero, l0, l1i, l2i]); exact nI_inbT (by omega) (by omega))) ?_
    refine Qp.i ?_
    try simp (disch := omega) only [nI_add, nI_mulN, pk_sub, nI_clamp, Nat.reduceAdd, Nat.reduceMul, Nat.reduceSub, Nat.zero_add, Nat.add_zero, l0, l1i, l2i]
    exact (hz _ rfl).symm
  · refine Rq.s (fun _ K => b11_10 (fun h => by exfalso; (try simp (disch := omega) only [Int32.le_iff_toInt_le, Int32.lt_iff_toInt_lt, z_eq, z_nI, z_0, z_m1, z_sub, z_1, z_2, z_3, z_4, z_5, z_6, z_7, z_8, z_9, z_10, z_11, z_12, z_13, z_14, z_15, z_16, z_17, z_18, z_19, z_20, z_21, z_22, z_23, z_24, z_25, z_26, z_27, z_28, z_29, z_30, nI_add, nI_mulN, pk_sub, nI_clamp, Nat.reduceAdd, Nat.reduceMul, Nat.reduceSub, Nat.zero_add, Nat.add_zero, l0, l1i, l2i] at h) <;> omega) (fun _ => K) (fun h => by exfalso; (try simp (disch := omega) only [Int32.le_iff_toInt_le, Int32.lt_iff_toInt_lt, z_eq, z_nI, z_0, z_m1, z_sub, z_1, z_2, z_3, z_4, z_5, z_6, z_7, z_8, z_9, z_10, z_11, z_12, z_13, z_14, z_15, z_16, z_17, z_18, z_19, z_20, z_21, z_22, z_23, z_24, z_25, z_26, z_27, z_28, z_29, z_30, nI_add, nI_mulN, pk_sub, nI_clamp, Nat.reduceAdd, Nat.reduceMul, Nat.reduceSub, Nat.zero_add, Nat.add_zero, l0, l1i, l2i] at h) <;> omega) (fun h => by exfalso; (try simp (disch := omega) only [Int32.le_iff_toInt_le, Int32.lt_iff_toInt_lt, z_eq, z_nI, z_0, z_m1, z_sub, z_1, z_2, z_3, z_4, z_5, z_6, z_7, z_8, z_9, z_10, z_11, z_12, z_13, z_14, z_15, z_16, z_17, z_18, z_19, z_20, z_21, z_22, z_23, z_24, z_25, z_26, z_27, z_28, z_29, z_30, nI_add, nI_mulN, pk_sub, nI_clamp, Nat.reduceAdd, Nat.reduceMul, Nat.reduceSub, Nat.zero_add, Nat.add_zero, l0, l1i, l2i] at h) <;> omega) (fun h => by exfalso; (try simp (disch := omega) only [Int32.le_iff_toInt_le, Int32.lt_iff_toInt_lt, z_eq, z_nI, z_0, z_m1, z_sub, z_1, z_2, z_3, z_4, z_5, z_6, z_7, z_8, z_9, z_10, z_11, z_12, z_13, z_14, z_15, z_16, z_17, z_18, z_19, z_20, z_21, z_22, z_23, z_24, z_25, z_26, z_27, z_28, z_29, z_30, nI_add, nI_mulN, pk_sub, nI_clamp, Nat.reduceAdd, Nat.reduceMul, Nat.reduceSub, Nat.zero_add, Nat.add_zero, l0, l1i, l2i] at h) <;> omega)) ?_
    refine Rq.e (b11_47 (by (try simp (disch := omega) only [nI_add, nI_mulN, pk_sub, nI_clamp, Nat.reduceAdd, Nat.reduceMul, Nat.reduceSub, Nat.zero_add, Nat.add_zero, l0, l1i, l2i]); exact nI_inbT (by omega) (by omega))) ?_
    refine Qp.i ?_
    try simp (disch := omega) only [nI_add, nI_mulN, pk_sub, nI_clamp, Nat.reduceAdd, Nat.reduceMul, Nat.reduceSub, Nat.zero_add, Nat.add_zero, l0, l1i, l2i]
    exact (hz _ rfl).symm
  · refine Rq.s (fun _ K => b11_10 (fun h => by exfalso; (try simp (disch := omega) only [Int32.le_iff_toInt_le, Int32.lt_iff_toInt_lt, z_eq, z_nI, z_0, z_m1, z_sub, z_1, z_2, z_3, z_4, z_5, z_6, z_7, z_8, z_9, z_10, z_11, z_12, z_13, z_14, z_15, z_16, z_17, z_18, z_19, z_20, z_21, z_22, z_23, z_24, z_25, z_26, z_27, z_28, z_29, z_30, nI_add, nI_mulN, pk_sub, nI_clamp, Nat.reduceAdd, Nat.reduceMul, Nat.reduceSub, Nat.zero_add, Nat.add_zero, l0, l1i, l2i] at h) <;> omega) (fun h => by exfalso; (try simp (disch := omega) only [Int32.le_iff_toInt_le, Int32.lt_iff_toInt_lt, z_eq, z_nI, z_0, z_m1, z_sub, z_1, z_2, z_3, z_4, z_5, z_6, z_7, z_8, z_9, z_10, z_11, z_12, z_13, z_14, z_15, z_16, z_17, z_18, z_19, z_20, z_21, z_22, z_23, z_24, z_25, z_26, z_27, z_28, z_29, z_30, nI_add, nI_mulN, pk_sub, nI_clamp, Nat.reduceAdd, Nat.reduceMul, Nat.reduceSub, Nat.zero_add, Nat.add_zero, l0, l1i, l2i] at h) <;> omega) (fun _ => K) (fun h => by exfalso; (try simp (disch := omega) only [Int32.le_iff_toInt_le, Int32.lt_iff_toInt_lt, z_eq, z_nI, z_0, z_m1, z_sub, z_1, z_2, z_3, z_4, z_5, z_6, z_7, z_8, z_9, z_10, z_11, z_12, z_13, z_14, z_15, z_16, z_17, z_18, z_19, z_20, z_21, z_22, z_23, z_24, z_25, z_26, z_27, z_28, z_29, z_30, nI_add, nI_mulN, pk_sub, nI_clamp, Nat.reduceAdd, Nat.reduceMul, Nat.reduceSub, Nat.zero_add, Nat.add_zero, l0, l1i, l2i] at h) <;> omega) (fun h => by exfalso; (try simp (disch := omega) only [Int32.le_iff_toInt_le, Int32.lt_iff_toInt_lt, z_eq, z_nI, z_0, z_m1, z_sub, z_1, z_2, z_3, z_4, z_5, z_6, z_7, z_8, z_9, z_10, z_11, z_12, z_13, z_14, z_15, z_16, z_17, z_18, z_19, z_20, z_21, z_22, z_23, z_24, z_25, z_26, z_27, z_28, z_29, z_30, nI_add, nI_mulN, pk_sub, nI_clamp, Nat.reduceAdd, Nat.reduceMul, Nat.reduceSub, Nat.zero_add, Nat.add_zero, l0, l1i, l2i] at h) <;> omega)) ?_
    have hc : Cl sc (d + 3) 12 [.ref 19, .int (nI i)] (hx_S0, D, G) (.inl (some (.int (if i + 1 < m then iI (zd st i) else -1)))) (hx_S0, D, G) := by
      by_cases h : i + 1 < m
      · rw [if_pos h]; exact m12 HL h
      · rw [if_neg h]; exact m12n HL (Or.inr (by rw [z_nI (by omega)]; omega))
    refine Rq.s (fun _ => b11_54 (by (try simp (disch := omega) only [nI_add, nI_mulN, pk_sub, nI_clamp, Nat.reduceAdd, Nat.reduceMul, Nat.reduceSub, Nat.zero_add, Nat.add_zero, l0, l1i, l2i]); exact hc)) ?_
    refine Rq.e (b11_59) ?_
    exact Qp.i (hz _ rfl).symm
  · refine Rq.s (fun _ K => b11_10 (fun h => by exfalso; (try simp (disch := omega) only [Int32.le_iff_toInt_le, Int32.lt_iff_toInt_lt, z_eq, z_nI, z_0, z_m1, z_sub, z_1, z_2, z_3, z_4, z_5, z_6, z_7, z_8, z_9, z_10, z_11, z_12, z_13, z_14, z_15, z_16, z_17, z_18, z_19, z_20, z_21, z_22, z_23, z_24, z_25, z_26, z_27, z_28, z_29, z_30, nI_add, nI_mulN, pk_sub, nI_clamp, Nat.reduceAdd, Nat.reduceMul, Nat.reduceSub, Nat.zero_add, Nat.add_zero, l0, l1i, l2i] at h) <;> omega) (fun h => by exfalso; (try simp (disch := omega) only [Int32.le_iff_toInt_le, Int32.lt_iff_toInt_lt, z_eq, z_nI, z_0, z_m1, z_sub, z_1, z_2, z_3, z_4, z_5, z_6, z_7, z_8, z_9, z_10, z_11, z_12, z_13, z_14, z_15, z_16, z_17, z_18, z_19, z_20, z_21, z_22, z_23, z_24, z_25, z_26, z_27, z_28, z_29, z_30, nI_add, nI_mulN, pk_sub, nI_clamp, Nat.reduceAdd, Nat.reduceMul, Nat.reduceSub, Nat.zero_add, Nat.add_zero, l0, l1i, l2i] at h) <;> omega) (fun h => by exfalso; (try simp (disch := omega) only [Int32.le_iff_toInt_le, Int32.lt_iff_toInt_lt, z_eq, z_nI, z_0, z_m1, z_sub, z_1, z_2, z_3, z_4, z_5, z_6, z_7, z_8, z_9, z_10, z_11, z_12, z_13, z_14, z_15, z_16, z_17, z_18, z_19, z_20, z_21, z_22, z_23, z_24, z_25, z_26, z_27, z_28, z_29, z_30, nI_add, nI_mulN, pk_sub, nI_clamp, Nat.reduceAdd, Nat.reduceMul, Nat.reduceSub, Nat.zero_add, Nat.add_zero, l0, l1i, l2i] at h) <;> omega) (fun _ => K) (fun h => by exfalso; (try simp (disch := omega) only [Int32.le_iff_toInt_le, Int32.lt_iff_toInt_lt, z_eq, z_nI, z_0, z_m1, z_sub, z_1, z_2, z_3, z_4, z_5, z_6, z_7, z_8, z_9, z_10, z_11, z_12, z_13, z_14, z_15, z_16, z_17, z_18, z_19, z_20, z_21, z_22, z_23, z_24, z_25, z_26, z_27, z_28, z_29, z_30, nI_add, nI_mulN, pk_sub, nI_clamp, Nat.reduceAdd, Nat.reduceMul, Nat.reduceSub, Nat.zero_add, Nat.add_zero, l0, l1i, l2i] at h) <;> omega)) ?_
    refine Rq.s (fun _ => b11_60 (by (try simp (disch := omega) only [nI_add, nI_mulN, pk_sub, nI_clamp, Nat.reduceAdd, Nat.reduceMul, Nat.reduceSub, Nat.zero_add, Nat.add_zero, l0, l1i, l2i]); exact m14 HL (by omega))) ?_
    by_cases hw : zwr m st s0 s1 i = false
    · refine Rq.bt (fun _ => b11_65) (by rw [hw]; rfl) ?_
      refine Rq.s (fun _ => b11_72) ?_
      try simp (disch := omega) only [nI_add, nI_mulN, pk_sub, nI_clamp, Nat.reduceAdd, Nat.reduceMul, Nat.reduceSub, Nat.zero_add, Nat.add_zero, l0, l1i, l2i]
      refine Rq.e (b11_73) ?_
      refine Qp.i ?_
      rw [hz _ rfl]
      first | (show _ = nI (if zwr m st s0 s1 i = true then 1 else 0); rw [hw]; rfl) | (show _ = nI (if zwr m st s0 s1 i = true then 1 else 0); rw [eq_true_of_ne_false hw]; rfl)
    · refine Rq.bf (fun _ => b11_65) (by rw [eq_true_of_ne_false hw]; decide) ?_
      refine Rq.s (fun _ => b11_68) ?_
      try simp (disch := omega) only [nI_add, nI_mulN, pk_sub, nI_clamp, Nat.reduceAdd, Nat.reduceMul, Nat.reduceSub, Nat.zero_add, Nat.add_zero, l0, l1i, l2i]
      refine Rq.e (b11_73b) ?_
      refine Qp.i ?_
      rw [hz _ rfl]
      first | (show _ = nI (if zwr m st s0 s1 i = true then 1 else 0); rw [hw]; rfl) | (show _ = nI (if zwr m st s0 s1 i = true then 1 else 0); rw [eq_true_of_ne_false hw]; rfl)
  · refine Rq.s (fun _ K => b11_10 (fun h => by exfalso; (try simp (disch := omega) only [Int32.le_iff_toInt_le, Int32.lt_iff_toInt_lt, z_eq, z_nI, z_0, z_m1, z_sub, z_1, z_2, z_3, z_4, z_5, z_6, z_7, z_8, z_9, z_10, z_11, z_12, z_13, z_14, z_15, z_16, z_17, z_18, z_19, z_20, z_21, z_22, z_23, z_24, z_25, z_26, z_27, z_28, z_29, z_30, nI_add, nI_mulN, pk_sub, nI_clamp, Nat.reduceAdd, Nat.reduceMul, Nat.reduceSub, Nat.zero_add, Nat.add_zero, l0, l1i, l2i] at h) <;> omega) (fun h => by exfalso; (try simp (disch := omega) only [Int32.le_iff_toInt_le, Int32.lt_iff_toInt_lt, z_eq, z_nI, z_0, z_m1, z_sub, z_1, z_2, z_3, z_4, z_5, z_6, z_7, z_8, z_9, z_10, z_11, z_12, z_13, z_14, z_15, z_16, z_17, z_18, z_19, z_20, z_21, z_22, z_23, z_24, z_25, z_26, z_27, z_28, z_29, z_30, nI_add, nI_mulN, pk_sub, nI_clamp, Nat.reduceAdd, Nat.reduceMul, Nat.reduceSub, Nat.zero_add, Nat.add_zero, l0, l1i, l2i] at h) <;> omega) (fun h => by exfalso; (try simp (disch := omega) only [Int32.le_iff_toInt_le, Int32.lt_iff_toInt_lt, z_eq, z_nI, z_0, z_m1, z_sub, z_1, z_2, z_3, z_4, z_5, z_6, z_7, z_8, z_9, z_10, z_11, z_12, z_13, z_14, z_15, z_16, z_17, z_18, z_19, z_20, z_21, z_22, z_23, z_24, z_25, z_26, z_27, z_28, z_29, z_30, nI_add, nI_mulN, pk_sub, nI_clamp, Nat.reduceAdd, Nat.reduceMul, Nat.reduceSub, Nat.zero_add, Nat.add_zero, l0, l1i, l2i] at h) <;> omega) (fun h => by exfalso; (try simp (disch := omega) only [Int32.le_iff_toInt_le, Int32.lt_iff_toInt_lt, z_eq, z_nI, z_0, z_m1, z_sub, z_1, z_2, z_3, z_4, z_5, z_6, z_7, z_8, z_9, z_10, z_11, z_12, z_13, z_14, z_15, z_16, z_17, z_18, z_19, z_20, z_21, z_22, z_23, z_24, z_25, z_26, z_27, z_28, z_29, z_30, nI_add, nI_mulN, pk_sub, nI_clamp, Nat.reduceAdd, Nat.reduceMul, Nat.reduceSub, Nat.zero_add, Nat.add_zero, l0, l1i, l2i] at h) <;> omega) (fun _ => K)) ?_
    refine Rq.s (fun _ => b11_74 (by (try simp (disch := omega) only [nI_add, nI_mulN, pk_sub, nI_clamp, Nat.reduceAdd, Nat.reduceMul, Nat.reduceSub, Nat.zero_add, Nat.add_zero, l0, l1i, l2i]); exact m15 HL (by omega))) ?_
    refine Rq.e (b11_79) ?_
    exact Qp.i (hz _ rfl).symm
/-- where the piece at a place begins, for any row -/
abbrev zbg (V : ZV) (w : Nat → Nat) (k : Nat) : Nat := zS (fun i => zw V (w i)) k
def zL (V : ZV) (w : Nat → Nat) : Nat → List (Nat × Nat)
  | 0 => []
  | k + 1 => zL V w k ++ (zE V (w k)).map (fun x => (zbg V w k + x, w k))
def zst (L : List (Nat × Nat)) (i : Nat) : Nat := (L.getD i (0, 0)).1
def zow (L : List (Nat × Nat)) (i : Nat) : Nat := (L.getD i (0, 0)).2
theorem zL_len {V : ZV} (hv : Valid V) {w : Nat → Nat} (hb : ∀ i, i < zn V → w i < zn V) : ∀ k, k ≤ zn V → (zL V w k).length ≤ 4 * k
  | 0, _ => Nat.le_refl _
  | k + 1, h => by
    have h1 := zL_len hv hb k (by omega)
    have h2 := hv.2.2.2.2.1 (w k) (hb k (by omega))
    unfold zL
    rw [List.length_append, List.length_map]
    omega
theorem zbg_le {V : ZV} (hv : Valid V) {w : Nat → Nat} (hb : ∀ i, i < zn V → w i < zn V) : ∀ k, k ≤ zn V → zbg V w k ≤ 60 * k
  | 0, _ => Nat.le_refl _
  | k + 1, h => by
    have h1 := zbg_le hv hb k (by omega)
    have h2 := hv.2.1 (w k) (hb k (by omega))
    show zS (fun i => zw V (w i)) k + zw V (w k) ≤ _
    have h3 : zbg V w k = zS (fun i => zw V (w i)) k := rfl
    omega
theorem zE_sorted (V : ZV) (p : Nat) : (zE V p).Pairwise (fun a b => a < b) := by
  unfold zE
  exact List.Pairwise.filter _ List.pairwise_lt_range
theorem zL_sorted {V : ZV} (hv : Valid V) {w : Nat → Nat} (hb : ∀ i, i < zn V → w i < zn V) : ∀ k, k ≤ zn V → (zL V w k).Pairwise (fun a b => a.1 < b.1) ∧ ∀ a, a ∈ zL V w k → a.1 < zbg V w k
  | 0, _ => ⟨List.Pairwise.nil, fun a h => by cases h⟩
  | k + 1, h => by
    obtain ⟨h1, h2⟩ := zL_sorted hv hb k (by omega)
    have hw := hb k (by omega)
    have e : zbg V w (k + 1) = zbg V w k + zw V (w k) := rfl
    have hm : ∀ a, a ∈ (zE V (w k)).map (fun x => (zbg V w k + x, w k)) → zbg V w k ≤ a.1 ∧ a.1 < zbg V w (k + 1) := by
      intro a ha
      obtain ⟨x, hx, rfl⟩ := List.mem_map.mp ha
      have := hv.2.2.2.1 _ x hw (zE_mem.mp hx).2
      exact ⟨by show _ ≤ zbg V w k + x; omega, by show zbg V w k + x < _; omega⟩
    unfold zL
    refine ⟨List.pairwise_append.mpr ⟨h1, List.pairwise_map.mpr ((zE_sorted V (w k)).imp (fun {a b} h => by show zbg V w k + a < zbg V w k + b; omega)), fun a ha b hb2 => ?_⟩, fun a ha => ?_⟩
    · have := h2 a ha
      have := (hm b hb2).1
      omega
    · rcases List.mem_append.mp ha with h3 | h3
      · have := h2 a h3
        omega
      · exact (hm a h3).2
theorem zst_mem {L : List (Nat × Nat)} {i : Nat} (h : i < L.length) : (zst L i, zow L i) ∈ L := by
  unfold zst zow
  rw [List.getD_eq_getElem?_getD, List.getElem?_eq_getElem h]
  exact List.getElem_mem h
theorem zst_lt {L : List (Nat × Nat)} (hs : L.Pairwise (fun a b => a.1 < b.1)) {i j : Nat} (hij : i < j) (h : j < L.length) : zst L i < zst L j := by
  unfold zst
  rw [List.getD_eq_getElem?_getD, List.getD_eq_getElem?_getD, List.getElem?_eq_getElem h, List.getElem?_eq_getElem (show i < L.length by omega)]
  exact List.pairwise_iff_getElem.mp hs i j (by omega) h hij
theorem zst_push (L : List (Nat × Nat)) (q : Nat × Nat) (i : Nat) (h : i < (L ++ [q]).length) : (L ++ [q]).getD i (0, 0) = if i = L.length then q else L.getD i (0, 0) := by
  rw [List.getD_eq_getElem?_getD, List.getD_eq_getElem?_getD]
  rw [List.length_append, List.length_singleton] at h
  by_cases e : i = L.length
  · rw [if_pos e, e, List.getElem?_append_right (Nat.le_refl _), Nat.sub_self]
    rfl
  · rw [if_neg e, List.getElem?_append_left (by omega)]
/-- what the class's line holds while it is being filled -/
def LineD (D : Nat → Nat → Int32) (L : List (Nat × Nat)) (s0 s1 : Nat) : Prop := D 19 2 = nI L.length ∧ (∀ i, i < L.length → D 20 i = nI (zst L i)) ∧ (∀ i, i < L.length → D 21 i = nI (zow L i)) ∧ D 19 3 = nI s0 ∧ D 19 4 = nI s1
theorem LineD.push {D : Nat → Nat → Int32} {L : List (Nat × Nat)} {s0 s1 : Nat} (h : LineD D L s0 s1) (a b : Nat) : LineD (hx_up (hx_up (hx_up D 20 L.length (nI a)) 21 L.length (nI b)) 19 2 (nI (L.length + 1))) (L ++ [(a, b)]) s0 s1 := by
  obtain ⟨h0, h1, h2, h3, h4⟩ := h
  refine ⟨?_, fun i hi => ?_, fun i hi => ?_, ?_, ?_⟩
  · rw [hx_up_s, List.length_append]
    rfl
  · unfold zst
    rw [zst_push _ _ _ hi]
    rw [List.length_append, List.length_singleton] at hi
    have e2 : hx_up (hx_up (hx_up D 20 L.length (nI a)) 21 L.length (nI b)) 19 2 (nI (L.length + 1)) 20 i = if i = L.length then nI a else D 20 i := by simp [hx_up_at]
    rw [e2]
    by_cases e : i = L.length
    · rw [if_pos e, if_pos e]
    · rw [if_neg e, if_neg e]
      exact h1 i (by omega)
  · unfold zow
    rw [zst_push _ _ _ hi]
    rw [List.length_append, List.length_singleton] at hi
    have e2 : hx_up (hx_up (hx_up D 20 L.length (nI a)) 21 L.length (nI b)) 19 2 (nI (L.length + 1)) 21 i = if i = L.length then nI b else D 21 i := by simp [hx_up_at]
    rw [e2]
    by_cases e : i = L.length
    · rw [if_pos e, if_pos e]
    · rw [if_neg e, if_neg e]
      exact h2 i (by omega)
  · rw [← h3]
    simp [hx_up_at]
  · rw [← h4]
    simp [hx_up_at]
theorem LineD.full {D : Nat → Nat → Int32} {V : ZV} (hv : Valid V) {w : Nat → Nat} (hb : ∀ i, i < zn V → w i < zn V) (h : LineD D (zL V w (zn V)) (zs V 0) (zs V 1)) : Line D (zL V w (zn V)).length (zst (zL V w (zn V))) (zow (zL V w (zn V))) (zs V 0) (zs V 1) := by
  obtain ⟨h0, h1, h2, h3, h4⟩ := h
  obtain ⟨h7, vw, ve, vh, vE, vr, vj, vs0, vs1⟩ := id hv
  have hl := zL_len hv hb (zn V) (Nat.le_refl _)
  have hs := zL_sorted hv hb (zn V) (Nat.le_refl _)
  have hg := zbg_le hv hb (zn V) (Nat.le_refl _)
  refine ⟨h0, by omega, h1, h2, fun i hi => ?_, h3, h4, vs0, vs1, fun i hi => zst_lt hs.1 (by omega) hi⟩
  have := hs.2 _ (zst_mem hi)
  have e : (zst (zL V w (zn V)) i, zow (zL V w (zn V)) i).1 = zst (zL V w (zn V)) i := rfl
  omega

def zP (V : ZV) (w : Nat → Nat) (k i : Nat) : List (Nat × Nat) := zL V w k ++ ((zE V (w k)).take i).map (fun x => (zbg V w k + x, w k))
theorem zP_0 (V : ZV) (w : Nat → Nat) (k : Nat) : zP V w k 0 = zL V w k := by
  unfold zP
  rw [List.take_zero]
  exact List.append_nil _
theorem zP_l (V : ZV) (w : Nat → Nat) (k : Nat) : zP V w k (zE V (w k)).length = zL V w (k + 1) := by
  unfold zP
  rw [List.take_length]
  rfl
theorem zP_s {V : ZV} {w : Nat → Nat} {k i x : Nat} (h : hx_nth (zE V (w k)) i = some x) : zP V w k i ++ [(zbg V w k + x, w k)] = zP V w k (i + 1) := by
  rw [hx_nth_eq] at h
  unfold zP
  rw [List.take_add_one, h, List.map_append, ← List.append_assoc]
  rfl
theorem m10_i {sc : Nat × (Nat → Int32)} {d : Nat} {D : Nat → Nat → Int32} {G : Nat → Nat → Int64} {V : ZV} {w : Nat → Nat} {k : Nat} (R : RepC D 1 V) (hv : Valid V) (hw : ∀ i, i < zn V → D 6 i = nI (w i)) (hb : ∀ i, i < zn V → w i < zn V) (hk : k < zn V) {Q : hx_RS → (Nat → Nat → Int32) → Prop}
    (KK : ∀ D3, (∀ a, a ≠ 19 → a ≠ 20 → a ≠ 21 → D3 a = D a) → LineD D3 (zL V w (k + 1)) (zs V 0) (zs V 1) → Rq sc d 10 (30, [some (.ref 19), some (.ref 1), some (.ref 6), some (.int (nI (zbg V w k + zw V (w k)))), some (.int (nI (k + 1))), none, none], [], (hx_S0, D3, G), 0) G Q) :
    ∀ n i D3, (zE V (w k)).length - i = n → i ≤ (zE V (w k)).length → (∀ a, a ≠ 19 → a ≠ 20 → a ≠ 21 → D3 a = D a) → LineD D3 (zP V w k i) (zs V 0) (zs V 1) → Rq sc d 10 (48, [some (.ref 19), some (.ref 1), some (.ref 6), some (.int (nI (zbg V w k))), some (.int (nI k)), some (.int (nI (w k))), some (.int (nI i))], [], (hx_S0, D3, G), 0) G Q := by
  obtain ⟨r0, r1, rw, re, rc, rh, rr, rs0, rs1⟩ := rC R
  obtain ⟨h7, vw, ve, vh, vE, vr, vj, vs0, vs1⟩ := id hv
  have hwk := hw k hk
  have hbk := hb k hk
  have rwk := rw (w k) hbk
  have rck := rc (w k) hbk
  have vEk := vE (w k) hbk
  have hlk := zL_len hv hb k (by omega)
  intro n
  induction n using Nat.strongRecOn with
  | _ n ih =>
  intro i D3 hn hi hI hL
  have hl0 := hL.1
  have hpl : (zP V w k i).length ≤ 4 * k + i := by
    unfold zP
    rw [List.length_append, List.length_map, List.length_take]
    omega
  have k1 : D3 1 = D 1 := hI 1 (by omega) (by omega) (by omega)
  have k2 : D3 2 = D 2 := hI 2 (by omega) (by omega) (by omega)
  have k4 : D3 4 = D 4 := hI 4 (by omega) (by omega) (by omega)
  have k5 : D3 5 = D 5 := hI 5 (by omega) (by omega) (by omega)
  have kr : D3 6 = D 6 := hI 6 (by omega) (by omega) (by omega)
  refine Rq.b (fun _ => b10_48 (by (try simp (disch := omega) only [nI_add, nI_mulN, pk_sub, nI_clamp, Nat.reduceAdd, Nat.reduceMul, Nat.reduceSub, Nat.zero_add, Nat.add_zero, hx_up_ne, k1, k2, k4, k5, kr, r0, rwk, rck, hl0]); exact nI_inbT (by omega) (by omega))) (fun h48 => ?_) (fun h48 => ?_)
  · try simp (disch := omega) only [Int32.le_iff_toInt_le, Int32.lt_iff_toInt_lt, z_eq, z_nI, z_0, z_m1, z_sub, nI_add, nI_mulN, pk_sub, nI_clamp, Nat.reduceAdd, Nat.reduceMul, Nat.reduceSub, Nat.zero_add, Nat.add_zero, hx_up_ne, k1, k2, k4, k5, kr, r0, rwk, rck, hl0] at h48
    all_goals (try (exfalso; omega))
    all_goals
      refine Rq.s (fun _ => b10_110 (by (try simp (disch := omega) only [nI_add, nI_mulN, pk_sub, nI_clamp, Nat.reduceAdd, Nat.reduceMul, Nat.reduceSub, Nat.zero_add, Nat.add_zero, hx_up_ne, k1, k2, k4, k5, kr, r0, rwk, rck, hl0]); exact nI_inbT (by omega) (by omega))) ?_
      try simp (disch := omega) only [nI_add, nI_mulN, pk_sub, nI_clamp, Nat.reduceAdd, Nat.reduceMul, Nat.reduceSub, Nat.zero_add, Nat.add_zero, hx_up_ne, k1, k2, k4, k5, kr, r0, rwk, rck, hl0]
      have e9 : zP V w k i = zL V w (k + 1) := by rw [show i = (zE V (w k)).length by omega]; exact zP_l V w k
      rw [e9] at hL
      exact KK D3 hI hL
  · try simp (disch := omega) only [Int32.le_iff_toInt_le, Int32.lt_iff_toInt_lt, z_eq, z_nI, z_0, z_m1, z_sub, nI_add, nI_mulN, pk_sub, nI_clamp, Nat.reduceAdd, Nat.reduceMul, Nat.reduceSub, Nat.zero_add, Nat.add_zero, hx_up_ne, k1, k2, k4, k5, kr, r0, rwk, rck, hl0] at h48
    all_goals (try (exfalso; omega))
    all_goals
      obtain ⟨x, ex⟩ := zE_at (V := V) (p := w k) (i := i) (by omega)
      have rhi := rh (w k) i x (hb k (by omega)) ex
      refine Rq.s (fun _ => b10_60 (by (try simp (disch := omega) only [nI_add, nI_mulN, pk_sub, nI_clamp, Nat.reduceAdd, Nat.reduceMul, Nat.reduceSub, Nat.zero_add, Nat.add_zero, hx_up_ne, k1, k2, k4, k5, kr, r0, rwk, rck, hl0, rhi]); exact nI_inbT (by omega) (by omega)) (by (try simp (disch := omega) only [nI_add, nI_mulN, pk_sub, nI_clamp, Nat.reduceAdd, Nat.reduceMul, Nat.reduceSub, Nat.zero_add, Nat.add_zero, hx_up_ne, k1, k2, k4, k5, kr, r0, rwk, rck, hl0, rhi]); exact nI_inbT (by omega) (by omega))) ?_
      try simp (disch := omega) only [nI_add, nI_mulN, pk_sub, nI_clamp, Nat.reduceAdd, Nat.reduceMul, Nat.reduceSub, Nat.zero_add, Nat.add_zero, hx_up_ne, k1, k2, k4, k5, kr, r0, rwk, rck, hl0, rhi]
      refine Rq.s (fun _ => b10_83 (by (try simp (disch := omega) only [nI_add, nI_mulN, pk_sub, nI_clamp, Nat.reduceAdd, Nat.reduceMul, Nat.reduceSub, Nat.zero_add, Nat.add_zero, hx_up_ne, k1, k2, k4, k5, kr, r0, rwk, rck, hl0, rhi]); exact nI_inbT (by omega) (by omega))) ?_
      try simp (disch := omega) only [nI_add, nI_mulN, pk_sub, nI_clamp, Nat.reduceAdd, Nat.reduceMul, Nat.reduceSub, Nat.zero_add, Nat.add_zero, hx_up_ne, k1, k2, k4, k5, kr, r0, rwk, rck, hl0, rhi]
      refine Rq.s (fun _ => b10_104) ?_
      try simp (disch := omega) only [nI_add, nI_mulN, pk_sub, nI_clamp, Nat.reduceAdd, Nat.reduceMul, Nat.reduceSub, Nat.zero_add, Nat.add_zero, hx_up_ne, k1, k2, k4, k5, kr, r0, rwk, rck, hl0, rhi]
      have h9 := hL.push (zbg V w k + x) (w k)
      have e9 : zP V w k i ++ [(zbg V w k + x, w k)] = zP V w k (i + 1) := zP_s ex
      rw [e9] at h9
      exact ih _ (by omega) (i + 1) _ rfl (by omega) (fun a a1 a2 a3 => by rw [hx_up_ne a1, hx_up_ne a3, hx_up_ne a2]; exact hI a a1 a2 a3) h9
theorem m10 {sc : Nat × (Nat → Int32)} {d : Nat} {D : Nat → Nat → Int32} {G : Nat → Nat → Int64} {V : ZV} {w : Nat → Nat} (R : RepC D 1 V) (hv : Valid V) (hw : ∀ i, i < zn V → D 6 i = nI (w i)) (hb : ∀ i, i < zn V → w i < zn V) : Cq sc d 10 [.ref 19, .ref 1, .ref 6] D G (fun r D2 => r = .inl none ∧ (∀ a, a ≠ 19 → a ≠ 20 → a ≠ 21 → D2 a = D a) ∧ Line D2 (zL V w (zn V)).length (zst (zL V w (zn V))) (zow (zL V w (zn V))) (zs V 0) (zs V 1)) := by
  obtain ⟨r0, r1, rw, re, rc, rh, rr, rs0, rs1⟩ := rC R
  obtain ⟨h7, vw, ve, vh, vE, vr, vj, vs0, vs1⟩ := id hv
  have L : ∀ n k D3, zn V - k = n → k ≤ zn V → (∀ a, a ≠ 19 → a ≠ 20 → a ≠ 21 → D3 a = D a) → LineD D3 (zL V w k) (zs V 0) (zs V 1) → Rq sc d 10 (30, [some (.ref 19), some (.ref 1), some (.ref 6), some (.int (nI (zbg V w k))), some (.int (nI k)), none, none], [], (hx_S0, D3, G), 0) G (fun r D2 => r = .inl none ∧ (∀ a, a ≠ 19 → a ≠ 20 → a ≠ 21 → D2 a = D a) ∧ Line D2 (zL V w (zn V)).length (zst (zL V w (zn V))) (zow (zL V w (zn V))) (zs V 0) (zs V 1)) := by
    intro n
    induction n using Nat.strongRecOn with
    | _ n ih =>
    intro k D3 hn hk hI hL
    have k1 : D3 1 = D 1 := hI 1 (by omega) (by omega) (by omega)
    have k2 : D3 2 = D 2 := hI 2 (by omega) (by omega) (by omega)
    have k4 : D3 4 = D 4 := hI 4 (by omega) (by omega) (by omega)
    have k5 : D3 5 = D 5 := hI 5 (by omega) (by omega) (by omega)
    have kr : D3 6 = D 6 := hI 6 (by omega) (by omega) (by omega)
    refine Rq.b (fun _ => b10_30) (fun h30 => ?_) (fun h30 => ?_)
    · try simp (disch := omega) only [Int32.le_iff_toInt_le, Int32.lt_iff_toInt_lt, z_eq, z_nI, z_0, z_m1, z_sub, nI_add, nI_mulN, pk_sub, nI_clamp, Nat.reduceAdd, Nat.reduceMul, Nat.reduceSub, Nat.zero_add, Nat.add_zero, hx_up_ne, k1, k2, k4, k5, kr, r0] at h30
      all_goals (try (exfalso; omega))
      all_goals
        refine Rq.e (b10_126) ?_
        refine ⟨rfl, hI, ?_⟩
        rw [show k = zn V by omega] at hL
        exact LineD.full hv hb hL
    · try simp (disch := omega) only [Int32.le_iff_toInt_le, Int32.lt_iff_toInt_lt, z_eq, z_nI, z_0, z_m1, z_sub, nI_add, nI_mulN, pk_sub, nI_clamp, Nat.reduceAdd, Nat.reduceMul, Nat.reduceSub, Nat.zero_add, Nat.add_zero, hx_up_ne, k1, k2, k4, k5, kr, r0] at h30
      all_goals (try (exfalso; omega))
      all_goals
        have hwk := hw k (by omega)
        have hbk := hb k (by omega)
        refine Rq.s (fun _ => b10_39 (by (try simp (disch := omega) only [nI_add, nI_mulN, pk_sub, nI_clamp, Nat.reduceAdd, Nat.reduceMul, Nat.reduceSub, Nat.zero_add, Nat.add_zero, hx_up_ne, k1, k2, k4, k5, kr, r0, hwk]); exact nI_inbT (by omega) (by omega))) ?_
        try simp (disch := omega) only [nI_add, nI_mulN, pk_sub, nI_clamp, Nat.reduceAdd, Nat.reduceMul, Nat.reduceSub, Nat.zero_add, Nat.add_zero, hx_up_ne, k1, k2, k4, k5, kr, r0, hwk]
        refine m10_i R hv hw hb (by omega) (fun D4 h1 h2 => ih _ (by omega) (k + 1) D4 rfl (by omega) h1 h2) _ 0 D3 rfl (by omega) hI ?_
        rw [zP_0]
        exact hL
  refine Cq.c (fun _ _ _ => c10) ?_
  refine Rq.s (fun _ => b10_0 (by (try simp (disch := omega) only [nI_add, nI_mulN, pk_sub, nI_clamp, Nat.reduceAdd, Nat.reduceMul, Nat.reduceSub, Nat.zero_add, Nat.add_zero, hx_up_ne, rs0, rs1]); exact nI_inbT (by omega) (by omega)) (by (try simp (disch := omega) only [nI_add, nI_mulN, pk_sub, nI_clamp, Nat.reduceAdd, Nat.reduceMul, Nat.reduceSub, Nat.zero_add, Nat.add_zero, hx_up_ne, rs0, rs1]); exact nI_inbT (by omega) (by omega))) ?_
  try simp (disch := omega) only [nI_add, nI_mulN, pk_sub, nI_clamp, Nat.reduceAdd, Nat.reduceMul, Nat.reduceSub, Nat.zero_add, Nat.add_zero, hx_up_ne, rs0, rs1]
  refine Rq.s (fun _ => b10_20) ?_
  try simp (disch := omega) only [nI_add, nI_mulN, pk_sub, nI_clamp, Nat.reduceAdd, Nat.reduceMul, Nat.reduceSub, Nat.zero_add, Nat.add_zero, hx_up_ne, rs0, rs1]
  refine L _ 0 _ rfl (by omega) (fun a a1 a2 a3 => by rw [hx_up_ne a1, hx_up_ne a1, hx_up_ne a1]) ⟨?_, fun i hi => absurd hi (Nat.not_lt_zero _), fun i hi => absurd hi (Nat.not_lt_zero _), ?_, ?_⟩
  · rw [hx_up_s]; rfl
  · simp [hx_up_at]
  · simp [hx_up_at]
theorem m10_1_i {sc : Nat × (Nat → Int32)} {d : Nat} {D : Nat → Nat → Int32} {G : Nat → Nat → Int64} {V : ZV} {w : Nat → Nat} {k : Nat} (R : RepC D 1 V) (hv : Valid V) (hw : ∀ i, i < zn V → D 18 i = nI (w i)) (hb : ∀ i, i < zn V → w i < zn V) (hk : k < zn V) {Q : hx_RS → (Nat → Nat → Int32) → Prop}
    (KK : ∀ D3, (∀ a, a ≠ 19 → a ≠ 20 → a ≠ 21 → D3 a = D a) → LineD D3 (zL V w (k + 1)) (zs V 0) (zs V 1) → Rq sc d 10 (30, [some (.ref 19), some (.ref 1), some (.ref 18), some (.int (nI (zbg V w k + zw V (w k)))), some (.int (nI (k + 1))), none, none], [], (hx_S0, D3, G), 0) G Q) :
    ∀ n i D3, (zE V (w k)).length - i = n → i ≤ (zE V (w k)).length → (∀ a, a ≠ 19 → a ≠ 20 → a ≠ 21 → D3 a = D a) → LineD D3 (zP V w k i) (zs V 0) (zs V 1) → Rq sc d 10 (48, [some (.ref 19), some (.ref 1), some (.ref 18), some (.int (nI (zbg V w k))), some (.int (nI k)), some (.int (nI (w k))), some (.int (nI i))], [], (hx_S0, D3, G), 0) G Q := by
  obtain ⟨r0, r1, rw, re, rc, rh, rr, rs0, rs1⟩ := rC R
  obtain ⟨h7, vw, ve, vh, vE, vr, vj, vs0, vs1⟩ := id hv
  have hwk := hw k hk
  have hbk := hb k hk
  have rwk := rw (w k) hbk
  have rck := rc (w k) hbk
  have vEk := vE (w k) hbk
  have hlk := zL_len hv hb k (by omega)
  intro n
  induction n using Nat.strongRecOn with
  | _ n ih =>
  intro i D3 hn hi hI hL
  have hl0 := hL.1
  have hpl : (zP V w k i).length ≤ 4 * k + i := by
    unfold zP
    rw [List.length_append, List.length_map, List.length_take]
    omega
  have k1 : D3 1 = D 1 := hI 1 (by omega) (by omega) (by omega)
  have k2 : D3 2 = D 2 := hI 2 (by omega) (by omega) (by omega)
  have k4 : D3 4 = D 4 := hI 4 (by omega) (by omega) (by omega)
  have k5 : D3 5 = D 5 := hI 5 (by omega) (by omega) (by omega)
  have kr : D3 18 = D 18 := hI 18 (by omega) (by omega) (by omega)
  refine Rq.b (fun _ => b10_1_48 (by (try simp (disch := omega) only [nI_add, nI_mulN, pk_sub, nI_clamp, Nat.reduceAdd, Nat.reduceMul, Nat.reduceSub, Nat.zero_add, Nat.add_zero, hx_up_ne, k1, k2, k4, k5, kr, r0, rwk, rck, hl0]); exact nI_inbT (by omega) (by omega))) (fun h48 => ?_) (fun h48 => ?_)
  · try simp (disch := omega) only [Int32.le_iff_toInt_le, Int32.lt_iff_toInt_lt, z_eq, z_nI, z_0, z_m1, z_sub, nI_add, nI_mulN, pk_sub, nI_clamp, Nat.reduceAdd, Nat.reduceMul, Nat.reduceSub, Nat.zero_add, Nat.add_zero, hx_up_ne, k1, k2, k4, k5, kr, r0, rwk, rck, hl0] at h48
    all_goals (try (exfalso; omega))
    all_goals
      refine Rq.s (fun _ => b10_1_110 (by (try simp (disch := omega) only [nI_add, nI_mulN, pk_sub, nI_clamp, Nat.reduceAdd, Nat.reduceMul, Nat.reduceSub, Nat.zero_add, Nat.add_zero, hx_up_ne, k1, k2, k4, k5, kr, r0, rwk, rck, hl0]); exact nI_inbT (by omega) (by omega))) ?_
      try simp (disch := omega) only [nI_add, nI_mulN, pk_sub, nI_clamp, Nat.reduceAdd, Nat.reduceMul, Nat.reduceSub, Nat.zero_add, Nat.add_zero, hx_up_ne, k1, k2, k4, k5, kr, r0, rwk, rck, hl0]
      have e9 : zP V w k i = zL V w (k + 1) := by rw [show i = (zE V (w k)).length by omega]; exact zP_l V w k
      rw [e9] at hL
      exact KK D3 hI hL
  · try simp (disch := omega) only [Int32.le_iff_toInt_le, Int32.lt_iff_toInt_lt, z_eq, z_nI, z_0, z_m1, z_sub, nI_add, nI_mulN, pk_sub, nI_clamp, Nat.reduceAdd, Nat.reduceMul, Nat.reduceSub, Nat.zero_add, Nat.add_zero, hx_up_ne, k1, k2, k4, k5, kr, r0, rwk, rck, hl0] at h48
    all_goals (try (exfalso; omega))
    all_goals
      obtain ⟨x, ex⟩ := zE_at (V := V) (p := w k) (i := i) (by omega)
      have rhi := rh (w k) i x (hb k (by omega)) ex
      refine Rq.s (fun _ => b10_1_60 (by (try simp (disch := omega) only [nI_add, nI_mulN, pk_sub, nI_clamp, Nat.reduceAdd, Nat.reduceMul, Nat.reduceSub, Nat.zero_add, Nat.add_zero, hx_up_ne, k1, k2, k4, k5, kr, r0, rwk, rck, hl0, rhi]); exact nI_inbT (by omega) (by omega)) (by (try simp (disch := omega) only [nI_add, nI_mulN, pk_sub, nI_clamp, Nat.reduceAdd, Nat.reduceMul, Nat.reduceSub, Nat.zero_add, Nat.add_zero, hx_up_ne, k1, k2, k4, k5, kr, r0, rwk, rck, hl0, rhi]); exact nI_inbT (by omega) (by omega))) ?_
      try simp (disch := omega) only [nI_add, nI_mulN, pk_sub, nI_clamp, Nat.reduceAdd, Nat.reduceMul, Nat.reduceSub, Nat.zero_add, Nat.add_zero, hx_up_ne, k1, k2, k4, k5, kr, r0, rwk, rck, hl0, rhi]
      refine Rq.s (fun _ => b10_1_83 (by (try simp (disch := omega) only [nI_add, nI_mulN, pk_sub, nI_clamp, Nat.reduceAdd, Nat.reduceMul, Nat.reduceSub, Nat.zero_add, Nat.add_zero, hx_up_ne, k1, k2, k4, k5, kr, r0, rwk, rck, hl0, rhi]); exact nI_inbT (by omega) (by omega))) ?_
      try simp (disch := omega) only [nI_add, nI_mulN, pk_sub, nI_clamp, Nat.reduceAdd, Nat.reduceMul, Nat.reduceSub, Nat.zero_add, Nat.add_zero, hx_up_ne, k1, k2, k4, k5, kr, r0, rwk, rck, hl0, rhi]
      refine Rq.s (fun _ => b10_1_104) ?_
      try simp (disch := omega) only [nI_add, nI_mulN, pk_sub, nI_clamp, Nat.reduceAdd, Nat.reduceMul, Nat.reduceSub, Nat.zero_add, Nat.add_zero, hx_up_ne, k1, k2, k4, k5, kr, r0, rwk, rck, hl0, rhi]
      have h9 := hL.push (zbg V w k + x) (w k)
      have e9 : zP V w k i ++ [(zbg V w k + x, w k)] = zP V w k (i + 1) := zP_s ex
      rw [e9] at h9
      exact ih _ (by omega) (i + 1) _ rfl (by omega) (fun a a1 a2 a3 => by rw [hx_up_ne a1, hx_up_ne a3, hx_up_ne a2]; exact hI a a1 a2 a3) h9
theorem m10_1 {sc : Nat × (Nat → Int32)} {d : Nat} {D : Nat → Nat → Int32} {G : Nat → Nat → Int64} {V : ZV} {w : Nat → Nat} (R : RepC D 1 V) (hv : Valid V) (hw : ∀ i, i < zn V → D 18 i = nI (w i)) (hb : ∀ i, i < zn V → w i < zn V) : Cq sc d 10 [.ref 19, .ref 1, .ref 18] D G (fun r D2 => r = .inl none ∧ (∀ a, a ≠ 19 → a ≠ 20 → a ≠ 21 → D2 a = D a) ∧ Line D2 (zL V w (zn V)).length (zst (zL V w (zn V))) (zow (zL V w (zn V))) (zs V 0) (zs V 1)) := by
  obtain ⟨r0, r1, rw, re, rc, rh, rr, rs0, rs1⟩ := rC R
  obtain ⟨h7, vw, ve, vh, vE, vr, vj, vs0, vs1⟩ := id hv
  have L : ∀ n k D3, zn V - k = n → k ≤ zn V → (∀ a, a ≠ 19 → a ≠ 20 → a ≠ 21 → D3 a = D a) → LineD D3 (zL V w k) (zs V 0) (zs V 1) → Rq sc d 10 (30, [some (.ref 19), some (.ref 1), some (.ref 18), some (.int (nI (zbg V w k))), some (.int (nI k)), none, none], [], (hx_S0, D3, G), 0) G (fun r D2 => r = .inl none ∧ (∀ a, a ≠ 19 → a ≠ 20 → a ≠ 21 → D2 a = D a) ∧ Line D2 (zL V w (zn V)).length (zst (zL V w (zn V))) (zow (zL V w (zn V))) (zs V 0) (zs V 1)) := by
    intro n
    induction n using Nat.strongRecOn with
    | _ n ih =>
    intro k D3 hn hk hI hL
    have k1 : D3 1 = D 1 := hI 1 (by omega) (by omega) (by omega)
    have k2 : D3 2 = D 2 := hI 2 (by omega) (by omega) (by omega)
    have k4 : D3 4 = D 4 := hI 4 (by omega) (by omega) (by omega)
    have k5 : D3 5 = D 5 := hI 5 (by omega) (by omega) (by omega)
    have kr : D3 18 = D 18 := hI 18 (by omega) (by omega) (by omega)
    refine Rq.b (fun _ => b10_1_30) (fun h30 => ?_) (fun h30 => ?_)
    · try simp (disch := omega) only [Int32.le_iff_toInt_le, Int32.lt_iff_toInt_lt, z_eq, z_nI, z_0, z_m1, z_sub, nI_add, nI_mulN, pk_sub, nI_clamp, Nat.reduceAdd, Nat.reduceMul, Nat.reduceSub, Nat.zero_add, Nat.add_zero, hx_up_ne, k1, k2, k4, k5, kr, r0] at h30
      all_goals (try (exfalso; omega))
      all_goals
        refine Rq.e (b10_1_126) ?_
        refine ⟨rfl, hI, ?_⟩
        rw [show k = zn V by omega] at hL
        exact LineD.full hv hb hL
    · try simp (disch := omega) only [Int32.le_iff_toInt_le, Int32.lt_iff_toInt_lt, z_eq, z_nI, z_0, z_m1, z_sub, nI_add, nI_mulN, pk_sub, nI_clamp, Nat.reduceAdd, Nat.reduceMul, Nat.reduceSub, Nat.zero_add, Nat.add_zero, hx_up_ne, k1, k2, k4, k5, kr, r0] at h30
      all_goals (try (exfalso; omega))
      all_goals
        have hwk := hw k (by omega)
        have hbk := hb k (by omega)
        refine Rq.s (fun _ => b10_1_39 (by (try simp (disch := omega) only [nI_add, nI_mulN, pk_sub, nI_clamp, Nat.reduceAdd, Nat.reduceMul, Nat.reduceSub, Nat.zero_add, Nat.add_zero, hx_up_ne, k1, k2, k4, k5, kr, r0, hwk]); exact nI_inbT (by omega) (by omega))) ?_
        try simp (disch := omega) only [nI_add, nI_mulN, pk_sub, nI_clamp, Nat.reduceAdd, Nat.reduceMul, Nat.reduceSub, Nat.zero_add, Nat.add_zero, hx_up_ne, k1, k2, k4, k5, kr, r0, hwk]
        refine m10_1_i R hv hw hb (by omega) (fun D4 h1 h2 => ih _ (by omega) (k + 1) D4 rfl (by omega) h1 h2) _ 0 D3 rfl (by omega) hI ?_
        rw [zP_0]
        exact hL
  refine Cq.c (fun _ _ _ => c10_1) ?_
  refine Rq.s (fun _ => b10_1_0 (by (try simp (disch := omega) only [nI_add, nI_mulN, pk_sub, nI_clamp, Nat.reduceAdd, Nat.reduceMul, Nat.reduceSub, Nat.zero_add, Nat.add_zero, hx_up_ne, rs0, rs1]); exact nI_inbT (by omega) (by omega)) (by (try simp (disch := omega) only [nI_add, nI_mulN, pk_sub, nI_clamp, Nat.reduceAdd, Nat.reduceMul, Nat.reduceSub, Nat.zero_add, Nat.add_zero, hx_up_ne, rs0, rs1]); exact nI_inbT (by omega) (by omega))) ?_
  try simp (disch := omega) only [nI_add, nI_mulN, pk_sub, nI_clamp, Nat.reduceAdd, Nat.reduceMul, Nat.reduceSub, Nat.zero_add, Nat.add_zero, hx_up_ne, rs0, rs1]
  refine Rq.s (fun _ => b10_1_20) ?_
  try simp (disch := omega) only [nI_add, nI_mulN, pk_sub, nI_clamp, Nat.reduceAdd, Nat.reduceMul, Nat.reduceSub, Nat.zero_add, Nat.add_zero, hx_up_ne, rs0, rs1]
  refine L _ 0 _ rfl (by omega) (fun a a1 a2 a3 => by rw [hx_up_ne a1, hx_up_ne a1, hx_up_ne a1]) ⟨?_, fun i hi => absurd hi (Nat.not_lt_zero _), fun i hi => absurd hi (Nat.not_lt_zero _), ?_, ?_⟩
  · rw [hx_up_s]; rfl
  · simp [hx_up_at]
  · simp [hx_up_at]
