/-! ===== the reference: its looks at its numbers ===== -/
theorem rM {D : Nat → Nat → Int32} {V : ZV} (R : RepM D 80 0 V) : D 80 98 = nI (zn V) ∧ D 80 99 = nI (zm V) ∧ (∀ p, p < zn V → D 80 (13 * p) = nI (zw V p)) ∧ (∀ p j, p < zn V → j < 10 → D 80 (13 * p + (j + 1)) = nI (ze V p j)) ∧ (∀ p, p < zn V → D 80 (13 * p + 11) = nI (zB (zh V p) 30) ∧ D 80 (13 * p + 12) = nI (zB (fun x => zh V p (x + 30)) 30)) ∧ (∀ i, i < zn V → D 80 (91 + i) = nI (zr V i)) ∧ D 80 100 = nI (zs V 0) ∧ D 80 101 = nI (zs V 1) := by
  obtain ⟨a, b, c, e, f, g, h, i⟩ := R
  simp only [Nat.zero_add] at a b c e f g h i
  exact ⟨a, b, fun p hp => by rw [Nat.mul_comm]; exact c p hp, fun p j hp hj => by rw [Nat.mul_comm]; exact e p j hp hj, fun p hp => by rw [Nat.mul_comm]; exact f p hp, g, h, i⟩
theorem RepM_k {D D2 : Nat → Nat → Int32} {c o c2 o2 : Nat} {V : ZV} (hv : Valid V) (h : ∀ i, i < 102 → D2 c2 (o2 + i) = D c (o + i)) (R : RepM D c o V) : RepM D2 c2 o2 V := by
  obtain ⟨a, b, e, f, g, k, l, m⟩ := R
  have h7 := hv.1
  exact ⟨by rw [h 98 (by omega)]; exact a, by rw [h 99 (by omega)]; exact b, fun p hp => by rw [h (p * 13) (by omega)]; exact e p hp, fun p j hp hj => by rw [h (p * 13 + (j + 1)) (by omega)]; exact f p j hp hj, fun p hp => ⟨by rw [h (p * 13 + 11) (by omega)]; exact (g p hp).1, by rw [h (p * 13 + 12) (by omega)]; exact (g p hp).2⟩, fun i hi => by rw [h (91 + i) (by omega)]; exact k i hi, by rw [h 100 (by omega)]; exact l, by rw [h 101 (by omega)]; exact m⟩
theorem m102 {sc : Nat × (Nat → Int32)} {d : Nat} {D : Nat → Nat → Int32} {G : Nat → Nat → Int64} {x lo hi : Int32} {v l h : Int} {P : Prop} [Decidable P] (e1 : x.toInt = v) (e2 : lo.toInt = l) (e3 : hi.toInt = h) (hP : P ↔ l ≤ v ∧ v ≤ h) : Cl sc d 102 [.int x, .int lo, .int hi] (hx_S0, D, G) (.inl (some (.int (nI (if P then 1 else 0))))) (hx_S0, D, G) := by
  refine Cq.p ?_
  refine Cq.c (fun _ _ _ => c102) ?_
  refine Rq.b (fun _ => b102_0) (fun h0 => ?_) (fun h0 => ?_)
  · try simp (disch := omega) only [Int32.le_iff_toInt_le, Int32.lt_iff_toInt_lt, z_eq, z_nI, z_0, z_m1, z_sub, e1, e2, e3, nI_add, nI_mulN, pk_sub, nI_clamp, Nat.reduceAdd, Nat.reduceMul, Nat.reduceSub, Nat.zero_add, Nat.add_zero] at h0
    all_goals (try (exfalso; omega))
    all_goals
      refine Rq.s (fun _ => b102_14) ?_
      try simp (disch := omega) only [nI_add, nI_mulN, pk_sub, nI_clamp, Nat.reduceAdd, Nat.reduceMul, Nat.reduceSub, Nat.zero_add, Nat.add_zero]
      refine Rq.e (b102_15 (by first | exact Or.inl rfl | exact Or.inr rfl | (split <;> first | exact Or.inl rfl | exact Or.inr rfl))) ?_
      first
        | exact Qp.i (by rw [if_neg (fun z => by have := hP.mp z; omega)])
        | exact Qp.i (by rw [if_pos (hP.mpr ⟨by omega, by omega⟩)])
  · try simp (disch := omega) only [Int32.le_iff_toInt_le, Int32.lt_iff_toInt_lt, z_eq, z_nI, z_0, z_m1, z_sub, e1, e2, e3, nI_add, nI_mulN, pk_sub, nI_clamp, Nat.reduceAdd, Nat.reduceMul, Nat.reduceSub, Nat.zero_add, Nat.add_zero] at h0
    all_goals (try (exfalso; omega))
    all_goals
      refine Rq.b (fun _ => b102_5) (fun h5 => ?_) (fun h5 => ?_)
      · try simp (disch := omega) only [Int32.le_iff_toInt_le, Int32.lt_iff_toInt_lt, z_eq, z_nI, z_0, z_m1, z_sub, e1, e2, e3, nI_add, nI_mulN, pk_sub, nI_clamp, Nat.reduceAdd, Nat.reduceMul, Nat.reduceSub, Nat.zero_add, Nat.add_zero] at h5
        all_goals (try (exfalso; omega))
        all_goals
          refine Rq.s (fun _ => b102_14) ?_
          try simp (disch := omega) only [nI_add, nI_mulN, pk_sub, nI_clamp, Nat.reduceAdd, Nat.reduceMul, Nat.reduceSub, Nat.zero_add, Nat.add_zero]
          refine Rq.e (b102_15 (by first | exact Or.inl rfl | exact Or.inr rfl | (split <;> first | exact Or.inl rfl | exact Or.inr rfl))) ?_
          first
            | exact Qp.i (by rw [if_neg (fun z => by have := hP.mp z; omega)])
            | exact Qp.i (by rw [if_pos (hP.mpr ⟨by omega, by omega⟩)])
      · try simp (disch := omega) only [Int32.le_iff_toInt_le, Int32.lt_iff_toInt_lt, z_eq, z_nI, z_0, z_m1, z_sub, e1, e2, e3, nI_add, nI_mulN, pk_sub, nI_clamp, Nat.reduceAdd, Nat.reduceMul, Nat.reduceSub, Nat.zero_add, Nat.add_zero] at h5
        all_goals (try (exfalso; omega))
        all_goals
          refine Rq.s (fun _ => b102_10) ?_
          try simp (disch := omega) only [nI_add, nI_mulN, pk_sub, nI_clamp, Nat.reduceAdd, Nat.reduceMul, Nat.reduceSub, Nat.zero_add, Nat.add_zero]
          refine Rq.e (b102_15b (by first | exact Or.inl rfl | exact Or.inr rfl | (split <;> first | exact Or.inl rfl | exact Or.inr rfl))) ?_
          first
            | exact Qp.i (by rw [if_neg (fun z => by have := hP.mp z; omega)])
            | exact Qp.i (by rw [if_pos (hP.mpr ⟨by omega, by omega⟩)])
theorem m103 {sc : Nat × (Nat → Int32)} {d : Nat} {D : Nat → Nat → Int32} {G : Nat → Nat → Int64} {k : Nat} (hk : k < 100) : Cq sc d 103 [.ref 79, .int (nI k)] D G (fun r D2 => r = .inl (some (.int (nI (if k = 0 then 1 else 0)))) ∧ D2 = hx_up D 79 0 (nI k)) := by
  refine Cq.c (fun _ _ _ => c103) ?_
  refine Rq.b (fun _ => b103_0) (fun h0 => ?_) (fun h0 => ?_)
  · try simp (disch := omega) only [Int32.le_iff_toInt_le, Int32.lt_iff_toInt_lt, z_eq, z_nI, z_0, z_m1, z_sub, nI_add, nI_mulN, pk_sub, nI_clamp, Nat.reduceAdd, Nat.reduceMul, Nat.reduceSub, Nat.zero_add, Nat.add_zero] at h0
    all_goals (try (exfalso; omega))
    all_goals (try simp (disch := omega) only [nI_add, nI_mulN, pk_sub, nI_clamp, Nat.reduceAdd, Nat.reduceMul, Nat.reduceSub, Nat.zero_add, Nat.add_zero])
    all_goals
      refine Rq.s (fun _ => b103_13) ?_
      try simp (disch := omega) only [nI_add, nI_mulN, pk_sub, nI_clamp, Nat.reduceAdd, Nat.reduceMul, Nat.reduceSub, Nat.zero_add, Nat.add_zero]
      refine Rq.e (b103_14 (by first | exact Or.inl rfl | exact Or.inr rfl | (split <;> first | exact Or.inl rfl | exact Or.inr rfl))) ?_
      first
        | exact ⟨by rw [if_pos (by omega)], rfl⟩
        | exact ⟨by rw [if_neg (by omega)], rfl⟩
  · try simp (disch := omega) only [Int32.le_iff_toInt_le, Int32.lt_iff_toInt_lt, z_eq, z_nI, z_0, z_m1, z_sub, nI_add, nI_mulN, pk_sub, nI_clamp, Nat.reduceAdd, Nat.reduceMul, Nat.reduceSub, Nat.zero_add, Nat.add_zero] at h0
    all_goals (try (exfalso; omega))
    all_goals (try simp (disch := omega) only [nI_add, nI_mulN, pk_sub, nI_clamp, Nat.reduceAdd, Nat.reduceMul, Nat.reduceSub, Nat.zero_add, Nat.add_zero])
    all_goals
      refine Rq.s (fun _ => b103_9) ?_
      try simp (disch := omega) only [nI_add, nI_mulN, pk_sub, nI_clamp, Nat.reduceAdd, Nat.reduceMul, Nat.reduceSub, Nat.zero_add, Nat.add_zero]
      refine Rq.e (b103_14b (by first | exact Or.inl rfl | exact Or.inr rfl | (split <;> first | exact Or.inl rfl | exact Or.inr rfl))) ?_
      first
        | exact ⟨by rw [if_pos (by omega)], rfl⟩
        | exact ⟨by rw [if_neg (by omega)], rfl⟩
theorem m105 {sc : Nat × (Nat → Int32)} {d : Nat} {D : Nat → Nat → Int32} {G : Nat → Nat → Int64} {a b : Nat} : Cl sc d 105 [.int (nI a), .int (nI b)] (hx_S0, D, G) (.inl (some (.int (nI (13 * a + b))))) (hx_S0, D, G) := by
  refine Cq.p (Cq.c (fun _ _ _ => c105) (Rq.e b105_0 (Qp.i ?_)))
  rw [nI_mulN, nI_add, nI_add, Nat.zero_add]
theorem m104 {sc : Nat × (Nat → Int32)} {d : Nat} {D : Nat → Nat → Int32} {G : Nat → Nat → Int64} {x : Int} {n : Nat} (h98 : D 80 98 = nI n) (hn : n < 1000) (bx1 : -2147483648 ≤ x) (bx2 : x < 2147483648) : Cl sc (d + 1) 104 [.ref 79, .int (iI x)] (hx_S0, D, G) (.inl (some (.int (nI (if 0 ≤ x ∧ x < (n : Int) then 1 else 0))))) (hx_S0, D, G) := by
  refine Cq.p ?_
  refine Cq.c (fun _ _ _ => c104) ?_
  refine Rq.s (fun _ => b104_0 (nI_inbT (by omega) (by omega)) (by rw [nI_clamp (show 98 < 2 ^ 31 by omega), h98]; exact m102 (d := d) (z_iI bx1 bx2) (z_nI (by omega)) (z_sub (by omega) (by omega)) (P := 0 ≤ x ∧ x < (n : Int)) (by omega))) ?_
  refine Rq.e (b104_14 (by first | exact Or.inl rfl | exact Or.inr rfl | (split <;> first | exact Or.inl rfl | exact Or.inr rfl))) ?_
  exact Qp.i rfl
theorem m109 {sc : Nat × (Nat → Int32)} {d : Nat} {D : Nat → Nat → Int32} {G : Nat → Nat → Int64} {a b : Nat} (ha : a < 1000) (hb : b < 1000) : Cl sc d 109 [.int (nI a - nI b)] (hx_S0, D, G) (.inl (some (.int (nI (nd a b))))) (hx_S0, D, G) := by
  have e := nI_abs2 (a := a) (b := b) (by omega) (by omega)
  have e0 : (0 ≤ nI a - nI b) ↔ ¬ (nI a - nI b < 0) := by
    rw [Int32.le_iff_toInt_le, Int32.lt_iff_toInt_lt, z_0]
    omega
  refine Cq.p (Cq.c (fun _ _ _ => c109) ?_)
  by_cases c : nI a - nI b < 0
  · rw [if_pos c] at e
    refine Rq.bf (fun _ => b109_0) (fun z => (e0.mp z) c) ?_
    refine Rq.s (fun _ => b109_4) ?_
    exact Rq.e b109_10b (Qp.i e)
  · rw [if_neg c] at e
    refine Rq.bt (fun _ => b109_0) (e0.mpr c) ?_
    refine Rq.s (fun _ => b109_9) ?_
    exact Rq.e b109_10 (Qp.i e)
theorem m109i {sc : Nat × (Nat → Int32)} {d : Nat} {D : Nat → Nat → Int32} {G : Nat → Nat → Int64} {z : Int} (h1 : -100000 ≤ z) (h2 : z < 100000) : Cl sc d 109 [.int (iI z)] (hx_S0, D, G) (.inl (some (.int (iI (if z < 0 then -z else z))))) (hx_S0, D, G) := by
  have e := iI_abs2 (z := z) (by omega) (by omega)
  have e0 : (0 ≤ iI z) ↔ ¬ (iI z < 0) := by
    rw [Int32.le_iff_toInt_le, Int32.lt_iff_toInt_lt, z_0]
    omega
  refine Cq.p (Cq.c (fun _ _ _ => c109) ?_)
  by_cases c : iI z < 0
  · rw [if_pos c] at e
    refine Rq.bf (fun _ => b109_0) (fun z => (e0.mp z) c) ?_
    refine Rq.s (fun _ => b109_4) ?_
    exact Rq.e b109_10b (Qp.i e)
  · rw [if_neg c] at e
    refine Rq.bt (fun _ => b109_0) (e0.mpr c) ?_
    refine Rq.s (fun _ => b109_9) ?_
    exact Rq.e b109_10 (Qp.i e)
theorem m110e {sc : Nat × (Nat → Int32)} {d : Nat} {D : Nat → Nat → Int32} {G : Nat → Nat → Int64} {V : ZV} {f s : Nat} (se : ∀ p j, p < zn V → j < 10 → D 80 (13 * p + (j + 1)) = nI (ze V p j)) (hv : Valid V) (hf : f < zn V) (hs : s < zn V) : Cl sc (d + 1) 110 [.ref 79, .int (nI f), .int (nI s)] (hx_S0, D, G) (.inl (some (.int (nI (zj V f s))))) (hx_S0, D, G) := by
  obtain ⟨h7, vw, ve, vh, vE, vr, vj, vs0, vs1⟩ := id hv
  have vef : ∀ j, j < 10 → ze V f j ≤ 9 := fun j hj => (ve f j hf hj).1
  have ves : ∀ j, j < 10 → ze V s j ≤ 9 := fun j hj => (ve s j hs hj).1
  have a5 := vef 5 (by omega)
  have a6 := vef 6 (by omega)
  have a7 := vef 7 (by omega)
  have a8 := vef 8 (by omega)
  have a9 := vef 9 (by omega)
  have b0 := ves 0 (by omega)
  have b1 := ves 1 (by omega)
  have b2 := ves 2 (by omega)
  have b3 := ves 3 (by omega)
  have b4 := ves 4 (by omega)
  have f0 : D 80 (13 * f + (6 + 0)) = nI (ze V f 5) := se f 5 hf (by omega)
  have f1 : D 80 (13 * f + (6 + (0 + 1))) = nI (ze V f 6) := se f 6 hf (by omega)
  have f2 : D 80 (13 * f + (6 + (0 + 1 + 1))) = nI (ze V f 7) := se f 7 hf (by omega)
  have f3 : D 80 (13 * f + (6 + (0 + 1 + 1 + 1))) = nI (ze V f 8) := se f 8 hf (by omega)
  have f4 : D 80 (13 * f + 10) = nI (ze V f 9) := se f 9 hf (by omega)
  have g0 : D 80 (13 * s + (1 + 0)) = nI (ze V s 0) := se s 0 hs (by omega)
  have g1 : D 80 (13 * s + (1 + (0 + 1))) = nI (ze V s 1) := se s 1 hs (by omega)
  have g2 : D 80 (13 * s + (1 + (0 + 1 + 1))) = nI (ze V s 2) := se s 2 hs (by omega)
  have g3 : D 80 (13 * s + (1 + (0 + 1 + 1 + 1))) = nI (ze V s 3) := se s 3 hs (by omega)
  have g4 : D 80 (13 * s + 5) = nI (ze V s 4) := se s 4 hs (by omega)
  refine Cq.p (Cq.c (fun _ _ _ => c110) ?_)
  refine Rq.s (fun _ => b110_0) ?_
  refine Rq.bf (fun _ => b110_5) (nI_ge (by omega) (by omega)) ?_
  refine Rq.s (fun _ => b110_11 (by rw [nI_add]; exact m105)) ?_
  refine Rq.s (fun _ => b110_25 (nI_inbT (by omega) (by omega)) (by rw [nI_add]; exact m105)) ?_
  rw [nI_clamp (by omega), f0]
  refine Rq.s (fun _ => b110_38 (nI_inbT (by omega) (by omega)) (by rw [nI_clamp (by omega), g0, nI_add]; exact m109 (by omega) (by omega))) ?_
  refine Rq.s (fun _ => b110_45) ?_
  rw [nI_add, nI_add]
  refine Rq.bf (fun _ => b110_5) (nI_ge (by omega) (by omega)) ?_
  refine Rq.s (fun _ => b110_11 (by rw [nI_add]; exact m105)) ?_
  refine Rq.s (fun _ => b110_25 (nI_inbT (by omega) (by omega)) (by rw [nI_add]; exact m105)) ?_
  rw [nI_clamp (by omega), f1]
  refine Rq.s (fun _ => b110_38 (nI_inbT (by omega) (by omega)) (by rw [nI_clamp (by omega), g1, nI_add]; exact m109 (by omega) (by omega))) ?_
  refine Rq.s (fun _ => b110_45) ?_
  rw [nI_add, nI_add]
  refine Rq.bf (fun _ => b110_5) (nI_ge (by omega) (by omega)) ?_
  refine Rq.s (fun _ => b110_11 (by rw [nI_add]; exact m105)) ?_
  refine Rq.s (fun _ => b110_25 (nI_inbT (by omega) (by omega)) (by rw [nI_add]; exact m105)) ?_
  rw [nI_clamp (by omega), f2]
  refine Rq.s (fun _ => b110_38 (nI_inbT (by omega) (by omega)) (by rw [nI_clamp (by omega), g2, nI_add]; exact m109 (by omega) (by omega))) ?_
  refine Rq.s (fun _ => b110_45) ?_
  rw [nI_add, nI_add]
  refine Rq.bf (fun _ => b110_5) (nI_ge (by omega) (by omega)) ?_
  refine Rq.s (fun _ => b110_11 (by rw [nI_add]; exact m105)) ?_
  refine Rq.s (fun _ => b110_25 (nI_inbT (by omega) (by omega)) (by rw [nI_add]; exact m105)) ?_
  rw [nI_clamp (by omega), f3]
  refine Rq.s (fun _ => b110_38 (nI_inbT (by omega) (by omega)) (by rw [nI_clamp (by omega), g3, nI_add]; exact m109 (by omega) (by omega))) ?_
  refine Rq.s (fun _ => b110_45) ?_
  rw [nI_add, nI_add]
  refine Rq.bt (fun _ => b110_5) (nI_le (by omega) (by omega)) ?_
  refine Rq.s (fun _ => b110_53 m105) ?_
  refine Rq.s (fun _ => b110_65 (nI_inbT (by omega) (by omega)) m105) ?_
  rw [nI_clamp (by omega), f4]
  refine Rq.s (fun _ => b110_75 (nI_inbT (by omega) (by omega)) (by rw [nI_clamp (by omega), g4]; exact m109 (by omega) (by omega))) ?_
  refine Rq.e b110_80 (Qp.i ?_)
  rw [nI_mulN, nI_add]
  congr 1
  unfold zj
  omega
theorem m110 {sc : Nat × (Nat → Int32)} {d : Nat} {D : Nat → Nat → Int32} {G : Nat → Nat → Int64} {V : ZV} {f s : Nat} (R : RepM D 80 0 V) (hv : Valid V) (hf : f < zn V) (hs : s < zn V) : Cl sc (d + 1) 110 [.ref 79, .int (nI f), .int (nI s)] (hx_S0, D, G) (.inl (some (.int (nI (zj V f s))))) (hx_S0, D, G) := m110e (rM R).2.2.2.1 hv hf hs
theorem m111 {sc : Nat × (Nat → Int32)} {d : Nat} {D : Nat → Nat → Int32} {G : Nat → Nat → Int64} {V : ZV} (R : RepM D 80 0 V) (hv : Valid V) : Cl sc (d + 2) 111 [.ref 79] (hx_S0, D, G) (.inl (some (.int (nI (zcost V (zr V)))))) (hx_S0, D, G) := by
  obtain ⟨s0, s1, sw, se, sb, sr, ss0, ss1⟩ := rM R
  obtain ⟨h7, vw, ve, vh, vE, vr, vj, vs0, vs1⟩ := id hv
  have L : ∀ m i a, 1 ≤ i → i < 20 → zn V - i = m → Rq sc (d + 2) 111 (4, [some (.ref 79), some (.int (nI a)), some (.int (nI i))], [], (hx_S0, D, G), 0) G (Qp (nI (a + zJs V (zr V) i m)) D) := by
    intro m
    induction m with
    | zero =>
      intro i a hi hk hm
      refine Rq.bt (fun _ => b111_4 (by (try simp (disch := omega) only [nI_add, nI_mulN, pk_sub, nI_clamp, Nat.reduceAdd, Nat.reduceMul, Nat.reduceSub, Nat.zero_add, Nat.add_zero, s0]); exact nI_inbT (by omega) (by omega))) (by rw [nI_clamp (show 98 < 2 ^ 31 by omega), s0]; exact nI_le (by omega) (by omega)) ?_
      refine Rq.e (b111_48) ?_
      exact Qp.i rfl
    | succ m ih =>
      intro i a hi hk hm
      have sri := sr i (by omega)
      have srj : D 80 (91 + i - 1) = nI (zr V (i - 1)) := by rw [show 91 + i - 1 = 91 + (i - 1) by omega]; exact sr (i - 1) (by omega)
      have vri := vr i (by omega)
      have vrj := vr (i - 1) (by omega)
      refine Rq.bf (fun _ => b111_4 (by (try simp (disch := omega) only [nI_add, nI_mulN, pk_sub, nI_clamp, Nat.reduceAdd, Nat.reduceMul, Nat.reduceSub, Nat.zero_add, Nat.add_zero, s0, sri, srj]); exact nI_inbT (by omega) (by omega))) (by rw [nI_clamp (show 98 < 2 ^ 31 by omega), s0]; exact nI_ge (by omega) (by omega)) ?_
      refine Rq.s (fun _ => b111_15 (by (try simp (disch := omega) only [nI_add, nI_mulN, pk_sub, nI_clamp, Nat.reduceAdd, Nat.reduceMul, Nat.reduceSub, Nat.zero_add, Nat.add_zero, s0, sri, srj]); exact nI_inbT (by omega) (by omega)) (by (try simp (disch := omega) only [nI_add, nI_mulN, pk_sub, nI_clamp, Nat.reduceAdd, Nat.reduceMul, Nat.reduceSub, Nat.zero_add, Nat.add_zero, s0, sri, srj]); exact nI_inbT (by omega) (by omega)) (by (try simp (disch := omega) only [nI_add, nI_mulN, pk_sub, nI_clamp, Nat.reduceAdd, Nat.reduceMul, Nat.reduceSub, Nat.zero_add, Nat.add_zero, s0, sri, srj]); exact m110 (d := d) R hv vrj vri)) ?_
      refine Rq.s (fun _ => b111_40) ?_
      try simp (disch := omega) only [nI_add, nI_mulN, pk_sub, nI_clamp, Nat.reduceAdd, Nat.reduceMul, Nat.reduceSub, Nat.zero_add, Nat.add_zero, s0, sri, srj]
      have := ih (i + 1) (a + zj V (zr V (i - 1)) (zr V i)) (by omega) (by omega) (by omega)
      rw [Nat.add_assoc] at this
      exact this
  refine Cq.p (Cq.c (fun _ _ _ => c111) ?_)
  refine Rq.s (fun _ => b111_0) ?_
  have := L (zn V - 1) 1 0 (by omega) (by omega) rfl
  rw [Nat.zero_add] at this
  exact this
theorem m112 {sc : Nat × (Nat → Int32)} {d : Nat} {D : Nat → Nat → Int32} {G : Nat → Nat → Int64} {V : ZV} {p : Nat} (R : RepM D 80 0 V) (hv : Valid V) (hp : p < zn V) : Cl sc d 112 [.ref 79, .int (nI p)] (hx_S0, D, G) (.inl (some (.int (nI (zq V p))))) (hx_S0, D, G) := by
  obtain ⟨s0, s1, sw, se, sb, sr, ss0, ss1⟩ := rM R
  obtain ⟨h7, vw, ve, vh, vE, vr, vj, vs0, vs1⟩ := id hv
  obtain ⟨q1, q2, q3⟩ := zq_spec hv hp
  have L : ∀ m i, zq V p - i = m → i ≤ zq V p → Rq sc d 112 (2, [some (.ref 79), some (.int (nI p)), some (.int (nI i))], [], (hx_S0, D, G), 0) G (Qp (nI (zq V p)) D) := by
    intro m
    induction m using Nat.strongRecOn with
    | _ m ih =>
    intro i hm hi
    have sri := sr i (by omega)
    have vri := vr i (by omega)
    have k1 : i < zq V p → zr V i ≠ p := fun h => q3 i h
    have k2 : i = zq V p → zr V i = p := fun h => h ▸ q2
    refine Rq.b (fun _ => b112_2 (by (try simp (disch := omega) only [nI_add, nI_mulN, pk_sub, nI_clamp, Nat.reduceAdd, Nat.reduceMul, Nat.reduceSub, Nat.zero_add, Nat.add_zero, sri]); exact nI_inbT (by omega) (by omega))) (fun h2 => ?_) (fun h2 => ?_)
    · try simp (disch := omega) only [Int32.le_iff_toInt_le, Int32.lt_iff_toInt_lt, z_eq, z_nI, z_0, z_m1, z_sub, nI_add, nI_mulN, pk_sub, nI_clamp, Nat.reduceAdd, Nat.reduceMul, Nat.reduceSub, Nat.zero_add, Nat.add_zero, sri] at h2
      all_goals (try (exfalso; omega))
      all_goals
        refine Rq.e (b112_21) ?_
        exact Qp.i (by rw [show i = zq V p by omega])
    · try simp (disch := omega) only [Int32.le_iff_toInt_le, Int32.lt_iff_toInt_lt, z_eq, z_nI, z_0, z_m1, z_sub, nI_add, nI_mulN, pk_sub, nI_clamp, Nat.reduceAdd, Nat.reduceMul, Nat.reduceSub, Nat.zero_add, Nat.add_zero, sri] at h2
      all_goals (try (exfalso; omega))
      all_goals
        refine Rq.s (fun _ => b112_15) ?_
        try simp (disch := omega) only [nI_add, nI_mulN, pk_sub, nI_clamp, Nat.reduceAdd, Nat.reduceMul, Nat.reduceSub, Nat.zero_add, Nat.add_zero, sri]
        exact ih _ (by omega) (i + 1) rfl (by omega)
  refine Cq.p ?_
  refine Cq.c (fun _ _ _ => c112) ?_
  refine Rq.s (fun _ => b112_0) ?_
  try simp (disch := omega) only [nI_add, nI_mulN, pk_sub, nI_clamp, Nat.reduceAdd, Nat.reduceMul, Nat.reduceSub, Nat.zero_add, Nat.add_zero]
  exact L _ 0 rfl (by omega)
theorem m113 {sc : Nat × (Nat → Int32)} {d : Nat} {D : Nat → Nat → Int32} {G : Nat → Nat → Int64} {V : ZV} {p : Nat} (R : RepM D 80 0 V) (hv : Valid V) (hp : p < zn V) : Cl sc (d + 1) 113 [.ref 79, .int (nI p)] (hx_S0, D, G) (.inl (some (.int (nI (zbe V (zq V p)))))) (hx_S0, D, G) := by
  obtain ⟨s0, s1, sw, se, sb, sr, ss0, ss1⟩ := rM R
  obtain ⟨h7, vw, ve, vh, vE, vr, vj, vs0, vs1⟩ := id hv
  obtain ⟨q1, q2, q3⟩ := zq_spec hv hp
  have L : ∀ m i, zq V p - i = m → i ≤ zq V p → Rq sc (d + 1) 113 (4, [some (.ref 79), some (.int (nI p)), some (.int (nI (zbe V i))), some (.int (nI i))], [], (hx_S0, D, G), 0) G (Qp (nI (zbe V (zq V p))) D) := by
    intro m
    induction m using Nat.strongRecOn with
    | _ m ih =>
    intro i hm hi
    refine Rq.s (fun _ => b113_4 (by (try simp (disch := omega) only [nI_add, nI_mulN, pk_sub, nI_clamp, Nat.reduceAdd, Nat.reduceMul, Nat.reduceSub, Nat.zero_add, Nat.add_zero]); exact m112 (d := d) R hv hp)) ?_
    refine Rq.b (fun _ => b113_10) (fun h10 => ?_) (fun h10 => ?_)
    · try simp (disch := omega) only [Int32.le_iff_toInt_le, Int32.lt_iff_toInt_lt, z_eq, z_nI, z_0, z_m1, z_sub, nI_add, nI_mulN, pk_sub, nI_clamp, Nat.reduceAdd, Nat.reduceMul, Nat.reduceSub, Nat.zero_add, Nat.add_zero] at h10
      all_goals (try (exfalso; omega))
      all_goals
        refine Rq.e (b113_40) ?_
        exact Qp.i (by rw [show i = zq V p by omega])
    · try simp (disch := omega) only [Int32.le_iff_toInt_le, Int32.lt_iff_toInt_lt, z_eq, z_nI, z_0, z_m1, z_sub, nI_add, nI_mulN, pk_sub, nI_clamp, Nat.reduceAdd, Nat.reduceMul, Nat.reduceSub, Nat.zero_add, Nat.add_zero] at h10
      all_goals (try (exfalso; omega))
      all_goals
        have sri := sr i (by omega)
        have vri := vr i (by omega)
        have swi := sw (zr V i) vri
        refine Rq.s (fun _ => b113_13 (by (try simp (disch := omega) only [nI_add, nI_mulN, pk_sub, nI_clamp, Nat.reduceAdd, Nat.reduceMul, Nat.reduceSub, Nat.zero_add, Nat.add_zero, sri, swi]); exact nI_inbT (by omega) (by omega)) (by (try simp (disch := omega) only [nI_add, nI_mulN, pk_sub, nI_clamp, Nat.reduceAdd, Nat.reduceMul, Nat.reduceSub, Nat.zero_add, Nat.add_zero, sri, swi]); exact m105 (d := d) (b := 0))) ?_
        refine Rq.s (fun _ => b113_31 (by (try simp (disch := omega) only [nI_add, nI_mulN, pk_sub, nI_clamp, Nat.reduceAdd, Nat.reduceMul, Nat.reduceSub, Nat.zero_add, Nat.add_zero, sri, swi]); exact nI_inbT (by omega) (by omega))) ?_
        try simp (disch := omega) only [nI_add, nI_mulN, pk_sub, nI_clamp, Nat.reduceAdd, Nat.reduceMul, Nat.reduceSub, Nat.zero_add, Nat.add_zero, sri, swi]
        exact ih _ (by omega) (i + 1) rfl (by omega)
  refine Cq.p ?_
  refine Cq.c (fun _ _ _ => c113) ?_
  refine Rq.s (fun _ => b113_0) ?_
  try simp (disch := omega) only [nI_add, nI_mulN, pk_sub, nI_clamp, Nat.reduceAdd, Nat.reduceMul, Nat.reduceSub, Nat.zero_add, Nat.add_zero]
  exact L _ 0 rfl (by omega)
