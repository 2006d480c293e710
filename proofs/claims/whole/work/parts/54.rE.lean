/-! ===== the reference: looks that write aside ===== -/
/-- what the reference writes aside, or reckons with, may have changed; no more -/
def eqW (D D2 : Nat → Nat → Int32) : Prop := (∀ a, a ≤ 78 ∨ (82 ≤ a ∧ a ≤ 84) → D2 a = D a) ∧ (∀ i, i < 102 → D2 80 i = D 80 i) ∧ ∀ j, j = 0 ∨ j = 4 ∨ j = 6 ∨ j = 8 → D2 79 j = D 79 j
theorem eqW.rf {D : Nat → Nat → Int32} : eqW D D := ⟨fun _ _ => rfl, fun _ _ => rfl, fun _ _ => rfl⟩
theorem eqW.tr {D D2 D3 : Nat → Nat → Int32} (h : eqW D D2) (h2 : eqW D2 D3) : eqW D D3 := ⟨fun a ha => by rw [h2.1 a ha, h.1 a ha], fun i hi => by rw [h2.2.1 i hi, h.2.1 i hi], fun j hj => by rw [h2.2.2 j hj, h.2.2 j hj]⟩
theorem eqW.L {D D2 : Nat → Nat → Int32} (h : eqL D D2) : eqW D D2 := ⟨fun a ha => h.1 a (by omega) (by omega) (by omega), fun i _ => by rw [h.1 80 (by omega) (by omega) (by omega)], fun j hj => h.2 j (by omega)⟩
theorem eqW.R {D D2 : Nat → Nat → Int32} {V : ZV} (h : eqW D D2) (hv : Valid V) (R : RepM D 80 0 V) : RepM D2 80 0 V := RepM_k hv (fun i hi => by rw [Nat.zero_add]; exact h.2.1 i hi) R
def Qw (v : Int32) (D : Nat → Nat → Int32) : hx_RS → (Nat → Nat → Int32) → Prop := fun r D2 => r = .inl (some (.int v)) ∧ eqW D D2
theorem zL_ext {V V2 : ZV} {w : Nat → Nat} (h1 : zw V = zw V2) (h2 : zh V = zh V2) : ∀ k, zL V w k = zL V2 w k
  | 0 => rfl
  | k + 1 => by
    show zL V w k ++ (zE V (w k)).map (fun x => (zbg V w k + x, w k)) = zL V2 w k ++ (zE V2 (w k)).map (fun x => (zbg V2 w k + x, w k))
    rw [zL_ext h1 h2 k]
    unfold zE zbg
    rw [h1, h2]
theorem m152 {sc : Nat × (Nat → Int32)} {d : Nat} {D : Nat → Nat → Int32} {G : Nat → Nat → Int64} {V : ZV} {p j : Nat} (R : RepM D 80 0 V) (hv : Valid V) (hp : p < zn V) (hj : j ≤ 13) : Cl sc (d + 3) 152 [.ref 79, .int (nI p), .int (nI j)] (hx_S0, D, G) (.inl (some (.int (nI (zpr V p j))))) (hx_S0, D, G) := by
  obtain ⟨s0, s1, sw, se, sb, sr, ss0, ss1⟩ := rM R
  obtain ⟨h7, vw, ve, vh, vE, vr, vj, vs0, vs1⟩ := id hv
  refine Cq.p (Cq.c (fun _ _ _ => c152) ?_)
  rcases (by omega : j ≤ 10 ∨ j = 11 ∨ j = 12 ∨ j = 13) with e | e | e | e
  · have e2 : D 80 (13 * p + j) = nI (zpr V p j) := by
      unfold zpr
      by_cases c : j = 0
      · rw [if_pos c, c]; exact sw p hp
      · rw [if_neg c, if_pos e]
        have := se p (j - 1) hp (by omega)
        rw [show j - 1 + 1 = j by omega] at this
        exact this
    refine Rq.s (fun _ K => b152_0 (fun h => by exfalso; (try simp (disch := omega) only [Int32.le_iff_toInt_le, Int32.lt_iff_toInt_lt, z_eq, z_nI, z_0, z_m1, z_sub, z_11, z_12, z_13, nI_add, nI_mulN, pk_sub, nI_clamp, Nat.reduceAdd, Nat.reduceMul, Nat.reduceSub, Nat.zero_add, Nat.add_zero] at h) <;> omega) (fun h => by exfalso; (try simp (disch := omega) only [Int32.le_iff_toInt_le, Int32.lt_iff_toInt_lt, z_eq, z_nI, z_0, z_m1, z_sub, z_11, z_12, z_13, nI_add, nI_mulN, pk_sub, nI_clamp, Nat.reduceAdd, Nat.reduceMul, Nat.reduceSub, Nat.zero_add, Nat.add_zero] at h) <;> omega) (fun h => by exfalso; (try simp (disch := omega) only [Int32.le_iff_toInt_le, Int32.lt_iff_toInt_lt, z_eq, z_nI, z_0, z_m1, z_sub, z_11, z_12, z_13, nI_add, nI_mulN, pk_sub, nI_clamp, Nat.reduceAdd, Nat.reduceMul, Nat.reduceSub, Nat.zero_add, Nat.add_zero] at h) <;> omega) (fun _ => K)) ?_
    refine Rq.s (fun _ => b152_46 (by (try simp (disch := omega) only [nI_add, nI_mulN, pk_sub, nI_clamp, Nat.reduceAdd, Nat.reduceMul, Nat.reduceSub, Nat.zero_add, Nat.add_zero]); exact m105)) ?_
    refine Rq.e (b152_55 (by (try simp (disch := omega) only [nI_add, nI_mulN, pk_sub, nI_clamp, Nat.reduceAdd, Nat.reduceMul, Nat.reduceSub, Nat.zero_add, Nat.add_zero]); exact nI_inbT (by omega) (by omega))) ?_
    exact Qp.i (by rw [nI_clamp (by omega)]; exact e2)
  · subst e
    refine Rq.s (fun _ K => b152_0 (fun _ => K) (fun h => by exfalso; (try simp (disch := omega) only [Int32.le_iff_toInt_le, Int32.lt_iff_toInt_lt, z_eq, z_nI, z_0, z_m1, z_sub, z_11, z_12, z_13, nI_add, nI_mulN, pk_sub, nI_clamp, Nat.reduceAdd, Nat.reduceMul, Nat.reduceSub, Nat.zero_add, Nat.add_zero] at h) <;> omega) (fun h => by exfalso; (try simp (disch := omega) only [Int32.le_iff_toInt_le, Int32.lt_iff_toInt_lt, z_eq, z_nI, z_0, z_m1, z_sub, z_11, z_12, z_13, nI_add, nI_mulN, pk_sub, nI_clamp, Nat.reduceAdd, Nat.reduceMul, Nat.reduceSub, Nat.zero_add, Nat.add_zero] at h) <;> omega) (fun h => by exfalso; (try simp (disch := omega) only [Int32.le_iff_toInt_le, Int32.lt_iff_toInt_lt, z_eq, z_nI, z_0, z_m1, z_sub, z_11, z_12, z_13, nI_add, nI_mulN, pk_sub, nI_clamp, Nat.reduceAdd, Nat.reduceMul, Nat.reduceSub, Nat.zero_add, Nat.add_zero] at h) <;> omega)) ?_
    refine Rq.s (fun _ => b152_28 (by (try simp (disch := omega) only [nI_add, nI_mulN, pk_sub, nI_clamp, Nat.reduceAdd, Nat.reduceMul, Nat.reduceSub, Nat.zero_add, Nat.add_zero]); exact m119 (d := d) R hv hp)) ?_
    refine Rq.e (b152_33) ?_
    exact Qp.i rfl
  · subst e
    refine Rq.s (fun _ K => b152_0 (fun h => by exfalso; (try simp (disch := omega) only [Int32.le_iff_toInt_le, Int32.lt_iff_toInt_lt, z_eq, z_nI, z_0, z_m1, z_sub, z_11, z_12, z_13, nI_add, nI_mulN, pk_sub, nI_clamp, Nat.reduceAdd, Nat.reduceMul, Nat.reduceSub, Nat.zero_add, Nat.add_zero] at h) <;> omega) (fun _ => K) (fun h => by exfalso; (try simp (disch := omega) only [Int32.le_iff_toInt_le, Int32.lt_iff_toInt_lt, z_eq, z_nI, z_0, z_m1, z_sub, z_11, z_12, z_13, nI_add, nI_mulN, pk_sub, nI_clamp, Nat.reduceAdd, Nat.reduceMul, Nat.reduceSub, Nat.zero_add, Nat.add_zero] at h) <;> omega) (fun h => by exfalso; (try simp (disch := omega) only [Int32.le_iff_toInt_le, Int32.lt_iff_toInt_lt, z_eq, z_nI, z_0, z_m1, z_sub, z_11, z_12, z_13, nI_add, nI_mulN, pk_sub, nI_clamp, Nat.reduceAdd, Nat.reduceMul, Nat.reduceSub, Nat.zero_add, Nat.add_zero] at h) <;> omega)) ?_
    refine Rq.s (fun _ => b152_34 (by (try simp (disch := omega) only [nI_add, nI_mulN, pk_sub, nI_clamp, Nat.reduceAdd, Nat.reduceMul, Nat.reduceSub, Nat.zero_add, Nat.add_zero]); exact m112 (d := d + 2) R hv hp)) ?_
    refine Rq.e (b152_39) ?_
    exact Qp.i rfl
  · subst e
    refine Rq.s (fun _ K => b152_0 (fun h => by exfalso; (try simp (disch := omega) only [Int32.le_iff_toInt_le, Int32.lt_iff_toInt_lt, z_eq, z_nI, z_0, z_m1, z_sub, z_11, z_12, z_13, nI_add, nI_mulN, pk_sub, nI_clamp, Nat.reduceAdd, Nat.reduceMul, Nat.reduceSub, Nat.zero_add, Nat.add_zero] at h) <;> omega) (fun h => by exfalso; (try simp (disch := omega) only [Int32.le_iff_toInt_le, Int32.lt_iff_toInt_lt, z_eq, z_nI, z_0, z_m1, z_sub, z_11, z_12, z_13, nI_add, nI_mulN, pk_sub, nI_clamp, Nat.reduceAdd, Nat.reduceMul, Nat.reduceSub, Nat.zero_add, Nat.add_zero] at h) <;> omega) (fun _ => K) (fun h => by exfalso; (try simp (disch := omega) only [Int32.le_iff_toInt_le, Int32.lt_iff_toInt_lt, z_eq, z_nI, z_0, z_m1, z_sub, z_11, z_12, z_13, nI_add, nI_mulN, pk_sub, nI_clamp, Nat.reduceAdd, Nat.reduceMul, Nat.reduceSub, Nat.zero_add, Nat.add_zero] at h) <;> omega)) ?_
    refine Rq.s (fun _ => b152_40 (by (try simp (disch := omega) only [nI_add, nI_mulN, pk_sub, nI_clamp, Nat.reduceAdd, Nat.reduceMul, Nat.reduceSub, Nat.zero_add, Nat.add_zero]); exact m113 (d := d + 1) R hv hp)) ?_
    refine Rq.e (b152_45) ?_
    exact Qp.i rfl
theorem m159 {sc : Nat × (Nat → Int32)} {d : Nat} {D : Nat → Nat → Int32} {G : Nat → Nat → Int64} {V : ZV} {j : Nat} (R : RepM D 80 0 V) (hv : Valid V) (hj : j ≤ 13) : Cl sc (d + 4) 159 [.ref 79, .int (nI j)] (hx_S0, D, G) (.inl (some (.int (nI (zS (fun p => zpr V p j) (zn V)))))) (hx_S0, D, G) := by
  obtain ⟨s0, s1, sw, se, sb, sr, ss0, ss1⟩ := rM R
  obtain ⟨h7, vw, ve, vh, vE, vr, vj, vs0, vs1⟩ := id hv
  have L : ∀ m i, zn V - i = m → i ≤ zn V → Rq sc (d + 4) 159 (4, [some (.ref 79), some (.int (nI j)), some (.int (nI (zS (fun p => zpr V p j) i))), some (.int (nI i))], [], (hx_S0, D, G), 0) G (Qp (nI (zS (fun p => zpr V p j) (zn V))) D) := by
    intro m
    induction m using Nat.strongRecOn with
    | _ m ih =>
    intro i hm hi
    refine Rq.b (fun _ => b159_4 (by (try simp (disch := omega) only [nI_add, nI_mulN, pk_sub, nI_clamp, Nat.reduceAdd, Nat.reduceMul, Nat.reduceSub, Nat.zero_add, Nat.add_zero, s0]); exact nI_inbT (by omega) (by omega))) (fun h4 => ?_) (fun h4 => ?_)
    · try simp (disch := omega) only [Int32.le_iff_toInt_le, Int32.lt_iff_toInt_lt, z_eq, z_nI, z_0, z_m1, z_sub, nI_add, nI_mulN, pk_sub, nI_clamp, Nat.reduceAdd, Nat.reduceMul, Nat.reduceSub, Nat.zero_add, Nat.add_zero, s0] at h4
      all_goals (try (exfalso; omega))
      all_goals
        refine Rq.e (b159_30) ?_
        exact Qp.i (by rw [show i = zn V by omega])
    · try simp (disch := omega) only [Int32.le_iff_toInt_le, Int32.lt_iff_toInt_lt, z_eq, z_nI, z_0, z_m1, z_sub, nI_add, nI_mulN, pk_sub, nI_clamp, Nat.reduceAdd, Nat.reduceMul, Nat.reduceSub, Nat.zero_add, Nat.add_zero, s0] at h4
      all_goals (try (exfalso; omega))
      all_goals
        refine Rq.s (fun _ => b159_15 (by (try simp (disch := omega) only [nI_add, nI_mulN, pk_sub, nI_clamp, Nat.reduceAdd, Nat.reduceMul, Nat.reduceSub, Nat.zero_add, Nat.add_zero, s0]); exact m152 (d := d) R hv (by omega) hj)) ?_
        refine Rq.s (fun _ => b159_22) ?_
        try simp (disch := omega) only [nI_add, nI_mulN, pk_sub, nI_clamp, Nat.reduceAdd, Nat.reduceMul, Nat.reduceSub, Nat.zero_add, Nat.add_zero, s0]
        exact ih _ (by omega) (i + 1) rfl (by omega)
  refine Cq.p ?_
  refine Cq.c (fun _ _ _ => c159) ?_
  refine Rq.s (fun _ => b159_0) ?_
  try simp (disch := omega) only [nI_add, nI_mulN, pk_sub, nI_clamp, Nat.reduceAdd, Nat.reduceMul, Nat.reduceSub, Nat.zero_add, Nat.add_zero]
  exact L _ 0 rfl (by omega)
theorem sum_w {V : ZV} (hv : Valid V) : zS (fun p => zpr V p 0) (zn V) = zbe V (zn V) := by
  have h : zS (fun p => zpr V p 0) (zn V) = zS (zw V) (zn V) := zS_ext _ (fun p _ => rfl)
  rw [h]
  exact (zS_perm (zw V) (zn V) (zr V) hv.2.2.2.2.2.1 hv.2.2.2.2.2.2.1).symm
theorem zL_sum (V : ZV) (w : Nat → Nat) : ∀ k, (zL V w k).length = zS (fun i => (zE V (w i)).length) k
  | 0 => rfl
  | k + 1 => by
    show (zL V w k ++ (zE V (w k)).map _).length = zS (fun i => (zE V (w i)).length) k + (zE V (w k)).length
    rw [List.length_append, List.length_map, zL_sum V w k]
theorem sum_h {V : ZV} (hv : Valid V) : zS (fun p => zpr V p 11) (zn V) = (zLn V).length := by
  have h : zS (fun p => zpr V p 11) (zn V) = zS (fun p => (zE V p).length) (zn V) := zS_ext _ (fun p _ => rfl)
  rw [h]
  have h2 : (zLn V).length = zS (fun i => (zE V (zr V i)).length) (zn V) := zL_sum V (zr V) (zn V)
  rw [h2]
  exact (zS_perm (fun p => (zE V p).length) (zn V) (zr V) hv.2.2.2.2.2.1 hv.2.2.2.2.2.2.1).symm
theorem m173 {sc : Nat × (Nat → Int32)} {d : Nat} {D : Nat → Nat → Int32} {G : Nat → Nat → Int64} {V : ZV} (R : RepM D 80 0 V) (hv : Valid V) : Cl sc (d + 3) 173 [.ref 79] (hx_S0, D, G) (.inl (some (.double (zMc V)))) (hx_S0, D, G) := by
  obtain ⟨s0, s1, sw, se, sb, sr, ss0, ss1⟩ := rM R
  obtain ⟨h7, vw, ve, vh, vE, vr, vj, vs0, vs1⟩ := id hv
  have hA := zMc_ok hv
  refine Cq.pv ?_
  refine Cq.c (fun _ _ _ => c173) ?_
  refine Rq.b (fun _ => b173_0 (by (try simp (disch := omega) only [nI_add, nI_mulN, pk_sub, nI_clamp, Nat.reduceAdd, Nat.reduceMul, Nat.reduceSub, Nat.zero_add, Nat.add_zero, s0]); exact nI_inbT (by omega) (by omega))) (fun h0 => ?_) (fun h0 => ?_)
  · try simp (disch := omega) only [Int32.le_iff_toInt_le, Int32.lt_iff_toInt_lt, z_eq, z_nI, z_0, z_m1, z_sub, nI_add, nI_mulN, pk_sub, nI_clamp, Nat.reduceAdd, Nat.reduceMul, Nat.reduceSub, Nat.zero_add, Nat.add_zero, s0] at h0
    all_goals (try (exfalso; omega))
    all_goals
      refine Rq.s (fun _ => b173_15 (by (try simp (disch := omega) only [nI_add, nI_mulN, pk_sub, nI_clamp, Nat.reduceAdd, Nat.reduceMul, Nat.reduceSub, Nat.zero_add, Nat.add_zero, s0]); exact m111 (d := d) R hv)) ?_
      unfold zMc at hA
      rw [if_neg (by omega)] at hA
      refine Rq.s (fun _ => b173_19 (by (try simp (disch := omega) only [nI_add, nI_mulN, pk_sub, nI_clamp, Nat.reduceAdd, Nat.reduceMul, Nat.reduceSub, Nat.zero_add, Nat.add_zero, s0]); exact nI_inbT (by omega) (by omega)) (by rw [nI_clamp (show 98 < 2 ^ 31 by omega), s0, pk_sub (by omega)]; exact hA.1)) ?_
      try simp (disch := omega) only [nI_add, nI_mulN, pk_sub, nI_clamp, Nat.reduceAdd, Nat.reduceMul, Nat.reduceSub, Nat.zero_add, Nat.add_zero, s0]
      refine Rq.e (b173_31b) ?_
      refine ⟨?_, rfl⟩
      unfold zMc
      first | (rw [if_pos (by omega)]; done) | (rw [if_neg (by omega)]; done)
  · try simp (disch := omega) only [Int32.le_iff_toInt_le, Int32.lt_iff_toInt_lt, z_eq, z_nI, z_0, z_m1, z_sub, nI_add, nI_mulN, pk_sub, nI_clamp, Nat.reduceAdd, Nat.reduceMul, Nat.reduceSub, Nat.zero_add, Nat.add_zero, s0] at h0
    all_goals (try (exfalso; omega))
    all_goals
      refine Rq.s (fun _ => b173_11) ?_
      refine Rq.e (b173_31) ?_
      refine ⟨?_, rfl⟩
      unfold zMc
      first | (rw [if_pos (by omega)]; done) | (rw [if_neg (by omega)]; done)
theorem m167 {sc : Nat × (Nat → Int32)} {d : Nat} {D : Nat → Nat → Int32} {G : Nat → Nat → Int64} {V : ZV} {p : Nat} (R : RepM D 80 0 V) (hv : Valid V) (hp : p < zn V) : Cq sc (d + 3) 167 [.ref 79, .int (nI p)] D G (Qw (nI (zbp V p)) D) := by
  obtain ⟨s0, s1, sw, se, sb, sr, ss0, ss1⟩ := rM R
  obtain ⟨h7, vw, ve, vh, vE, vr, vj, vs0, vs1⟩ := id hv
  have L : ∀ n i D3, zn V - i = n → i ≤ zn V → eqW D D3 → (∀ j, j < 102 → D3 81 j = D 80 j) → Rq sc (d + 3) 167 (11, [some (.ref 79), some (.int (nI p)), some (.int (nI ((zba (fun _ => true) (fun pl => zcost V (zmv V p pl)) i).getD 0))), some (.int (nI (if i = 0 then 0 else zla (fun pl => zcost V (zmv V p pl)) (zba (fun _ => true) (fun pl => zcost V (zmv V p pl)) i)))), some (.int (nI i)), none], [], (hx_S0, D3, G), 0) G (Qw (nI (zbp V p)) D) := by
    intro n
    induction n using Nat.strongRecOn with
    | _ n ih =>
    intro i D3 hm hi hI hA
    have hz : zla (fun pl => zcost V (zmv V p pl)) (zba (fun _ => true) (fun pl => zcost V (zmv V p pl)) i) < 2 ^ 31 := zla_lt (B := 228) (fun j hj _ => zcost_le hv (fun k hk => zmv_lt hv hp (by omega) hk)) (by omega)
    have R3 := hI.R hv R
    have s3 := (rM R3).1
    by_cases hx : zn V ≤ i
    · refine Rq.bt (fun _ => b167_11 (nI_inbT (by omega) (by omega))) (by rw [nI_clamp (show 98 < 2 ^ 31 by omega), s3]; exact nI_le hx (by omega)) ?_
      refine Rq.e b167_82 ⟨?_, hI⟩
      rw [show i = zn V by omega]
      rfl
    refine Rq.bf (fun _ => b167_11 (nI_inbT (by omega) (by omega))) (by rw [nI_clamp (show 98 < 2 ^ 31 by omega), s3]; exact nI_ge (by omega) (by omega)) ?_
    have hmb : ∀ k, k < zn V → zmv V p i k < zn V := fun k hk => zmv_lt hv hp (by omega) hk
    have hcl : zcost V (zmv V p i) ≤ 228 := zcost_le hv hmb
    obtain ⟨_, D4, hC4, rfl, r1, r2, r3⟩ := m117 (sc := sc) (d := d + 1) (G := G) (p := p) (pl := i) R3 hv hp (by omega)
    refine Rq.s (fun _ => b167_23 hC4) ?_
    have R4 := RepM_row R3 hv r1 r2
    have V4 : Valid (zn V, zm V, zw V, ze V, zh V, zmv V p i, zs V) := Valid_row hv hmb (fun a b ha hb e => zmv_inj hv hp (by omega) ha hb e)
    have h111 := m111 (sc := sc) (d := d) (G := G) R4 V4
    have e9 : zcost (zn V, zm V, zw V, ze V, zh V, zmv V p i, zs V) (zr (zn V, zm V, zw V, ze V, zh V, zmv V p i, zs V)) = zcost V (zmv V p i) := zJs_ext (V := (zn V, zm V, zw V, ze V, zh V, zmv V p i, zs V)) (V2 := V) rfl _ _
    rw [e9] at h111
    refine Rq.s (fun _ => b167_30 h111) ?_
    obtain ⟨_, D5, hC5, rfl, t1, t2⟩ := m108 (sc := sc) (d := d + 2) (D := D4) (G := G)
    refine Rq.s (fun _ => b167_34 hC5) ?_
    have hI5 : eqW D D5 := ⟨fun a ha => by rw [t2 a (by omega), r3 a (by omega)]; exact hI.1 a ha, fun j hj => by rw [t1 j hj, r3 81 (by omega)]; exact hA j hj, fun j hj => by rw [t2 79 (by omega), r3 79 (by omega)]; exact hI.2.2 j hj⟩
    have hA5 : ∀ j, j < 102 → D5 81 j = D 80 j := fun j hj => by rw [t2 81 (by omega), r3 81 (by omega)]; exact hA j hj
    have e5 : zla (fun pl => zcost V (zmv V p pl)) (some i) = zcost V (zmv V p i) := rfl
    have YES : zcost V (zmv V p i) < zla (fun pl => zcost V (zmv V p pl)) (zba (fun _ => true) (fun pl => zcost V (zmv V p pl)) i) → Rq sc (d + 3) 167 (11, [some (.ref 79), some (.int (nI p)), some (.int (nI i)), some (.int (nI (zcost V (zmv V p i)))), some (.int (nI (i + 1))), none], [], (hx_S0, D5, G), 0) G (Qw (nI (zbp V p)) D) := by
      intro c
      have e := zba_T (ok := fun _ => true) (c := fun pl => zcost V (zmv V p pl)) (k := i) rfl c
      have := ih _ (by omega) (i + 1) D5 rfl (by omega) hI5 hA5
      rw [e, if_neg (by omega), e5] at this
      exact this
    by_cases c0 : i = 0
    · have YY := YES (by subst c0; show zcost V (zmv V p 0) < 1000; omega)
      refine Rq.bt (fun _ => b167_40) (by rw [c0]; rfl) ?_
      refine Rq.s (fun _ => b167_51) ?_
      refine Rq.bt (fun _ => b167_57) (by rw [c0]; rfl) ?_
      refine Rq.s (fun _ => b167_69) ?_
      refine Rq.s (fun _ => b167_75) ?_
      rw [nI_add]
      exact YY
    have n0 : ¬ nI i = 0 := by rw [z_eq, z_nI (by omega), z_0]; omega
    rw [if_neg c0]
    refine Rq.bf (fun _ => b167_40) n0 ?_
    by_cases c : zcost V (zmv V p i) < zla (fun pl => zcost V (zmv V p pl)) (zba (fun _ => true) (fun pl => zcost V (zmv V p pl)) i)
    · have cc := nI_ge c (by omega)
      refine Rq.bf (fun _ => b167_45) cc ?_
      refine Rq.s (fun _ => b167_51) ?_
      refine Rq.bf (fun _ => b167_57) n0 ?_
      refine Rq.bf (fun _ => b167_63) cc ?_
      refine Rq.s (fun _ => b167_69) ?_
      refine Rq.s (fun _ => b167_75) ?_
      rw [nI_add]
      exact YES c
    · have cc : nI (zla (fun pl => zcost V (zmv V p pl)) (zba (fun _ => true) (fun pl => zcost V (zmv V p pl)) i)) ≤ nI (zcost V (zmv V p i)) := nI_le (by omega) (by omega)
      refine Rq.bt (fun _ => b167_45) cc ?_
      refine Rq.s (fun _ => b167_56) ?_
      refine Rq.bf (fun _ => b167_57b) n0 ?_
      refine Rq.bt (fun _ => b167_63) cc ?_
      refine Rq.s (fun _ => b167_74) ?_
      refine Rq.s (fun _ => b167_75b) ?_
      rw [nI_add]
      have e := zba_F (ok := fun _ => true) (c := fun pl => zcost V (zmv V p pl)) (k := i) (fun z => c z.2)
      have := ih _ (by omega) (i + 1) D5 rfl (by omega) hI5 hA5
      rw [e, if_neg (by omega)] at this
      exact this
  refine Cq.c (fun _ _ _ => c167) ?_
  obtain ⟨_, D4, hC4, rfl, r1, r2⟩ := m107 (sc := sc) (d := d + 2) (D := D) (G := G)
  refine Rq.s (fun _ => b167_0 hC4) ?_
  refine Rq.s (fun _ => b167_4) ?_
  exact L _ 0 D4 rfl (by omega) ⟨fun a ha => r2 a (by omega), fun i _ => by rw [r2 80 (by omega)], fun j _ => by rw [r2 79 (by omega)]⟩ r1
theorem m169 {sc : Nat × (Nat → Int32)} {d : Nat} {D : Nat → Nat → Int32} {G : Nat → Nat → Int64} {V : ZV} (R : RepM D 80 0 V) (hv : Valid V) : Cq sc (d + 5) 169 [.ref 79] D G (Qw (nI (zWs V (zbr V))) D) := by
  refine Cq.c (fun _ _ _ => c169) ?_
  obtain ⟨_, D4, hC4, rfl, r1, r2⟩ := m107 (sc := sc) (d := d + 4) (D := D) (G := G)
  refine Rq.s (fun _ => b169_0 hC4) ?_
  have R4 : RepM D4 80 0 V := RepM_k hv (fun i _ => by rw [r2 80 (by omega)]) R
  obtain ⟨_, D5, hC5, rfl, t1, t2, t3⟩ := m116 (sc := sc) (d := d) (D := D4) (G := G) (rM R4).1 (rM R4).2.2.2.1 hv
  refine Rq.s (fun _ => b169_4 hC5) ?_
  have R5 := RepM_row R4 hv t1 t2
  have V5 : Valid (zn V, zm V, zw V, ze V, zh V, zbr V, zs V) := Valid_row hv (fun i hi => (zbr_ok hv hi).2.1) (fun a b ha hb e => zbr_inj hv ha hb e)
  obtain ⟨_, D6, hC6, rfl, k6⟩ := m124 (sc := sc) (d := d + 1) (G := G) (j := 0) R5 V5 (by omega)
  rw [if_neg (by omega)] at hC6
  have e9 : zWs (zn V, zm V, zw V, ze V, zh V, zbr V, zs V) (zr (zn V, zm V, zw V, ze V, zh V, zbr V, zs V)) = zWs V (zbr V) := by
    unfold zWs
    rw [zL_ext (V := (zn V, zm V, zw V, ze V, zh V, zbr V, zs V)) (V2 := V) rfl rfl]
  rw [e9] at hC6
  refine Rq.s (fun _ => b169_8 hC6) ?_
  obtain ⟨_, D7, hC7, rfl, u1, u2⟩ := m108 (sc := sc) (d := d + 4) (D := D6) (G := G)
  refine Rq.s (fun _ => b169_13 hC7) ?_
  refine Rq.e b169_18 ⟨rfl, fun a ha => ?_, fun i hi => ?_, fun j hj => ?_⟩
  · rw [u2 a (by omega), k6.1 a (by omega) (by omega) (by omega), t3 a (by omega) (by omega), r2 a (by omega)]
  · rw [u1 i hi, k6.1 81 (by omega) (by omega) (by omega), t3 81 (by omega) (by omega), r1 i hi]
  · rw [u2 79 (by omega), k6.2 j (by omega), t3 79 (by omega) (by omega), r2 79 (by omega)]
theorem m157 {sc : Nat × (Nat → Int32)} {d : Nat} {D : Nat → Nat → Int32} {G : Nat → Nat → Int64} {V : ZV} {i j : Nat} (R : RepM D 80 0 V) (hv : Valid V) (hi : i < 2 ^ 31) (hj : j ≤ 4) : Cq sc (d + 3) 157 [.ref 79, .int (nI i), .int (nI j)] D G (Qw (zHp V i j) D) := by
  refine Cq.c (fun _ _ _ => c157) ?_
  obtain ⟨_, D4, hC4, rfl, hI0, HL⟩ := m120 (sc := sc) (d := d) (G := G) R hv
  have hI := eqW.L hI0
  refine Rq.s (fun _ => b157_0 hC4) ?_
  obtain ⟨l0, lm, l1, l2, l3, l4, l5, l6, l7, l8⟩ := id HL
  by_cases him : (zLn V).length ≤ i
  · refine Rq.bf (fun _ => b157_4) (by rw [l0]; exact nI_nlt him (by omega)) ?_
    exact Rq.e b157_12 ⟨by unfold zHp zhp; rw [if_pos him], hI⟩
  have l1i := l1 i (by omega)
  have l2i := l2 i (by omega)
  have hz : ∀ v, (if j = 0 then nI (zst (zLn V) i) else if j = 1 then nI (zow (zLn V) i) else if j = 2 then (if i + 1 < (zLn V).length then iI (zd (zst (zLn V)) i) else -1) else if j = 3 then nI (if zwr (zLn V).length (zst (zLn V)) (zs V 0) (zs V 1) i = true then 1 else 0) else nI (zlk (zLn V).length (zst (zLn V)) (zs V 0) (zs V 1) i)) = v → (.inl (some (.int v)) : hx_RS) = .inl (some (.int (zHp V i j))) := fun v h => by unfold zHp zhp; rw [if_neg him, ← h]
  refine Rq.bt (fun _ => b157_4) (by rw [l0]; exact nI_lt (by omega) (by omega)) ?_
  rcases (by omega : j = 0 ∨ j = 1 ∨ j = 2 ∨ j = 3 ∨ j = 4) with e | e | e | e | e <;> subst e
  · refine Rq.s (fun _ K => b157_14 (fun _ => K) (fun h => by exfalso; (try simp (disch := omega) only [Int32.le_iff_toInt_le, Int32.lt_iff_toInt_lt, z_eq, z_nI, z_0, z_m1, z_sub, z_1, z_2, z_3, z_4, nI_add, nI_mulN, pk_sub, nI_clamp, Nat.reduceAdd, Nat.reduceMul, Nat.reduceSub, Nat.zero_add, Nat.add_zero, l0, l1i, l2i] at h) <;> omega) (fun h => by exfalso; (try simp (disch := omega) only [Int32.le_iff_toInt_le, Int32.lt_iff_toInt_lt, z_eq, z_nI, z_0, z_m1, z_sub, z_1, z_2, z_3, z_4, nI_add, nI_mulN, pk_sub, nI_clamp, Nat.reduceAdd, Nat.reduceMul, Nat.reduceSub, Nat.zero_add, Nat.add_zero, l0, l1i, l2i] at h) <;> omega) (fun h => by exfalso; (try simp (disch := omega) only [Int32.le_iff_toInt_le, Int32.lt_iff_toInt_lt, z_eq, z_nI, z_0, z_m1, z_sub, z_1, z_2, z_3, z_4, nI_add, nI_mulN, pk_sub, nI_clamp, Nat.reduceAdd, Nat.reduceMul, Nat.reduceSub, Nat.zero_add, Nat.add_zero, l0, l1i, l2i] at h) <;> omega) (fun h => by exfalso; (try simp (disch := omega) only [Int32.le_iff_toInt_le, Int32.lt_iff_toInt_lt, z_eq, z_nI, z_0, z_m1, z_sub, z_1, z_2, z_3, z_4, nI_add, nI_mulN, pk_sub, nI_clamp, Nat.reduceAdd, Nat.reduceMul, Nat.reduceSub, Nat.zero_add, Nat.add_zero, l0, l1i, l2i] at h) <;> omega)) ?_
    refine Rq.e (b157_44 (by (try simp (disch := omega) only [nI_add, nI_mulN, pk_sub, nI_clamp, Nat.reduceAdd, Nat.reduceMul, Nat.reduceSub, Nat.zero_add, Nat.add_zero, l0, l1i, l2i]); exact nI_inbT (by omega) (by omega))) ?_
    refine ⟨?_, hI⟩
    try simp (disch := omega) only [nI_add, nI_mulN, pk_sub, nI_clamp, Nat.reduceAdd, Nat.reduceMul, Nat.reduceSub, Nat.zero_add, Nat.add_zero, l0, l1i, l2i]
    exact hz _ rfl
  · refine Rq.s (fun _ K => b157_14 (fun h => by exfalso; (try simp (disch := omega) only [Int32.le_iff_toInt_le, Int32.lt_iff_toInt_lt, z_eq, z_nI, z_0, z_m1, z_sub, z_1, z_2, z_3, z_4, nI_add, nI_mulN, pk_sub, nI_clamp, Nat.reduceAdd, Nat.reduceMul, Nat.reduceSub, Nat.zero_add, Nat.add_zero, l0, l1i, l2i] at h) <;> omega) (fun _ => K) (fun h => by exfalso; (try simp (disch := omega) only [Int32.le_iff_toInt_le, Int32.lt_iff_toInt_lt, z_eq, z_nI, z_0, z_m1, z_sub, z_1, z_2, z_3, z_4, nI_add, nI_mulN, pk_sub, nI_clamp, Nat.reduceAdd, Nat.reduceMul, Nat.reduceSub, Nat.zero_add, Nat.add_zero, l0, l1i, l2i] at h) <;> omega) (fun h => by exfalso; (try simp (disch := omega) only [Int32.le_iff_toInt_le, Int32.lt_iff_toInt_lt, z_eq, z_nI, z_0, z_m1, z_sub, z_1, z_2, z_3, z_4, nI_add, nI_mulN, pk_sub, nI_clamp, Nat.reduceAdd, Nat.reduceMul, Nat.reduceSub, Nat.zero_add, Nat.add_zero, l0, l1i, l2i] at h) <;> omega) (fun h => by exfalso; (try simp (disch := omega) only [Int32.le_iff_toInt_le, Int32.lt_iff_toInt_lt, z_eq, z_nI, z_0, z_m1, z_sub, z_1, z_2, z_3, z_4, nI_add, nI_mulN, pk_sub, nI_clamp, Nat.reduceAdd, Nat.reduceMul, Nat.reduceSub, Nat.zero_add, Nat.add_zero, l0, l1i, l2i] at h) <;> omega)) ?_
    refine Rq.e (b157_51 (by (try simp (disch := omega) only [nI_add, nI_mulN, pk_sub, nI_clamp, Nat.reduceAdd, Nat.reduceMul, Nat.reduceSub, Nat.zero_add, Nat.add_zero, l0, l1i, l2i]); exact nI_inbT (by omega) (by omega))) ?_
    refine ⟨?_, hI⟩
    try simp (disch := omega) only [nI_add, nI_mulN, pk_sub, nI_clamp, Nat.reduceAdd, Nat.reduceMul, Nat.reduceSub, Nat.zero_add, Nat.add_zero, l0, l1i, l2i]
    exact hz _ rfl
  · refine Rq.s (fun _ K => b157_14 (fun h => by exfalso; (try simp (disch := omega) only [Int32.le_iff_toInt_le, Int32.lt_iff_toInt_lt, z_eq, z_nI, z_0, z_m1, z_sub, z_1, z_2, z_3, z_4, nI_add, nI_mulN, pk_sub, nI_clamp, Nat.reduceAdd, Nat.reduceMul, Nat.reduceSub, Nat.zero_add, Nat.add_zero, l0, l1i, l2i] at h) <;> omega) (fun h => by exfalso; (try simp (disch := omega) only [Int32.le_iff_toInt_le, Int32.lt_iff_toInt_lt, z_eq, z_nI, z_0, z_m1, z_sub, z_1, z_2, z_3, z_4, nI_add, nI_mulN, pk_sub, nI_clamp, Nat.reduceAdd, Nat.reduceMul, Nat.reduceSub, Nat.zero_add, Nat.add_zero, l0, l1i, l2i] at h) <;> omega) (fun _ => K) (fun h => by exfalso; (try simp (disch := omega) only [Int32.le_iff_toInt_le, Int32.lt_iff_toInt_lt, z_eq, z_nI, z_0, z_m1, z_sub, z_1, z_2, z_3, z_4, nI_add, nI_mulN, pk_sub, nI_clamp, Nat.reduceAdd, Nat.reduceMul, Nat.reduceSub, Nat.zero_add, Nat.add_zero, l0, l1i, l2i] at h) <;> omega) (fun h => by exfalso; (try simp (disch := omega) only [Int32.le_iff_toInt_le, Int32.lt_iff_toInt_lt, z_eq, z_nI, z_0, z_m1, z_sub, z_1, z_2, z_3, z_4, nI_add, nI_mulN, pk_sub, nI_clamp, Nat.reduceAdd, Nat.reduceMul, Nat.reduceSub, Nat.zero_add, Nat.add_zero, l0, l1i, l2i] at h) <;> omega)) ?_
    refine Rq.b (fun _ => b157_58) (fun h58 => ?_) (fun h58 => ?_)
    · try simp (disch := omega) only [Int32.le_iff_toInt_le, Int32.lt_iff_toInt_lt, z_eq, z_nI, z_0, z_m1, z_sub, z_1, z_2, z_3, z_4, nI_add, nI_mulN, pk_sub, nI_clamp, Nat.reduceAdd, Nat.reduceMul, Nat.reduceSub, Nat.zero_add, Nat.add_zero, l0, l1i, l2i] at h58
      all_goals (try (exfalso; omega))
      all_goals
        refine Rq.s (fun _ => b157_72 (by (try simp (disch := omega) only [nI_add, nI_mulN, pk_sub, nI_clamp, Nat.reduceAdd, Nat.reduceMul, Nat.reduceSub, Nat.zero_add, Nat.add_zero, l0, l1i, l2i]); exact m121 (d := d + 2) HL (by omega))) ?_
        refine Rq.e (b157_77) ?_
        refine ⟨hz _ ?_, hI⟩
        first
          | (show (if i + 1 < (zLn V).length then iI (zd (zst (zLn V)) i) else -1) = _; rw [if_pos (by omega)]; done)
          | (show (if i + 1 < (zLn V).length then iI (zd (zst (zLn V)) i) else -1) = _; rw [if_neg (by omega)]; done)
    · try simp (disch := omega) only [Int32.le_iff_toInt_le, Int32.lt_iff_toInt_lt, z_eq, z_nI, z_0, z_m1, z_sub, z_1, z_2, z_3, z_4, nI_add, nI_mulN, pk_sub, nI_clamp, Nat.reduceAdd, Nat.reduceMul, Nat.reduceSub, Nat.zero_add, Nat.add_zero, l0, l1i, l2i] at h58
      all_goals (try (exfalso; omega))
      all_goals
        refine Rq.s (fun _ => b157_68) ?_
        try simp (disch := omega) only [nI_add, nI_mulN, pk_sub, nI_clamp, Nat.reduceAdd, Nat.reduceMul, Nat.reduceSub, Nat.zero_add, Nat.add_zero, l0, l1i, l2i]
        refine Rq.e (b157_77b) ?_
        refine ⟨hz _ ?_, hI⟩
        first
          | (show (if i + 1 < (zLn V).length then iI (zd (zst (zLn V)) i) else -1) = _; rw [if_pos (by omega)]; done)
          | (show (if i + 1 < (zLn V).length then iI (zd (zst (zLn V)) i) else -1) = _; rw [if_neg (by omega)]; done)
  · refine Rq.s (fun _ K => b157_14 (fun h => by exfalso; (try simp (disch := omega) only [Int32.le_iff_toInt_le, Int32.lt_iff_toInt_lt, z_eq, z_nI, z_0, z_m1, z_sub, z_1, z_2, z_3, z_4, nI_add, nI_mulN, pk_sub, nI_clamp, Nat.reduceAdd, Nat.reduceMul, Nat.reduceSub, Nat.zero_add, Nat.add_zero, l0, l1i, l2i] at h) <;> omega) (fun h => by exfalso; (try simp (disch := omega) only [Int32.le_iff_toInt_le, Int32.lt_iff_toInt_lt, z_eq, z_nI, z_0, z_m1, z_sub, z_1, z_2, z_3, z_4, nI_add, nI_mulN, pk_sub, nI_clamp, Nat.reduceAdd, Nat.reduceMul, Nat.reduceSub, Nat.zero_add, Nat.add_zero, l0, l1i, l2i] at h) <;> omega) (fun h => by exfalso; (try simp (disch := omega) only [Int32.le_iff_toInt_le, Int32.lt_iff_toInt_lt, z_eq, z_nI, z_0, z_m1, z_sub, z_1, z_2, z_3, z_4, nI_add, nI_mulN, pk_sub, nI_clamp, Nat.reduceAdd, Nat.reduceMul, Nat.reduceSub, Nat.zero_add, Nat.add_zero, l0, l1i, l2i] at h) <;> omega) (fun _ => K) (fun h => by exfalso; (try simp (disch := omega) only [Int32.le_iff_toInt_le, Int32.lt_iff_toInt_lt, z_eq, z_nI, z_0, z_m1, z_sub, z_1, z_2, z_3, z_4, nI_add, nI_mulN, pk_sub, nI_clamp, Nat.reduceAdd, Nat.reduceMul, Nat.reduceSub, Nat.zero_add, Nat.add_zero, l0, l1i, l2i] at h) <;> omega)) ?_
    refine Rq.s (fun _ => b157_78 (by (try simp (disch := omega) only [nI_add, nI_mulN, pk_sub, nI_clamp, Nat.reduceAdd, Nat.reduceMul, Nat.reduceSub, Nat.zero_add, Nat.add_zero, l0, l1i, l2i]); exact m122 (d := d + 1) HL (by omega))) ?_
    by_cases hw : zwr (zLn V).length (zst (zLn V)) (zs V 0) (zs V 1) i = false
    · refine Rq.bt (fun _ => b157_83) (by rw [hw]; rfl) ?_
      refine Rq.s (fun _ => b157_90) ?_
      try simp (disch := omega) only [nI_add, nI_mulN, pk_sub, nI_clamp, Nat.reduceAdd, Nat.reduceMul, Nat.reduceSub, Nat.zero_add, Nat.add_zero, l0, l1i, l2i]
      refine Rq.e (b157_91) ?_
      refine ⟨hz _ ?_, hI⟩
      show nI (if zwr (zLn V).length (zst (zLn V)) (zs V 0) (zs V 1) i = true then 1 else 0) = _
      first | (rw [hw]; rfl) | (rw [eq_true_of_ne_false hw]; rfl)
    · refine Rq.bf (fun _ => b157_83) (by rw [eq_true_of_ne_false hw]; decide) ?_
      refine Rq.s (fun _ => b157_86) ?_
      try simp (disch := omega) only [nI_add, nI_mulN, pk_sub, nI_clamp, Nat.reduceAdd, Nat.reduceMul, Nat.reduceSub, Nat.zero_add, Nat.add_zero, l0, l1i, l2i]
      refine Rq.e (b157_91b) ?_
      refine ⟨hz _ ?_, hI⟩
      show nI (if zwr (zLn V).length (zst (zLn V)) (zs V 0) (zs V 1) i = true then 1 else 0) = _
      first | (rw [hw]; rfl) | (rw [eq_true_of_ne_false hw]; rfl)
  · refine Rq.s (fun _ K => b157_14 (fun h => by exfalso; (try simp (disch := omega) only [Int32.le_iff_toInt_le, Int32.lt_iff_toInt_lt, z_eq, z_nI, z_0, z_m1, z_sub, z_1, z_2, z_3, z_4, nI_add, nI_mulN, pk_sub, nI_clamp, Nat.reduceAdd, Nat.reduceMul, Nat.reduceSub, Nat.zero_add, Nat.add_zero, l0, l1i, l2i] at h) <;> omega) (fun h => by exfalso; (try simp (disch := omega) only [Int32.le_iff_toInt_le, Int32.lt_iff_toInt_lt, z_eq, z_nI, z_0, z_m1, z_sub, z_1, z_2, z_3, z_4, nI_add, nI_mulN, pk_sub, nI_clamp, Nat.reduceAdd, Nat.reduceMul, Nat.reduceSub, Nat.zero_add, Nat.add_zero, l0, l1i, l2i] at h) <;> omega) (fun h => by exfalso; (try simp (disch := omega) only [Int32.le_iff_toInt_le, Int32.lt_iff_toInt_lt, z_eq, z_nI, z_0, z_m1, z_sub, z_1, z_2, z_3, z_4, nI_add, nI_mulN, pk_sub, nI_clamp, Nat.reduceAdd, Nat.reduceMul, Nat.reduceSub, Nat.zero_add, Nat.add_zero, l0, l1i, l2i] at h) <;> omega) (fun h => by exfalso; (try simp (disch := omega) only [Int32.le_iff_toInt_le, Int32.lt_iff_toInt_lt, z_eq, z_nI, z_0, z_m1, z_sub, z_1, z_2, z_3, z_4, nI_add, nI_mulN, pk_sub, nI_clamp, Nat.reduceAdd, Nat.reduceMul, Nat.reduceSub, Nat.zero_add, Nat.add_zero, l0, l1i, l2i] at h) <;> omega) (fun _ => K)) ?_
    refine Rq.s (fun _ => b157_92 (by (try simp (disch := omega) only [nI_add, nI_mulN, pk_sub, nI_clamp, Nat.reduceAdd, Nat.reduceMul, Nat.reduceSub, Nat.zero_add, Nat.add_zero, l0, l1i, l2i]); exact m123 (d := d) HL (by omega))) ?_
    refine Rq.e (b157_97) ?_
    exact ⟨hz _ rfl, hI⟩
