/-! ===== the class: hole, remove, move, order, set, append, clearBuffer, keep, goBack, undo ===== -/
theorem kHole {sc : Nat × (Nat → Int32)} {d : Nat} {D : Nat → Nat → Int32} {G : Nat → Nat → Int64} {t : ST} {p : Int} {x : Int} (bp1 : -2147483648 ≤ p) (bp2 : p < 2147483648) (bx1 : -2147483648 ≤ x) (bx2 : x < 2147483648) (I : InvC D t) (hs : SV t) : Cq sc (d + 2) 54 [.ref 0, .int (iI p), .int (iI x)] D G (OKc D [2, 0, 1] (oHole t p x)) := by
  obtain ⟨r0, r1, rw, re, rc, rh, rr, rs0, rs1⟩ := rC I.1
  obtain ⟨h7, vw, ve, vh, vE, vr, vj, vs0, vs1⟩ := id hs.1
  have hv := hs.1
  refine Cq.c (fun _ _ _ => c54) ?_
  unfold oHole
  by_cases hp : 0 ≤ p ∧ p < (zn (tV t) : Int)
  · rw [if_pos hp]
    have h80 := m80T (sc := sc) (d := d + 1) (G := G) bp1 bp2 r0 (by omega) hp
    obtain ⟨p, rfl⟩ := arg_nat hp.1
    have hpn : p < zn (tV t) := by omega
    have rwp := rw p hpn
    have vwp := vw p hpn
    have rcp := rc p hpn
    have vEp := vE p hpn
    simp only [← i_nI, Int.toNat_natCast] at h80 ⊢
    by_cases hx : 0 ≤ x ∧ x < (zw (tV t) p : Int)
    · rw [if_pos hx]
      have h81 := m81T (sc := sc) (d := d + 1) (G := G) bx1 bx2 rwp (by omega) (by omega) hx
      obtain ⟨x, rfl⟩ := arg_nat hx.1
      simp only [← i_nI, Int.toNat_natCast] at h81 ⊢
      have hx60 : x < 60 := by omega
      cases hh : zh (tV t) p x with
      | true =>
        rw [if_neg (fun z => by cases z.1)]
        refine Rq.s (fun _ => b54_0 (by (try simp (disch := omega) only [nI_add, nI_mulN, pk_sub, nI_clamp, Nat.reduceAdd, Nat.reduceMul, Nat.reduceSub, Nat.zero_add, Nat.add_zero, rcp]); exact h80)) ?_
        refine Rq.s (fun _ => b54_5 (by (try simp (disch := omega) only [nI_add, nI_mulN, pk_sub, nI_clamp, Nat.reduceAdd, Nat.reduceMul, Nat.reduceSub, Nat.zero_add, Nat.add_zero, rcp]); exact h81)) ?_
        have h39 := m39 (sc := sc) (d := d + 1) (G := G) I.1 hv hpn hx60
        rw [hh] at h39
        refine Rq.s (fun _ => b54_11 h39) ?_
        refine Rq.bt (fun _ => b54_20) (by decide) ?_
        obtain ⟨_, D4, hC4, rfl, I4, k4⟩ := m85 (sc := sc) (d := d) (G := G) I hs
        refine Rq.s (fun _ => b54_48 hC4) ?_
        refine Rq.bf (fun _ => b54_52) (by decide) ?_
        obtain ⟨_, D5, hC5, rfl, R5, k5⟩ := m41 (sc := sc) (d := d + 1) (G := G) I4.1 hv hpn hx60 hh
        have rc5 := (rC R5).2.2.2.2.1 p hpn
        refine Rq.s (fun _ => b54_56 hC5) ?_
        refine Rq.s (fun _ => b54_65) ?_
        refine Rq.e (b54_77b (by (try simp (disch := omega) only [nI_add, nI_mulN, pk_sub, nI_clamp, Nat.reduceAdd, Nat.reduceMul, Nat.reduceSub, Nat.zero_add, Nat.add_zero, rc5]); exact nI_inbT (by omega) (by omega))) ?_
        try simp (disch := omega) only [nI_add, nI_mulN, pk_sub, nI_clamp, Nat.reduceAdd, Nat.reduceMul, Nat.reduceSub, Nat.zero_add, Nat.add_zero, rc5]
        exact OKc.v rfl (InvC_set I4 R5 (fun a ha => k5 a (by omega) (by omega))) (fun a ha => by rw [k5 a (by omega) (by omega), k4 a (by omega) (by omega)])
      | false =>
        by_cases h4 : (zE (tV t) p).length = 4
        · rw [if_pos ⟨rfl, h4⟩]
          refine Rq.s (fun _ => b54_0 (by (try simp (disch := omega) only [nI_add, nI_mulN, pk_sub, nI_clamp, Nat.reduceAdd, Nat.reduceMul, Nat.reduceSub, Nat.zero_add, Nat.add_zero, rcp]); exact h80)) ?_
          refine Rq.s (fun _ => b54_5 (by (try simp (disch := omega) only [nI_add, nI_mulN, pk_sub, nI_clamp, Nat.reduceAdd, Nat.reduceMul, Nat.reduceSub, Nat.zero_add, Nat.add_zero, rcp]); exact h81)) ?_
          have h39 := m39 (sc := sc) (d := d + 1) (G := G) I.1 hv hpn hx60
          rw [hh] at h39
          refine Rq.s (fun _ => b54_11 h39) ?_
          refine Rq.bf (fun _ => b54_20) (fun z => z rfl) ?_
          refine Rq.b (fun _ => b54_25 (by (try simp (disch := omega) only [nI_add, nI_mulN, pk_sub, nI_clamp, Nat.reduceAdd, Nat.reduceMul, Nat.reduceSub, Nat.zero_add, Nat.add_zero, rcp]); exact nI_inbT (by omega) (by omega))) (fun h25 => ?_) (fun h25 => ?_)
          · try simp (disch := omega) only [Int32.le_iff_toInt_le, Int32.lt_iff_toInt_lt, z_eq, z_nI, z_0, z_m1, z_sub, nI_add, nI_mulN, pk_sub, nI_clamp, Nat.reduceAdd, Nat.reduceMul, Nat.reduceSub, Nat.zero_add, Nat.add_zero, rcp] at h25
            all_goals (try (exfalso; omega))
            all_goals
              exfalso; omega
          · try simp (disch := omega) only [Int32.le_iff_toInt_le, Int32.lt_iff_toInt_lt, z_eq, z_nI, z_0, z_m1, z_sub, nI_add, nI_mulN, pk_sub, nI_clamp, Nat.reduceAdd, Nat.reduceMul, Nat.reduceSub, Nat.zero_add, Nat.add_zero, rcp] at h25
            all_goals (try (exfalso; omega))
            all_goals
              refine Rq.e (b54_38) ?_
              exact OKc.x (k := 2) I rfl
        · rw [if_neg (fun z => h4 z.2)]
          refine Rq.s (fun _ => b54_0 (by (try simp (disch := omega) only [nI_add, nI_mulN, pk_sub, nI_clamp, Nat.reduceAdd, Nat.reduceMul, Nat.reduceSub, Nat.zero_add, Nat.add_zero, rcp]); exact h80)) ?_
          refine Rq.s (fun _ => b54_5 (by (try simp (disch := omega) only [nI_add, nI_mulN, pk_sub, nI_clamp, Nat.reduceAdd, Nat.reduceMul, Nat.reduceSub, Nat.zero_add, Nat.add_zero, rcp]); exact h81)) ?_
          have h39 := m39 (sc := sc) (d := d + 1) (G := G) I.1 hv hpn hx60
          rw [hh] at h39
          refine Rq.s (fun _ => b54_11 h39) ?_
          refine Rq.bf (fun _ => b54_20) (fun z => z rfl) ?_
          refine Rq.b (fun _ => b54_25 (by (try simp (disch := omega) only [nI_add, nI_mulN, pk_sub, nI_clamp, Nat.reduceAdd, Nat.reduceMul, Nat.reduceSub, Nat.zero_add, Nat.add_zero, rcp]); exact nI_inbT (by omega) (by omega))) (fun h25 => ?_) (fun h25 => ?_)
          · try simp (disch := omega) only [Int32.le_iff_toInt_le, Int32.lt_iff_toInt_lt, z_eq, z_nI, z_0, z_m1, z_sub, nI_add, nI_mulN, pk_sub, nI_clamp, Nat.reduceAdd, Nat.reduceMul, Nat.reduceSub, Nat.zero_add, Nat.add_zero, rcp] at h25
            all_goals (try (exfalso; omega))
            all_goals
              obtain ⟨_, D4, hC4, rfl, I4, k4⟩ := m85 (sc := sc) (d := d) (G := G) I hs
              refine Rq.s (fun _ => b54_48 hC4) ?_
              refine Rq.bt (fun _ => b54_52) (rfl) ?_
              obtain ⟨_, D5, hC5, rfl, R5, k5⟩ := m40 (sc := sc) (d := d + 1) (G := G) I4.1 hv hpn hx60 hh (by show (zE (tV t) p).length < 4; omega)
              have rc5 := (rC R5).2.2.2.2.1 p hpn
              refine Rq.s (fun _ => b54_68 hC5) ?_
              refine Rq.e (b54_77 (by (try simp (disch := omega) only [nI_add, nI_mulN, pk_sub, nI_clamp, Nat.reduceAdd, Nat.reduceMul, Nat.reduceSub, Nat.zero_add, Nat.add_zero, rc5]); exact nI_inbT (by omega) (by omega))) ?_
              try simp (disch := omega) only [nI_add, nI_mulN, pk_sub, nI_clamp, Nat.reduceAdd, Nat.reduceMul, Nat.reduceSub, Nat.zero_add, Nat.add_zero, rc5]
              exact OKc.v rfl (InvC_set I4 R5 (fun a ha => k5 a (by omega) (by omega))) (fun a ha => by rw [k5 a (by omega) (by omega), k4 a (by omega) (by omega)])
          · try simp (disch := omega) only [Int32.le_iff_toInt_le, Int32.lt_iff_toInt_lt, z_eq, z_nI, z_0, z_m1, z_sub, nI_add, nI_mulN, pk_sub, nI_clamp, Nat.reduceAdd, Nat.reduceMul, Nat.reduceSub, Nat.zero_add, Nat.add_zero, rcp] at h25
            all_goals (try (exfalso; omega))
            all_goals
              refine Rq.e (b54_38) ?_
              exfalso; omega
    · rw [if_neg hx]
      refine Rq.s (fun _ => b54_0 h80) ?_
      exact Rq.e (b54_5_x (m81F bx1 bx2 rwp (by omega) (by omega) hx)) (OKc.x (k := 1) I rfl)
  · rw [if_neg hp]
    exact Rq.e (b54_0_x (m80F bp1 bp2 r0 (by omega) hp)) (OKc.x (k := 0) I rfl)
theorem kRemove {sc : Nat × (Nat → Int32)} {d : Nat} {D : Nat → Nat → Int32} {G : Nat → Nat → Int64} {t : ST} {p : Int} (bp1 : -2147483648 ≤ p) (bp2 : p < 2147483648) (I : InvC D t) (hs : SV t) : Cq sc (d + 2) 55 [.ref 0, .int (iI p)] D G (OKc D [2] (oRemove t p)) := by
  obtain ⟨r0, r1, rw, re, rc, rh, rr, rs0, rs1⟩ := rC I.1
  obtain ⟨h7, vw, ve, vh, vE, vr, vj, vs0, vs1⟩ := id hs.1
  have hv := hs.1
  refine Cq.c (fun _ _ _ => c55) ?_
  unfold oRemove
  by_cases hp : 0 ≤ p ∧ p < (zn (tV t) : Int)
  · rw [if_pos hp]
    have h80 := m80T (sc := sc) (d := d + 1) (G := G) bp1 bp2 r0 (by omega) hp
    obtain ⟨p, rfl⟩ := arg_nat hp.1
    simp only [← i_nI, Int.toNat_natCast] at h80 ⊢
    refine Rq.s (fun _ => b55_0 (by (try simp (disch := omega) only [nI_add, nI_mulN, pk_sub, nI_clamp, Nat.reduceAdd, Nat.reduceMul, Nat.reduceSub, Nat.zero_add, Nat.add_zero]); exact h80)) ?_
    obtain ⟨_, D4, hC4, rfl, I4, k4⟩ := m85 (sc := sc) (d := d) (G := G) I hs
    refine Rq.s (fun _ => b55_5 hC4) ?_
    obtain ⟨_, D5, hC5, rfl, R5, k5⟩ := m36 (sc := sc) (d := d) (G := G) (p := p) I4.1 hv (by show p < zn (tV t); omega)
    have r5 := (rC R5).1
    refine Rq.s (fun _ => b55_9 hC5) ?_
    refine Rq.e (b55_17) ?_
    rw [r5]
    exact OKc.v rfl (InvC_set I4 R5 (fun a ha => k5 a (by omega))) (fun a ha => by rw [k5 a (by omega), k4 a (by omega) (by omega)])
  · rw [if_neg hp]
    exact Rq.e (b55_0_x (m80F bp1 bp2 r0 (by omega) hp)) (OKc.x (k := 0) I rfl)
theorem zJs_ext {V V2 : ZV} {w : Nat → Nat} (h : ze V = ze V2) : ∀ m i, zJs V w i m = zJs V2 w i m
  | 0, _ => rfl
  | m + 1, i => by
    show zj V (w (i - 1)) (w i) + zJs V w (i + 1) m = zj V2 (w (i - 1)) (w i) + zJs V2 w (i + 1) m
    rw [zJs_ext h m (i + 1)]
    unfold zj
    rw [h]
theorem RepC_row {D D2 : Nat → Nat → Int32} {V : ZV} {w : Nat → Nat} (R : RepC D 1 V) (h1 : D2 1 = hx_up D 1 1 (nI (zm V + 1)) 1) (h6 : ∀ i, i < zn V → D2 6 i = nI (w i)) (e : ∀ a, a ≠ 1 → a ≠ 6 → D2 a = D a) : RepC D2 1 (zn V, zm V + 1, zw V, ze V, zh V, w, zs V) := by
  obtain ⟨r0, r1, rw, re, rc, rh, rr, rs0, rs1⟩ := rC R
  exact ⟨by rw [h1, hx_up_in _ _ _ (by omega)]; exact r0, by rw [h1, hx_up_s], fun q hq => by show D2 2 q = _; rw [e 2 (by omega) (by omega)]; exact rw q hq, fun q i hq hi => by show D2 3 _ = _; rw [e 3 (by omega) (by omega)]; exact re q i hq hi, fun q hq => by show D2 4 q = _; rw [e 4 (by omega) (by omega)]; exact rc q hq, fun q i y hq hy => by show D2 5 _ = _; rw [e 5 (by omega) (by omega)]; exact rh q i y hq hy, h6, by show D2 7 0 = _; rw [e 7 (by omega) (by omega)]; exact rs0, by show D2 7 1 = _; rw [e 7 (by omega) (by omega)]; exact rs1⟩
theorem Valid_row {V : ZV} {w : Nat → Nat} {m : Nat} (hv : Valid V) (h1 : ∀ i, i < zn V → w i < zn V) (h2 : ∀ i j, i < zn V → j < zn V → w i = w j → i = j) : Valid (zn V, m, zw V, ze V, zh V, w, zs V) := by
  obtain ⟨h7, vw, ve, vh, vE, vr, vj, vs0, vs1⟩ := id hv
  exact ⟨h7, vw, ve, vh, vE, h1, h2, vs0, vs1⟩
theorem kMove {sc : Nat × (Nat → Int32)} {d : Nat} {D : Nat → Nat → Int32} {G : Nat → Nat → Int64} {t : ST} {p : Int} {x : Int} (bp1 : -2147483648 ≤ p) (bp2 : p < 2147483648) (bx1 : -2147483648 ≤ x) (bx2 : x < 2147483648) (I : InvC D t) (hs : SV t) : Cq sc (d + 3) 56 [.ref 0, .int (iI p), .int (iI x)] D G (OKc D [2, 0] (oMove t p x)) := by
  obtain ⟨r0, r1, rw, re, rc, rh, rr, rs0, rs1⟩ := rC I.1
  obtain ⟨h7, vw, ve, vh, vE, vr, vj, vs0, vs1⟩ := id hs.1
  have hv := hs.1
  refine Cq.c (fun _ _ _ => c56) ?_
  unfold oMove
  by_cases hp : 0 ≤ p ∧ p < (zn (tV t) : Int)
  · rw [if_pos hp]
    have h80 := m80T (sc := sc) (d := d + 2) (G := G) bp1 bp2 r0 (by omega) hp
    obtain ⟨p, rfl⟩ := arg_nat hp.1
    simp only [← i_nI, Int.toNat_natCast] at h80 ⊢
    by_cases hx : 0 ≤ x ∧ x < (zn (tV t) : Int)
    · rw [if_pos hx]
      obtain ⟨x, rfl⟩ := arg_nat hx.1
      simp only [← i_nI, Int.toNat_natCast]
      have hp2 : p < zn (tV t) := by omega
      have hx2 : x < zn (tV t) := by omega
      refine Rq.s (fun _ => b56_0 (by (try simp (disch := omega) only [nI_add, nI_mulN, pk_sub, nI_clamp, Nat.reduceAdd, Nat.reduceMul, Nat.reduceSub, Nat.zero_add, Nat.add_zero, r0]); exact h80)) ?_
      refine Rq.b (fun _ => b56_5) (fun h5 => ?_) (fun h5 => ?_)
      · try simp (disch := omega) only [Int32.le_iff_toInt_le, Int32.lt_iff_toInt_lt, z_eq, z_nI, z_0, z_m1, z_sub, nI_add, nI_mulN, pk_sub, nI_clamp, Nat.reduceAdd, Nat.reduceMul, Nat.reduceSub, Nat.zero_add, Nat.add_zero, r0] at h5
        all_goals (try (exfalso; omega))
        all_goals
          refine Rq.e (b56_20) ?_
          exfalso; omega
      · try simp (disch := omega) only [Int32.le_iff_toInt_le, Int32.lt_iff_toInt_lt, z_eq, z_nI, z_0, z_m1, z_sub, nI_add, nI_mulN, pk_sub, nI_clamp, Nat.reduceAdd, Nat.reduceMul, Nat.reduceSub, Nat.zero_add, Nat.add_zero, r0] at h5
        all_goals (try (exfalso; omega))
        all_goals
          refine Rq.b (fun _ => b56_9) (fun h9 => ?_) (fun h9 => ?_)
          · try simp (disch := omega) only [Int32.le_iff_toInt_le, Int32.lt_iff_toInt_lt, z_eq, z_nI, z_0, z_m1, z_sub, nI_add, nI_mulN, pk_sub, nI_clamp, Nat.reduceAdd, Nat.reduceMul, Nat.reduceSub, Nat.zero_add, Nat.add_zero, r0] at h9
            all_goals (try (exfalso; omega))
            all_goals
              obtain ⟨_, D4, hC4, rfl, I4, k4⟩ := m85 (sc := sc) (d := d + 1) (G := G) I hs
              refine Rq.s (fun _ => b56_30 hC4) ?_
              obtain ⟨_, D5, hC5, rfl, R5, k5⟩ := m38 (sc := sc) (d := d + 2) (G := G) (p := p) (pl := x) I4.1 hv hp2 hx2
              have q0 : D5 1 0 = nI (zn (tV t)) := by rw [k5 1 (by omega)]; exact (rC I4.1).1
              have q1 : D5 1 1 = nI (zm (tV t)) := by rw [k5 1 (by omega)]; exact (rC I4.1).2.1
              refine Rq.s (fun _ => b56_34 hC5) ?_
              refine Rq.s (fun _ => b56_47 (by rw [q0]; exact dcp (by omega) (by omega) (by omega) (by omega))) ?_
              try simp (disch := omega) only [nI_add, nI_mulN, pk_sub, nI_clamp, Nat.reduceAdd, Nat.reduceMul, Nat.reduceSub, Nat.zero_add, Nat.add_zero, q0, q1]
              have R6 : RepC (hx_up (hx_row D5 6 (va_cpy (D5 22) (D5 6) 0 0 (zn (tV t)))) 1 1 (nI (zm (tV t) + 1))) 1 (opMov (tV t) p x) := RepC_row (RepC_g (fun a a1 a2 => k5 a (by omega)) I4.1) (by funext j; rw [hx_up_at, hx_up_at, hx_row_ne (by omega)]) (fun i hi => by rw [hx_up_ne (by omega), hx_row_s, cpy0 hi]; exact R5 i hi) (fun a a1 a2 => by rw [hx_up_ne a1, hx_row_ne a2])
              have V6 : Valid (opMov (tV t) p x) := Valid_row hv (fun i hi => zmv_lt hv hp2 hx2 hi) (fun i j hi hj e => zmv_inj hv hp2 hx2 hi hj e)
              refine Rq.s (fun _ => b56_83 (m47 (d := d + 1) R6 V6 (rC R6).2.2.2.2.2.2.1 (fun i hi => zmv_lt hv hp2 hx2 hi))) ?_
              refine Rq.e (b56_97) ?_
              rw [zJs_ext (V := opMov (tV t) p x) (V2 := tV t) rfl]
              exact OKc.v rfl (InvC_set I4 R6 (fun a ha => by rw [hx_up_ne (by omega), hx_row_ne (by omega), k5 a (by omega)])) (fun a ha => by rw [hx_up_ne (by omega), hx_row_ne (by omega), k5 a (by omega), k4 a (by omega) (by omega)])
          · try simp (disch := omega) only [Int32.le_iff_toInt_le, Int32.lt_iff_toInt_lt, z_eq, z_nI, z_0, z_m1, z_sub, nI_add, nI_mulN, pk_sub, nI_clamp, Nat.reduceAdd, Nat.reduceMul, Nat.reduceSub, Nat.zero_add, Nat.add_zero, r0] at h9
            all_goals (try (exfalso; omega))
            all_goals
              refine Rq.e (b56_20) ?_
              exfalso; omega
    · rw [if_neg hx]
      refine Rq.s (fun _ => b56_0 (by (try simp (disch := omega) only [nI_add, nI_mulN, pk_sub, nI_clamp, Nat.reduceAdd, Nat.reduceMul, Nat.reduceSub, Nat.zero_add, Nat.add_zero, r0]); exact h80)) ?_
      refine Rq.b (fun _ => b56_5) (fun h5 => ?_) (fun h5 => ?_)
      · try simp (disch := omega) only [Int32.le_iff_toInt_le, Int32.lt_iff_toInt_lt, z_eq, z_nI, z_0, z_m1, z_sub, z_iI, nI_add, nI_mulN, pk_sub, nI_clamp, Nat.reduceAdd, Nat.reduceMul, Nat.reduceSub, Nat.zero_add, Nat.add_zero, r0] at h5
        all_goals (try (exfalso; omega))
        all_goals
          refine Rq.e (b56_20) ?_
          exact OKc.x (k := 1) I rfl
      · try simp (disch := omega) only [Int32.le_iff_toInt_le, Int32.lt_iff_toInt_lt, z_eq, z_nI, z_0, z_m1, z_sub, z_iI, nI_add, nI_mulN, pk_sub, nI_clamp, Nat.reduceAdd, Nat.reduceMul, Nat.reduceSub, Nat.zero_add, Nat.add_zero, r0] at h5
        all_goals (try (exfalso; omega))
        all_goals
          refine Rq.b (fun _ => b56_9) (fun h9 => ?_) (fun h9 => ?_)
          · try simp (disch := omega) only [Int32.le_iff_toInt_le, Int32.lt_iff_toInt_lt, z_eq, z_nI, z_0, z_m1, z_sub, z_iI, nI_add, nI_mulN, pk_sub, nI_clamp, Nat.reduceAdd, Nat.reduceMul, Nat.reduceSub, Nat.zero_add, Nat.add_zero, r0] at h9
            all_goals (try (exfalso; omega))
            all_goals
              exfalso; omega
          · try simp (disch := omega) only [Int32.le_iff_toInt_le, Int32.lt_iff_toInt_lt, z_eq, z_nI, z_0, z_m1, z_sub, z_iI, nI_add, nI_mulN, pk_sub, nI_clamp, Nat.reduceAdd, Nat.reduceMul, Nat.reduceSub, Nat.zero_add, Nat.add_zero, r0] at h9
            all_goals (try (exfalso; omega))
            all_goals
              refine Rq.e (b56_20) ?_
              exact OKc.x (k := 1) I rfl
  · rw [if_neg hp]
    exact Rq.e (b56_0_x (m80F bp1 bp2 r0 (by omega) hp)) (OKc.x (k := 0) I rfl)
theorem kOrder {sc : Nat × (Nat → Int32)} {d : Nat} {D : Nat → Nat → Int32} {G : Nat → Nat → Int64} {t : ST} (I : InvC D t) (hs : SV t) : Cq sc (d + 4) 57 [.ref 0] D G (OKc D [] (oOrder t)) := by
  obtain ⟨r0, r1, rw, re, rc, rh, rr, rs0, rs1⟩ := rC I.1
  obtain ⟨h7, vw, ve, vh, vE, vr, vj, vs0, vs1⟩ := id hs.1
  have hv := hs.1
  refine Cq.c (fun _ _ _ => c57) ?_
  obtain ⟨_, D4, hC4, rfl, I4, k4⟩ := m85 (sc := sc) (d := d + 2) (G := G) I hs
  refine Rq.s (fun _ => b57_0 hC4) ?_
  obtain ⟨_, D5, hC5, rfl, k5, R5⟩ := m3 (sc := sc) (d := d) (G := G) I4.1 hv
  have q0 : D5 1 0 = nI (zn (tV t)) := by rw [k5 1 (by omega) (by omega) (by omega)]; exact (rC I4.1).1
  have q1 : hx_row D5 6 (va_cpy (D5 18) (D5 6) 0 0 (zn (tV t))) 1 1 = nI (zm (tV t)) := by rw [hx_row_ne (by omega), k5 1 (by omega) (by omega) (by omega)]; exact (rC I4.1).2.1
  refine Rq.s (fun _ => b57_4 hC5) ?_
  refine Rq.s (fun _ => b57_15 (by rw [q0]; exact dcp (by omega) (by omega) (by omega) (by omega))) ?_
  try simp (disch := omega) only [nI_add, nI_mulN, pk_sub, nI_clamp, Nat.reduceAdd, Nat.reduceMul, Nat.reduceSub, Nat.zero_add, Nat.add_zero, q0, q1]
  have R6 : RepC (hx_up (hx_row D5 6 (va_cpy (D5 18) (D5 6) 0 0 (zn (tV t)))) 1 1 (nI (zm (tV t) + 1))) 1 (opOrd (tV t)) := RepC_row (RepC_g (fun a a1 a2 => k5 a (by omega) (by omega) (by omega)) I4.1) (by funext j; rw [hx_up_at, hx_up_at, hx_row_ne (by omega)]) (fun i hi => by rw [hx_up_ne (by omega), hx_row_s, cpy0 hi]; exact R5 i hi) (fun a a1 a2 => by rw [hx_up_ne a1, hx_row_ne a2])
  have V6 : Valid (opOrd (tV t)) := Valid_row hv (fun i hi => (zbr_ok hv hi).2.1) (fun i j hi hj e => zbr_inj hv hi hj e)
  refine Rq.s (fun _ => b57_41 (by rw [q1, nI_add]; exact m47 (d := d + 2) R6 V6 (rC R6).2.2.2.2.2.2.1 (fun i hi => (zbr_ok hv hi).2.1))) ?_
  refine Rq.e (b57_68) ?_
  have e9 : zJs (opOrd (tV t)) (zr (opOrd (tV t))) 1 (zn (opOrd (tV t)) - 1) = zleast (tV t) := by rw [zJs_ext (V := opOrd (tV t)) (V2 := tV t) rfl]; exact zleast_eq hv
  rw [e9]
  exact OKc.v rfl (InvC_set I4 R6 (fun a ha => by rw [hx_up_ne (by omega), hx_row_ne (by omega), k5 a (by omega) (by omega) (by omega)])) (fun a ha => by rw [hx_up_ne (by omega), hx_row_ne (by omega), k5 a (by omega) (by omega) (by omega), k4 a (by omega) (by omega)])
theorem RepC_setg {D D2 : Nat → Nat → Int32} {V : ZV} {k x : Nat} (R : RepC D 1 V) (hk : k < 2) (h7 : D2 7 = hx_up D 7 k (nI x) 7) (e : ∀ a, a ≠ 7 → D2 a = D a) : RepC D2 1 (opSet V k x) := by
  obtain ⟨r0, r1, rw, re, rc, rh, rr, rs0, rs1⟩ := rC R
  refine ⟨by rw [e 1 (by omega)]; exact r0, by rw [e 1 (by omega)]; exact r1, fun q hq => by show D2 2 q = _; rw [e 2 (by omega)]; exact rw q hq, fun q i hq hi => by show D2 3 _ = _; rw [e 3 (by omega)]; exact re q i hq hi, fun q hq => by show D2 4 q = _; rw [e 4 (by omega)]; exact rc q hq, fun q i y hq hy => by show D2 5 _ = _; rw [e 5 (by omega)]; exact rh q i y hq hy, fun i hi => by show D2 6 i = _; rw [e 6 (by omega)]; exact rr i hi, ?_, ?_⟩
  · show D2 7 0 = nI (gup (zs V) k x 0)
    rw [h7, hx_up_at]
    by_cases c : k = 0
    · rw [c, gup_s, if_pos ⟨rfl, rfl⟩]
    · rw [gup_n _ _ (by omega), if_neg (by omega)]; exact rs0
  · show D2 7 1 = nI (gup (zs V) k x 1)
    rw [h7, hx_up_at]
    by_cases c : k = 1
    · rw [c, gup_s, if_pos ⟨rfl, rfl⟩]
    · rw [gup_n _ _ (by omega), if_neg (by omega)]; exact rs1
theorem kSet {sc : Nat × (Nat → Int32)} {d : Nat} {D : Nat → Nat → Int32} {G : Nat → Nat → Int64} {t : ST} {k : Int} {x : Int} (bk1 : -2147483648 ≤ k) (bk2 : k < 2147483648) (bx1 : -2147483648 ≤ x) (bx2 : x < 2147483648) (I : InvC D t) (hs : SV t) : Cq sc (d + 2) 58 [.ref 0, .int (iI k), .int (iI x)] D G (OKc D [2, 0] (oSet t k x)) := by
  obtain ⟨r0, r1, rw, re, rc, rh, rr, rs0, rs1⟩ := rC I.1
  obtain ⟨h7, vw, ve, vh, vE, vr, vj, vs0, vs1⟩ := id hs.1
  have hv := hs.1
  refine Cq.c (fun _ _ _ => c58) ?_
  unfold oSet
  by_cases hp : 0 ≤ k ∧ k < 2
  · rw [if_pos hp]
    have h82 := m82T (sc := sc) (d := d + 1) (D := D) (G := G) bk1 bk2 hp
    obtain ⟨k, rfl⟩ := arg_nat hp.1
    simp only [← i_nI, Int.toNat_natCast] at h82 ⊢
    by_cases hx : 0 ≤ x ∧ x ≤ 9
    · rw [if_pos hx]
      obtain ⟨x, rfl⟩ := arg_nat hx.1
      simp only [← i_nI, Int.toNat_natCast]
      refine Rq.s (fun _ => b58_0 (by (try simp (disch := omega) only [nI_add, nI_mulN, pk_sub, nI_clamp, Nat.reduceAdd, Nat.reduceMul, Nat.reduceSub, Nat.zero_add, Nat.add_zero]); exact h82)) ?_
      refine Rq.b (fun _ => b58_4) (fun h4 => ?_) (fun h4 => ?_)
      · try simp (disch := omega) only [Int32.le_iff_toInt_le, Int32.lt_iff_toInt_lt, z_eq, z_nI, z_0, z_m1, z_sub, nI_add, nI_mulN, pk_sub, nI_clamp, Nat.reduceAdd, Nat.reduceMul, Nat.reduceSub, Nat.zero_add, Nat.add_zero] at h4
        all_goals (try (exfalso; omega))
        all_goals
          refine Rq.e (b58_14) ?_
          exfalso; omega
      · try simp (disch := omega) only [Int32.le_iff_toInt_le, Int32.lt_iff_toInt_lt, z_eq, z_nI, z_0, z_m1, z_sub, nI_add, nI_mulN, pk_sub, nI_clamp, Nat.reduceAdd, Nat.reduceMul, Nat.reduceSub, Nat.zero_add, Nat.add_zero] at h4
        all_goals (try (exfalso; omega))
        all_goals
          refine Rq.b (fun _ => b58_8) (fun h8 => ?_) (fun h8 => ?_)
          · try simp (disch := omega) only [Int32.le_iff_toInt_le, Int32.lt_iff_toInt_lt, z_eq, z_nI, z_0, z_m1, z_sub, nI_add, nI_mulN, pk_sub, nI_clamp, Nat.reduceAdd, Nat.reduceMul, Nat.reduceSub, Nat.zero_add, Nat.add_zero] at h8
            all_goals (try (exfalso; omega))
            all_goals
              obtain ⟨_, D4, hC4, rfl, I4, k4⟩ := m85 (sc := sc) (d := d) (G := G) I hs
              have q7 : D4 7 k = nI (zs (tV t) k) := by
                rcases (by omega : k = 0 ∨ k = 1) with c | c <;> subst c
                · exact (rC I4.1).2.2.2.2.2.2.2.1
                · exact (rC I4.1).2.2.2.2.2.2.2.2
              refine Rq.s (fun _ => b58_24 hC4) ?_
              refine Rq.s (fun _ => b58_28 (by (try simp (disch := omega) only [nI_add, nI_mulN, pk_sub, nI_clamp, Nat.reduceAdd, Nat.reduceMul, Nat.reduceSub, Nat.zero_add, Nat.add_zero, q7]); exact nI_inbT (by omega) (by omega)) (by (try simp (disch := omega) only [nI_add, nI_mulN, pk_sub, nI_clamp, Nat.reduceAdd, Nat.reduceMul, Nat.reduceSub, Nat.zero_add, Nat.add_zero, q7]); exact nI_inbT (by omega) (by omega))) ?_
              try simp (disch := omega) only [nI_add, nI_mulN, pk_sub, nI_clamp, Nat.reduceAdd, Nat.reduceMul, Nat.reduceSub, Nat.zero_add, Nat.add_zero, q7]
              refine Rq.e (b58_48) ?_
              exact OKc.v rfl (InvC_set I4 (RepC_setg I4.1 (by omega) rfl (fun a ha => by rw [hx_up_ne ha])) (fun a ha => by rw [hx_up_ne (by omega)])) (fun a ha => by rw [hx_up_ne (by omega), k4 a (by omega) (by omega)])
          · try simp (disch := omega) only [Int32.le_iff_toInt_le, Int32.lt_iff_toInt_lt, z_eq, z_nI, z_0, z_m1, z_sub, nI_add, nI_mulN, pk_sub, nI_clamp, Nat.reduceAdd, Nat.reduceMul, Nat.reduceSub, Nat.zero_add, Nat.add_zero] at h8
            all_goals (try (exfalso; omega))
            all_goals
              refine Rq.e (b58_14) ?_
              exfalso; omega
    · rw [if_neg hx]
      refine Rq.s (fun _ => b58_0 (by (try simp (disch := omega) only [nI_add, nI_mulN, pk_sub, nI_clamp, Nat.reduceAdd, Nat.reduceMul, Nat.reduceSub, Nat.zero_add, Nat.add_zero]); exact h82)) ?_
      refine Rq.b (fun _ => b58_4) (fun h4 => ?_) (fun h4 => ?_)
      · try simp (disch := omega) only [Int32.le_iff_toInt_le, Int32.lt_iff_toInt_lt, z_eq, z_nI, z_0, z_m1, z_sub, z_iI, nI_add, nI_mulN, pk_sub, nI_clamp, Nat.reduceAdd, Nat.reduceMul, Nat.reduceSub, Nat.zero_add, Nat.add_zero] at h4
        all_goals (try (exfalso; omega))
        all_goals
          refine Rq.e (b58_14) ?_
          exact OKc.x (k := 1) I rfl
      · try simp (disch := omega) only [Int32.le_iff_toInt_le, Int32.lt_iff_toInt_lt, z_eq, z_nI, z_0, z_m1, z_sub, z_iI, nI_add, nI_mulN, pk_sub, nI_clamp, Nat.reduceAdd, Nat.reduceMul, Nat.reduceSub, Nat.zero_add, Nat.add_zero] at h4
        all_goals (try (exfalso; omega))
        all_goals
          refine Rq.b (fun _ => b58_8) (fun h8 => ?_) (fun h8 => ?_)
          · try simp (disch := omega) only [Int32.le_iff_toInt_le, Int32.lt_iff_toInt_lt, z_eq, z_nI, z_0, z_m1, z_sub, z_iI, nI_add, nI_mulN, pk_sub, nI_clamp, Nat.reduceAdd, Nat.reduceMul, Nat.reduceSub, Nat.zero_add, Nat.add_zero] at h8
            all_goals (try (exfalso; omega))
            all_goals
              exfalso; omega
          · try simp (disch := omega) only [Int32.le_iff_toInt_le, Int32.lt_iff_toInt_lt, z_eq, z_nI, z_0, z_m1, z_sub, z_iI, nI_add, nI_mulN, pk_sub, nI_clamp, Nat.reduceAdd, Nat.reduceMul, Nat.reduceSub, Nat.zero_add, Nat.add_zero] at h8
            all_goals (try (exfalso; omega))
            all_goals
              refine Rq.e (b58_14) ?_
              exact OKc.x (k := 1) I rfl
  · rw [if_neg hp]
    exact Rq.e (b58_0_x (m82F bk1 bk2 hp)) (OKc.x (k := 0) I rfl)
theorem z_chr {c : Nat} (h : c < 200) : vp_nar .char ((nI c).toUInt32 % 65536).toInt32 = nI c := by
  rw [pk_vc, pk_char, pk_tn (by omega), Nat.mod_eq_of_lt (by omega)]
theorem kAppend {sc : Nat × (Nat → Int32)} {d : Nat} {D : Nat → Nat → Int32} {G : Nat → Nat → Int64} {t : ST} {x : Int} (bx1 : -2147483648 ≤ x) (bx2 : x < 2147483648) (I : InvC D t) (hs : SV t) : Cq sc d 59 [.ref 0, .int (iI x)] D G (OKc D [0, 1] (oAppend t x)) := by
  obtain ⟨r0, r1, rw, re, rc, rh, rr, rs0, rs1⟩ := rC I.1
  obtain ⟨h7, vw, ve, vh, vE, vr, vj, vs0, vs1⟩ := id hs.1
  have hv := hs.1
  obtain ⟨i1, i2, i3, i4⟩ := id I
  obtain ⟨f0, f1, f2, f3⟩ := id i4
  refine Cq.c (fun _ _ _ => c59) ?_
  unfold oAppend
  by_cases hx : 33 ≤ x ∧ x ≤ 126
  · rw [if_pos hx]
    obtain ⟨x, rfl⟩ := arg_nat (show 0 ≤ x by omega)
    simp only [← i_nI, Int.toNat_natCast]
    refine Rq.b (fun _ => b59_0) (fun h0 => ?_) (fun h0 => ?_)
    · try simp (disch := omega) only [Int32.le_iff_toInt_le, Int32.lt_iff_toInt_lt, z_eq, z_nI, z_0, z_m1, z_sub, nI_add, nI_mulN, pk_sub, nI_clamp, Nat.reduceAdd, Nat.reduceMul, Nat.reduceSub, Nat.zero_add, Nat.add_zero, z_chr, f0] at h0
      all_goals (try (exfalso; omega))
      all_goals
        refine Rq.e (b59_12) ?_
        exfalso; omega
    · try simp (disch := omega) only [Int32.le_iff_toInt_le, Int32.lt_iff_toInt_lt, z_eq, z_nI, z_0, z_m1, z_sub, nI_add, nI_mulN, pk_sub, nI_clamp, Nat.reduceAdd, Nat.reduceMul, Nat.reduceSub, Nat.zero_add, Nat.add_zero, z_chr, f0] at h0
      all_goals (try (exfalso; omega))
      all_goals
        refine Rq.b (fun _ => b59_6) (fun h6 => ?_) (fun h6 => ?_)
        · try simp (disch := omega) only [Int32.le_iff_toInt_le, Int32.lt_iff_toInt_lt, z_eq, z_nI, z_0, z_m1, z_sub, nI_add, nI_mulN, pk_sub, nI_clamp, Nat.reduceAdd, Nat.reduceMul, Nat.reduceSub, Nat.zero_add, Nat.add_zero, z_chr, f0] at h6
          all_goals (try (exfalso; omega))
          all_goals
            refine Rq.b (fun _ => b59_22) (fun h22 => ?_) (fun h22 => ?_)
            · try simp (disch := omega) only [Int32.le_iff_toInt_le, Int32.lt_iff_toInt_lt, z_eq, z_nI, z_0, z_m1, z_sub, nI_add, nI_mulN, pk_sub, nI_clamp, Nat.reduceAdd, Nat.reduceMul, Nat.reduceSub, Nat.zero_add, Nat.add_zero, z_chr, f0] at h22
              all_goals (try (exfalso; omega))
              all_goals
                refine Rq.s (fun _ => b59_41 (by (try simp (disch := omega) only [nI_add, nI_mulN, pk_sub, nI_clamp, Nat.reduceAdd, Nat.reduceMul, Nat.reduceSub, Nat.zero_add, Nat.add_zero, z_chr, f0]); exact nI_inbT (by omega) (by omega))) ?_
                try simp (disch := omega) only [nI_add, nI_mulN, pk_sub, nI_clamp, Nat.reduceAdd, Nat.reduceMul, Nat.reduceSub, Nat.zero_add, Nat.add_zero, z_chr, f0]
                refine Rq.e (b59_62) ?_
                rw [if_neg (by omega), hx_up_s]
                refine OKc.v rfl ⟨RepC_g (fun a a1 a2 => by rw [hx_up_ne (by omega), hx_up_ne (by omega)]) i1, RingC_k (by rw [hx_up_in _ _ _ (by omega), hx_up_ne (by omega)]) (by rw [hx_up_in _ _ _ (by omega), hx_up_ne (by omega)]) (fun a a1 a2 => by rw [hx_up_ne (by omega), hx_up_ne (by omega)]) i2, SlotC_k (by rw [hx_up_ne (by omega), hx_up_ne (by omega)]) (fun a a1 a2 => by rw [hx_up_ne (by omega), hx_up_ne (by omega)]) i3, ?_⟩ (fun a ha => by rw [hx_up_ne (by omega), hx_up_ne (by omega)])
                refine ⟨hx_up_s _ _ _ _, by show tn t + 1 ≤ 60; omega, fun i hi => ?_, fun i hi => ?_⟩
                · have hi2 : i < tn t + 1 := hi
                  rw [hx_up_ne (by omega)]
                  show _ = nI (gup (tb t) (tn t) x i)
                  by_cases c : i = tn t
                  · rw [c, gup_s, hx_up_s]
                  · rw [gup_n _ _ c, hx_up_in _ _ _ c]
                    exact f2 i (by omega)
                · have hi2 : i < tn t + 1 := hi
                  show gup (tb t) (tn t) x i < 200
                  by_cases c : i = tn t
                  · rw [c, gup_s]; omega
                  · rw [gup_n _ _ c]
                    exact f3 i (by omega)
            · try simp (disch := omega) only [Int32.le_iff_toInt_le, Int32.lt_iff_toInt_lt, z_eq, z_nI, z_0, z_m1, z_sub, nI_add, nI_mulN, pk_sub, nI_clamp, Nat.reduceAdd, Nat.reduceMul, Nat.reduceSub, Nat.zero_add, Nat.add_zero, z_chr, f0] at h22
              all_goals (try (exfalso; omega))
              all_goals
                refine Rq.e (b59_31) ?_
                rw [if_pos (by omega)]
                exact OKc.x (k := 1) I rfl
        · try simp (disch := omega) only [Int32.le_iff_toInt_le, Int32.lt_iff_toInt_lt, z_eq, z_nI, z_0, z_m1, z_sub, nI_add, nI_mulN, pk_sub, nI_clamp, Nat.reduceAdd, Nat.reduceMul, Nat.reduceSub, Nat.zero_add, Nat.add_zero, z_chr, f0] at h6
          all_goals (try (exfalso; omega))
          all_goals
            refine Rq.e (b59_12) ?_
            exfalso; omega
  · rw [if_neg hx]
    refine Rq.b (fun _ => b59_0) (fun h0 => ?_) (fun h0 => ?_)
    · try simp (disch := omega) only [Int32.le_iff_toInt_le, Int32.lt_iff_toInt_lt, z_eq, z_nI, z_0, z_m1, z_sub, z_iI, nI_add, nI_mulN, pk_sub, nI_clamp, Nat.reduceAdd, Nat.reduceMul, Nat.reduceSub, Nat.zero_add, Nat.add_zero, f0] at h0
      all_goals (try (exfalso; omega))
      all_goals
        refine Rq.e (b59_12) ?_
        exact OKc.x (k := 0) I rfl
    · try simp (disch := omega) only [Int32.le_iff_toInt_le, Int32.lt_iff_toInt_lt, z_eq, z_nI, z_0, z_m1, z_sub, z_iI, nI_add, nI_mulN, pk_sub, nI_clamp, Nat.reduceAdd, Nat.reduceMul, Nat.reduceSub, Nat.zero_add, Nat.add_zero, f0] at h0
      all_goals (try (exfalso; omega))
      all_goals
        refine Rq.b (fun _ => b59_6) (fun h6 => ?_) (fun h6 => ?_)
        · try simp (disch := omega) only [Int32.le_iff_toInt_le, Int32.lt_iff_toInt_lt, z_eq, z_nI, z_0, z_m1, z_sub, z_iI, nI_add, nI_mulN, pk_sub, nI_clamp, Nat.reduceAdd, Nat.reduceMul, Nat.reduceSub, Nat.zero_add, Nat.add_zero, f0] at h6
          all_goals (try (exfalso; omega))
          all_goals
            exfalso; omega
        · try simp (disch := omega) only [Int32.le_iff_toInt_le, Int32.lt_iff_toInt_lt, z_eq, z_nI, z_0, z_m1, z_sub, z_iI, nI_add, nI_mulN, pk_sub, nI_clamp, Nat.reduceAdd, Nat.reduceMul, Nat.reduceSub, Nat.zero_add, Nat.add_zero, f0] at h6
          all_goals (try (exfalso; omega))
          all_goals
            refine Rq.e (b59_12) ?_
            exact OKc.x (k := 0) I rfl
theorem kClear {sc : Nat × (Nat → Int32)} {d : Nat} {D : Nat → Nat → Int32} {G : Nat → Nat → Int64} {t : ST} (I : InvC D t) (hs : SV t) : Cq sc d 60 [.ref 0] D G (OKc D [] (oClear t)) := by
  obtain ⟨i1, i2, i3, i4⟩ := id I
  obtain ⟨f0, f1, f2, f3⟩ := id i4
  refine Cq.c (fun _ _ _ => c60) ?_
  refine Rq.e (b60_0) ?_
  rw [f0]
  refine OKc.v rfl ⟨RepC_g (fun a a1 a2 => by rw [hx_up_ne (by omega)]) i1, RingC_k (by rw [hx_up_in _ _ _ (by omega)]) (by rw [hx_up_in _ _ _ (by omega)]) (fun a a1 a2 => by rw [hx_up_ne (by omega)]) i2, SlotC_k (by rw [hx_up_ne (by omega)]) (fun a a1 a2 => by rw [hx_up_ne (by omega)]) i3, ⟨hx_up_s _ _ _ _, Nat.zero_le _, fun i hi => absurd hi (Nat.not_lt_zero _), fun i hi => absurd hi (Nat.not_lt_zero _)⟩⟩ (fun a ha => by rw [hx_up_ne (by omega)])
