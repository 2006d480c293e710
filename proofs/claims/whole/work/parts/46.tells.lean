/-! ===== the class: what it tells ===== -/
def oPieceOf (t : ST) (p j : Int) : OUT := if 0 ≤ p ∧ p < (zn (tV t) : Int) then (if 0 ≤ j ∧ j ≤ 13 then (0, nI (zpr (tV t) p.toNat j.toNat), t) else (2, 0, t)) else (1, 0, t)
def oIsHole (t : ST) (p x : Int) : OUT := if 0 ≤ p ∧ p < (zn (tV t) : Int) then (if 0 ≤ x ∧ x < (zw (tV t) p.toNat : Int) then (0, nI (if zh (tV t) p.toNat x.toNat = true then 1 else 0), t) else (2, 0, t)) else (1, 0, t)
def oAt (t : ST) (x : Int) : OUT := if x < 0 then (1, 0, t) else (0, if x < (zn (tV t) : Int) then nI (zr (tV t) x.toNat) else -1, t)
def oCost (t : ST) (f s : Int) : OUT := if (0 ≤ f ∧ f < (zn (tV t) : Int)) ∧ 0 ≤ s ∧ s < (zn (tV t) : Int) then (if f = s then (2, 0, t) else (0, nI (zj (tV t) f.toNat s.toNat), t)) else (1, 0, t)
def oHoleOf (t : ST) (i j : Int) : OUT := if 0 ≤ i ∧ 0 ≤ j ∧ j ≤ 4 then (0, zHp (tV t) i.toNat j.toNat, t) else (1, 0, t)
def oCount (t : ST) (j : Int) : OUT := if 0 ≤ j ∧ j ≤ 9 then (0, zct t j.toNat, t) else (1, 0, t)
def oSetting (t : ST) (k : Int) : OUT := if 0 ≤ k ∧ k < 2 then (0, nI (zs (tV t) k.toNat), t) else (1, 0, t)
def oBestBehind (t : ST) (p : Int) : OUT := if 0 ≤ p ∧ p < (zn (tV t) : Int) then (0, zo (zbb (zj (tV t)) p.toNat 99 (zn (tV t))), t) else (1, 0, t)
def oSureness (t : ST) (p : Int) : OUT := if 0 ≤ p ∧ p < (zn (tV t) : Int) then (0, zsu (tV t) p.toNat, t) else (1, 0, t)
def oBestPlace (t : ST) (p : Int) : OUT := if 0 ≤ p ∧ p < (zn (tV t) : Int) then (0, nI (zbp (tV t) p.toNat), t) else (1, 0, t)
def oIfOrdered (t : ST) : OUT := (0, nI (zWs (tV t) (zbr (tV t))), t)
def oFirstError (t : ST) : OUT := (0, nI (zfe (tb t) (tn t) 0), t)
theorem kPieceOf {sc : Nat × (Nat → Int32)} {d : Nat} {D : Nat → Nat → Int32} {G : Nat → Nat → Int64} {t : ST} {p : Int} {x : Int} (bp1 : -2147483648 ≤ p) (bp2 : p < 2147483648) (bx1 : -2147483648 ≤ x) (bx2 : x < 2147483648) (I : InvC D t) (hs : SV t) : Cq sc (d + 2) 66 [.ref 0, .int (iI p), .int (iI x)] D G (OKc D [2, 0] (oPieceOf t p x)) := by
  obtain ⟨r0, r1, rw, re, rc, rh, rr, rs0, rs1⟩ := rC I.1
  obtain ⟨h7, vw, ve, vh, vE, vr, vj, vs0, vs1⟩ := id hs.1
  have hv := hs.1
  refine Cq.c (fun _ _ _ => c66) ?_
  unfold oPieceOf
  by_cases hp : 0 ≤ p ∧ p < (zn (tV t) : Int)
  · rw [if_pos hp]
    have h80 := m80T (sc := sc) (d := d + 1) (G := G) bp1 bp2 r0 (by omega) hp
    obtain ⟨p, rfl⟩ := arg_nat hp.1
    simp only [← i_nI, Int.toNat_natCast] at h80 ⊢
    have hpn : p < zn (tV t) := by omega
    by_cases hx : 0 ≤ x ∧ x ≤ 13
    · rw [if_pos hx]
      obtain ⟨x, rfl⟩ := arg_nat hx.1
      simp only [← i_nI, Int.toNat_natCast]
      refine Rq.s (fun _ => b66_0 (by (try simp (disch := omega) only [nI_add, nI_mulN, pk_sub, nI_clamp, Nat.reduceAdd, Nat.reduceMul, Nat.reduceSub, Nat.zero_add, Nat.add_zero]); exact h80)) ?_
      refine Rq.b (fun _ => b66_5) (fun h5 => ?_) (fun h5 => ?_)
      · try simp (disch := omega) only [Int32.le_iff_toInt_le, Int32.lt_iff_toInt_lt, z_eq, z_nI, z_0, z_m1, z_sub, nI_add, nI_mulN, pk_sub, nI_clamp, Nat.reduceAdd, Nat.reduceMul, Nat.reduceSub, Nat.zero_add, Nat.add_zero] at h5
        all_goals (try (exfalso; omega))
        all_goals
          refine Rq.e (b66_15) ?_
          exfalso; omega
      · try simp (disch := omega) only [Int32.le_iff_toInt_le, Int32.lt_iff_toInt_lt, z_eq, z_nI, z_0, z_m1, z_sub, nI_add, nI_mulN, pk_sub, nI_clamp, Nat.reduceAdd, Nat.reduceMul, Nat.reduceSub, Nat.zero_add, Nat.add_zero] at h5
        all_goals (try (exfalso; omega))
        all_goals
          refine Rq.b (fun _ => b66_9) (fun h9 => ?_) (fun h9 => ?_)
          · try simp (disch := omega) only [Int32.le_iff_toInt_le, Int32.lt_iff_toInt_lt, z_eq, z_nI, z_0, z_m1, z_sub, nI_add, nI_mulN, pk_sub, nI_clamp, Nat.reduceAdd, Nat.reduceMul, Nat.reduceSub, Nat.zero_add, Nat.add_zero] at h9
            all_goals (try (exfalso; omega))
            all_goals
              refine Rq.s (fun _ => b66_25 (by (try simp (disch := omega) only [nI_add, nI_mulN, pk_sub, nI_clamp, Nat.reduceAdd, Nat.reduceMul, Nat.reduceSub, Nat.zero_add, Nat.add_zero]); exact m42 (d := d) I.1 hv hpn (by omega))) ?_
              refine Rq.e (b66_34) ?_
              exact OKc.k I rfl eqK.rf
          · try simp (disch := omega) only [Int32.le_iff_toInt_le, Int32.lt_iff_toInt_lt, z_eq, z_nI, z_0, z_m1, z_sub, nI_add, nI_mulN, pk_sub, nI_clamp, Nat.reduceAdd, Nat.reduceMul, Nat.reduceSub, Nat.zero_add, Nat.add_zero] at h9
            all_goals (try (exfalso; omega))
            all_goals
              refine Rq.e (b66_15) ?_
              exfalso; omega
    · rw [if_neg hx]
      refine Rq.s (fun _ => b66_0 (by (try simp (disch := omega) only [nI_add, nI_mulN, pk_sub, nI_clamp, Nat.reduceAdd, Nat.reduceMul, Nat.reduceSub, Nat.zero_add, Nat.add_zero]); exact h80)) ?_
      refine Rq.b (fun _ => b66_5) (fun h5 => ?_) (fun h5 => ?_)
      · try simp (disch := omega) only [Int32.le_iff_toInt_le, Int32.lt_iff_toInt_lt, z_eq, z_nI, z_0, z_m1, z_sub, z_iI, nI_add, nI_mulN, pk_sub, nI_clamp, Nat.reduceAdd, Nat.reduceMul, Nat.reduceSub, Nat.zero_add, Nat.add_zero] at h5
        all_goals (try (exfalso; omega))
        all_goals
          refine Rq.e (b66_15) ?_
          exact OKc.x (k := 1) I rfl
      · try simp (disch := omega) only [Int32.le_iff_toInt_le, Int32.lt_iff_toInt_lt, z_eq, z_nI, z_0, z_m1, z_sub, z_iI, nI_add, nI_mulN, pk_sub, nI_clamp, Nat.reduceAdd, Nat.reduceMul, Nat.reduceSub, Nat.zero_add, Nat.add_zero] at h5
        all_goals (try (exfalso; omega))
        all_goals
          refine Rq.b (fun _ => b66_9) (fun h9 => ?_) (fun h9 => ?_)
          · try simp (disch := omega) only [Int32.le_iff_toInt_le, Int32.lt_iff_toInt_lt, z_eq, z_nI, z_0, z_m1, z_sub, z_iI, nI_add, nI_mulN, pk_sub, nI_clamp, Nat.reduceAdd, Nat.reduceMul, Nat.reduceSub, Nat.zero_add, Nat.add_zero] at h9
            all_goals (try (exfalso; omega))
            all_goals
              exfalso; omega
          · try simp (disch := omega) only [Int32.le_iff_toInt_le, Int32.lt_iff_toInt_lt, z_eq, z_nI, z_0, z_m1, z_sub, z_iI, nI_add, nI_mulN, pk_sub, nI_clamp, Nat.reduceAdd, Nat.reduceMul, Nat.reduceSub, Nat.zero_add, Nat.add_zero] at h9
            all_goals (try (exfalso; omega))
            all_goals
              refine Rq.e (b66_15) ?_
              exact OKc.x (k := 1) I rfl
  · rw [if_neg hp]
    exact Rq.e (b66_0_x (m80F bp1 bp2 r0 (by omega) hp)) (OKc.x (k := 0) I rfl)
theorem kIsHole {sc : Nat × (Nat → Int32)} {d : Nat} {D : Nat → Nat → Int32} {G : Nat → Nat → Int64} {t : ST} {p : Int} {x : Int} (bp1 : -2147483648 ≤ p) (bp2 : p < 2147483648) (bx1 : -2147483648 ≤ x) (bx2 : x < 2147483648) (I : InvC D t) (hs : SV t) : Cq sc (d + 1) 67 [.ref 0, .int (iI p), .int (iI x)] D G (OKc D [2, 0] (oIsHole t p x)) := by
  obtain ⟨r0, r1, rw, re, rc, rh, rr, rs0, rs1⟩ := rC I.1
  obtain ⟨h7, vw, ve, vh, vE, vr, vj, vs0, vs1⟩ := id hs.1
  have hv := hs.1
  refine Cq.c (fun _ _ _ => c67) ?_
  unfold oIsHole
  by_cases hp : 0 ≤ p ∧ p < (zn (tV t) : Int)
  · rw [if_pos hp]
    have h80 := m80T (sc := sc) (d := d) (G := G) bp1 bp2 r0 (by omega) hp
    obtain ⟨p, rfl⟩ := arg_nat hp.1
    simp only [← i_nI, Int.toNat_natCast] at h80 ⊢
    have hpn : p < zn (tV t) := by omega
    have rwp := rw p hpn
    have vwp := vw p hpn
    by_cases hx : 0 ≤ x ∧ x < (zw (tV t) p : Int)
    · rw [if_pos hx]
      have h81 := m81T (sc := sc) (d := d) (G := G) bx1 bx2 rwp (by omega) (by omega) hx
      obtain ⟨x, rfl⟩ := arg_nat hx.1
      simp only [← i_nI, Int.toNat_natCast] at h81 ⊢
      refine Rq.s (fun _ => b67_0 (by (try simp (disch := omega) only [nI_add, nI_mulN, pk_sub, nI_clamp, Nat.reduceAdd, Nat.reduceMul, Nat.reduceSub, Nat.zero_add, Nat.add_zero]); exact h80)) ?_
      refine Rq.s (fun _ => b67_5 (by (try simp (disch := omega) only [nI_add, nI_mulN, pk_sub, nI_clamp, Nat.reduceAdd, Nat.reduceMul, Nat.reduceSub, Nat.zero_add, Nat.add_zero]); exact h81)) ?_
      refine Rq.s (fun _ => b67_11 (by (try simp (disch := omega) only [nI_add, nI_mulN, pk_sub, nI_clamp, Nat.reduceAdd, Nat.reduceMul, Nat.reduceSub, Nat.zero_add, Nat.add_zero]); exact m39 (d := d) I.1 hv hpn (by omega))) ?_
      by_cases hw : zh (tV t) p x = false
      · refine Rq.bt (fun _ => b67_20) (by rw [hw]; rfl) ?_
        refine Rq.s (fun _ => b67_27) ?_
        try simp (disch := omega) only [nI_add, nI_mulN, pk_sub, nI_clamp, Nat.reduceAdd, Nat.reduceMul, Nat.reduceSub, Nat.zero_add, Nat.add_zero]
        refine Rq.e (b67_28) ?_
        first
          | exact OKc.k I (by rw [if_neg (by rw [hw]; decide)]) eqK.rf
          | exact OKc.k I (by rw [if_pos (eq_true_of_ne_false hw)]) eqK.rf
      · refine Rq.bf (fun _ => b67_20) (by rw [eq_true_of_ne_false hw]; decide) ?_
        refine Rq.s (fun _ => b67_23) ?_
        try simp (disch := omega) only [nI_add, nI_mulN, pk_sub, nI_clamp, Nat.reduceAdd, Nat.reduceMul, Nat.reduceSub, Nat.zero_add, Nat.add_zero]
        refine Rq.e (b67_28b) ?_
        first
          | exact OKc.k I (by rw [if_neg (by rw [hw]; decide)]) eqK.rf
          | exact OKc.k I (by rw [if_pos (eq_true_of_ne_false hw)]) eqK.rf
    · rw [if_neg hx]
      refine Rq.s (fun _ => b67_0 h80) ?_
      exact Rq.e (b67_5_x (m81F bx1 bx2 rwp (by omega) (by omega) hx)) (OKc.x (k := 1) I rfl)
  · rw [if_neg hp]
    exact Rq.e (b67_0_x (m80F bp1 bp2 r0 (by omega) hp)) (OKc.x (k := 0) I rfl)
theorem kAt {sc : Nat × (Nat → Int32)} {d : Nat} {D : Nat → Nat → Int32} {G : Nat → Nat → Int64} {t : ST} {x : Int} (bx1 : -2147483648 ≤ x) (bx2 : x < 2147483648) (I : InvC D t) (hs : SV t) : Cq sc d 68 [.ref 0, .int (iI x)] D G (OKc D [0] (oAt t x)) := by
  obtain ⟨r0, r1, rw, re, rc, rh, rr, rs0, rs1⟩ := rC I.1
  obtain ⟨h7, vw, ve, vh, vE, vr, vj, vs0, vs1⟩ := id hs.1
  have hv := hs.1
  refine Cq.c (fun _ _ _ => c68) ?_
  unfold oAt
  by_cases hx : x < 0
  · rw [if_pos hx]
    refine Rq.b (fun _ => b68_0) (fun h0 => ?_) (fun h0 => ?_)
    · try simp (disch := omega) only [Int32.le_iff_toInt_le, Int32.lt_iff_toInt_lt, z_eq, z_nI, z_0, z_m1, z_sub, z_iI, nI_add, nI_mulN, pk_sub, nI_clamp, Nat.reduceAdd, Nat.reduceMul, Nat.reduceSub, Nat.zero_add, Nat.add_zero, r0] at h0
      all_goals (try (exfalso; omega))
      all_goals
        exfalso; omega
    · try simp (disch := omega) only [Int32.le_iff_toInt_le, Int32.lt_iff_toInt_lt, z_eq, z_nI, z_0, z_m1, z_sub, z_iI, nI_add, nI_mulN, pk_sub, nI_clamp, Nat.reduceAdd, Nat.reduceMul, Nat.reduceSub, Nat.zero_add, Nat.add_zero, r0] at h0
      all_goals (try (exfalso; omega))
      all_goals
        refine Rq.e (b68_4) ?_
        exact OKc.x (k := 0) I rfl
  · rw [if_neg hx]
    by_cases hx2 : x < (zn (tV t) : Int)
    · rw [if_pos hx2]
      obtain ⟨x, rfl⟩ := arg_nat (show 0 ≤ x by omega)
      simp only [← i_nI, Int.toNat_natCast]
      have rrx := rr x (by omega)
      refine Rq.b (fun _ => b68_0) (fun h0 => ?_) (fun h0 => ?_)
      · try simp (disch := omega) only [Int32.le_iff_toInt_le, Int32.lt_iff_toInt_lt, z_eq, z_nI, z_0, z_m1, z_sub, nI_add, nI_mulN, pk_sub, nI_clamp, Nat.reduceAdd, Nat.reduceMul, Nat.reduceSub, Nat.zero_add, Nat.add_zero, r0, rrx] at h0
        all_goals (try (exfalso; omega))
        all_goals
          refine Rq.b (fun _ => b68_14) (fun h14 => ?_) (fun h14 => ?_)
          · try simp (disch := omega) only [Int32.le_iff_toInt_le, Int32.lt_iff_toInt_lt, z_eq, z_nI, z_0, z_m1, z_sub, nI_add, nI_mulN, pk_sub, nI_clamp, Nat.reduceAdd, Nat.reduceMul, Nat.reduceSub, Nat.zero_add, Nat.add_zero, r0, rrx] at h14
            all_goals (try (exfalso; omega))
            all_goals
              exfalso; omega
          · try simp (disch := omega) only [Int32.le_iff_toInt_le, Int32.lt_iff_toInt_lt, z_eq, z_nI, z_0, z_m1, z_sub, nI_add, nI_mulN, pk_sub, nI_clamp, Nat.reduceAdd, Nat.reduceMul, Nat.reduceSub, Nat.zero_add, Nat.add_zero, r0, rrx] at h14
            all_goals (try (exfalso; omega))
            all_goals
              refine Rq.s (fun _ => b68_25 (by (try simp (disch := omega) only [nI_add, nI_mulN, pk_sub, nI_clamp, Nat.reduceAdd, Nat.reduceMul, Nat.reduceSub, Nat.zero_add, Nat.add_zero, r0, rrx]); exact nI_inbT (by omega) (by omega))) ?_
              try simp (disch := omega) only [nI_add, nI_mulN, pk_sub, nI_clamp, Nat.reduceAdd, Nat.reduceMul, Nat.reduceSub, Nat.zero_add, Nat.add_zero, r0, rrx]
              refine Rq.e (b68_38b) ?_
              exact OKc.k I rfl eqK.rf
      · try simp (disch := omega) only [Int32.le_iff_toInt_le, Int32.lt_iff_toInt_lt, z_eq, z_nI, z_0, z_m1, z_sub, nI_add, nI_mulN, pk_sub, nI_clamp, Nat.reduceAdd, Nat.reduceMul, Nat.reduceSub, Nat.zero_add, Nat.add_zero, r0, rrx] at h0
        all_goals (try (exfalso; omega))
        all_goals
          refine Rq.e (b68_4) ?_
          exfalso; omega
    · rw [if_neg hx2]
      refine Rq.b (fun _ => b68_0) (fun h0 => ?_) (fun h0 => ?_)
      · try simp (disch := omega) only [Int32.le_iff_toInt_le, Int32.lt_iff_toInt_lt, z_eq, z_nI, z_0, z_m1, z_sub, z_iI, nI_add, nI_mulN, pk_sub, nI_clamp, Nat.reduceAdd, Nat.reduceMul, Nat.reduceSub, Nat.zero_add, Nat.add_zero, r0] at h0
        all_goals (try (exfalso; omega))
        all_goals
          refine Rq.b (fun _ => b68_14) (fun h14 => ?_) (fun h14 => ?_)
          · try simp (disch := omega) only [Int32.le_iff_toInt_le, Int32.lt_iff_toInt_lt, z_eq, z_nI, z_0, z_m1, z_sub, z_iI, nI_add, nI_mulN, pk_sub, nI_clamp, Nat.reduceAdd, Nat.reduceMul, Nat.reduceSub, Nat.zero_add, Nat.add_zero, r0] at h14
            all_goals (try (exfalso; omega))
            all_goals
              refine Rq.s (fun _ => b68_37) ?_
              try simp (disch := omega) only [nI_add, nI_mulN, pk_sub, nI_clamp, Nat.reduceAdd, Nat.reduceMul, Nat.reduceSub, Nat.zero_add, Nat.add_zero, r0]
              refine Rq.e (b68_38) ?_
              exact OKc.k I rfl eqK.rf
          · try simp (disch := omega) only [Int32.le_iff_toInt_le, Int32.lt_iff_toInt_lt, z_eq, z_nI, z_0, z_m1, z_sub, z_iI, nI_add, nI_mulN, pk_sub, nI_clamp, Nat.reduceAdd, Nat.reduceMul, Nat.reduceSub, Nat.zero_add, Nat.add_zero, r0] at h14
            all_goals (try (exfalso; omega))
            all_goals
              exfalso; omega
      · try simp (disch := omega) only [Int32.le_iff_toInt_le, Int32.lt_iff_toInt_lt, z_eq, z_nI, z_0, z_m1, z_sub, z_iI, nI_add, nI_mulN, pk_sub, nI_clamp, Nat.reduceAdd, Nat.reduceMul, Nat.reduceSub, Nat.zero_add, Nat.add_zero, r0] at h0
        all_goals (try (exfalso; omega))
        all_goals
          refine Rq.e (b68_4) ?_
          exfalso; omega
theorem kCost {sc : Nat × (Nat → Int32)} {d : Nat} {D : Nat → Nat → Int32} {G : Nat → Nat → Int64} {t : ST} {f : Int} {s : Int} (bf1 : -2147483648 ≤ f) (bf2 : f < 2147483648) (bs1 : -2147483648 ≤ s) (bs2 : s < 2147483648) (I : InvC D t) (hs : SV t) : Cq sc (d + 1) 69 [.ref 0, .int (iI f), .int (iI s)] D G (OKc D [2, 0] (oCost t f s)) := by
  obtain ⟨r0, r1, rw, re, rc, rh, rr, rs0, rs1⟩ := rC I.1
  obtain ⟨h7, vw, ve, vh, vE, vr, vj, vs0, vs1⟩ := id hs.1
  have hv := hs.1
  refine Cq.c (fun _ _ _ => c69) ?_
  unfold oCost
  by_cases hf : 0 ≤ f ∧ f < (zn (tV t) : Int)
  · have h80 := m80T (sc := sc) (d := d) (G := G) bf1 bf2 r0 (by omega) hf
    refine Rq.s (fun _ => b69_0 h80) ?_
    by_cases hg : 0 ≤ s ∧ s < (zn (tV t) : Int)
    · rw [if_pos ⟨hf, hg⟩]
      have h81 := m80T (sc := sc) (d := d) (G := G) bs1 bs2 r0 (by omega) hg
      obtain ⟨f, rfl⟩ := arg_nat hf.1
      obtain ⟨s, rfl⟩ := arg_nat hg.1
      simp only [← i_nI, Int.toNat_natCast] at h81 ⊢
      refine Rq.s (fun _ => b69_5 (by (try simp (disch := omega) only [nI_add, nI_mulN, pk_sub, nI_clamp, Nat.reduceAdd, Nat.reduceMul, Nat.reduceSub, Nat.zero_add, Nat.add_zero]); exact h81)) ?_
      refine Rq.b (fun _ => b69_10) (fun h10 => ?_) (fun h10 => ?_)
      · try simp (disch := omega) only [Int32.le_iff_toInt_le, Int32.lt_iff_toInt_lt, z_eq, z_nI, z_0, z_m1, z_sub, nI_add, nI_mulN, pk_sub, nI_clamp, Nat.reduceAdd, Nat.reduceMul, Nat.reduceSub, Nat.zero_add, Nat.add_zero] at h10
        all_goals (try (exfalso; omega))
        all_goals
          refine Rq.s (fun _ => b69_25 (by (try simp (disch := omega) only [nI_add, nI_mulN, pk_sub, nI_clamp, Nat.reduceAdd, Nat.reduceMul, Nat.reduceSub, Nat.zero_add, Nat.add_zero]); exact m46 (d := d) I.1 hv (by omega) (by omega))) ?_
          refine Rq.e (b69_34) ?_
          rw [if_neg (by omega)]
          exact OKc.k I rfl eqK.rf
      · try simp (disch := omega) only [Int32.le_iff_toInt_le, Int32.lt_iff_toInt_lt, z_eq, z_nI, z_0, z_m1, z_sub, nI_add, nI_mulN, pk_sub, nI_clamp, Nat.reduceAdd, Nat.reduceMul, Nat.reduceSub, Nat.zero_add, Nat.add_zero] at h10
        all_goals (try (exfalso; omega))
        all_goals
          refine Rq.e (b69_15) ?_
          rw [if_pos (by omega)]
          exact OKc.x (k := 1) I rfl
    · rw [if_neg (fun z => hg z.2)]
      exact Rq.e (b69_5_x (m80F bs1 bs2 r0 (by omega) hg)) (OKc.x (k := 0) I rfl)
  · rw [if_neg (fun z => hf z.1)]
    exact Rq.e (b69_0_x (m80F bf1 bf2 r0 (by omega) hf)) (OKc.x (k := 0) I rfl)
theorem kHoleOf {sc : Nat × (Nat → Int32)} {d : Nat} {D : Nat → Nat → Int32} {G : Nat → Nat → Int64} {t : ST} {x : Int} {y : Int} (bx1 : -2147483648 ≤ x) (bx2 : x < 2147483648) (by1 : -2147483648 ≤ y) (by2 : y < 2147483648) (I : InvC D t) (hs : SV t) : Cq sc (d + 5) 70 [.ref 0, .int (iI x), .int (iI y)] D G (OKc D [0] (oHoleOf t x y)) := by
  obtain ⟨r0, r1, rw, re, rc, rh, rr, rs0, rs1⟩ := rC I.1
  obtain ⟨h7, vw, ve, vh, vE, vr, vj, vs0, vs1⟩ := id hs.1
  have hv := hs.1
  refine Cq.c (fun _ _ _ => c70) ?_
  unfold oHoleOf
  by_cases hx : 0 ≤ x ∧ 0 ≤ y ∧ y ≤ 4
  · rw [if_pos hx]
    obtain ⟨x, rfl⟩ := arg_nat hx.1
    obtain ⟨y, rfl⟩ := arg_nat hx.2.1
    simp only [← i_nI, Int.toNat_natCast]
    refine Rq.b (fun _ => b70_0) (fun h0 => ?_) (fun h0 => ?_)
    · try simp (disch := omega) only [Int32.le_iff_toInt_le, Int32.lt_iff_toInt_lt, z_eq, z_nI, z_0, z_m1, z_sub, nI_add, nI_mulN, pk_sub, nI_clamp, Nat.reduceAdd, Nat.reduceMul, Nat.reduceSub, Nat.zero_add, Nat.add_zero] at h0
      all_goals (try (exfalso; omega))
      all_goals
        refine Rq.b (fun _ => b70_14) (fun h14 => ?_) (fun h14 => ?_)
        · try simp (disch := omega) only [Int32.le_iff_toInt_le, Int32.lt_iff_toInt_lt, z_eq, z_nI, z_0, z_m1, z_sub, nI_add, nI_mulN, pk_sub, nI_clamp, Nat.reduceAdd, Nat.reduceMul, Nat.reduceSub, Nat.zero_add, Nat.add_zero] at h14
          all_goals (try (exfalso; omega))
          all_goals
            refine Rq.e (b70_23) ?_
            exfalso; omega
        · try simp (disch := omega) only [Int32.le_iff_toInt_le, Int32.lt_iff_toInt_lt, z_eq, z_nI, z_0, z_m1, z_sub, nI_add, nI_mulN, pk_sub, nI_clamp, Nat.reduceAdd, Nat.reduceMul, Nat.reduceSub, Nat.zero_add, Nat.add_zero] at h14
          all_goals (try (exfalso; omega))
          all_goals
            refine Rq.b (fun _ => b70_18) (fun h18 => ?_) (fun h18 => ?_)
            · try simp (disch := omega) only [Int32.le_iff_toInt_le, Int32.lt_iff_toInt_lt, z_eq, z_nI, z_0, z_m1, z_sub, nI_add, nI_mulN, pk_sub, nI_clamp, Nat.reduceAdd, Nat.reduceMul, Nat.reduceSub, Nat.zero_add, Nat.add_zero] at h18
              all_goals (try (exfalso; omega))
              all_goals
                obtain ⟨_, D5, hC5, rfl, k5, L5⟩ := m90 (sc := sc) (d := d + 3) (G := G) I.1 hv
                refine Rq.s (fun _ => b70_33 hC5) ?_
                refine Rq.s (fun _ => b70_37 (by (try simp (disch := omega) only [nI_add, nI_mulN, pk_sub, nI_clamp, Nat.reduceAdd, Nat.reduceMul, Nat.reduceSub, Nat.zero_add, Nat.add_zero]); exact m11 (d := d) L5 (by omega) (by omega))) ?_
                refine Rq.e (b70_42) ?_
                exact OKc.k I rfl (fun a ha => k5 a (by omega) (by omega) (by omega))
            · try simp (disch := omega) only [Int32.le_iff_toInt_le, Int32.lt_iff_toInt_lt, z_eq, z_nI, z_0, z_m1, z_sub, nI_add, nI_mulN, pk_sub, nI_clamp, Nat.reduceAdd, Nat.reduceMul, Nat.reduceSub, Nat.zero_add, Nat.add_zero] at h18
              all_goals (try (exfalso; omega))
              all_goals
                refine Rq.e (b70_23) ?_
                exfalso; omega
    · try simp (disch := omega) only [Int32.le_iff_toInt_le, Int32.lt_iff_toInt_lt, z_eq, z_nI, z_0, z_m1, z_sub, nI_add, nI_mulN, pk_sub, nI_clamp, Nat.reduceAdd, Nat.reduceMul, Nat.reduceSub, Nat.zero_add, Nat.add_zero] at h0
      all_goals (try (exfalso; omega))
      all_goals
        exfalso; omega
  · rw [if_neg hx]
    refine Rq.b (fun _ => b70_0) (fun h0 => ?_) (fun h0 => ?_)
    · try simp (disch := omega) only [Int32.le_iff_toInt_le, Int32.lt_iff_toInt_lt, z_eq, z_nI, z_0, z_m1, z_sub, z_iI, nI_add, nI_mulN, pk_sub, nI_clamp, Nat.reduceAdd, Nat.reduceMul, Nat.reduceSub, Nat.zero_add, Nat.add_zero] at h0
      all_goals (try (exfalso; omega))
      all_goals
        refine Rq.b (fun _ => b70_14) (fun h14 => ?_) (fun h14 => ?_)
        · try simp (disch := omega) only [Int32.le_iff_toInt_le, Int32.lt_iff_toInt_lt, z_eq, z_nI, z_0, z_m1, z_sub, z_iI, nI_add, nI_mulN, pk_sub, nI_clamp, Nat.reduceAdd, Nat.reduceMul, Nat.reduceSub, Nat.zero_add, Nat.add_zero] at h14
          all_goals (try (exfalso; omega))
          all_goals
            refine Rq.e (b70_23) ?_
            exact OKc.x (k := 0) I rfl
        · try simp (disch := omega) only [Int32.le_iff_toInt_le, Int32.lt_iff_toInt_lt, z_eq, z_nI, z_0, z_m1, z_sub, z_iI, nI_add, nI_mulN, pk_sub, nI_clamp, Nat.reduceAdd, Nat.reduceMul, Nat.reduceSub, Nat.zero_add, Nat.add_zero] at h14
          all_goals (try (exfalso; omega))
          all_goals
            refine Rq.b (fun _ => b70_18) (fun h18 => ?_) (fun h18 => ?_)
            · try simp (disch := omega) only [Int32.le_iff_toInt_le, Int32.lt_iff_toInt_lt, z_eq, z_nI, z_0, z_m1, z_sub, z_iI, nI_add, nI_mulN, pk_sub, nI_clamp, Nat.reduceAdd, Nat.reduceMul, Nat.reduceSub, Nat.zero_add, Nat.add_zero] at h18
              all_goals (try (exfalso; omega))
              all_goals
                exfalso; omega
            · try simp (disch := omega) only [Int32.le_iff_toInt_le, Int32.lt_iff_toInt_lt, z_eq, z_nI, z_0, z_m1, z_sub, z_iI, nI_add, nI_mulN, pk_sub, nI_clamp, Nat.reduceAdd, Nat.reduceMul, Nat.reduceSub, Nat.zero_add, Nat.add_zero] at h18
              all_goals (try (exfalso; omega))
              all_goals
                refine Rq.e (b70_23) ?_
                exact OKc.x (k := 0) I rfl
    · try simp (disch := omega) only [Int32.le_iff_toInt_le, Int32.lt_iff_toInt_lt, z_eq, z_nI, z_0, z_m1, z_sub, z_iI, nI_add, nI_mulN, pk_sub, nI_clamp, Nat.reduceAdd, Nat.reduceMul, Nat.reduceSub, Nat.zero_add, Nat.add_zero] at h0
      all_goals (try (exfalso; omega))
      all_goals
        refine Rq.e (b70_4) ?_
        exact OKc.x (k := 0) I rfl
theorem kCount {sc : Nat × (Nat → Int32)} {d : Nat} {D : Nat → Nat → Int32} {G : Nat → Nat → Int64} {t : ST} {x : Int} (bx1 : -2147483648 ≤ x) (bx2 : x < 2147483648) (I : InvC D t) (hs : SV t) : Cq sc (d + 10) 71 [.ref 0, .int (iI x)] D G (OKc D [0] (oCount t x)) := by
  obtain ⟨r0, r1, rw, re, rc, rh, rr, rs0, rs1⟩ := rC I.1
  obtain ⟨h7, vw, ve, vh, vE, vr, vj, vs0, vs1⟩ := id hs.1
  have hv := hs.1
  refine Cq.c (fun _ _ _ => c71) ?_
  unfold oCount
  by_cases hx : 0 ≤ x ∧ x ≤ 9
  · rw [if_pos hx]
    obtain ⟨x, rfl⟩ := arg_nat hx.1
    simp only [← i_nI, Int.toNat_natCast]
    refine Rq.b (fun _ => b71_0) (fun h0 => ?_) (fun h0 => ?_)
    · try simp (disch := omega) only [Int32.le_iff_toInt_le, Int32.lt_iff_toInt_lt, z_eq, z_nI, z_0, z_m1, z_sub, nI_add, nI_mulN, pk_sub, nI_clamp, Nat.reduceAdd, Nat.reduceMul, Nat.reduceSub, Nat.zero_add, Nat.add_zero] at h0
      all_goals (try (exfalso; omega))
      all_goals
        refine Rq.e (b71_10) ?_
        exfalso; omega
    · try simp (disch := omega) only [Int32.le_iff_toInt_le, Int32.lt_iff_toInt_lt, z_eq, z_nI, z_0, z_m1, z_sub, nI_add, nI_mulN, pk_sub, nI_clamp, Nat.reduceAdd, Nat.reduceMul, Nat.reduceSub, Nat.zero_add, Nat.add_zero] at h0
      all_goals (try (exfalso; omega))
      all_goals
        refine Rq.b (fun _ => b71_4) (fun h4 => ?_) (fun h4 => ?_)
        · try simp (disch := omega) only [Int32.le_iff_toInt_le, Int32.lt_iff_toInt_lt, z_eq, z_nI, z_0, z_m1, z_sub, nI_add, nI_mulN, pk_sub, nI_clamp, Nat.reduceAdd, Nat.reduceMul, Nat.reduceSub, Nat.zero_add, Nat.add_zero] at h4
          all_goals (try (exfalso; omega))
          all_goals
            obtain ⟨_, D5, hC5, rfl, k5⟩ := m89 (sc := sc) (d := d) (G := G) (j := x) I hs (by omega)
            refine Rq.s (fun _ => b71_20 hC5) ?_
            refine Rq.e (b71_25) ?_
            exact OKc.k I rfl k5
        · try simp (disch := omega) only [Int32.le_iff_toInt_le, Int32.lt_iff_toInt_lt, z_eq, z_nI, z_0, z_m1, z_sub, nI_add, nI_mulN, pk_sub, nI_clamp, Nat.reduceAdd, Nat.reduceMul, Nat.reduceSub, Nat.zero_add, Nat.add_zero] at h4
          all_goals (try (exfalso; omega))
          all_goals
            refine Rq.e (b71_10) ?_
            exfalso; omega
  · rw [if_neg hx]
    refine Rq.b (fun _ => b71_0) (fun h0 => ?_) (fun h0 => ?_)
    · try simp (disch := omega) only [Int32.le_iff_toInt_le, Int32.lt_iff_toInt_lt, z_eq, z_nI, z_0, z_m1, z_sub, z_iI, nI_add, nI_mulN, pk_sub, nI_clamp, Nat.reduceAdd, Nat.reduceMul, Nat.reduceSub, Nat.zero_add, Nat.add_zero] at h0
      all_goals (try (exfalso; omega))
      all_goals
        refine Rq.e (b71_10) ?_
        exact OKc.x (k := 0) I rfl
    · try simp (disch := omega) only [Int32.le_iff_toInt_le, Int32.lt_iff_toInt_lt, z_eq, z_nI, z_0, z_m1, z_sub, z_iI, nI_add, nI_mulN, pk_sub, nI_clamp, Nat.reduceAdd, Nat.reduceMul, Nat.reduceSub, Nat.zero_add, Nat.add_zero] at h0
      all_goals (try (exfalso; omega))
      all_goals
        refine Rq.b (fun _ => b71_4) (fun h4 => ?_) (fun h4 => ?_)
        · try simp (disch := omega) only [Int32.le_iff_toInt_le, Int32.lt_iff_toInt_lt, z_eq, z_nI, z_0, z_m1, z_sub, z_iI, nI_add, nI_mulN, pk_sub, nI_clamp, Nat.reduceAdd, Nat.reduceMul, Nat.reduceSub, Nat.zero_add, Nat.add_zero] at h4
          all_goals (try (exfalso; omega))
          all_goals
            exfalso; omega
        · try simp (disch := omega) only [Int32.le_iff_toInt_le, Int32.lt_iff_toInt_lt, z_eq, z_nI, z_0, z_m1, z_sub, z_iI, nI_add, nI_mulN, pk_sub, nI_clamp, Nat.reduceAdd, Nat.reduceMul, Nat.reduceSub, Nat.zero_add, Nat.add_zero] at h4
          all_goals (try (exfalso; omega))
          all_goals
            refine Rq.e (b71_10) ?_
            exact OKc.x (k := 0) I rfl
theorem kSetting {sc : Nat × (Nat → Int32)} {d : Nat} {D : Nat → Nat → Int32} {G : Nat → Nat → Int64} {t : ST} {x : Int} (bx1 : -2147483648 ≤ x) (bx2 : x < 2147483648) (I : InvC D t) (hs : SV t) : Cq sc (d + 1) 72 [.ref 0, .int (iI x)] D G (OKc D [2] (oSetting t x)) := by
  obtain ⟨r0, r1, rw, re, rc, rh, rr, rs0, rs1⟩ := rC I.1
  obtain ⟨h7, vw, ve, vh, vE, vr, vj, vs0, vs1⟩ := id hs.1
  have hv := hs.1
  refine Cq.c (fun _ _ _ => c72) ?_
  unfold oSetting
  by_cases hx : 0 ≤ x ∧ x < 2
  · rw [if_pos hx]
    have h82 := m82T (sc := sc) (d := d) (D := D) (G := G) bx1 bx2 hx
    obtain ⟨x, rfl⟩ := arg_nat hx.1
    simp only [← i_nI, Int.toNat_natCast] at h82 ⊢
    refine Rq.s (fun _ => b72_0 h82) ?_
    refine Rq.e (b72_4 (nI_inbT (by omega) (by omega))) ?_
    rw [nI_clamp (by omega), show D 7 x = nI (zs (tV t) x) by rcases (by omega : x = 0 ∨ x = 1) with c | c <;> subst c; exact rs0; exact rs1]
    exact OKc.k I rfl eqK.rf
  · rw [if_neg hx]
    exact Rq.e (b72_0_x (m82F bx1 bx2 hx)) (OKc.x (k := 0) I rfl)
theorem kBestBehind {sc : Nat × (Nat → Int32)} {d : Nat} {D : Nat → Nat → Int32} {G : Nat → Nat → Int64} {t : ST} {p : Int} (bp1 : -2147483648 ≤ p) (bp2 : p < 2147483648) (I : InvC D t) (hs : SV t) : Cq sc (d + 1 + 1) 73 [.ref 0, .int (iI p)] D G (OKc D [2] (oBestBehind t p)) := by
  obtain ⟨r0, r1, rw, re, rc, rh, rr, rs0, rs1⟩ := rC I.1
  obtain ⟨h7, vw, ve, vh, vE, vr, vj, vs0, vs1⟩ := id hs.1
  have hv := hs.1
  refine Cq.c (fun _ _ _ => c73) ?_
  unfold oBestBehind
  by_cases hp : 0 ≤ p ∧ p < (zn (tV t) : Int)
  · rw [if_pos hp]
    have h80 := m80T (sc := sc) (d := d + 1) (G := G) bp1 bp2 r0 (by omega) hp
    obtain ⟨p, rfl⟩ := arg_nat hp.1
    simp only [← i_nI, Int.toNat_natCast] at h80 ⊢
    have hpn : p < zn (tV t) := by omega
    refine Rq.s (fun _ => b73_0 (by (try simp (disch := omega) only [nI_add, nI_mulN, pk_sub, nI_clamp, Nat.reduceAdd, Nat.reduceMul, Nat.reduceSub, Nat.zero_add, Nat.add_zero]); exact h80)) ?_
    refine Rq.s (fun _ => b73_5 (by (try simp (disch := omega) only [nI_add, nI_mulN, pk_sub, nI_clamp, Nat.reduceAdd, Nat.reduceMul, Nat.reduceSub, Nat.zero_add, Nat.add_zero]); exact m48 (d := d) I.1 hv hpn)) ?_
    refine Rq.e (b73_13) ?_
    exact OKc.k I rfl eqK.rf
  · rw [if_neg hp]
    exact Rq.e (b73_0_x (m80F bp1 bp2 r0 (by omega) hp)) (OKc.x (k := 0) I rfl)
theorem kSureness {sc : Nat × (Nat → Int32)} {d : Nat} {D : Nat → Nat → Int32} {G : Nat → Nat → Int64} {t : ST} {p : Int} (bp1 : -2147483648 ≤ p) (bp2 : p < 2147483648) (I : InvC D t) (hs : SV t) : Cq sc (d + 2 + 1) 74 [.ref 0, .int (iI p)] D G (OKc D [2] (oSureness t p)) := by
  obtain ⟨r0, r1, rw, re, rc, rh, rr, rs0, rs1⟩ := rC I.1
  obtain ⟨h7, vw, ve, vh, vE, vr, vj, vs0, vs1⟩ := id hs.1
  have hv := hs.1
  refine Cq.c (fun _ _ _ => c74) ?_
  unfold oSureness
  by_cases hp : 0 ≤ p ∧ p < (zn (tV t) : Int)
  · rw [if_pos hp]
    have h80 := m80T (sc := sc) (d := d + 2) (G := G) bp1 bp2 r0 (by omega) hp
    obtain ⟨p, rfl⟩ := arg_nat hp.1
    simp only [← i_nI, Int.toNat_natCast] at h80 ⊢
    have hpn : p < zn (tV t) := by omega
    refine Rq.s (fun _ => b74_0 (by (try simp (disch := omega) only [nI_add, nI_mulN, pk_sub, nI_clamp, Nat.reduceAdd, Nat.reduceMul, Nat.reduceSub, Nat.zero_add, Nat.add_zero]); exact h80)) ?_
    refine Rq.s (fun _ => b74_5 (by (try simp (disch := omega) only [nI_add, nI_mulN, pk_sub, nI_clamp, Nat.reduceAdd, Nat.reduceMul, Nat.reduceSub, Nat.zero_add, Nat.add_zero]); exact m49 (d := d) I.1 hv hpn)) ?_
    refine Rq.e (b74_13) ?_
    exact OKc.k I rfl eqK.rf
  · rw [if_neg hp]
    exact Rq.e (b74_0_x (m80F bp1 bp2 r0 (by omega) hp)) (OKc.x (k := 0) I rfl)
theorem kBestPlace {sc : Nat × (Nat → Int32)} {d : Nat} {D : Nat → Nat → Int32} {G : Nat → Nat → Int64} {t : ST} {p : Int} (bp1 : -2147483648 ≤ p) (bp2 : p < 2147483648) (I : InvC D t) (hs : SV t) : Cq sc (d + 2 + 1) 75 [.ref 0, .int (iI p)] D G (OKc D [2] (oBestPlace t p)) := by
  obtain ⟨r0, r1, rw, re, rc, rh, rr, rs0, rs1⟩ := rC I.1
  obtain ⟨h7, vw, ve, vh, vE, vr, vj, vs0, vs1⟩ := id hs.1
  have hv := hs.1
  refine Cq.c (fun _ _ _ => c75) ?_
  unfold oBestPlace
  by_cases hp : 0 ≤ p ∧ p < (zn (tV t) : Int)
  · rw [if_pos hp]
    have h80 := m80T (sc := sc) (d := d + 2) (G := G) bp1 bp2 r0 (by omega) hp
    obtain ⟨p, rfl⟩ := arg_nat hp.1
    simp only [← i_nI, Int.toNat_natCast] at h80 ⊢
    have hpn : p < zn (tV t) := by omega
    refine Rq.s (fun _ => b75_0 (by (try simp (disch := omega) only [nI_add, nI_mulN, pk_sub, nI_clamp, Nat.reduceAdd, Nat.reduceMul, Nat.reduceSub, Nat.zero_add, Nat.add_zero]); exact h80)) ?_
    obtain ⟨_, D5, hC5, rfl, k5⟩ := m91 (sc := sc) (d := d) (G := G) (p := p) I.1 hv hpn
    refine Rq.s (fun _ => b75_5 hC5) ?_
    refine Rq.e (b75_10) ?_
    exact OKc.k I rfl k5
  · rw [if_neg hp]
    exact Rq.e (b75_0_x (m80F bp1 bp2 r0 (by omega) hp)) (OKc.x (k := 0) I rfl)
theorem kIfOrdered {sc : Nat × (Nat → Int32)} {d : Nat} {D : Nat → Nat → Int32} {G : Nat → Nat → Int64} {t : ST} (I : InvC D t) (hs : SV t) : Cq sc (d + 5) 76 [.ref 0] D G (OKc D [] (oIfOrdered t)) := by
  refine Cq.c (fun _ _ _ => c76) ?_
  obtain ⟨_, D5, hC5, rfl, k5⟩ := m92 (sc := sc) (d := d) (G := G) I.1 hs.1
  refine Rq.s (fun _ => b76_0 hC5) ?_
  refine Rq.e (b76_4) ?_
  exact OKc.k I rfl k5
theorem kFirstError {sc : Nat × (Nat → Int32)} {d : Nat} {D : Nat → Nat → Int32} {G : Nat → Nat → Int64} {t : ST} (I : InvC D t) (hs : SV t) : Cq sc (d + 6) 61 [.ref 0] D G (OKc D [] (oFirstError t)) := by
  refine Cq.c (fun _ _ _ => c61) ?_
  obtain ⟨_, D5, hC5, rfl, k5, _⟩ := m86 (sc := sc) (d := d) (G := G) I.2.2.2
  refine Rq.s (fun _ => b61_0 hC5) ?_
  refine Rq.e (b61_4) ?_
  exact OKc.k I rfl (fun a ha => k5 a (by omega) (by omega) (by omega))
theorem kMeanShrink {sc : Nat × (Nat → Int32)} {d : Nat} {D : Nat → Nat → Int32} {G : Nat → Nat → Int64} {t : ST} (I : InvC D t) (hs : SV t) : Cq sc (d + 2) 77 [.ref 0] D G (fun r D2 => r = .inl (some (.float (zSh (tV t)))) ∧ eqK D D2) := by
  obtain ⟨r0, r1, rw, re, rc, rh, rr, rs0, rs1⟩ := rC I.1
  obtain ⟨h7, vw, ve, vh, vE, vr, vj, vs0, vs1⟩ := id hs.1
  have hv := hs.1
  refine Cq.c (fun _ _ _ => c77) ?_
  obtain ⟨_, D5, hC5, rfl, k5, L5⟩ := m90 (sc := sc) (d := d) (G := G) I.1 hv
  refine Rq.s (fun _ => b77_0 hC5) ?_
  refine Rq.s (fun _ => b77_4 (by (try simp (disch := omega) only [nI_add, nI_mulN, pk_sub, nI_clamp, Nat.reduceAdd, Nat.reduceMul, Nat.reduceSub, Nat.zero_add, Nat.add_zero]); exact m18 (d := d) L5)) ?_
  refine Rq.e (b77_7) ?_
  exact ⟨rfl, fun a ha => k5 a (by omega) (by omega) (by omega)⟩
theorem kMeanCost {sc : Nat × (Nat → Int32)} {d : Nat} {D : Nat → Nat → Int32} {G : Nat → Nat → Int64} {t : ST} (I : InvC D t) (hs : SV t) : Cl sc (d + 3) 78 [.ref 0] (hx_S0, D, G) (.inl (some (.double (zMc (tV t))))) (hx_S0, D, G) := by
  refine Cq.pv ?_
  refine Cq.c (fun _ _ _ => c78) ?_
  refine Rq.s (fun _ => b78_0 (by (try simp (disch := omega) only [nI_add, nI_mulN, pk_sub, nI_clamp, Nat.reduceAdd, Nat.reduceMul, Nat.reduceSub, Nat.zero_add, Nat.add_zero]); exact m93 (d := d) I.1 hs.1)) ?_
  refine Rq.e (b78_4) ?_
  exact ⟨rfl, rfl⟩
