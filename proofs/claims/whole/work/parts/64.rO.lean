/-! ===== the reference: a piece, the whole text, load ===== -/
theorem m145 {sc : Nat × (Nat → Int32)} {d : Nat} {D : Nat → Nat → Int32} {G : Nat → Nat → Int64} {len : Nat} {b : Nat → Nat} {k : Nat} (B : BM D len b) (h : PS D len b k) : Cq sc (d + 4) 145 [.ref 79] D G (fun r D2 => r = .inl none ∧ eqP D D2 ∧ PEnd D2 len b k) := by
  refine Cq.c (fun _ _ _ => c145) ?_
  obtain ⟨_, D1, hC1, e1, z1, rfl, h1⟩ := mwid (sc := sc) (d := d + 1) (G := G) B h
  have I1 : eqP D (hx_up D1 88 0 z1) := e1.u88
  refine Rq.s (fun _ => b145_0 hC1) ?_
  obtain ⟨_, D2, hC2, ⟨z2, rfl⟩, e2, h2⟩ := m91s (sc := sc) (d := d + 1) (G := G) (I1.B B) h1
  have I2 := I1.tr e2
  refine Rq.s (fun _ => b145_12 (nI_inbT (by omega) (by omega)) (by rw [nI_clamp (by omega)]; exact hC2)) ?_
  obtain ⟨_, D3, hC3, rfl, e3, h3⟩ := m143 (sc := sc) (d := d) (G := G) (n := 0) (I2.B B) (Or.inl rfl) (fun z => by cases z) h2
  have I3 := I2.tr e3
  refine Rq.s (fun _ => b145_21 hC3) ?_
  obtain ⟨_, D4, hC4, ⟨z4, rfl⟩, e4, h4⟩ := m124s (sc := sc) (d := d + 1) (G := G) (I3.B B) h3
  have I4 := I3.tr e4
  refine Rq.s (fun _ => b145_27 hC4) ?_
  obtain ⟨_, D5, hC5, rfl, e5, h5⟩ := m143 (sc := sc) (d := d) (G := G) (n := 5) (I4.B B) (Or.inr rfl) (fun _ => rfl) h4
  have I5 := I4.tr e5
  refine Rq.s (fun _ => b145_35 hC5) ?_
  obtain ⟨_, D6, hC6, ⟨z6, rfl⟩, e6, h6⟩ := m93s (sc := sc) (d := d + 1) (G := G) (I5.B B) h5
  have I6 := I5.tr e6
  refine Rq.s (fun _ => b145_42 hC6) ?_
  obtain ⟨_, D7, hC7, rfl, e7, h7⟩ := m144 (sc := sc) (d := d) (G := G) (I6.B B) h6
  refine Rq.s (fun _ => b145_50 hC7) ?_
  exact Rq.e b145_55 ⟨rfl, I6.tr e7, h7⟩
theorem zpcs_le (b : Nat → Nat) : ∀ k, (zpcs b k).length ≤ k
  | 0 => Nat.le_refl _
  | k + 1 => by
    have ih := zpcs_le b k
    by_cases c : b k = 59
    · cases e : aSt b k with
      | some q => rw [zpcs_e c e, List.length_append, List.length_singleton]; omega
      | none => rw [zpcs, if_pos c, e]; show (zpcs b k).length ≤ k + 1; omega
    · rw [zpcs_n c]; omega
theorem qb_le {b : Nat → Nat} {s : Nat} {q : RS} (h : aSt b s = some q) : qb q ≤ s + 1 := by
  have h1 := zpcs_len s q h
  have h2 := zpcs_le b s
  omega
theorem aT_whole59 {q : RS} (HQ : Qok q) (h : qwhole q = true) : aT q 59 = some (qB (qb q + 1) (qd q)) := by
  have e : qbegin (qclose q) = qB (qb q + 1) (qd q) := by
    unfold qbegin
    rw [qclose_b, qclose_e]
    rfl
  rw [← e]
  rcases qclose_p h with h2 | h2
  · unfold aT
    rw [if_neg (by omega), if_neg (by omega), if_pos h2]
    unfold aN
    rw [if_pos rfl]
    unfold qclose
    rw [if_neg (by omega)]
  · unfold aT
    rw [if_neg (by omega), if_neg (by omega), if_neg (by omega)]
    unfold aP
    rw [zdg59, if_pos rfl, if_pos h2.2]
    unfold aN
    rw [if_pos rfl]
/-- takes the ';' -/
theorem m59s {sc : Nat × (Nat → Int32)} {d : Nat} {D : Nat → Nat → Int32} {G : Nat → Nat → Int64} {len : Nat} {b : Nat → Nat} {k s : Nat} {q : RS} (B : BM D len b) (hs : s ≤ len) (hF : PF D s) (ha : aSt b s = some q) (hk : qb q = k) (hw : qwhole q = true) (hl : s < len) (hx : b s ≠ 59 → aT q (b s) = none) : Cq sc (d + 2) 140 [.ref 79, .int (nI 59), .int (nI 59)] D G (fun r D2 => (∃ z, r = .inl (some (.int z))) ∧ eqP D D2 ∧ ((b s = 59 ∧ D2 79 14 = nI 0 ∧ PF D2 (s + 1) ∧ aSt b (s + 1) = some (qB (k + 1) (qd q))) ∨ (b s ≠ 59 ∧ D2 79 14 = nI 1 ∧ PB D2 len b))) := by
  by_cases c : b s = 59
  · obtain ⟨r, D2, hC, rfl, rfl⟩ := m140T (sc := sc) (d := d) (G := G) (lo := 59) (hi := 59) B hF hl (by omega) (by omega) (by omega)
    exact ⟨_, _, hC, ⟨_, rfl⟩, (eqP.rf.u79 (Or.inl rfl)).u79 (Or.inr rfl), Or.inl ⟨c, hx_up_s _ _ _ _, PF_up, by rw [aSt_s ha, c, aT_whole59 (aSt_ok s q ha) hw, hk]⟩⟩
  · obtain ⟨r, D2, hC, rfl, rfl⟩ := m140N (sc := sc) (d := d) (G := G) (lo := 59) (hi := 59) B hF hs (by omega) (by omega) (by omega)
    exact ⟨_, _, hC, ⟨_, rfl⟩, (eqP.rf.u79 (Or.inl rfl)).u79 (Or.inr rfl), Or.inr ⟨c, hx_up_s _ _ _ _, PB_up hs (Or.inl ⟨hl, q, ha, hx c⟩)⟩⟩
/-- what holds when all has been read -/
def PAll (D : Nat → Nat → Int32) (len : Nat) (b : Nat → Nat) (m : Nat) : Prop := (∃ q, aSt b len = some q ∧ qwhole q = true ∧ qb q = m ∧ PF D len) ∨ PB D len b
theorem m146 {sc : Nat × (Nat → Int32)} {d : Nat} {D : Nat → Nat → Int32} {G : Nat → Nat → Int64} {len : Nat} {b : Nat → Nat} (B : BM D len b) : Cq sc (d + 5) 146 [.ref 79, .int (nI 0)] D G (fun r D2 => eqP D D2 ∧ ∃ m, r = .inl (some (.int (nI m))) ∧ m ≤ 62 ∧ PAll D2 len b m) := by
  have b1 := B.2.1
  have E : ∀ m D3, m ≤ 62 → eqP D D3 → PAll D3 len b m → Rq sc (d + 5) 146 (14, [some (.ref 79), some (.int (nI 0)), some (.int (nI m)), some (.int (nI 0)), none, none], [], (hx_S0, D3, G), 0) G (fun r D2 => eqP D D2 ∧ ∃ m, r = .inl (some (.int (nI m))) ∧ m ≤ 62 ∧ PAll D2 len b m) := by
    intro m D3 hm hI hP
    refine Rq.bt (fun _ => b146_14) (rfl) ?_
    refine Rq.e (b146_130) ?_
    exact ⟨hI, m, rfl, hm, hP⟩
  have L : ∀ n m D3, 62 - m = n → m ≤ 61 → eqP D D3 → PS D3 len b (m + 1) → Rq sc (d + 5) 146 (14, [some (.ref 79), some (.int (nI 0)), some (.int (nI m)), some (.int (nI 1)), none, none], [], (hx_S0, D3, G), 0) G (fun r D2 => eqP D D2 ∧ ∃ m, r = .inl (some (.int (nI m))) ∧ m ≤ 62 ∧ PAll D2 len b m) := by
    intro n
    induction n using Nat.strongRecOn with
    | _ n ih =>
    intro m D3 hn hm hI hP
    obtain ⟨_, D5, hC5, rfl, e5, h5⟩ := m145 (sc := sc) (d := d) (G := G) (hI.B B) hP
    have I5 := hI.tr e5
    have B5 := I5.B B
    have s8 := B5.1
    rcases h5 with ⟨s, q, hs, hF, ha, hk, hw, hD, hx⟩ | hB
    · have p0 := hF.1
      have p1 := hF.2
      by_cases hl : s < len
      · obtain ⟨_, D6, hC6, ⟨z6, rfl⟩, e6, h6⟩ := m59s (sc := sc) (d := d + 2) (G := G) B5 hs hF ha hk hw hl (hx hl)
        have I6 := I5.tr e6
        have hq2 := qb_le ha
        rcases h6 with ⟨g1, g2, g3, g4⟩ | ⟨g1, g2, g3⟩
        · skip
          refine Rq.bf (fun _ => b146_14) (by decide) ?_
          refine Rq.s (fun _ => b146_18 (by (try simp (disch := omega) only [nI_add, nI_mulN, pk_sub, nI_clamp, Nat.reduceAdd, Nat.reduceMul, Nat.reduceSub, Nat.zero_add, Nat.add_zero, p0, s8]); exact hC5)) ?_
          refine Rq.bt (fun _ => b146_22) (rfl) ?_
          try simp (disch := omega) only [nI_add, nI_mulN, pk_sub, nI_clamp, Nat.reduceAdd, Nat.reduceMul, Nat.reduceSub, Nat.zero_add, Nat.add_zero, p0, s8]
          refine Rq.bf (fun _ => b146_76) (by rw [p1]; exact fun z => z rfl) ?_
          refine Rq.bf (fun _ => b146_83) (by rw [p0, s8]; simp (disch := omega) only [Int32.le_iff_toInt_le, z_nI]; omega) ?_
          refine Rq.s (fun _ => b146_94) ?_
          try simp (disch := omega) only [nI_add, nI_mulN, pk_sub, nI_clamp, Nat.reduceAdd, Nat.reduceMul, Nat.reduceSub, Nat.zero_add, Nat.add_zero, p0, s8]
          refine Rq.bf (fun _ => b146_99) (by decide) ?_
          refine Rq.s (fun _ => b146_104 (by (try simp (disch := omega) only [nI_add, nI_mulN, pk_sub, nI_clamp, Nat.reduceAdd, Nat.reduceMul, Nat.reduceSub, Nat.zero_add, Nat.add_zero, p0, s8]); exact hC6)) ?_
          refine Rq.bf (fun _ => b146_112) (by rw [g2]; exact fun z => z rfl) ?_
          refine Rq.s (fun _ => b146_121) ?_
          try simp (disch := omega) only [nI_add, nI_mulN, pk_sub, nI_clamp, Nat.reduceAdd, Nat.reduceMul, Nat.reduceSub, Nat.zero_add, Nat.add_zero, p0, s8]
          refine Rq.s (fun _ => b146_126) ?_
          exact ih _ (by omega) (m + 1) D6 rfl (by omega) I6 (Or.inl ⟨s + 1, _, by omega, g3, g4⟩)
        · skip
          refine Rq.bf (fun _ => b146_14) (by decide) ?_
          refine Rq.s (fun _ => b146_18 (by (try simp (disch := omega) only [nI_add, nI_mulN, pk_sub, nI_clamp, Nat.reduceAdd, Nat.reduceMul, Nat.reduceSub, Nat.zero_add, Nat.add_zero, p0, s8]); exact hC5)) ?_
          refine Rq.bt (fun _ => b146_22) (rfl) ?_
          try simp (disch := omega) only [nI_add, nI_mulN, pk_sub, nI_clamp, Nat.reduceAdd, Nat.reduceMul, Nat.reduceSub, Nat.zero_add, Nat.add_zero, p0, s8]
          refine Rq.bf (fun _ => b146_76) (by rw [p1]; exact fun z => z rfl) ?_
          refine Rq.bf (fun _ => b146_83) (by rw [p0, s8]; simp (disch := omega) only [Int32.le_iff_toInt_le, z_nI]; omega) ?_
          refine Rq.s (fun _ => b146_94) ?_
          try simp (disch := omega) only [nI_add, nI_mulN, pk_sub, nI_clamp, Nat.reduceAdd, Nat.reduceMul, Nat.reduceSub, Nat.zero_add, Nat.add_zero, p0, s8]
          refine Rq.bf (fun _ => b146_99) (by decide) ?_
          refine Rq.s (fun _ => b146_104 (by (try simp (disch := omega) only [nI_add, nI_mulN, pk_sub, nI_clamp, Nat.reduceAdd, Nat.reduceMul, Nat.reduceSub, Nat.zero_add, Nat.add_zero, p0, s8]); exact hC6)) ?_
          refine Rq.bt (fun _ => b146_112) (by rw [g2]; decide) ?_
          refine Rq.s (fun _ => b146_125) ?_
          try simp (disch := omega) only [nI_add, nI_mulN, pk_sub, nI_clamp, Nat.reduceAdd, Nat.reduceMul, Nat.reduceSub, Nat.zero_add, Nat.add_zero, p0, s8]
          refine Rq.s (fun _ => b146_126) ?_
          exact E (m + 1) D6 (by omega) I6 (Or.inr g3)
      · skip
        refine Rq.bf (fun _ => b146_14) (by decide) ?_
        refine Rq.s (fun _ => b146_18 (by (try simp (disch := omega) only [nI_add, nI_mulN, pk_sub, nI_clamp, Nat.reduceAdd, Nat.reduceMul, Nat.reduceSub, Nat.zero_add, Nat.add_zero, p0, s8]); exact hC5)) ?_
        refine Rq.bt (fun _ => b146_22) (rfl) ?_
        try simp (disch := omega) only [nI_add, nI_mulN, pk_sub, nI_clamp, Nat.reduceAdd, Nat.reduceMul, Nat.reduceSub, Nat.zero_add, Nat.add_zero, p0, s8]
        refine Rq.bf (fun _ => b146_76) (by rw [p1]; exact fun z => z rfl) ?_
        refine Rq.bt (fun _ => b146_83) (by rw [p0, s8]; simp (disch := omega) only [Int32.le_iff_toInt_le, z_nI]; omega) ?_
        refine Rq.s (fun _ => b146_98) ?_
        try simp (disch := omega) only [nI_add, nI_mulN, pk_sub, nI_clamp, Nat.reduceAdd, Nat.reduceMul, Nat.reduceSub, Nat.zero_add, Nat.add_zero, p0, s8]
        refine Rq.bt (fun _ => b146_99) (rfl) ?_
        exact E (m + 1) D5 (by omega) I5 (Or.inl ⟨q, by rw [show len = s by omega]; exact ha, hw, hk, by rw [show len = s by omega]; exact hF⟩)
    · have hB2 := hB
      obtain ⟨e, he, hBe, p0, p1⟩ := hB
      refine Rq.bf (fun _ => b146_14) (by decide) ?_
      refine Rq.s (fun _ => b146_18 (by (try simp (disch := omega) only [nI_add, nI_mulN, pk_sub, nI_clamp, Nat.reduceAdd, Nat.reduceMul, Nat.reduceSub, Nat.zero_add, Nat.add_zero]); exact hC5)) ?_
      refine Rq.bt (fun _ => b146_22) (rfl) ?_
      try simp (disch := omega) only [nI_add, nI_mulN, pk_sub, nI_clamp, Nat.reduceAdd, Nat.reduceMul, Nat.reduceSub, Nat.zero_add, Nat.add_zero]
      refine Rq.bt (fun _ => b146_76) (by rw [p1]; decide) ?_
      refine Rq.s (fun _ => b146_98) ?_
      try simp (disch := omega) only [nI_add, nI_mulN, pk_sub, nI_clamp, Nat.reduceAdd, Nat.reduceMul, Nat.reduceSub, Nat.zero_add, Nat.add_zero]
      refine Rq.bt (fun _ => b146_99) (rfl) ?_
      exact E (m + 1) D5 (by omega) I5 (Or.inr hB2)
  refine Cq.c (fun _ _ _ => c146) ?_
  refine Rq.s (fun _ => b146_0) ?_
  try simp (disch := omega) only [nI_add, nI_mulN, pk_sub, nI_clamp, Nat.reduceAdd, Nat.reduceMul, Nat.reduceSub, Nat.zero_add, Nat.add_zero]
  exact L _ 0 _ rfl (by omega) ((eqP.rf.u79 (Or.inl rfl)).u79 (Or.inr rfl)) (Or.inl ⟨0, fun _ => 0, by omega, PF_up, rfl⟩)
theorem Bad_zfe {b : Nat → Nat} {len e : Nat} (h : Bad b len e) : zfe b len 0 = e := by
  rcases h with ⟨h1, q, h2, h3⟩ | ⟨rfl, q, h2, h3⟩
  · exact zfe_at h1 h2 h3
  · exact zfe_end h2
theorem Bad_no {b : Nat → Nat} {len e : Nat} {q : RS} (h : Bad b len e) (ha : aSt b len = some q) : qwhole q = false := by
  rcases h with ⟨h1, q1, h2, h3⟩ | ⟨rfl, q1, h2, h3⟩
  · have h4 : aSt b (e + 1) = none := by rw [aSt_s h2]; exact h3
    have := aSt_none h4 (len - (e + 1))
    rw [show e + 1 + (len - (e + 1)) = len by omega, ha] at this
    cases this
  · rw [h2] at ha
    cases ha
    exact h3
theorem InvM_B {D : Nat → Nat → Int32} {t : ST} (hs : SV t) (I : InvM D t) : BM D (tn t) (tb t) := ⟨I.2.2.2.2.2.1, hs.2.2.2.2.1, I.2.2.2.2.2.2, fun i hi => by have := hs.2.2.2.2.2 i hi; omega⟩
theorem InvM_p {D D2 : Nat → Nat → Int32} {t : ST} (hs : SV t) (I : InvM D t) (e : eqP D D2) : InvM D2 t := InvM_w hs I (fun a ha => e.1 a (by omega) (by omega)) (fun i _ => by rw [e.1 80 (by omega) (by omega)]) (fun j hj => e.2 j (by omega) (by omega))
theorem rFirstError {sc : Nat × (Nat → Int32)} {d : Nat} {D : Nat → Nat → Int32} {G : Nat → Nat → Int64} {t : ST} (I : InvM D t) (hs : SV t) : Cq sc (d + 6) 147 [.ref 79] D G (OKm D (oFirstError t)) := by
  have I1 := InvM_t (x := nI 0) hs I
  obtain ⟨_, D5, hC5, e5, m, rfl, hm, h5⟩ := m146 (sc := sc) (d := d) (G := G) (InvM_B hs I1)
  have I5 := InvM_p hs I1 e5
  have s8 := I5.2.2.2.2.2.1
  have h0 : D5 79 0 = nI 0 := by rw [e5.2 0 (by omega) (by omega)]; exact hx_up_s _ _ _ _
  have hC : eqC D D5 := fun a ha => by rw [e5.1 a (by omega) (by omega), hx_up_ne (by omega)]
  rcases h5 with ⟨q, ha, hw, hk, p0, p1⟩ | ⟨e, he, hBe, p0, p1⟩
  · have hz := zfe_end ha
    refine Cq.c (fun _ _ _ => c147) ?_
    refine Rq.s (fun _ => b147_0 (by (try simp (disch := omega) only [nI_add, nI_mulN, pk_sub, nI_clamp, Nat.reduceAdd, Nat.reduceMul, Nat.reduceSub, Nat.zero_add, Nat.add_zero]); exact hC5)) ?_
    refine Rq.bt (fun _ => b147_10) (by rw [p1]; rfl) ?_
    refine Rq.s (fun _ => b147_25) ?_
    try simp (disch := omega) only [nI_add, nI_mulN, pk_sub, nI_clamp, Nat.reduceAdd, Nat.reduceMul, Nat.reduceSub, Nat.zero_add, Nat.add_zero]
    refine Rq.e (b147_29) ?_
    rw [s8, ← hz]
    exact OKm.v rfl h0 I5 hC
  · have hz := Bad_zfe hBe
    refine Cq.c (fun _ _ _ => c147) ?_
    refine Rq.s (fun _ => b147_0 (by (try simp (disch := omega) only [nI_add, nI_mulN, pk_sub, nI_clamp, Nat.reduceAdd, Nat.reduceMul, Nat.reduceSub, Nat.zero_add, Nat.add_zero]); exact hC5)) ?_
    refine Rq.bf (fun _ => b147_10) (by rw [p1]; decide) ?_
    refine Rq.s (fun _ => b147_18) ?_
    try simp (disch := omega) only [nI_add, nI_mulN, pk_sub, nI_clamp, Nat.reduceAdd, Nat.reduceMul, Nat.reduceSub, Nat.zero_add, Nat.add_zero]
    refine Rq.e (b147_29b) ?_
    rw [p0, ← hz]
    exact OKm.v rfl h0 I5 hC
theorem zpcs_pre (b : Nat → Nat) (i : Nat) : ∀ k, ∃ r, zpcs b (i + k) = zpcs b i ++ r
  | 0 => ⟨[], (List.append_nil _).symm⟩
  | k + 1 => by
    obtain ⟨r, h⟩ := zpcs_pre b i k
    show ∃ r, zpcs b (i + k + 1) = _
    by_cases c : b (i + k) = 59
    · cases e : aSt b (i + k) with
      | some q => exact ⟨r ++ [qclose q], by rw [zpcs_e c e, h, List.append_assoc]⟩
      | none => exact ⟨r, by rw [zpcs, if_pos c, e]; exact h⟩
    · exact ⟨r, by rw [zpcs_n c]; exact h⟩
theorem zpcs_take {b : Nat → Nat} {i n m : Nat} {q : RS} (hi : i ≤ n) (h : aSt b i = some q) (hq : qb q = m + 1) : zpcs b i = (zpcs b n).take m := by
  obtain ⟨r, h1⟩ := zpcs_pre b i (n - i)
  rw [show i + (n - i) = n by omega] at h1
  have h2 := zpcs_len i q h
  rw [h1, List.take_left' (by omega)]
theorem RepM_pc {D D6 D7 : Nat → Nat → Int32} {V : ZV} {q : RS} (hv : Valid V) (hn : zn V < 7) (R : RepM D6 80 0 (opAdd V (qw q))) (hD : RD D q) (h1 : ∀ j, j < 13 → D7 80 (13 * zn V + j) = D 88 j) (h2 : ∀ j, j < 13 * zn V ∨ 13 * zn V + 13 ≤ j → D7 80 j = D6 80 j) : RepM D7 80 0 (opPc V (qclose q)) := by
  obtain ⟨r98, r99, rw, re, rh, rr, r0, r1⟩ := rM R
  obtain ⟨d0, d1, d2⟩ := hD
  refine RepM_i (by rw [h2 98 (by omega)]; exact r98) (by rw [h2 99 (by omega)]; exact r99) (fun p hp => ?_) (fun p j hp hj => ?_) (fun p hp => ?_) (fun i hi => by have hi2 : i < zn V + 1 := hi; rw [h2 (91 + i) (by omega)]; exact rr i hi) (by rw [h2 100 (by omega)]; exact r0) (by rw [h2 101 (by omega)]; exact r1)
  · have hp2 : p < zn V + 1 := hp
    show _ = nI (gup (zw V) (zn V) (qw (qclose q)) p)
    rw [qclose_w]
    by_cases c : p = zn V
    · rw [c, gup_s]
      exact (h1 0 (by omega)).trans d0
    · rw [h2 _ (by omega)]
      exact rw p hp
  · have hp2 : p < zn V + 1 := hp
    show _ = nI (gup (ze V) (zn V) (qd (qclose q)) p j)
    rw [qclose_e]
    by_cases c : p = zn V
    · rw [c, gup_s, Nat.add_comm j 1]
      exact (h1 (1 + j) (by omega)).trans (d1 j hj)
    · rw [gup_n _ _ c, h2 _ (by omega)]
      have := re p j hp hj
      have e2 : ze (opAdd V (qw q)) p = ze V p := gup_n _ _ c
      rw [e2] at this
      exact this
  · have hp2 : p < zn V + 1 := hp
    show _ = nI (zB (gup (zh V) (zn V) (zH (qh (qclose q))) p) 30) ∧ _ = nI (zB (fun x => gup (zh V) (zn V) (zH (qh (qclose q))) p (x + 30)) 30)
    by_cases c : p = zn V
    · rw [c, gup_s]
      exact ⟨(h1 11 (by omega)).trans (d2 0 (by omega)), (h1 12 (by omega)).trans (d2 1 (by omega))⟩
    · rw [gup_n _ _ c, h2 _ (by omega), h2 _ (by omega)]
      have := rh p hp
      have e2 : zh (opAdd V (qw q)) p = zh V p := gup_n _ _ c
      rw [e2] at this
      exact this
def eqA (D D2 : Nat → Nat → Int32) : Prop := (∀ a, a ≠ 79 → a ≠ 80 → a ≠ 88 → D2 a = D a) ∧ ∀ j, j ≠ 13 → j ≠ 14 → D2 79 j = D 79 j
theorem eqA.p {D D2 D3 : Nat → Nat → Int32} (h : eqA D D2) (h2 : eqP D2 D3) : eqA D D3 := ⟨fun a a1 a2 a3 => by rw [h2.1 a a1 a3]; exact h.1 a a1 a2 a3, fun j j1 j2 => by rw [h2.2 j j1 j2]; exact h.2 j j1 j2⟩
theorem eqA.n {D D2 D3 : Nat → Nat → Int32} (h : eqA D D2) (h2 : ∀ a, a ≠ 80 → D3 a = D2 a) : eqA D D3 := ⟨fun a a1 a2 a3 => by rw [h2 a a2]; exact h.1 a a1 a2 a3, fun j j1 j2 => by rw [h2 79 (by omega)]; exact h.2 j j1 j2⟩
theorem eqA.B {D D2 : Nat → Nat → Int32} {len : Nat} {b : Nat → Nat} (h : eqA D D2) (B : BM D len b) : BM D2 len b := ⟨by rw [h.2 8 (by omega) (by omega)]; exact B.1, B.2.1, fun i hi => by rw [h.1 84 (by omega) (by omega) (by omega)]; exact B.2.2.1 i hi, B.2.2.2⟩
theorem m146A {sc : Nat × (Nat → Int32)} {d : Nat} {D : Nat → Nat → Int32} {G : Nat → Nat → Int64} {len : Nat} {b : Nat → Nat} {V : ZV} {qf : RS} (B : BM D len b) (R : RepM D 80 0 V) (hv : Valid V) (hf : aSt b len = some qf) (hw : qwhole qf = true) (hn : zn V + qb qf ≤ 7) : Cq sc (d + 5) 146 [.ref 79, .int (nI 1)] D G (fun r D2 => (∃ z, r = .inl (some (.int z))) ∧ eqA D D2 ∧ RepM D2 80 0 (opLoad V b len qf)) := by
  have b1 := B.2.1
  have hlen := zpcs_len len qf hf
  have E : ∀ m D3, eqA D D3 → RepM D3 80 0 (opLoad V b len qf) → Rq sc (d + 5) 146 (14, [some (.ref 79), some (.int (nI 1)), some (.int (nI m)), some (.int (nI 0)), none, none], [], (hx_S0, D3, G), 0) G (fun r D2 => (∃ z, r = .inl (some (.int z))) ∧ eqA D D2 ∧ RepM D2 80 0 (opLoad V b len qf)) := by
    intro m D3 hI hP
    refine Rq.bt (fun _ => b146_14) (rfl) ?_
    refine Rq.e (b146_130) ?_
    exact ⟨⟨_, rfl⟩, hI, hP⟩
  have L : ∀ n m s dd D3, 62 - m = n → m ≤ 61 → eqA D D3 → s ≤ len → PF D3 s → aSt b s = some (qB (m + 1) dd) → RepM D3 80 0 (((zpcs b len).take m).foldl opPc V) → Rq sc (d + 5) 146 (14, [some (.ref 79), some (.int (nI 1)), some (.int (nI m)), some (.int (nI 1)), none, none], [], (hx_S0, D3, G), 0) G (fun r D2 => (∃ z, r = .inl (some (.int z))) ∧ eqA D D2 ∧ RepM D2 80 0 (opLoad V b len qf)) := by
    intro n
    induction n using Nat.strongRecOn with
    | _ n ih =>
    intro m s0 dd D3 hm0 hm hI hs0 hF0 ha0 hR
    obtain ⟨_, D5, hC5, rfl, e5, h5⟩ := m145 (sc := sc) (d := d) (G := G) (hI.B B) (Or.inl ⟨s0, dd, hs0, hF0, ha0⟩)
    have I5 := hI.p e5
    rcases h5 with ⟨s, q, hs, hF, ha, hk, hwq, hD, hx⟩ | ⟨e, he, hBe, p0, p1⟩
    · have hzt := zpcs_take hs ha hk
      have hml := zpcs_mono b s (len - s)
      rw [show s + (len - s) = len by omega] at hml
      have hzl := zpcs_len s q ha
      have hok : ∀ r, r ∈ (zpcs b len).take m → PcOK r := fun r hr => zpcs_ok len qf hf r (List.mem_of_mem_take hr)
      have hlt : ((zpcs b len).take m).length = m := by rw [← hzt]; omega
      have hvV : Valid (((zpcs b len).take m).foldl opPc V) := foldl_valid _ _ hv (by omega) hok
      have hzV : zn (((zpcs b len).take m).foldl opPc V) = zn V + m := by rw [foldl_zn, hlt]
      have hR5 : RepM D5 80 0 (((zpcs b len).take m).foldl opPc V) := RepM_k hvV (fun i hi => by rw [e5.1 80 (by omega) (by omega)]) hR
      generalize hV2 : ((zpcs b len).take m).foldl opPc V = V2 at *
      obtain ⟨_, D6, hC6, rfl, R6, k6⟩ := m125 (sc := sc) (d := d + 3) (G := G) (w := qw q) hR5 hvV (by omega)
      have k880 := hD.1
      have J : ∀ n i D7, 13 - i = n → i ≤ 13 → (∀ j, j < i → D7 80 (13 * zn V2 + j) = D5 88 j) → (∀ j, j < 13 * zn V2 ∨ 13 * zn V2 + 13 ≤ j → D7 80 j = D6 80 j) → (∀ a, a ≠ 80 → D7 a = D6 a) → Rq sc (d + 5) 146 (44, [some (.ref 79), some (.int (nI 1)), some (.int (nI (m + 1))), none, some (.int (nI (zn V2))), some (.int (nI i))], [], (hx_S0, D7, G), 0) G (fun r D2 => (∃ z, r = .inl (some (.int z))) ∧ eqA D D2 ∧ RepM D2 80 0 (opLoad V b len qf)) := by
        intro n
        induction n using Nat.strongRecOn with
        | _ n ih2 =>
        intro i D7 hn7 hi h1 h2 h3
        have hk7 : ∀ a, a ≠ 80 → D7 a = D5 a := fun a ha => by rw [h3 a ha, k6 a ha]
        have k88 : D7 88 = D5 88 := hk7 88 (by omega)
        have I7 := I5.n hk7
        have F7 : PF D7 s := ⟨by rw [hk7 79 (by omega)]; exact hF.1, by rw [hk7 79 (by omega)]; exact hF.2⟩
        have p0 := F7.1
        have p1 := F7.2
        have s8 := (I7.B B).1
        by_cases h13 : i < 13
        · skip
          refine Rq.bf (fun _ => b146_44) (by simp (disch := omega) only [Int32.le_iff_toInt_le, z_nI]; omega) ?_
          refine Rq.s (fun _ => b146_51 (by (try simp (disch := omega) only [nI_add, nI_mulN, pk_sub, nI_clamp, Nat.reduceAdd, Nat.reduceMul, Nat.reduceSub, Nat.zero_add, Nat.add_zero, k88]); exact m105)) ?_
          refine Rq.s (fun _ => b146_62 (by (try simp (disch := omega) only [nI_add, nI_mulN, pk_sub, nI_clamp, Nat.reduceAdd, Nat.reduceMul, Nat.reduceSub, Nat.zero_add, Nat.add_zero, k88]); exact nI_inbT (by omega) (by omega)) (by (try simp (disch := omega) only [nI_add, nI_mulN, pk_sub, nI_clamp, Nat.reduceAdd, Nat.reduceMul, Nat.reduceSub, Nat.zero_add, Nat.add_zero, k88]); exact nI_inbT (by omega) (by omega))) ?_
          try simp (disch := omega) only [nI_add, nI_mulN, pk_sub, nI_clamp, Nat.reduceAdd, Nat.reduceMul, Nat.reduceSub, Nat.zero_add, Nat.add_zero, k88]
          refine ih2 _ (by omega) (i + 1) _ rfl (by omega) (fun j hj => ?_) (fun j hj => by rw [hx_up_in _ _ _ (by omega)]; exact h2 j hj) (fun a ha => by rw [hx_up_ne ha]; exact h3 a ha)
          by_cases c : j = i
          · rw [c, hx_up_s]
          · rw [hx_up_in _ _ _ (by omega)]
            exact h1 j (by omega)
        · have R7 : RepM D7 80 0 (opPc V2 (qclose q)) := RepM_pc hvV (by omega) R6 hD (fun j hj => h1 j (by omega)) h2
          by_cases hl : s < len
          · obtain ⟨_, D8, hC8, ⟨z8, rfl⟩, e8, h8⟩ := m59s (sc := sc) (d := d + 2) (G := G) (I7.B B) hs F7 ha hk hwq hl (hx hl)
            rcases h8 with ⟨g1, g2, g3, g4⟩ | ⟨g1, g2, g3⟩
            · have h9 := zpcs_take (n := len) (m := m + 1) (show s + 1 ≤ len by omega) g4 rfl
              rw [zpcs_e g1 ha, hzt] at h9
              refine Rq.bt (fun _ => b146_44) (by simp (disch := omega) only [Int32.le_iff_toInt_le, z_nI]; omega) ?_
              refine Rq.bf (fun _ => b146_76b) (by rw [p1]; exact fun z => z rfl) ?_
              refine Rq.bf (fun _ => b146_83b) (by rw [p0, s8]; simp (disch := omega) only [Int32.le_iff_toInt_le, z_nI]; omega) ?_
              refine Rq.s (fun _ => b146_94b) ?_
              try simp (disch := omega) only [nI_add, nI_mulN, pk_sub, nI_clamp, Nat.reduceAdd, Nat.reduceMul, Nat.reduceSub, Nat.zero_add, Nat.add_zero, p0, s8]
              refine Rq.bf (fun _ => b146_99) (by decide) ?_
              refine Rq.s (fun _ => b146_104 (by (try simp (disch := omega) only [nI_add, nI_mulN, pk_sub, nI_clamp, Nat.reduceAdd, Nat.reduceMul, Nat.reduceSub, Nat.zero_add, Nat.add_zero, p0, s8]); exact hC8)) ?_
              refine Rq.bf (fun _ => b146_112) (by rw [g2]; exact fun z => z rfl) ?_
              refine Rq.s (fun _ => b146_121) ?_
              try simp (disch := omega) only [nI_add, nI_mulN, pk_sub, nI_clamp, Nat.reduceAdd, Nat.reduceMul, Nat.reduceSub, Nat.zero_add, Nat.add_zero, p0, s8]
              refine Rq.s (fun _ => b146_126) ?_
              refine ih _ (by omega) (m + 1) (s + 1) (qd q) D8 rfl (by omega) (I7.p e8) (by omega) g3 g4 ?_
              rw [← h9, List.foldl_append, hV2]
              exact RepM_k (Valid_pc hvV (by omega) (PcOK_i (aSt_ok s q ha) (aSt_d s q ha) hwq)) (fun i hi => by rw [e8.1 80 (by omega) (by omega)]) R7
            · exfalso
              obtain ⟨e, he, hBe, _, _⟩ := g3
              rw [Bad_no hBe hf] at hw
              cases hw
          · have hsl : s = len := by omega
            subst hsl
            rw [hf] at ha
            cases ha
            have R9 : RepM D7 80 0 (opLoad V b s qf) := by
              unfold opLoad
              rw [List.foldl_append, hzt, hV2]
              exact R7
            refine Rq.bt (fun _ => b146_44) (by simp (disch := omega) only [Int32.le_iff_toInt_le, z_nI]; omega) ?_
            refine Rq.bf (fun _ => b146_76b) (by rw [p1]; exact fun z => z rfl) ?_
            refine Rq.bt (fun _ => b146_83b) (by rw [p0, s8]; simp (disch := omega) only [Int32.le_iff_toInt_le, z_nI]; omega) ?_
            refine Rq.s (fun _ => b146_98b) ?_
            try simp (disch := omega) only [nI_add, nI_mulN, pk_sub, nI_clamp, Nat.reduceAdd, Nat.reduceMul, Nat.reduceSub, Nat.zero_add, Nat.add_zero, p0, s8]
            refine Rq.bt (fun _ => b146_99b) (rfl) ?_
            exact E (m + 1) D7 I7 R9
      refine Rq.bf (fun _ => b146_14) (by decide) ?_
      refine Rq.s (fun _ => b146_18 (by (try simp (disch := omega) only [nI_add, nI_mulN, pk_sub, nI_clamp, Nat.reduceAdd, Nat.reduceMul, Nat.reduceSub, Nat.zero_add, Nat.add_zero, k880]); exact hC5)) ?_
      refine Rq.bf (fun _ => b146_22) (by decide) ?_
      try simp (disch := omega) only [nI_add, nI_mulN, pk_sub, nI_clamp, Nat.reduceAdd, Nat.reduceMul, Nat.reduceSub, Nat.zero_add, Nat.add_zero, k880]
      refine Rq.s (fun _ => b146_29 (by (try simp (disch := omega) only [nI_add, nI_mulN, pk_sub, nI_clamp, Nat.reduceAdd, Nat.reduceMul, Nat.reduceSub, Nat.zero_add, Nat.add_zero, k880]); exact nI_inbT (by omega) (by omega)) (by (try simp (disch := omega) only [nI_add, nI_mulN, pk_sub, nI_clamp, Nat.reduceAdd, Nat.reduceMul, Nat.reduceSub, Nat.zero_add, Nat.add_zero, k880]); exact hC6)) ?_
      refine Rq.s (fun _ => b146_39) ?_
      try simp (disch := omega) only [nI_add, nI_mulN, pk_sub, nI_clamp, Nat.reduceAdd, Nat.reduceMul, Nat.reduceSub, Nat.zero_add, Nat.add_zero, k880]
      exact J _ 0 D6 rfl (by omega) (fun j hj => absurd hj (Nat.not_lt_zero _)) (fun j _ => rfl) (fun a _ => rfl)
    · exfalso
      rw [Bad_no hBe hf] at hw
      cases hw
  refine Cq.c (fun _ _ _ => c146) ?_
  refine Rq.s (fun _ => b146_0) ?_
  try simp (disch := omega) only [nI_add, nI_mulN, pk_sub, nI_clamp, Nat.reduceAdd, Nat.reduceMul, Nat.reduceSub, Nat.zero_add, Nat.add_zero]
  exact L _ 0 0 (fun _ => 0) _ rfl (by omega) ⟨fun a a1 a2 a3 => by rw [hx_up_ne a1, hx_up_ne a1], fun j j1 j2 => by rw [hx_up_in _ _ _ j2, hx_up_in _ _ _ j1]⟩ (by omega) PF_up rfl (RepM_k hv (fun i hi => by rw [hx_up_ne (by omega), hx_up_ne (by omega)]) R)
theorem rLoad {sc : Nat × (Nat → Int32)} {d : Nat} {D : Nat → Nat → Int32} {G : Nat → Nat → Int64} {t : ST} (I : InvM D t) (hs : SV t) : Cq sc (d + 6) 148 [.ref 79] D G (OKm D (oLoad t)) := by
  have hv := hs.1
  have h7 := hv.1
  obtain ⟨_, D5, hC5, e5, m, rfl, hm, h5⟩ := m146 (sc := sc) (d := d) (G := G) (InvM_B hs I)
  have I5 := InvM_p hs I e5
  have s98 := (rM I5.1).1
  have hC : eqC D D5 := fun a ha => e5.1 a (by omega) (by omega)
  rcases h5 with ⟨q, ha, hw, rfl, p0, p1⟩ | ⟨e, he, hBe, p0, p1⟩
  · have hu : oLoad t = if zn (tV t) + qb q ≤ 7 then (0, nI (zn (tV t) + qb q), (opLoad (tV t) (tb t) (tn t) q, tS (zsv t), tK t, 0, tb t)) else (2, 0, t) := by
      unfold oLoad
      rw [ha]
      exact if_pos hw
    rw [hu]
    by_cases h9 : zn (tV t) + qb q ≤ 7
    · rw [if_pos h9]
      have I6 := InvM_t (x := nI 0) hs I5
      obtain ⟨_, D7, hC7, rfl, I7, k7, f7⟩ := m106 (sc := sc) (d := d + 5) (G := G) hs I6
      obtain ⟨_, D8, hC8, ⟨z8, rfl⟩, e8, R8⟩ := m146A (sc := sc) (d := d) (G := G) (InvM_B (SV_zsv hs) I7) I7.1 hv ha hw h9
      have hl := zpcs_len _ _ ha
      have r8 : D8 80 98 = nI (zn (tV t) + qb q) := by
        have := (rM R8).1
        rw [this]
        unfold opLoad
        rw [foldl_zn, List.length_append, List.length_singleton]
        show nI (zn (tV t) + ((zpcs (tb t) (tn t)).length + 1)) = _
        rw [hl]
      refine Cq.c (fun _ _ _ => c148) ?_
      refine Rq.s (fun _ => b148_0 (by (try simp (disch := omega) only [nI_add, nI_mulN, pk_sub, nI_clamp, Nat.reduceAdd, Nat.reduceMul, Nat.reduceSub, Nat.zero_add, Nat.add_zero, s98]); exact hC5)) ?_
      refine Rq.bt (fun _ => b148_5) (by rw [p1]; rfl) ?_
      refine Rq.bt (fun _ => b148_18 (by (try simp (disch := omega) only [nI_add, nI_mulN, pk_sub, nI_clamp, Nat.reduceAdd, Nat.reduceMul, Nat.reduceSub, Nat.zero_add, Nat.add_zero, s98]); exact nI_inbT (by omega) (by omega))) (by rw [nI_clamp (by omega), s98, nI_add]; simp (disch := omega) only [Int32.le_iff_toInt_le, z_nI]; omega) ?_
      refine Rq.s (fun _ => b148_36) ?_
      try simp (disch := omega) only [nI_add, nI_mulN, pk_sub, nI_clamp, Nat.reduceAdd, Nat.reduceMul, Nat.reduceSub, Nat.zero_add, Nat.add_zero, s98]
      refine Rq.s (fun _ => b148_37b (by (try simp (disch := omega) only [nI_add, nI_mulN, pk_sub, nI_clamp, Nat.reduceAdd, Nat.reduceMul, Nat.reduceSub, Nat.zero_add, Nat.add_zero, s98]); exact t103_0)) ?_
      refine Rq.bt (fun _ => b148_40b) (by decide) ?_
      refine Rq.s (fun _ => b148_45b (by (try simp (disch := omega) only [nI_add, nI_mulN, pk_sub, nI_clamp, Nat.reduceAdd, Nat.reduceMul, Nat.reduceSub, Nat.zero_add, Nat.add_zero, s98]); exact hC7)) ?_
      refine Rq.s (fun _ => b148_49b (by (try simp (disch := omega) only [nI_add, nI_mulN, pk_sub, nI_clamp, Nat.reduceAdd, Nat.reduceMul, Nat.reduceSub, Nat.zero_add, Nat.add_zero, s98]); exact hC8)) ?_
      refine Rq.e (b148_54b (by (try simp (disch := omega) only [nI_add, nI_mulN, pk_sub, nI_clamp, Nat.reduceAdd, Nat.reduceMul, Nat.reduceSub, Nat.zero_add, Nat.add_zero, s98]); exact nI_inbT (by omega) (by omega))) ?_
      rw [nI_clamp (by omega), r8]
      refine OKm.v rfl (by rw [hx_up_in _ _ _ (by omega), e8.2 0 (by omega) (by omega), f7 0 (by omega)]; exact hx_up_s _ _ _ _) ?_ (fun a ha => by rw [hx_up_ne (by omega), e8.1 a (by omega) (by omega) (by omega), k7 a (by omega) (by omega), hx_up_ne (by omega)]; exact hC a ha)
      obtain ⟨i1, i2, i3, i4, i5, i6, i7⟩ := I7
      have hS := SV_zsv hs
      have hvL : Valid (opLoad (tV t) (tb t) (tn t) q) := foldl_valid _ _ hv (by rw [List.length_append, List.length_singleton]; omega) (fun r hr => by
        rcases List.mem_append.mp hr with h3 | h3
        · exact zpcs_ok _ _ ha r h3
        · rw [List.mem_singleton] at h3
          subst h3
          exact PcOK_i (aSt_ok _ _ ha) (aSt_d _ _ ha) hw)
      exact ⟨RepM_k hvL (fun i _ => by rw [hx_up_ne (by omega)]) R8, by rw [hx_up_in _ _ _ (by omega), e8.2 4 (by omega) (by omega)]; exact i2, fun j X h => RepM_k (hS.2.2.1 X (hx_nth_mem h)) (fun i _ => by rw [hx_up_ne (by omega), e8.1 82 (by omega) (by omega) (by omega)]) (i3 j X h), by rw [hx_up_in _ _ _ (by omega), e8.2 6 (by omega) (by omega)]; exact i4, fun k X h1 h2 => RepM_k (hS.2.2.2.1 k X h2) (fun i _ => by rw [hx_up_ne (by omega), e8.1 83 (by omega) (by omega) (by omega)]) (i5 k X h1 h2), hx_up_s _ _ _ _, fun i hi => absurd hi (Nat.not_lt_zero _)⟩
    · rw [if_neg h9]
      refine Cq.c (fun _ _ _ => c148) ?_
      refine Rq.s (fun _ => b148_0 (by (try simp (disch := omega) only [nI_add, nI_mulN, pk_sub, nI_clamp, Nat.reduceAdd, Nat.reduceMul, Nat.reduceSub, Nat.zero_add, Nat.add_zero, s98]); exact hC5)) ?_
      refine Rq.bt (fun _ => b148_5) (by rw [p1]; rfl) ?_
      refine Rq.bf (fun _ => b148_18 (by (try simp (disch := omega) only [nI_add, nI_mulN, pk_sub, nI_clamp, Nat.reduceAdd, Nat.reduceMul, Nat.reduceSub, Nat.zero_add, Nat.add_zero, s98]); exact nI_inbT (by omega) (by omega))) (by rw [nI_clamp (by omega), s98, nI_add]; simp (disch := omega) only [Int32.le_iff_toInt_le, z_nI]; omega) ?_
      refine Rq.s (fun _ => b148_32) ?_
      try simp (disch := omega) only [nI_add, nI_mulN, pk_sub, nI_clamp, Nat.reduceAdd, Nat.reduceMul, Nat.reduceSub, Nat.zero_add, Nat.add_zero, s98]
      refine Rq.s (fun _ => b148_37 (by (try simp (disch := omega) only [nI_add, nI_mulN, pk_sub, nI_clamp, Nat.reduceAdd, Nat.reduceMul, Nat.reduceSub, Nat.zero_add, Nat.add_zero, s98]); exact t103_k (k := 2) (by omega) (by omega))) ?_
      refine Rq.bf (fun _ => b148_40) (fun z => z rfl) ?_
      refine Rq.e (b148_43) ?_
      have h9 := OKm.x (k := 2) hs I5 rfl
      exact ⟨h9.1, h9.2.1, h9.2.2.1, fun a ha => by rw [h9.2.2.2 a ha]; exact hC a ha⟩
  · have hu : oLoad t = (1, 0, t) := by
      unfold oLoad
      cases ha : aSt (tb t) (tn t) with
      | none => rfl
      | some q =>
        show (if qwhole q = true then _ else _) = _
        rw [if_neg (by rw [Bad_no hBe ha]; exact fun z => by cases z)]
    rw [hu]
    refine Cq.c (fun _ _ _ => c148) ?_
    refine Rq.s (fun _ => b148_0 (by (try simp (disch := omega) only [nI_add, nI_mulN, pk_sub, nI_clamp, Nat.reduceAdd, Nat.reduceMul, Nat.reduceSub, Nat.zero_add, Nat.add_zero, s98]); exact hC5)) ?_
    refine Rq.bf (fun _ => b148_5) (by rw [p1]; decide) ?_
    refine Rq.s (fun _ => b148_14) ?_
    try simp (disch := omega) only [nI_add, nI_mulN, pk_sub, nI_clamp, Nat.reduceAdd, Nat.reduceMul, Nat.reduceSub, Nat.zero_add, Nat.add_zero, s98]
    refine Rq.s (fun _ => b148_37 (by (try simp (disch := omega) only [nI_add, nI_mulN, pk_sub, nI_clamp, Nat.reduceAdd, Nat.reduceMul, Nat.reduceSub, Nat.zero_add, Nat.add_zero, s98]); exact t103_k (k := 1) (by omega) (by omega))) ?_
    refine Rq.bf (fun _ => b148_40) (fun z => z rfl) ?_
    refine Rq.e (b148_43) ?_
    have h9 := OKm.x (k := 1) hs I5 rfl
    exact ⟨h9.1, h9.2.1, h9.2.2.1, fun a ha => by rw [h9.2.2.2 a ha]; exact hC a ha⟩
