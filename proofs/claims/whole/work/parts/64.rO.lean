/-! ===== the reference: a piece, the whole text, load ===== -/
theorem m145 {sc : Nat × (Nat → Int32)} {d : Nat} {D : Nat → Nat → Int32} {G : Nat → Nat → Int64} {len : Nat} {b : Nat → Nat} {k : Nat} (B : BM D len b) (h : PS D len b k) : Cq sc (d + 4) 145 [.ref 79] D G (fun r D2 => r = .inl none ∧ eqP D D2 ∧ PEnd D2 len b k) := by
  refine Cq.c (fun _ _ _ => c145) ?_
  obtain ⟨_, D1, hC1, e1, z1, rfl, h1⟩ := mwid (sc := sc) (d := d + 1) (G := G) B h
  have I1 : eqP D (hx_up D1 88 0 z1) := e1.u88
  refine Rq.s (fun _ => b145_0 hC1) ?_
  obtain ⟨_, D2, hC2, ⟨z2, rfl⟩, e2, h2⟩ := m91s (sc := sc) (d := d + 1) (G := G) (I1.B B) h1
  have I2 := I1.tr e2
  refine Rq.s (fun _ => b145_12 (nI_inbT (by omega) (by omega)) (by rw [nI_clamp (by omega)]; exact hC2)) ?_
  obtain ⟨_, D3, hC3, rfl, e3, h3⟩ := m143 (sc := sc) (d := d) (G := G) (n := 0) (I2.B B) (Or.inl rfl) (fun z => by cases z) h2
  have I3 := I2.tr e3
  refine Rq.s (fun _ => b145_21 hC3) ?_
  obtain ⟨_, D4, hC4, ⟨z4, rfl⟩, e4, h4⟩ := m124s (sc := sc) (d := d + 1) (G := G) (I3.B B) h3
  have I4 := I3.tr e4
  refine Rq.s (fun _ => b145_27 hC4) ?_
  obtain ⟨_, D5, hC5, rfl, e5, h5⟩ := m143 (sc := sc) (d := d) (G := G) (n := 5) (I4.B B) (Or.inr rfl) (fun _ => rfl) h4
  have I5 := I4.tr e5
  refine Rq.s (fun _ => b145_35 hC5) ?_
  obtain ⟨_, D6, hC6, ⟨z6, rfl⟩, e6, h6⟩ := m93s (sc := sc) (d := d + 1) (G := G) (I5.B B) h5
  have I6 := I5.tr e6
  refine Rq.s (fun _ => b145_42 hC6) ?_
  obtain ⟨_, D7, hC7, rfl, e7, h7⟩ := m144 (sc := sc) (d := d) (G := G) (I6.B B) h6
  refine Rq.s (fun _ => b145_50 hC7) ?_
  exact Rq.e b145_55 ⟨rfl, I6.tr e7, h7⟩
theorem zpcs_le (b : Nat → Nat) : ∀ k, (zpcs b k).length ≤ k
  | 0 => Nat.le_refl _
  | k + 1 => by
    have ih := zpcs_le b k
    by_cases c : b k = 59
    · cases e : aSt b k with
      | some q => rw [zpcs_e c e, List.length_append, List.length_singleton]; omega
      | none => rw [zpcs, if_pos c, e]; show (zpcs b k).length ≤ k + 1; omega
    · rw [zpcs_n c]; omega
theorem qb_le {b : Nat → Nat} {s : Nat} {q : RS} (h : aSt b s = some q) : qb q ≤ s + 1 := by
  have h1 := zpcs_len s q h
  have h2 := zpcs_le b s
  omega
theorem aT_whole59 {q : RS} (HQ : Qok q) (h : qwhole q = true) : aT q 59 = some (qB (qb q + 1) (qd q)) := by
  have e : qbegin (qclose q) = qB (qb q + 1) (qd q) := by
    unfold qbegin
    rw [qclose_b, qclose_e]
    rfl
  rw [← e]
  rcases qclose_p h with h2 | h2
  · unfold aT
    rw [if_neg (by omega), if_neg (by omega), if_pos h2]
    unfold aN
    rw [if_pos rfl]
    unfold qclose
    rw [if_neg (by omega)]
  · unfold aT
    rw [if_neg (by omega), if_neg (by omega), if_neg (by omega)]
    unfold aP
    rw [zdg59, if_pos rfl, if_pos h2.2]
    unfold aN
    rw [if_pos rfl]
/-- takes the ';' -/
theorem m59s {sc : Nat × (Nat → Int32)} {d : Nat} {D : Nat → Nat → Int32} {G : Nat → Nat → Int64} {len : Nat} {b : Nat → Nat} {k s : Nat} {q : RS} (B : BM D len b) (hs : s ≤ len) (hF : PF D s) (ha : aSt b s = some q) (hk : qb q = k) (hw : qwhole q = true) (hl : s < len) (hx : b s ≠ 59 → aT q (b s) = none) : Cq sc (d + 2) 140 [.ref 79, .int (nI 59), .int (nI 59)] D G (fun r D2 => (∃ z, r = .inl (some (.int z))) ∧ eqP D D2 ∧ ((b s = 59 ∧ D2 79 14 = nI 0 ∧ PF D2 (s + 1) ∧ aSt b (s + 1) = some (qB (k + 1) (qd q))) ∨ (b s ≠ 59 ∧ D2 79 14 = nI 1 ∧ PB D2 len b))) := by
  by_cases c : b s = 59
  · obtain ⟨r, D2, hC, rfl, rfl⟩ := m140T (sc := sc) (d := d) (G := G) (lo := 59) (hi := 59) B hF hl (by omega) (by omega) (by omega)
    exact ⟨_, _, hC, ⟨_, rfl⟩, (eqP.rf.u79 (Or.inl rfl)).u79 (Or.inr rfl), Or.inl ⟨c, hx_up_s _ _ _ _, PF_up, by rw [aSt_s ha, c, aT_whole59 (aSt_ok s q ha) hw, hk]⟩⟩
  · obtain ⟨r, D2, hC, rfl, rfl⟩ := m140N (sc := sc) (d := d) (G := G) (lo := 59) (hi := 59) B hF hs (by omega) (by omega) (by omega)
    exact ⟨_, _, hC, ⟨_, rfl⟩, (eqP.rf.u79 (Or.inl rfl)).u79 (Or.inr rfl), Or.inr ⟨c, hx_up_s _ _ _ _, PB_up hs (Or.inl ⟨hl, q, ha, hx c⟩)⟩⟩
/-- what holds when all has been read -/
def PAll (D : Nat → Nat → Int32) (len : Nat) (b : Nat → Nat) (m : Nat) : Prop := (∃ q, aSt b len = some q ∧ qwhole q = true ∧ qb q = m ∧ PF D len) ∨ PB D len b
theorem m146 {sc : Nat × (Nat → Int32)} {d : Nat} {D : Nat → Nat → Int32} {G : Nat → Nat → Int64} {len : Nat} {b : Nat → Nat} (B : BM D len b) : Cq sc (d + 5) 146 [.ref 79, .int (nI 0)] D G (fun r D2 => eqP D D2 ∧ ∃ m, r = .inl (some (.int (nI m))) ∧ m ≤ 62 ∧ PAll D2 len b m) := by
  have b1 := B.2.1
  have E : ∀ m D3, m ≤ 62 → eqP D D3 → PAll D3 len b m → Rq sc (d + 5) 146 (14, [some (.ref 79), some (.int (nI 0)), some (.int (nI m)), some (.int (nI 0)), none, none], [], (hx_S0, D3, G), 0) G (fun r D2 => eqP D D2 ∧ ∃ m, r = .inl (some (.int (nI m))) ∧ m ≤ 62 ∧ PAll D2 len b m) := by
    intro m D3 hm hI hP
    refine Rq.bt (fun _ => b146_14) (rfl) ?_
    refine Rq.e (b146_130) ?_
    exact ⟨hI, m, rfl, hm, hP⟩
  have L : ∀ n m D3, 62 - m = n → m ≤ 61 → eqP D D3 → PS D3 len b (m + 1) → Rq sc (d + 5) 146 (14, [some (.ref 79), some (.int (nI 0)), some (.int (nI m)), some (.int (nI 1)), none, none], [], (hx_S0, D3, G), 0) G (fun r D2 => eqP D D2 ∧ ∃ m, r = .inl (some (.int (nI m))) ∧ m ≤ 62 ∧ PAll D2 len b m) := by
    intro n
    induction n using Nat.strongRecOn with
    | _ n ih =>
    intro m D3 hn hm hI hP
    obtain ⟨_, D5, hC5, rfl, e5, h5⟩ := m145 (sc := sc) (d := d) (G := G) (hI.B B) hP
    have I5 := hI.tr e5
    have B5 := I5.B B
    have s8 := B5.1
    rcases h5 with ⟨s, q, hs, hF, ha, hk, hw, hD, hx⟩ | hB
    · have p0 := hF.1
      have p1 := hF.2
      by_cases hl : s < len
      · obtain ⟨_, D6, hC6, ⟨z6, rfl⟩, e6, h6⟩ := m59s (sc := sc) (d := d + 2) (G := G) B5 hs hF ha hk hw hl (hx hl)
        have I6 := I5.tr e6
        have hq2 := qb_le ha
        rcases h6 with ⟨g1, g2, g3, g4⟩ | ⟨g1, g2, g3⟩
        · skip
          refine Rq.bf (fun _ => b146_14) (by decide) ?_
          refine Rq.s (fun _ => b146_18 (by (try simp (disch := omega) only [nI_add, nI_mulN, pk_sub, nI_clamp, Nat.reduceAdd, Nat.reduceMul, Nat.reduceSub, Nat.zero_add, Nat.add_zero, p0, s8]); exact hC5)) ?_
          refine Rq.bt (fun _ => b146_22) (rfl) ?_
          try simp (disch := omega) only [nI_add, nI_mulN, pk_sub, nI_clamp, Nat.reduceAdd, Nat.reduceMul, Nat.reduceSub, Nat.zero_add, Nat.add_zero, p0, s8]
          refine Rq.bf (fun _ => b146_76) (by rw [p1]; exact fun z => z rfl) ?_
          refine Rq.bf (fun _ => b146_83) (by rw [p0, s8]; simp (disch := omega) only [Int32.le_iff_toInt_le, z_nI]; omega) ?_
          refine Rq.s (fun _ => b146_94) ?_
          try simp (disch := omega) only [nI_add, nI_mulN, pk_sub, nI_clamp, Nat.reduceAdd, Nat.reduceMul, Nat.reduceSub, Nat.zero_add, Nat.add_zero, p0, s8]
          refine Rq.bf (fun _ => b146_99) (by decide) ?_
          refine Rq.s (fun _ => b146_104 (by (try simp (disch := omega) only [nI_add, nI_mulN, pk_sub, nI_clamp, Nat.reduceAdd, Nat.reduceMul, Nat.reduceSub, Nat.zero_add, Nat.add_zero, p0, s8]); exact hC6)) ?_
          refine Rq.bf (fun _ => b146_112) (by rw [g2]; exact fun z => z rfl) ?_
          refine Rq.s (fun _ => b146_121) ?_
          try simp (disch := omega) only [nI_add, nI_mulN, pk_sub, nI_clamp, Nat.reduceAdd, Nat.reduceMul, Nat.reduceSub, Nat.zero_add, Nat.add_zero, p0, s8]
          refine Rq.s (fun _ => b146_126) ?_
          exact ih _ (by omega) (m + 1) D6 rfl (by omega) I6 (Or.inl ⟨s + 1, _, by omega, g3, g4⟩)
        · skip
          refine Rq.bf (fun _ => b146_14) (by decide) ?_
          refine Rq.s (fun _ => b146_18 (by (try simp (disch := omega) only [nI_add, nI_mulN, pk_sub, nI_clamp, Nat.reduceAdd, Nat.reduceMul, Nat.reduceSub, Nat.zero_add, Nat.add_zero, p0, s8]); exact hC5)) ?_
          refine Rq.bt (fun _ => b146_22) (rfl) ?_
          try simp (disch := omega) only [nI_add, nI_mulN, pk_sub, nI_clamp, Nat.reduceAdd, Nat.reduceMul, Nat.reduceSub, Nat.zero_add, Nat.add_zero, p0, s8]
          refine Rq.bf (fun _ => b146_76) (by rw [p1]; exact fun z => z rfl) ?_
          refine Rq.bf (fun _ => b146_83) (by rw [p0, s8]; simp (disch := omega) only [Int32.le_iff_toInt_le, z_nI]; omega) ?_
          refine Rq.s (fun _ => b146_94) ?_
          try simp (disch := omega) only [nI_add, nI_mulN, pk_sub, nI_clamp, Nat.reduceAdd, Nat.reduceMul, Nat.reduceSub, Nat.zero_add, Nat.add_zero, p0, s8]
          refine Rq.bf (fun _ => b146_99) (by decide) ?_
          refine Rq.s (fun _ => b146_104 (by (try simp (disch := omega) only [nI_add, nI_mulN, pk_sub, nI_clamp, Nat.reduceAdd, Nat.reduceMul, Nat.reduceSub, Nat.zero_add, Nat.add_zero, p0, s8]); exact hC6)) ?_
          refine Rq.bt (fun _ => b146_112) (by rw [g2]; decide) ?_
          refine Rq.s (fun _ => b146_125) ?_
          try simp (disch := omega) only [nI_add, nI_mulN, pk_sub, nI_clamp, Nat.reduceAdd, Nat.reduceMul, Nat.reduceSub, Nat.zero_add, Nat.add_zero, p0, s8]
          refine Rq.s (fun _ => b146_126) ?_
          exact E (m + 1) D6 (by omega) I6 (Or.inr g3)
      · skip
        refine Rq.bf (fun _ => b146_14) (by decide) ?_
        refine Rq.s (fun _ => b146_18 (by (try simp (disch := omega) only [nI_add, nI_mulN, pk_sub, nI_clamp, Nat.reduceAdd, Nat.reduceMul, Nat.reduceSub, Nat.zero_add, Nat.add_zero, p0, s8]); exact hC5)) ?_
        refine Rq.bt (fun _ => b146_22) (rfl) ?_
        try simp (disch := omega) only [nI_add, nI_mulN, pk_sub, nI_clamp, Nat.reduceAdd, Nat.reduceMul, Nat.reduceSub, Nat.zero_add, Nat.add_zero, p0, s8]
        refine Rq.bf (fun _ => b146_76) (by rw [p1]; exact fun z => z rfl) ?_
        refine Rq.bt (fun _ => b146_83) (by rw [p0, s8]; simp (disch := omega) only [Int32.le_iff_toInt_le, z_nI]; omega) ?_
        refine Rq.s (fun _ => b146_98) ?_
        try simp (disch := omega) only [nI_add, nI_mulN, pk_sub, nI_clamp, Nat.reduceAdd, Nat.reduceMul, Nat.reduceSub, Nat.zero_add, Nat.add_zero, p0, s8]
        refine Rq.bt (fun _ => b146_99) (rfl) ?_
        exact E (m + 1) D5 (by omega) I5 (Or.inl ⟨q, by rw [show len = s by omega]; exact ha, hw, hk, by rw [show len = s by omega]; exact hF⟩)
    · have hB2 := hB
      obtain ⟨e, he, hBe, p0, p1⟩ := hB
      refine Rq.bf (fun _ => b146_14) (by decide) ?_
      refine Rq.s (fun _ => b146_18 (by (try simp (disch := omega) only [nI_add, nI_mulN, pk_sub, nI_clamp, Nat.reduceAdd, Nat.reduceMul, Nat.reduceSub, Nat.zero_add, Nat.add_zero]); exact hC5)) ?_
      refine Rq.bt (fun _ => b146_22) (rfl) ?_
      try simp (disch := omega) only [nI_add, nI_mulN, pk_sub, nI_clamp, Nat.reduceAdd, Nat.reduceMul, Nat.reduceSub, Nat.zero_add, Nat.add_zero]
      refine Rq.bt (fun _ => b146_76) (by rw [p1]; decide) ?_
      refine Rq.s (fun _ => b146_98) ?_
      try simp (disch := omega) only [nI_add, nI_mulN, pk_sub, nI_clamp, Nat.reduceAdd, Nat.reduceMul, Nat.reduceSub, Nat.zero_add, Nat.add_zero]
      refine Rq.bt (fun _ => b146_99) (rfl) ?_
      exact E (m + 1) D5 (by omega) I5 (Or.inr hB2)
  refine Cq.c (fun _ _ _ => c146) ?_
  refine Rq.s (fun _ => b146_0) ?_
  try simp (disch := omega) only [nI_add, nI_mulN, pk_sub, nI_clamp, Nat.reduceAdd, Nat.reduceMul, Nat.reduceSub, Nat.zero_add, Nat.add_zero]
  exact L _ 0 _ rfl (by omega) ((eqP.rf.u79 (Or.inl rfl)).u79 (Or.inr rfl)) (Or.inl ⟨0, fun _ => 0, by omega, PF_up, rfl⟩)
theorem Bad_zfe {b : Nat → Nat} {len e : Nat} (h : Bad b len e) : zfe b len 0 = e := by
  rcases h with ⟨h1, q, h2, h3⟩ | ⟨rfl, q, h2, h3⟩
  · exact zfe_at h1 h2 h3
  · exact zfe_end h2
theorem Bad_no {b : Nat → Nat} {len e : Nat} {q : RS} (h : Bad b len e) (ha : aSt b len = some q) : qwhole q = false := by
  rcases h with ⟨h1, q1, h2, h3⟩ | ⟨rfl, q1, h2, h3⟩
  · have h4 : aSt b (e + 1) = none := by rw [aSt_s h2]; exact h3
    have := aSt_none h4 (len - (e + 1))
    rw [show e + 1 + (len - (e + 1)) = len by omega, ha] at this
    cases this
  · rw [h2] at ha
    cases ha
    exact h3
theorem InvM_B {D : Nat → Nat → Int32} {t : ST} (hs : SV t) (I : InvM D t) : BM D (tn t) (tb t) := ⟨I.2.2.2.2.2.1, hs.2.2.2.2.1, I.2.2.2.2.2.2, fun i hi => by have := hs.2.2.2.2.2 i hi; omega⟩
theorem InvM_p {D D2 : Nat → Nat → Int32} {t : ST} (hs : SV t) (I : InvM D t) (e : eqP D D2) : InvM D2 t := InvM_w hs I (fun a ha => e.1 a (by omega) (by omega)) (fun i _ => by rw [e.1 80 (by omega) (by omega)]) (fun j hj => e.2 j (by omega) (by omega))
theorem rFirstError {sc : Nat × (Nat → Int32)} {d : Nat} {D : Nat → Nat → Int32} {G : Nat → Nat → Int64} {t : ST} (I : InvM D t) (hs : SV t) : Cq sc (d + 6) 147 [.ref 79] D G (OKm D (oFirstError t)) := by
  have I1 := InvM_t (x := nI 0) hs I
  obtain ⟨_, D5, hC5, e5, m, rfl, hm, h5⟩ := m146 (sc := sc) (d := d) (G := G) (InvM_B hs I1)
  have I5 := InvM_p hs I1 e5
  have s8 := I5.2.2.2.2.2.1
  have h0 : D5 79 0 = nI 0 := by rw [e5.2 0 (by omega) (by omega)]; exact hx_up_s _ _ _ _
  have hC : eqC D D5 := fun a ha => by rw [e5.1 a (by omega) (by omega), hx_up_ne (by omega)]
  rcases h5 with ⟨q, ha, hw, hk, p0, p1⟩ | ⟨e, he, hBe, p0, p1⟩
  · have hz := zfe_end ha
    refine Cq.c (fun _ _ _ => c147) ?_
    refine Rq.s (fun _ => b147_0 (by (try simp (disch := omega) only [nI_add, nI_mulN, pk_sub, nI_clamp, Nat.reduceAdd, Nat.reduceMul, Nat.reduceSub, Nat.zero_add, Nat.add_zero]); exact hC5)) ?_
    refine Rq.bt (fun _ => b147_10) (by rw [p1]; rfl) ?_
    refine Rq.s (fun _ => b147_25) ?_
    try simp (disch := omega) only [nI_add, nI_mulN, pk_sub, nI_clamp, Nat.reduceAdd, Nat.reduceMul, Nat.reduceSub, Nat.zero_add, Nat.add_zero]
    refine Rq.e (b147_29) ?_
    rw [s8, ← hz]
    exact OKm.v rfl h0 I5 hC
  · have hz := Bad_zfe hBe
    refine Cq.c (fun _ _ _ => c147) ?_
    refine Rq.s (fun _ => b147_0 (by (try simp (disch := omega) only [nI_add, nI_mulN, pk_sub, nI_clamp, Nat.reduceAdd, Nat.reduceMul, Nat.reduceSub, Nat.zero_add, Nat.add_zero]); exact hC5)) ?_
    refine Rq.bf (fun _ => b147_10) (by rw [p1]; decide) ?_
    refine Rq.s (fun _ => b147_18) ?_
    try simp (disch := omega) only [nI_add, nI_mulN, pk_sub, nI_clamp, Nat.reduceAdd, Nat.reduceMul, Nat.reduceSub, Nat.zero_add, Nat.add_zero]
    refine Rq.e (b147_29b) ?_
    rw [p0, ← hz]
    exact OKm.v rfl h0 I5 hC
