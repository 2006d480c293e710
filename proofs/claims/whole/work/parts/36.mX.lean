/-! ===== the class: the cheapest row ===== -/
theorem RepC_k {D D2 : Nat → Nat → Int32} {V : ZV} (h : ∀ a, 1 ≤ a → a ≤ 7 → D2 a = D a) (R : RepC D 1 V) : RepC D2 1 V := by
  have e1 := h 1 (by omega) (by omega)
  have e2 := h 2 (by omega) (by omega)
  have e3 := h 3 (by omega) (by omega)
  have e4 := h 4 (by omega) (by omega)
  have e5 := h 5 (by omega) (by omega)
  have e6 := h 6 (by omega) (by omega)
  have e7 := h 7 (by omega) (by omega)
  obtain ⟨r0, r1, rw, re, rc, rh, rr, rs0, rs1⟩ := rC R
  refine ⟨by rw [e1]; exact r0, by rw [e1]; exact r1, fun p hp => ?_, fun p j hp hj => ?_, fun p hp => ?_, fun p i x hp hx => ?_, fun i hi => ?_, ?_, ?_⟩
  · show D2 2 p = _
    rw [e2]; exact rw p hp
  · show D2 3 _ = _
    rw [e3]; exact re p j hp hj
  · show D2 4 _ = _
    rw [e4]; exact rc p hp
  · show D2 5 _ = _
    rw [e5]; exact rh p i x hp hx
  · show D2 6 _ = _
    rw [e6]; exact rr i hi
  · show D2 7 _ = _
    rw [e7]; exact rs0
  · show D2 7 _ = _
    rw [e7]; exact rs1
def JN (D : Nat → Nat → Int32) (V : ZV) : Prop := ∀ l x, l < zn V → x < zn V → D 16 (l * 7 + x) = nI (zj V l x)
def TB (D : Nat → Nat → Int32) (V : ZV) (s : Nat) : Prop := ∀ R, R < s → R ≠ 0 → zRo V R → ∀ x, x < zn V → R.testBit x = true → D 17 (R * 7 + x) = nI (zFF V (zclr R x) (some x))
theorem zo_ne {y : Nat} (h : y < 2 ^ 31) : ¬ nI y = -1 := by
  rw [z_eq, z_nI h, z_m1]
  omega
theorem m7 {sc : Nat × (Nat → Int32)} {d : Nat} {D : Nat → Nat → Int32} {G : Nat → Nat → Int64} {V : ZV} {l : Option Nat} {R x : Nat} (hv : Valid V) (HJ : JN D V) (hl : ∀ y, l = some y → y < zn V) (hx : x < zn V) (hR : R < 128) (hT : D 17 (R * 7 + x) = nI (zFF V (zclr R x) (some x))) : Cl sc d 7 [.ref 15, .int (zo l), .int (nI x), .int (nI R)] (hx_S0, D, G) (.inl (some (.int (nI (zcst V R l x))))) (hx_S0, D, G) := by
  have h7 := hv.1
  refine Cq.p ?_
  cases l with
  | none =>
    show Cq sc d 7 [.ref 15, .int (-1), .int (nI x), .int (nI R)] D G _
    refine Cq.c (fun _ _ _ => c7) ?_
    refine Rq.bf (fun _ => b7_0) (fun z => z rfl) ?_
    refine Rq.s (fun _ => b7_5) ?_
    try simp (disch := omega) only [nI_add, nI_mulN, pk_sub, nI_clamp, Nat.reduceAdd, Nat.reduceMul, Nat.reduceSub, Nat.zero_add, Nat.add_zero, hT]
    refine Rq.e (b7_20b (by (try simp (disch := omega) only [nI_add, nI_mulN, pk_sub, nI_clamp, Nat.reduceAdd, Nat.reduceMul, Nat.reduceSub, Nat.zero_add, Nat.add_zero, hT]); exact nI_inbT (by omega) (by omega))) ?_
    refine Qp.i ?_
    try simp (disch := omega) only [nI_add, nI_mulN, pk_sub, nI_clamp, Nat.reduceAdd, Nat.reduceMul, Nat.reduceSub, Nat.zero_add, Nat.add_zero, hT]
    show _ = nI (zJJ V none x + zFF V (zclr R x) (some x))
    first | rfl | (rw [show zJJ V none x = 0 from rfl, Nat.zero_add])
  | some y =>
    have hy := hl y rfl
    have hJ := HJ y x hy hx
    show Cq sc d 7 [.ref 15, .int (nI y), .int (nI x), .int (nI R)] D G _
    refine Cq.c (fun _ _ _ => c7) ?_
    refine Rq.bt (fun _ => b7_0) (zo_ne (by omega)) ?_
    refine Rq.s (fun _ => b7_9 (by (try simp (disch := omega) only [nI_add, nI_mulN, pk_sub, nI_clamp, Nat.reduceAdd, Nat.reduceMul, Nat.reduceSub, Nat.zero_add, Nat.add_zero, hJ, hT]); exact nI_inbT (by omega) (by omega))) ?_
    try simp (disch := omega) only [nI_add, nI_mulN, pk_sub, nI_clamp, Nat.reduceAdd, Nat.reduceMul, Nat.reduceSub, Nat.zero_add, Nat.add_zero, hJ, hT]
    refine Rq.e (b7_20 (by (try simp (disch := omega) only [nI_add, nI_mulN, pk_sub, nI_clamp, Nat.reduceAdd, Nat.reduceMul, Nat.reduceSub, Nat.zero_add, Nat.add_zero, hJ, hT]); exact nI_inbT (by omega) (by omega))) ?_
    refine Qp.i ?_
    try simp (disch := omega) only [nI_add, nI_mulN, pk_sub, nI_clamp, Nat.reduceAdd, Nat.reduceMul, Nat.reduceSub, Nat.zero_add, Nat.add_zero, hJ, hT]
    show _ = nI (zJJ V (some y) x + zFF V (zclr R x) (some x))
    first | rfl | (rw [show zJJ V none x = 0 from rfl, Nat.zero_add])
theorem m6 {sc : Nat × (Nat → Int32)} {d : Nat} {D : Nat → Nat → Int32} {G : Nat → Nat → Int64} {V : ZV} {l : Option Nat} {R : Nat} (hv : Valid V) (HJ : JN D V) (hl : ∀ y, l = some y → y < zn V) (hR : zRo V R) (HT : ∀ x, x < zn V → R.testBit x = true → D 17 (R * 7 + x) = nI (zFF V (zclr R x) (some x))) : Cl sc (d + 1) 6 [.ref 15, .int (nI (zn V)), .int (zo l), .int (nI R)] (hx_S0, D, G) (.inl (some (.int (nI ((zpk V R l).getD 0))))) (hx_S0, D, G) := by
  have h7 := hv.1
  have hR1 := hR.1
  have L : ∀ n i, zn V - i = n → i ≤ zn V → Rq sc (d + 1) 6 (11, [some (.ref 15), some (.int (nI (zn V))), some (.int (zo l)), some (.int (nI R)), some (.int (nI ((zba (fun x => R.testBit x) (zcst V R l) i).getD 0))), some (.int (nI (zla (zcst V R l) (zba (fun x => R.testBit x) (zcst V R l) i)))), some (.int (nI i)), none], [], (hx_S0, D, G), 0) G (Qp (nI ((zpk V R l).getD 0)) D) := by
    intro n
    induction n using Nat.strongRecOn with
    | _ n ih =>
    intro i hm hi
    have hz : zla (zcst V R l) (zba (fun x => R.testBit x) (zcst V R l) i) < 2 ^ 31 := zla_lt (B := 304) (fun j hj _ => zcst_le hv hR hl (by omega)) (by omega)
    refine Rq.b (fun _ => b6_11) (fun h11 => ?_) (fun h11 => ?_)
    · try simp (disch := omega) only [Int32.le_iff_toInt_le, Int32.lt_iff_toInt_lt, z_eq, z_nI, z_0, z_m1, z_sub, nI_add, nI_mulN, pk_sub, nI_clamp, Nat.reduceAdd, Nat.reduceMul, Nat.reduceSub, Nat.zero_add, Nat.add_zero] at h11
      all_goals (try (exfalso; omega))
      all_goals
        refine Rq.e (b6_58) ?_
        exact Qp.i (by rw [show i = zn V by omega]; rfl)
    · try simp (disch := omega) only [Int32.le_iff_toInt_le, Int32.lt_iff_toInt_lt, z_eq, z_nI, z_0, z_m1, z_sub, nI_add, nI_mulN, pk_sub, nI_clamp, Nat.reduceAdd, Nat.reduceMul, Nat.reduceSub, Nat.zero_add, Nat.add_zero] at h11
      all_goals (try (exfalso; omega))
      all_goals
        by_cases hb : ¬ R.testBit i = true
        · refine Rq.bt (fun _ => b6_17) (by rw [zB2 R hR1 i (by omega), if_neg hb]; decide) ?_
          refine Rq.s (fun _ => b6_52) ?_
          try simp (disch := omega) only [nI_add, nI_mulN, pk_sub, nI_clamp, Nat.reduceAdd, Nat.reduceMul, Nat.reduceSub, Nat.zero_add, Nat.add_zero]
          first
            | (have e := zba_F (ok := fun x => R.testBit x) (c := zcst V R l) (k := i) (fun z => hb z.1); have := ih _ (by omega) (i + 1) rfl (by omega); rw [e] at this; exact this)
            | (have e := zba_F (ok := fun x => R.testBit x) (c := zcst V R l) (k := i) (fun z => by have := z.2; omega); have := ih _ (by omega) (i + 1) rfl (by omega); rw [e] at this; exact this)
            | (have e := zba_T (ok := fun x => R.testBit x) (c := zcst V R l) (k := i) (Decidable.not_not.mp hb) (by omega); have := ih _ (by omega) (i + 1) rfl (by omega); rw [e] at this; exact this)
        · refine Rq.bf (fun _ => b6_17) (by rw [zB2 R hR1 i (by omega), if_pos (Decidable.not_not.mp hb)]; exact fun z => z rfl) ?_
          have hc := zcst_le hv hR hl (x := i) (by omega)
          refine Rq.s (fun _ => b6_27 (by (try simp (disch := omega) only [nI_add, nI_mulN, pk_sub, nI_clamp, Nat.reduceAdd, Nat.reduceMul, Nat.reduceSub, Nat.zero_add, Nat.add_zero]); exact m7 hv HJ hl (by omega) hR1 (HT i (by omega) (Decidable.not_not.mp hb)))) ?_
          refine Rq.b (fun _ => b6_35) (fun h35 => ?_) (fun h35 => ?_)
          · try simp (disch := omega) only [Int32.le_iff_toInt_le, Int32.lt_iff_toInt_lt, z_eq, z_nI, z_0, z_m1, z_sub, nI_add, nI_mulN, pk_sub, nI_clamp, Nat.reduceAdd, Nat.reduceMul, Nat.reduceSub, Nat.zero_add, Nat.add_zero] at h35
            all_goals (try (exfalso; omega))
            all_goals
              refine Rq.s (fun _ => b6_52b) ?_
              try simp (disch := omega) only [nI_add, nI_mulN, pk_sub, nI_clamp, Nat.reduceAdd, Nat.reduceMul, Nat.reduceSub, Nat.zero_add, Nat.add_zero]
              first
                | (have e := zba_F (ok := fun x => R.testBit x) (c := zcst V R l) (k := i) (fun z => hb z.1); have := ih _ (by omega) (i + 1) rfl (by omega); rw [e] at this; exact this)
                | (have e := zba_F (ok := fun x => R.testBit x) (c := zcst V R l) (k := i) (fun z => by have := z.2; omega); have := ih _ (by omega) (i + 1) rfl (by omega); rw [e] at this; exact this)
                | (have e := zba_T (ok := fun x => R.testBit x) (c := zcst V R l) (k := i) (Decidable.not_not.mp hb) (by omega); have := ih _ (by omega) (i + 1) rfl (by omega); rw [e] at this; exact this)
          · try simp (disch := omega) only [Int32.le_iff_toInt_le, Int32.lt_iff_toInt_lt, z_eq, z_nI, z_0, z_m1, z_sub, nI_add, nI_mulN, pk_sub, nI_clamp, Nat.reduceAdd, Nat.reduceMul, Nat.reduceSub, Nat.zero_add, Nat.add_zero] at h35
            all_goals (try (exfalso; omega))
            all_goals
              refine Rq.s (fun _ => b6_44) ?_
              refine Rq.s (fun _ => b6_52) ?_
              try simp (disch := omega) only [nI_add, nI_mulN, pk_sub, nI_clamp, Nat.reduceAdd, Nat.reduceMul, Nat.reduceSub, Nat.zero_add, Nat.add_zero]
              first
                | (have e := zba_F (ok := fun x => R.testBit x) (c := zcst V R l) (k := i) (fun z => hb z.1); have := ih _ (by omega) (i + 1) rfl (by omega); rw [e] at this; exact this)
                | (have e := zba_F (ok := fun x => R.testBit x) (c := zcst V R l) (k := i) (fun z => by have := z.2; omega); have := ih _ (by omega) (i + 1) rfl (by omega); rw [e] at this; exact this)
                | (have e := zba_T (ok := fun x => R.testBit x) (c := zcst V R l) (k := i) (Decidable.not_not.mp hb) (by omega); have := ih _ (by omega) (i + 1) rfl (by omega); rw [e] at this; exact this)
  refine Cq.p ?_
  refine Cq.c (fun _ _ _ => c6) ?_
  refine Rq.s (fun _ => b6_0) ?_
  try simp (disch := omega) only [nI_add, nI_mulN, pk_sub, nI_clamp, Nat.reduceAdd, Nat.reduceMul, Nat.reduceSub, Nat.zero_add, Nat.add_zero]
  exact L _ 0 rfl (by omega)
theorem m5 {sc : Nat × (Nat → Int32)} {d : Nat} {D : Nat → Nat → Int32} {G : Nat → Nat → Int64} {V : ZV} {s : Nat} (hv : Valid V) (HJ : JN D V) (hs : zRo V s) (h0 : s ≠ 0) (HT : TB D V s) : Cq sc (d + 2) 5 [.ref 15, .int (nI (zn V)), .int (nI s)] D G (fun r D2 => r = .inl none ∧ (∀ a, a ≠ 17 → D2 a = D a) ∧ TB D2 V (s + 1)) := by
  have h7 := hv.1
  have hs1 := hs.1
  have L : ∀ n i D3, zn V - i = n → i ≤ zn V → (∀ a, a ≠ 17 → D3 a = D a) → TB D3 V s → (∀ x, x < i → s.testBit x = true → D3 17 (s * 7 + x) = nI (zFF V (zclr s x) (some x))) → Rq sc (d + 2) 5 (2, [some (.ref 15), some (.int (nI (zn V))), some (.int (nI s)), some (.int (nI i)), none], [], (hx_S0, D3, G), 0) G (fun r D2 => r = .inl none ∧ (∀ a, a ≠ 17 → D2 a = D a) ∧ TB D2 V (s + 1)) := by
    intro n
    induction n using Nat.strongRecOn with
    | _ n ih =>
    intro i D3 hm hi hI hT hC
    have HJ3 : JN D3 V := fun l x h1 h2 => by rw [hI 16 (by omega)]; exact HJ l x h1 h2
    refine Rq.b (fun _ => b5_2) (fun h2 => ?_) (fun h2 => ?_)
    · try simp (disch := omega) only [Int32.le_iff_toInt_le, Int32.lt_iff_toInt_lt, z_eq, z_nI, z_0, z_m1, z_sub, nI_add, nI_mulN, pk_sub, nI_clamp, Nat.reduceAdd, Nat.reduceMul, Nat.reduceSub, Nat.zero_add, Nat.add_zero] at h2
      all_goals (try (exfalso; omega))
      all_goals
        refine Rq.e (b5_63) ?_
        refine ⟨rfl, hI, fun R0 h1 h2 h3 x h4 h5 => ?_⟩
        by_cases e : R0 = s
        · subst e
          exact hC x (by omega) h5
        · exact hT R0 (by omega) h2 h3 x h4 h5
    · try simp (disch := omega) only [Int32.le_iff_toInt_le, Int32.lt_iff_toInt_lt, z_eq, z_nI, z_0, z_m1, z_sub, nI_add, nI_mulN, pk_sub, nI_clamp, Nat.reduceAdd, Nat.reduceMul, Nat.reduceSub, Nat.zero_add, Nat.add_zero] at h2
      all_goals (try (exfalso; omega))
      all_goals
        have zBs := zB1 s hs1 i (by omega)
        have hcl := zclr_le hs1 (i := i) (by omega)
        by_cases hb : ¬ s.testBit i = true
        · refine Rq.bt (fun _ => b5_7) (by rw [zB1 s hs1 i (by omega)]; unfold zclr; rw [if_neg hb]) ?_
          try simp (disch := omega) only [nI_add, nI_mulN, pk_sub, nI_clamp, Nat.reduceAdd, Nat.reduceMul, Nat.reduceSub, Nat.zero_add, Nat.add_zero, zBs]
          refine Rq.s (fun _ => b5_57) ?_
          try simp (disch := omega) only [nI_add, nI_mulN, pk_sub, nI_clamp, Nat.reduceAdd, Nat.reduceMul, Nat.reduceSub, Nat.zero_add, Nat.add_zero, zBs]
          exact ih _ (by omega) (i + 1) D3 rfl (by omega) hI hT (fun x h1 h2 => by by_cases e : x = i; (exact absurd (e ▸ h2) hb); exact hC x (by omega) h2)
        · refine Rq.bf (fun _ => b5_7) (by have := (zclr_lt s hs1 i (by omega) (Decidable.not_not.mp hb)).1; rw [zB1 s hs1 i (by omega)]; intro z; have := (nI_eq (by omega) (by omega)).mp z; omega) ?_
          try simp (disch := omega) only [nI_add, nI_mulN, pk_sub, nI_clamp, Nat.reduceAdd, Nat.reduceMul, Nat.reduceSub, Nat.zero_add, Nat.add_zero, zBs]
          refine Rq.b (fun _ => b5_22) (fun h22 => ?_) (fun h22 => ?_)
          · try simp (disch := omega) only [Int32.le_iff_toInt_le, Int32.lt_iff_toInt_lt, z_eq, z_nI, z_0, z_m1, z_sub, nI_add, nI_mulN, pk_sub, nI_clamp, Nat.reduceAdd, Nat.reduceMul, Nat.reduceSub, Nat.zero_add, Nat.add_zero, zBs] at h22
            all_goals (try (exfalso; omega))
            all_goals (try simp (disch := omega) only [nI_add, nI_mulN, pk_sub, nI_clamp, Nat.reduceAdd, Nat.reduceMul, Nat.reduceSub, Nat.zero_add, Nat.add_zero, zBs])
            all_goals
              have hro := zRo_clr hv hs (x := i) (by omega)
              obtain ⟨b, e1, e2, e3, e4⟩ := zpk_some hv hro (by omega) (l := some i) (fun y h => by cases h; omega)
              refine Rq.s (fun _ => b5_41 (by (try simp (disch := omega) only [nI_add, nI_mulN, pk_sub, nI_clamp, Nat.reduceAdd, Nat.reduceMul, Nat.reduceSub, Nat.zero_add, Nat.add_zero, zBs]); exact (by have := m6 (sc := sc) (d := d) (G := G) (l := some i) hv HJ3 (fun y h => by cases h; omega) hro (fun x h1 h2 => hT _ (by have := (zclr_lt s hs1 i (by omega) (Decidable.not_not.mp hb)).1; omega) (by omega) hro x h1 h2); rw [e1] at this; exact this))) ?_
              refine Rq.s (fun _ => b5_51 (by (try simp (disch := omega) only [nI_add, nI_mulN, pk_sub, nI_clamp, Nat.reduceAdd, Nat.reduceMul, Nat.reduceSub, Nat.zero_add, Nat.add_zero, zBs]); exact m7 (l := some i) hv HJ3 (fun y h => by cases h; omega) e2 (by omega) (hT _ (by have := (zclr_lt s hs1 i (by omega) (Decidable.not_not.mp hb)).1; omega) (by omega) hro b e2 e3))) ?_
              refine Rq.s (fun _ => b5_56b (by (try simp (disch := omega) only [nI_add, nI_mulN, pk_sub, nI_clamp, Nat.reduceAdd, Nat.reduceMul, Nat.reduceSub, Nat.zero_add, Nat.add_zero, zBs]); exact nI_inbT (by omega) (by omega))) ?_
              try simp (disch := omega) only [nI_add, nI_mulN, pk_sub, nI_clamp, Nat.reduceAdd, Nat.reduceMul, Nat.reduceSub, Nat.zero_add, Nat.add_zero, zBs]
              refine Rq.s (fun _ => b5_57) ?_
              try simp (disch := omega) only [nI_add, nI_mulN, pk_sub, nI_clamp, Nat.reduceAdd, Nat.reduceMul, Nat.reduceSub, Nat.zero_add, Nat.add_zero, zBs]
              refine ih _ (by omega) (i + 1) _ rfl (by omega) (fun a ha => by rw [hx_up_ne ha]; exact hI a ha) (fun R0 h1 h2 h3 x h4 h5 => ?_) (fun x h1 h2 => ?_)
              · rw [hx_up_in _ _ _ (by omega)]
                exact hT R0 h1 h2 h3 x h4 h5
              · by_cases e : x = i
                · rw [e, hx_up_s]
                  show _ = nI (zFF V (zclr s i) (some i))
                  rw [e4]
                  rfl
                · rw [hx_up_in _ _ _ (by omega)]
                  exact hC x (by omega) h2
          · try simp (disch := omega) only [Int32.le_iff_toInt_le, Int32.lt_iff_toInt_lt, z_eq, z_nI, z_0, z_m1, z_sub, nI_add, nI_mulN, pk_sub, nI_clamp, Nat.reduceAdd, Nat.reduceMul, Nat.reduceSub, Nat.zero_add, Nat.add_zero, zBs] at h22
            all_goals (try (exfalso; omega))
            all_goals (try simp (disch := omega) only [nI_add, nI_mulN, pk_sub, nI_clamp, Nat.reduceAdd, Nat.reduceMul, Nat.reduceSub, Nat.zero_add, Nat.add_zero, zBs])
            all_goals
              refine Rq.s (fun _ => b5_37) ?_
              try simp (disch := omega) only [nI_add, nI_mulN, pk_sub, nI_clamp, Nat.reduceAdd, Nat.reduceMul, Nat.reduceSub, Nat.zero_add, Nat.add_zero, zBs]
              refine Rq.s (fun _ => b5_56 (by (try simp (disch := omega) only [nI_add, nI_mulN, pk_sub, nI_clamp, Nat.reduceAdd, Nat.reduceMul, Nat.reduceSub, Nat.zero_add, Nat.add_zero, zBs]); exact nI_inbT (by omega) (by omega))) ?_
              try simp (disch := omega) only [nI_add, nI_mulN, pk_sub, nI_clamp, Nat.reduceAdd, Nat.reduceMul, Nat.reduceSub, Nat.zero_add, Nat.add_zero, zBs]
              refine Rq.s (fun _ => b5_57b) ?_
              try simp (disch := omega) only [nI_add, nI_mulN, pk_sub, nI_clamp, Nat.reduceAdd, Nat.reduceMul, Nat.reduceSub, Nat.zero_add, Nat.add_zero, zBs]
              refine ih _ (by omega) (i + 1) _ rfl (by omega) (fun a ha => by rw [hx_up_ne ha]; exact hI a ha) (fun R0 h1 h2 h3 x h4 h5 => ?_) (fun x h1 h2 => ?_)
              · rw [hx_up_in _ _ _ (by omega)]
                exact hT R0 h1 h2 h3 x h4 h5
              · by_cases e : x = i
                · rw [e, hx_up_s]
                  show _ = nI (zFF V (zclr s i) (some i))
                  rw [show zclr s i = 0 by omega, zFF_0]
                · rw [hx_up_in _ _ _ (by omega)]
                  exact hC x (by omega) h2
  refine Cq.c (fun _ _ _ => c5) ?_
  refine Rq.s (fun _ => b5_0) ?_
  try simp (disch := omega) only [nI_add, nI_mulN, pk_sub, nI_clamp, Nat.reduceAdd, Nat.reduceMul, Nat.reduceSub, Nat.zero_add, Nat.add_zero]
  exact L _ 0 D rfl (by omega) (fun a _ => rfl) HT (fun x h => absurd h (Nat.not_lt_zero _))
theorem m4 {sc : Nat × (Nat → Int32)} {d : Nat} {D : Nat → Nat → Int32} {G : Nat → Nat → Int64} {V : ZV} (R : RepC D 1 V) (hv : Valid V) : Cq sc (d + 1) 4 [.ref 15, .ref 1] D G (fun r D2 => r = .inl none ∧ (∀ a, a ≠ 16 → D2 a = D a) ∧ JN D2 V) := by
  obtain ⟨r0, r1, rw, re, rc, rh, rr, rs0, rs1⟩ := rC R
  obtain ⟨h7, vw, ve, vh, vE, vr, vj, vs0, vs1⟩ := id hv
  have L : ∀ n i D3, zn V - i = n → i ≤ zn V → (∀ a, a ≠ 16 → D3 a = D a) → (∀ l x, l < i → x < zn V → D3 16 (l * 7 + x) = nI (zj V l x)) → Rq sc (d + 1) 4 (2, [some (.ref 15), some (.ref 1), some (.int (nI i)), none], [], (hx_S0, D3, G), 0) G (fun r D2 => r = .inl none ∧ (∀ a, a ≠ 16 → D2 a = D a) ∧ JN D2 V) := by
    intro n
    induction n using Nat.strongRecOn with
    | _ n ih =>
    intro i D3 hm hi hI hC
    have k1 : D3 1 = D 1 := hI 1 (by omega)
    have M : ∀ n j D4, zn V - j = n → i < zn V → j ≤ zn V → (∀ a, a ≠ 16 → D4 a = D a) → (∀ l x, l < i → x < zn V → D4 16 (l * 7 + x) = nI (zj V l x)) → (∀ x, x < j → D4 16 (i * 7 + x) = nI (zj V i x)) → Rq sc (d + 1) 4 (12, [some (.ref 15), some (.ref 1), some (.int (nI i)), some (.int (nI j))], [], (hx_S0, D4, G), 0) G (fun r D2 => r = .inl none ∧ (∀ a, a ≠ 16 → D2 a = D a) ∧ JN D2 V) := by
      intro n
      induction n using Nat.strongRecOn with
      | _ n ih2 =>
      intro j D4 hm2 hi2 hj hI2 hC2 hE
      have k1 : D4 1 = D 1 := hI2 1 (by omega)
      refine Rq.b (fun _ => b4_12) (fun h12 => ?_) (fun h12 => ?_)
      · try simp (disch := omega) only [Int32.le_iff_toInt_le, Int32.lt_iff_toInt_lt, z_eq, z_nI, z_0, z_m1, z_sub, nI_add, nI_mulN, pk_sub, nI_clamp, Nat.reduceAdd, Nat.reduceMul, Nat.reduceSub, Nat.zero_add, Nat.add_zero, k1, r0] at h12
        all_goals (try (exfalso; omega))
        all_goals
          refine Rq.s (fun _ => b4_43) ?_
          try simp (disch := omega) only [nI_add, nI_mulN, pk_sub, nI_clamp, Nat.reduceAdd, Nat.reduceMul, Nat.reduceSub, Nat.zero_add, Nat.add_zero, k1, r0]
          exact ih _ (by omega) (i + 1) D4 rfl (by omega) hI2 (fun l x h1 h2 => by by_cases e : l = i; (rw [e]; exact hE x (by omega)); exact hC2 l x (by omega) h2)
      · try simp (disch := omega) only [Int32.le_iff_toInt_le, Int32.lt_iff_toInt_lt, z_eq, z_nI, z_0, z_m1, z_sub, nI_add, nI_mulN, pk_sub, nI_clamp, Nat.reduceAdd, Nat.reduceMul, Nat.reduceSub, Nat.zero_add, Nat.add_zero, k1, r0] at h12
        all_goals (try (exfalso; omega))
        all_goals
          refine Rq.s (fun _ => b4_20 (by (try simp (disch := omega) only [nI_add, nI_mulN, pk_sub, nI_clamp, Nat.reduceAdd, Nat.reduceMul, Nat.reduceSub, Nat.zero_add, Nat.add_zero, k1, r0]); exact m46 (RepC_k (fun a h1 h2 => hI2 a (by omega)) R) hv (by omega) (by omega))) ?_
          try simp (disch := omega) only [nI_add, nI_mulN, pk_sub, nI_clamp, Nat.reduceAdd, Nat.reduceMul, Nat.reduceSub, Nat.zero_add, Nat.add_zero, k1, r0]
          refine Rq.s (fun _ => b4_36 (by (try simp (disch := omega) only [nI_add, nI_mulN, pk_sub, nI_clamp, Nat.reduceAdd, Nat.reduceMul, Nat.reduceSub, Nat.zero_add, Nat.add_zero, k1, r0]); exact nI_inbT (by omega) (by omega))) ?_
          try simp (disch := omega) only [nI_add, nI_mulN, pk_sub, nI_clamp, Nat.reduceAdd, Nat.reduceMul, Nat.reduceSub, Nat.zero_add, Nat.add_zero, k1, r0]
          refine ih2 _ (by omega) (j + 1) _ rfl hi2 (by omega) (fun a ha => by rw [hx_up_ne ha]; exact hI2 a ha) (fun l x h1 h2 => ?_) (fun x h1 => ?_)
          · rw [hx_up_in _ _ _ (by omega)]
            exact hC2 l x h1 h2
          · by_cases e : x = j
            · rw [e, hx_up_s]
            · rw [hx_up_in _ _ _ (by omega)]
              exact hE x (by omega)
    refine Rq.b (fun _ => b4_2) (fun h2 => ?_) (fun h2 => ?_)
    · try simp (disch := omega) only [Int32.le_iff_toInt_le, Int32.lt_iff_toInt_lt, z_eq, z_nI, z_0, z_m1, z_sub, nI_add, nI_mulN, pk_sub, nI_clamp, Nat.reduceAdd, Nat.reduceMul, Nat.reduceSub, Nat.zero_add, Nat.add_zero, k1, r0] at h2
      all_goals (try (exfalso; omega))
      all_goals
        refine Rq.e (b4_49) ?_
        exact ⟨rfl, hI, fun l x h1 h2 => hC l x (by omega) h2⟩
    · try simp (disch := omega) only [Int32.le_iff_toInt_le, Int32.lt_iff_toInt_lt, z_eq, z_nI, z_0, z_m1, z_sub, nI_add, nI_mulN, pk_sub, nI_clamp, Nat.reduceAdd, Nat.reduceMul, Nat.reduceSub, Nat.zero_add, Nat.add_zero, k1, r0] at h2
      all_goals (try (exfalso; omega))
      all_goals
        refine Rq.s (fun _ => b4_10) ?_
        try simp (disch := omega) only [nI_add, nI_mulN, pk_sub, nI_clamp, Nat.reduceAdd, Nat.reduceMul, Nat.reduceSub, Nat.zero_add, Nat.add_zero, k1, r0]
        exact M _ 0 D3 rfl (by omega) (by omega) hI hC (fun x h => absurd h (Nat.not_lt_zero _))
  refine Cq.c (fun _ _ _ => c4) ?_
  refine Rq.s (fun _ => b4_0) ?_
  try simp (disch := omega) only [nI_add, nI_mulN, pk_sub, nI_clamp, Nat.reduceAdd, Nat.reduceMul, Nat.reduceSub, Nat.zero_add, Nat.add_zero]
  exact L _ 0 D rfl (by omega) (fun a _ => rfl) (fun l x h => absurd h (Nat.not_lt_zero _))
theorem zRo_lt {V : ZV} (hv : Valid V) {s : Nat} (h : s ≤ 2 ^ zn V - 1) : zRo V s := by
  have h7 := hv.1
  have hp : 2 ^ zn V ≤ 2 ^ 7 := Nat.pow_le_pow_right (by omega) h7
  refine ⟨by omega, fun i hi hb => ?_⟩
  by_cases e : i < zn V
  · exact e
  · have h1 := Nat.ge_two_pow_of_testBit hb
    have h2 : 2 ^ zn V ≤ 2 ^ i := Nat.pow_le_pow_right (by omega) (by omega)
    have h3 : 0 < 2 ^ zn V := Nat.two_pow_pos _
    omega
theorem m3 {sc : Nat × (Nat → Int32)} {d : Nat} {D : Nat → Nat → Int32} {G : Nat → Nat → Int64} {V : ZV} (R : RepC D 1 V) (hv : Valid V) : Cq sc (d + 3) 3 [.ref 15, .ref 1] D G (fun r D2 => r = .inl none ∧ (∀ a, a ≠ 16 → a ≠ 17 → a ≠ 18 → D2 a = D a) ∧ (∀ i, i < zn V → D2 18 i = nI (zbr V i))) := by
  obtain ⟨r0, r1, rw, re, rc, rh, rr, rs0, rs1⟩ := rC R
  obtain ⟨h7, vw, ve, vh, vE, vr, vj, vs0, vs1⟩ := id hv
  have hp : 2 ^ zn V ≤ 2 ^ 7 := Nat.pow_le_pow_right (by omega) h7
  have hp0 : 0 < 2 ^ zn V := Nat.two_pow_pos _
  have b4 := zB4 (zn V) (by omega)
  have P : ∀ n k D3, zn V - k = n → k ≤ zn V → (∀ a, a ≠ 16 → a ≠ 17 → a ≠ 18 → D3 a = D a) → JN D3 V → TB D3 V (2 ^ zn V) → (∀ i, i < k → D3 18 i = nI (zbr V i)) → Rq sc (d + 3) 3 (44, [some (.ref 15), some (.ref 1), none, some (.int (zo (zks V k).2)), some (.int (nI (zks V k).1)), some (.int (nI k))], [], (hx_S0, D3, G), 0) G (fun r D2 => r = .inl none ∧ (∀ a, a ≠ 16 → a ≠ 17 → a ≠ 18 → D2 a = D a) ∧ (∀ i, i < zn V → D2 18 i = nI (zbr V i))) := by
    intro n
    induction n using Nat.strongRecOn with
    | _ n ih =>
    intro k D3 hm hk hI HJ HT hC
    have k1 : D3 1 = D 1 := hI 1 (by omega) (by omega) (by omega)
    obtain ⟨g1, g2, g3, g4⟩ := zks_ok hv k hk
    have gl := g1.1
    refine Rq.b (fun _ => b3_44) (fun h44 => ?_) (fun h44 => ?_)
    · try simp (disch := omega) only [Int32.le_iff_toInt_le, Int32.lt_iff_toInt_lt, z_eq, z_nI, z_0, z_m1, z_sub, nI_add, nI_mulN, pk_sub, nI_clamp, Nat.reduceAdd, Nat.reduceMul, Nat.reduceSub, Nat.zero_add, Nat.add_zero, k1, r0] at h44
      all_goals (try (exfalso; omega))
      all_goals
        refine Rq.e (b3_89) ?_
        exact ⟨rfl, hI, fun i hi => hC i (by omega)⟩
    · try simp (disch := omega) only [Int32.le_iff_toInt_le, Int32.lt_iff_toInt_lt, z_eq, z_nI, z_0, z_m1, z_sub, nI_add, nI_mulN, pk_sub, nI_clamp, Nat.reduceAdd, Nat.reduceMul, Nat.reduceSub, Nat.zero_add, Nat.add_zero, k1, r0] at h44
      all_goals (try (exfalso; omega))
      all_goals
        have gk := zbr_ok hv (k := k) (by omega)
        have gb := gk.2.1
        have b1 := zB1 _ gl (zbr V k) (by omega)
        refine Rq.s (fun _ => b3_53 (by (try simp (disch := omega) only [k1, r0]); have := m6 (sc := sc) (d := d + 1) (G := G) hv HJ g3 g1 (fun x h1 h2 => HT _ (by have := Nat.ge_two_pow_of_testBit h2; have := zall_bit (zn V) (by omega); by_cases e : (zks V k).1 < 2 ^ zn V; (exact e); exact absurd (Nat.lt_pow_two_of_testBit (zks V k).1 (n := zn V) (fun i hi => by by_cases c : i < 7; (exact Bool.eq_false_iff.mpr (fun z => by have := g1.2 i c z; omega)); (exact Nat.testBit_lt_two_pow (Nat.lt_of_lt_of_le gl (Nat.pow_le_pow_right (n := 2) (by omega) (show 7 ≤ i by omega)))))) e) (fun z => by rw [z] at h2; simp at h2) g1 x h1 h2); exact this)) ?_
        show Rq sc (d + 3) 3 (64, [some (.ref 15), some (.ref 1), none, some (.int (zo (zks V k).2)), some (.int (nI (zks V k).1)), some (.int (nI k))], [.int (nI (zbr V k))], (hx_S0, D3, G), 0) G _
        refine Rq.s (fun _ => b3_64 (by (try simp (disch := omega) only [nI_add, nI_mulN, pk_sub, nI_clamp, Nat.reduceAdd, Nat.reduceMul, Nat.reduceSub, Nat.zero_add, Nat.add_zero, k1, r0, b1]); exact nI_inbT (by omega) (by omega))) ?_
        try simp (disch := omega) only [nI_add, nI_mulN, pk_sub, nI_clamp, Nat.reduceAdd, Nat.reduceMul, Nat.reduceSub, Nat.zero_add, Nat.add_zero, k1, r0, b1]
        refine Rq.s (fun _ => b3_83) ?_
        try simp (disch := omega) only [nI_add, nI_mulN, pk_sub, nI_clamp, Nat.reduceAdd, Nat.reduceMul, Nat.reduceSub, Nat.zero_add, Nat.add_zero, k1, r0, b1]
        have := ih _ (by omega) (k + 1) (hx_up D3 18 k (nI (zbr V k))) rfl (by omega) (fun a h1 h2 h3 => by rw [hx_up_ne h3]; exact hI a h1 h2 h3) (fun l x h1 h2 => by rw [hx_up_ne (by omega)]; exact HJ l x h1 h2) (fun R0 q1 q2 q3 x q4 q5 => by rw [hx_up_ne (by omega)]; exact HT R0 q1 q2 q3 x q4 q5) (fun i hi => by by_cases e : i = k; (rw [e, hx_up_s]); rw [hx_up_in _ _ _ e]; exact hC i (by omega))
        rw [gk.2.2.2.2] at this
        exact this
  have L : ∀ n s D3, 2 ^ zn V - s = n → 1 ≤ s → s ≤ 2 ^ zn V → (∀ a, a ≠ 16 → a ≠ 17 → a ≠ 18 → D3 a = D a) → JN D3 V → TB D3 V s → Rq sc (d + 3) 3 (16, [some (.ref 15), some (.ref 1), some (.int (nI (2 ^ zn V - 1))), some (.int (nI s)), none, none], [], (hx_S0, D3, G), 0) G (fun r D2 => r = .inl none ∧ (∀ a, a ≠ 16 → a ≠ 17 → a ≠ 18 → D2 a = D a) ∧ (∀ i, i < zn V → D2 18 i = nI (zbr V i))) := by
    intro n
    induction n using Nat.strongRecOn with
    | _ n ih =>
    intro s D3 hm h1 hs hI HJ HT
    have k1 : D3 1 = D 1 := hI 1 (by omega) (by omega) (by omega)
    refine Rq.b (fun _ => b3_16) (fun h16 => ?_) (fun h16 => ?_)
    · try simp (disch := omega) only [Int32.le_iff_toInt_le, Int32.lt_iff_toInt_lt, z_eq, z_nI, z_0, z_m1, z_sub, nI_add, nI_mulN, pk_sub, nI_clamp, Nat.reduceAdd, Nat.reduceMul, Nat.reduceSub, Nat.zero_add, Nat.add_zero, k1, r0] at h16
      all_goals (try (exfalso; omega))
      all_goals
        refine Rq.s (fun _ => b3_36) ?_
        try simp (disch := omega) only [nI_add, nI_mulN, pk_sub, nI_clamp, Nat.reduceAdd, Nat.reduceMul, Nat.reduceSub, Nat.zero_add, Nat.add_zero, k1, r0]
        exact P _ 0 D3 rfl (by omega) hI HJ (by rw [show 2 ^ zn V = s by omega]; exact HT) (fun i h => absurd h (Nat.not_lt_zero _))
    · try simp (disch := omega) only [Int32.le_iff_toInt_le, Int32.lt_iff_toInt_lt, z_eq, z_nI, z_0, z_m1, z_sub, nI_add, nI_mulN, pk_sub, nI_clamp, Nat.reduceAdd, Nat.reduceMul, Nat.reduceSub, Nat.zero_add, Nat.add_zero, k1, r0] at h16
      all_goals (try (exfalso; omega))
      all_goals
        have hR := zRo_lt hv (s := s) (by omega)
        obtain ⟨_, D4, hC4, rfl, e1, e2⟩ := m5 (sc := sc) (d := d) (G := G) hv HJ hR (by omega) HT
        refine Rq.s (fun _ => b3_21 (by rw [k1, r0]; exact hC4)) ?_
        refine Rq.s (fun _ => b3_30) ?_
        try simp (disch := omega) only [nI_add, nI_mulN, pk_sub, nI_clamp, Nat.reduceAdd, Nat.reduceMul, Nat.reduceSub, Nat.zero_add, Nat.add_zero, k1, r0]
        exact ih _ (by omega) (s + 1) D4 rfl (by omega) (by omega) (fun a q1 q2 q3 => by rw [e1 a q2]; exact hI a q1 q2 q3) (fun l x q1 q2 => by rw [e1 16 (by omega)]; exact HJ l x q1 q2) e2
  refine Cq.c (fun _ _ _ => c3) ?_
  obtain ⟨_, D4, hC4, rfl, e1, e2⟩ := m4 (sc := sc) (d := d + 1) (G := G) R hv
  refine Rq.s (fun _ => b3_0 hC4) ?_
  have k1 : D4 1 = D 1 := e1 1 (by omega)
  refine Rq.s (fun _ => b3_5) ?_
  try simp (disch := omega) only [nI_add, nI_mulN, pk_sub, nI_clamp, Nat.reduceAdd, Nat.reduceMul, Nat.reduceSub, Nat.zero_add, Nat.add_zero, k1, r0, b4]
  exact L _ 1 D4 rfl (by omega) (by omega) (fun a q1 q2 q3 => e1 a q1) e2 (fun R0 q1 q2 => absurd q1 (by omega))
theorem m1 {sc : Nat × (Nat → Int32)} {d : Nat} {D : Nat → Nat → Int32} {G : Nat → Nat → Int64} {V : ZV} (R : RepC D 1 V) (hv : Valid V) : Cq sc (d + 4) 1 [.ref 15, .ref 1] D G (fun r D2 => r = .inl (some (.int (nI (zleast V)))) ∧ ∀ a, a ≠ 16 → a ≠ 17 → a ≠ 18 → D2 a = D a) := by
  obtain ⟨r0, r1, rw, re, rc, rh, rr, rs0, rs1⟩ := rC R
  obtain ⟨h7, vw, ve, vh, vE, vr, vj, vs0, vs1⟩ := id hv
  obtain ⟨_, D4, hC4, rfl, e1, e2⟩ := m3 (sc := sc) (d := d) (G := G) R hv
  refine Cq.c (fun _ _ _ => c1) ?_
  refine Rq.s (fun _ => b1_0 hC4) ?_
  refine Rq.s (fun _ => b1_5 (by (try simp (disch := omega) only [nI_add, nI_mulN, pk_sub, nI_clamp, Nat.reduceAdd, Nat.reduceMul, Nat.reduceSub, Nat.zero_add, Nat.add_zero]); exact m47_2 (RepC_k (fun a h1 h2 => e1 a (by omega) (by omega) (by omega)) R) hv e2 (fun i hi => (zbr_ok hv hi).2.1))) ?_
  refine Rq.e (b1_13) ?_
  refine ⟨?_, e1⟩
  rw [zleast_eq hv]
theorem m8 {sc : Nat × (Nat → Int32)} {d : Nat} {D : Nat → Nat → Int32} {G : Nat → Nat → Int64} {V : ZV} (hv : Valid V) (HJ : JN D V) : ∀ (m : Nat) (l : Option Nat) (U Rs dep dear known : Nat), zRo V Rs → U < 128 → (∀ x, x < zn V → U.testBit x = !Rs.testBit x) → zpc Rs = m → dep + m = zn V → (∀ y, l = some y → y < zn V) → dear ≤ 38 * dep → known ≤ 1000 → Cl sc (d + m) 8 [.ref 16, .int (nI (zn V)), .int (zo l), .int (nI U), .int (nI dep), .int (nI dear), .int (nI known)] (hx_S0, D, G) (.inl (some (.int (nI (min known (dear + zFF V Rs l)))))) (hx_S0, D, G) := by
  have h7 := hv.1
  intro m
  induction m with
  | zero =>
    intro l U Rs dep dear known hR hU hUR hpc hdep hl hdear hknown
    refine Cq.p ?_
    have h0 : Rs = 0 := (zpc_0 Rs hR.1).mp hpc
    refine Cq.c (fun _ _ _ => c8) ?_
    refine Rq.bf (fun _ => b8_0) (nI_nlt (by omega) (by omega)) ?_
    refine Rq.e (b8_6) ?_
    refine Qp.i ?_
    rw [h0, zFF_0, z_min _ _ (by omega) (by omega)]
    congr 1
    split <;> omega
  | succ m ihm =>
    intro l U Rs dep dear known hR hU hUR hpc hdep hl hdear hknown
    refine Cq.p ?_
    cases l with
    | none =>
      have L : ∀ n i f, zn V - i = n → i ≤ zn V → f = min known (dear + zla (zcst V Rs none) (zba (fun x => Rs.testBit x) (zcst V Rs none) i)) → Rq sc (d + (m + 1)) 8 (21, [some (.ref 16), some (.int (nI (zn V))), some (.int (zo none)), some (.int (nI U)), some (.int (nI dep)), some (.int (nI dear)), none, some (.int (nI f)), some (.int (nI i)), none, none], [], (hx_S0, D, G), 0) G (Qp (nI (min known (dear + zFF V Rs none))) D) := by
        intro n
        induction n using Nat.strongRecOn with
        | _ n ih =>
        intro i f hm hi hf
        refine Rq.b (fun _ => b8_21) (fun h21 => ?_) (fun h21 => ?_)
        · try simp (disch := omega) only [Int32.le_iff_toInt_le, Int32.lt_iff_toInt_lt, z_eq, z_nI, z_0, z_m1, z_sub, nI_add, nI_mulN, pk_sub, nI_clamp, Nat.reduceAdd, Nat.reduceMul, Nat.reduceSub, Nat.zero_add, Nat.add_zero, z_min] at h21
          all_goals (try (exfalso; omega))
          all_goals
            refine Rq.e (b8_102) ?_
            refine Qp.i ?_
            rw [hf, show i = zn V by omega, zFF_eq hv hR (fun z => by have := (zpc_0 Rs hR.1).mpr z; omega)]
            rfl
        · try simp (disch := omega) only [Int32.le_iff_toInt_le, Int32.lt_iff_toInt_lt, z_eq, z_nI, z_0, z_m1, z_sub, nI_add, nI_mulN, pk_sub, nI_clamp, Nat.reduceAdd, Nat.reduceMul, Nat.reduceSub, Nat.zero_add, Nat.add_zero, z_min] at h21
          all_goals (try (exfalso; omega))
          all_goals
            have bS := zB3 U hU i (by omega)
            have bU : U.testBit i = !Rs.testBit i := hUR i (by omega)
            have hc := zcst_le hv hR hl (x := i) (by omega)
            have hcl := zRo_clr hv hR (x := i) (by omega)
            have hc2 : zcst V Rs none i = 0 + zFF V (zclr Rs i) (some i) := rfl
            refine Rq.bf (fun _ => b8_27) (fun z => z rfl) ?_
            refine Rq.s (fun _ => b8_32) ?_
            try simp (disch := omega) only [nI_add, nI_mulN, pk_sub, nI_clamp, Nat.reduceAdd, Nat.reduceMul, Nat.reduceSub, Nat.zero_add, Nat.add_zero, z_min, bS]
            by_cases hb : U.testBit i = true
            · refine Rq.bt (fun _ => b8_45) (by rw [zB2 U hU i (by omega), if_pos hb]; decide) ?_
              refine Rq.s (fun _ => b8_96) ?_
              try simp (disch := omega) only [nI_add, nI_mulN, pk_sub, nI_clamp, Nat.reduceAdd, Nat.reduceMul, Nat.reduceSub, Nat.zero_add, Nat.add_zero, z_min, bS]
              refine ih _ (by omega) (i + 1) _ rfl (by omega) ?_
              rw [zba_F (ok := fun x => Rs.testBit x) (fun z => by have z1 : Rs.testBit i = true := z.1; rw [bU, z1] at hb; exact absurd hb (by decide))]
              exact hf
            · refine Rq.bf (fun _ => b8_45) (by rw [zB2 U hU i (by omega), if_neg hb]; exact fun z => z rfl) ?_
              refine Rq.b (fun _ => b8_56) (fun h56 => ?_) (fun h56 => ?_)
              · try simp (disch := omega) only [Int32.le_iff_toInt_le, Int32.lt_iff_toInt_lt, z_eq, z_nI, z_0, z_m1, z_sub, nI_add, nI_mulN, pk_sub, nI_clamp, Nat.reduceAdd, Nat.reduceMul, Nat.reduceSub, Nat.zero_add, Nat.add_zero, z_min, bS] at h56
                all_goals (try (exfalso; omega))
                all_goals
                  refine Rq.s (fun _ => b8_96) ?_
                  try simp (disch := omega) only [nI_add, nI_mulN, pk_sub, nI_clamp, Nat.reduceAdd, Nat.reduceMul, Nat.reduceSub, Nat.zero_add, Nat.add_zero, z_min, bS]
                  have bR : Rs.testBit i = true := by rw [Bool.not_eq_true] at hb; rw [bU] at hb; simpa using hb
                  refine ih _ (by omega) (i + 1) _ rfl (by omega) ?_
                  by_cases c : zcst V Rs none i < zla (zcst V Rs none) (zba (fun x => Rs.testBit x) (zcst V Rs none) i)
                  · rw [zba_T (ok := fun x => Rs.testBit x) bR c]
                    show _ = min known (dear + zcst V Rs none i)
                    omega
                  · rw [zba_F (ok := fun x => Rs.testBit x) (fun z => c z.2)]
                    exact hf
              · try simp (disch := omega) only [Int32.le_iff_toInt_le, Int32.lt_iff_toInt_lt, z_eq, z_nI, z_0, z_m1, z_sub, nI_add, nI_mulN, pk_sub, nI_clamp, Nat.reduceAdd, Nat.reduceMul, Nat.reduceSub, Nat.zero_add, Nat.add_zero, z_min, bS] at h56
                all_goals (try (exfalso; omega))
                all_goals
                  have bR : Rs.testBit i = true := by rw [Bool.not_eq_true] at hb; rw [bU] at hb; simpa using hb
                  have hpc := (zclr_lt Rs hR.1 i (by omega) bR).2
                  have hrec := ihm (some i) (zset U i) (zclr Rs i) (dep + 1) (dear + 0) f hcl (zset_bit U hU i (by omega)).1 (fun x hx => by rw [(zset_bit U hU i (by omega)).2.2 x (by omega), zclr_bit Rs hR.1 i (by omega) x (by omega), hUR x hx]; by_cases e : x = i <;> simp [e]) (by omega) (by omega) (fun z hz => by cases hz; omega) (by omega) (by omega)
                  refine Rq.s (fun _ => b8_66 (by (try simp (disch := omega) only [nI_add, bS, Nat.add_zero]); exact hrec)) ?_
                  try simp (disch := omega) only [nI_add, nI_mulN, pk_sub, nI_clamp, Nat.reduceAdd, Nat.reduceMul, Nat.reduceSub, Nat.zero_add, Nat.add_zero, z_min, bS]
                  refine Rq.s (fun _ => b8_94) ?_
                  refine Rq.s (fun _ => b8_96b) ?_
                  try simp (disch := omega) only [nI_add, nI_mulN, pk_sub, nI_clamp, Nat.reduceAdd, Nat.reduceMul, Nat.reduceSub, Nat.zero_add, Nat.add_zero, z_min, bS]
                  have bR : Rs.testBit i = true := by rw [Bool.not_eq_true] at hb; rw [bU] at hb; simpa using hb
                  refine ih _ (by omega) (i + 1) _ rfl (by omega) ?_
                  by_cases c : zcst V Rs none i < zla (zcst V Rs none) (zba (fun x => Rs.testBit x) (zcst V Rs none) i)
                  · rw [zba_T (ok := fun x => Rs.testBit x) bR c]
                    show _ = min known (dear + zcst V Rs none i)
                    omega
                  · rw [zba_F (ok := fun x => Rs.testBit x) (fun z => c z.2)]
                    omega
      refine Cq.c (fun _ _ _ => c8) ?_
      refine Rq.bt (fun _ => b8_0) (nI_lt (by omega) (by omega)) ?_
      refine Rq.s (fun _ => b8_14) ?_
      try simp (disch := omega) only [nI_add, nI_mulN, pk_sub, nI_clamp, Nat.reduceAdd, Nat.reduceMul, Nat.reduceSub, Nat.zero_add, Nat.add_zero]
      exact L _ 0 known rfl (by omega) (by show _ = min known (dear + 1000); omega)
    | some y =>
      have hy := hl y rfl
      have hzo : zo (some y) = nI y := rfl
      have L : ∀ n i f, zn V - i = n → i ≤ zn V → f = min known (dear + zla (zcst V Rs (some y)) (zba (fun x => Rs.testBit x) (zcst V Rs (some y)) i)) → Rq sc (d + (m + 1)) 8 (21, [some (.ref 16), some (.int (nI (zn V))), some (.int (zo (some y))), some (.int (nI U)), some (.int (nI dep)), some (.int (nI dear)), none, some (.int (nI f)), some (.int (nI i)), none, none], [], (hx_S0, D, G), 0) G (Qp (nI (min known (dear + zFF V Rs (some y)))) D) := by
        intro n
        induction n using Nat.strongRecOn with
        | _ n ih =>
        intro i f hm hi hf
        refine Rq.b (fun _ => b8_21) (fun h21 => ?_) (fun h21 => ?_)
        · try simp (disch := omega) only [Int32.le_iff_toInt_le, Int32.lt_iff_toInt_lt, z_eq, z_nI, z_0, z_m1, z_sub, nI_add, nI_mulN, pk_sub, nI_clamp, Nat.reduceAdd, Nat.reduceMul, Nat.reduceSub, Nat.zero_add, Nat.add_zero, z_min, hzo] at h21
          all_goals (try (exfalso; omega))
          all_goals
            refine Rq.e (b8_102) ?_
            refine Qp.i ?_
            rw [hf, show i = zn V by omega, zFF_eq hv hR (fun z => by have := (zpc_0 Rs hR.1).mpr z; omega)]
            rfl
        · try simp (disch := omega) only [Int32.le_iff_toInt_le, Int32.lt_iff_toInt_lt, z_eq, z_nI, z_0, z_m1, z_sub, nI_add, nI_mulN, pk_sub, nI_clamp, Nat.reduceAdd, Nat.reduceMul, Nat.reduceSub, Nat.zero_add, Nat.add_zero, z_min, hzo] at h21
          all_goals (try (exfalso; omega))
          all_goals
            have bS := zB3 U hU i (by omega)
            have bU : U.testBit i = !Rs.testBit i := hUR i (by omega)
            have hc := zcst_le hv hR hl (x := i) (by omega)
            have hcl := zRo_clr hv hR (x := i) (by omega)
            have hc2 : zcst V Rs (some y) i = zj V y i + zFF V (zclr Rs i) (some i) := rfl
            have hJi := HJ y i hy (by omega)
            have hj38 := zj_le hv hy (s := i) (by omega)
            refine Rq.bt (fun _ => b8_27) (zo_ne (by omega)) ?_
            refine Rq.s (fun _ => b8_36 (by (try simp (disch := omega) only [nI_add, nI_mulN, pk_sub, nI_clamp, Nat.reduceAdd, Nat.reduceMul, Nat.reduceSub, Nat.zero_add, Nat.add_zero, z_min, hzo, bS, hJi]); exact nI_inbT (by omega) (by omega))) ?_
            try simp (disch := omega) only [nI_add, nI_mulN, pk_sub, nI_clamp, Nat.reduceAdd, Nat.reduceMul, Nat.reduceSub, Nat.zero_add, Nat.add_zero, z_min, hzo, bS, hJi]
            by_cases hb : U.testBit i = true
            · refine Rq.bt (fun _ => b8_45) (by rw [zB2 U hU i (by omega), if_pos hb]; decide) ?_
              refine Rq.s (fun _ => b8_96) ?_
              try simp (disch := omega) only [nI_add, nI_mulN, pk_sub, nI_clamp, Nat.reduceAdd, Nat.reduceMul, Nat.reduceSub, Nat.zero_add, Nat.add_zero, z_min, hzo, bS, hJi]
              refine ih _ (by omega) (i + 1) _ rfl (by omega) ?_
              rw [zba_F (ok := fun x => Rs.testBit x) (fun z => by have z1 : Rs.testBit i = true := z.1; rw [bU, z1] at hb; exact absurd hb (by decide))]
              exact hf
            · refine Rq.bf (fun _ => b8_45) (by rw [zB2 U hU i (by omega), if_neg hb]; exact fun z => z rfl) ?_
              refine Rq.b (fun _ => b8_56) (fun h56 => ?_) (fun h56 => ?_)
              · try simp (disch := omega) only [Int32.le_iff_toInt_le, Int32.lt_iff_toInt_lt, z_eq, z_nI, z_0, z_m1, z_sub, nI_add, nI_mulN, pk_sub, nI_clamp, Nat.reduceAdd, Nat.reduceMul, Nat.reduceSub, Nat.zero_add, Nat.add_zero, z_min, hzo, bS, hJi] at h56
                all_goals (try (exfalso; omega))
                all_goals
                  refine Rq.s (fun _ => b8_96) ?_
                  try simp (disch := omega) only [nI_add, nI_mulN, pk_sub, nI_clamp, Nat.reduceAdd, Nat.reduceMul, Nat.reduceSub, Nat.zero_add, Nat.add_zero, z_min, hzo, bS, hJi]
                  have bR : Rs.testBit i = true := by rw [Bool.not_eq_true] at hb; rw [bU] at hb; simpa using hb
                  refine ih _ (by omega) (i + 1) _ rfl (by omega) ?_
                  by_cases c : zcst V Rs (some y) i < zla (zcst V Rs (some y)) (zba (fun x => Rs.testBit x) (zcst V Rs (some y)) i)
                  · rw [zba_T (ok := fun x => Rs.testBit x) bR c]
                    show _ = min known (dear + zcst V Rs (some y) i)
                    omega
                  · rw [zba_F (ok := fun x => Rs.testBit x) (fun z => c z.2)]
                    exact hf
              · try simp (disch := omega) only [Int32.le_iff_toInt_le, Int32.lt_iff_toInt_lt, z_eq, z_nI, z_0, z_m1, z_sub, nI_add, nI_mulN, pk_sub, nI_clamp, Nat.reduceAdd, Nat.reduceMul, Nat.reduceSub, Nat.zero_add, Nat.add_zero, z_min, hzo, bS, hJi] at h56
                all_goals (try (exfalso; omega))
                all_goals
                  have bR : Rs.testBit i = true := by rw [Bool.not_eq_true] at hb; rw [bU] at hb; simpa using hb
                  have hpc := (zclr_lt Rs hR.1 i (by omega) bR).2
                  have hrec := ihm (some i) (zset U i) (zclr Rs i) (dep + 1) (dear + zj V y i) f hcl (zset_bit U hU i (by omega)).1 (fun x hx => by rw [(zset_bit U hU i (by omega)).2.2 x (by omega), zclr_bit Rs hR.1 i (by omega) x (by omega), hUR x hx]; by_cases e : x = i <;> simp [e]) (by omega) (by omega) (fun z hz => by cases hz; omega) (by omega) (by omega)
                  refine Rq.s (fun _ => b8_66 (by (try simp (disch := omega) only [nI_add, bS, hzo, hJi, nI_clamp, nI_mulN, Nat.add_zero]); exact hrec)) ?_
                  try simp (disch := omega) only [nI_add, nI_mulN, pk_sub, nI_clamp, Nat.reduceAdd, Nat.reduceMul, Nat.reduceSub, Nat.zero_add, Nat.add_zero, z_min, bS]
                  refine Rq.s (fun _ => b8_94) ?_
                  refine Rq.s (fun _ => b8_96b) ?_
                  try simp (disch := omega) only [nI_add, nI_mulN, pk_sub, nI_clamp, Nat.reduceAdd, Nat.reduceMul, Nat.reduceSub, Nat.zero_add, Nat.add_zero, z_min, bS]
                  have bR : Rs.testBit i = true := by rw [Bool.not_eq_true] at hb; rw [bU] at hb; simpa using hb
                  refine ih _ (by omega) (i + 1) _ rfl (by omega) ?_
                  by_cases c : zcst V Rs (some y) i < zla (zcst V Rs (some y)) (zba (fun x => Rs.testBit x) (zcst V Rs (some y)) i)
                  · rw [zba_T (ok := fun x => Rs.testBit x) bR c]
                    show _ = min known (dear + zcst V Rs (some y) i)
                    omega
                  · rw [zba_F (ok := fun x => Rs.testBit x) (fun z => c z.2)]
                    omega
      refine Cq.c (fun _ _ _ => c8) ?_
      refine Rq.bt (fun _ => b8_0) (nI_lt (by omega) (by omega)) ?_
      refine Rq.s (fun _ => b8_14) ?_
      try simp (disch := omega) only [nI_add, nI_mulN, pk_sub, nI_clamp, Nat.reduceAdd, Nat.reduceMul, Nat.reduceSub, Nat.zero_add, Nat.add_zero]
      exact L _ 0 known rfl (by omega) (by show _ = min known (dear + 1000); omega)
theorem m2 {sc : Nat × (Nat → Int32)} {d : Nat} {D : Nat → Nat → Int32} {G : Nat → Nat → Int64} {V : ZV} (R : RepC D 1 V) (hv : Valid V) : Cq sc (d + 8) 2 [.ref 15, .ref 1] D G (fun r D2 => r = .inl (some (.int (nI (zleast V)))) ∧ ∀ a, a ≠ 16 → D2 a = D a) := by
  obtain ⟨r0, r1, rw, re, rc, rh, rr, rs0, rs1⟩ := rC R
  obtain ⟨h7, vw, ve, vh, vE, vr, vj, vs0, vs1⟩ := id hv
  obtain ⟨_, D4, hC4, rfl, e1, e2⟩ := m4 (sc := sc) (d := d + 6) (G := G) R hv
  have k1 : D4 1 = D 1 := e1 1 (by omega)
  have hall := zall_bit (zn V) (by omega)
  have hle : zleast V ≤ 266 := zFF_le hv (zRo_lt hv (Nat.le_refl _)) (fun y h => by cases h)
  have h8 := m8 (sc := sc) (d := d + (7 - zn V)) (G := G) hv e2 (zn V) none 0 (2 ^ zn V - 1) 0 0 1000 (zRo_lt hv (Nat.le_refl _)) (by omega) (fun x hx => by rw [hall.2.2 x (by omega), decide_eq_true hx]; simp) hall.2.1 (by omega) (fun y h => by cases h) (by omega) (Nat.le_refl _)
  rw [show d + (7 - zn V) + zn V = d + 7 by omega, show min 1000 (0 + zFF V (2 ^ zn V - 1) none) = zleast V by have : zleast V = zFF V (2 ^ zn V - 1) none := rfl; omega] at h8
  refine Cq.c (fun _ _ _ => c2) ?_
  refine Rq.s (fun _ => b2_0 hC4) ?_
  refine Rq.s (fun _ => b2_5 (by rw [k1, r0]; exact h8)) ?_
  refine Rq.e (b2_23) ?_
  exact ⟨rfl, e1⟩
