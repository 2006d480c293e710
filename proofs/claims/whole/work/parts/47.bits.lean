/-! ===== the bits of a mean, by the class's way ===== -/
def fBits (v : UInt32) : Int32 := if (Op.cmpValue (FP.fcmp v (FP.fconst0)) .l) = 0 then nI 0 else if fge v (FP.fconst0) then (match fN v with
  | some q => nI q.2 * nI 8388608 + fM q.1
  | none => 0) else (match fN (FP.fneg v) with
  | some q => (nI q.2 * nI 8388608 + fM q.1) ||| (-2147483648)
  | none => 0)
def dBits (v : UInt64) : Int64 := if (Op.cmpValue (FP.dcmp v (FP.dconst0)) .l) = 0 then 0 else (match dN v with
  | some q => lN q.2 * (4503599627370496) + dM q.1
  | none => 0)
theorem fN_spec {v : UInt32} (h : fW v = true) : ∃ q1 q2, fU 13 v 127 = some q1 ∧ fD 12 q1.1 q1.2 = some q2 ∧ fN v = some q2 ∧ fok (FP.fsub q2.1 (FP.fconst1)) = true ∧ fok (FP.fmul (FP.fsub q2.1 (FP.fconst1)) (1258291200)) = true ∧ (nI 0 ||| (nI q2.2 <<< ((nI 23) &&& 31))) ||| fM q2.1 = nI q2.2 * nI 8388608 + fM q2.1 := by
  unfold fW at h
  cases e : fN v with
  | none => rw [e] at h; cases h
  | some q =>
    unfold fN at e
    cases e1 : fU 13 v 127 with
    | none => rw [e1] at e; cases e
    | some q1 =>
      rw [e1] at e
      dsimp only at e
      cases e2 : fD 12 q1.1 q1.2 with
      | none => rw [e2] at e; cases e
      | some q2 =>
        rw [e2] at e
        dsimp only at e
        split at e
        · rename_i c
          cases e
          exact ⟨q1, q, rfl, e2, rfl, c.1, c.2.1, c.2.2⟩
        · cases e
theorem dN_spec {v : UInt64} (h : dW v = true) : ∃ q1 q2, dU 13 v 1023 = some q1 ∧ dD 12 q1.1 q1.2 = some q2 ∧ dN v = some q2 ∧ dok (FP.dsub q2.1 (FP.dconst1)) = true ∧ dok (FP.dmul (FP.dsub q2.1 (FP.dconst1)) (4841369599423283200)) = true ∧ (lN q2.2 <<< ((nI 52).toInt64 &&& 63)) ||| dM q2.1 = lN q2.2 * (4503599627370496) + dM q2.1 := by
  unfold dW at h
  cases e : dN v with
  | none => rw [e] at h; cases h
  | some q =>
    unfold dN at e
    cases e1 : dU 13 v 1023 with
    | none => rw [e1] at e; cases e
    | some q1 =>
      rw [e1] at e
      dsimp only at e
      cases e2 : dD 12 q1.1 q1.2 with
      | none => rw [e2] at e; cases e
      | some q2 =>
        rw [e2] at e
        dsimp only at e
        split at e
        · rename_i c
          cases e
          exact ⟨q1, q, rfl, e2, rfl, c.1, c.2.1, c.2.2⟩
        · cases e
theorem m98u {sc : Nat × (Nat → Int32)} {d : Nat} {D : Nat → Nat → Int32} {G : Nat → Nat → Int64} {Q : hx_RS → (Nat → Nat → Int32) → Prop} {v : UInt32} {q : UInt32 × Nat} : ∀ (k : Nat) (x : UInt32) (e : Nat) (i : Nat) , fU k x e = some q → i + k ≤ 100 → (∀ i, Rq sc d 98 (51, [some (.float v), some (.float q.1), some (.int (nI q.2)), some (.int i)], [], (hx_S0, D, G), 0) G Q) → Rq sc d 98 (26, [some (.float v), some (.float x), some (.int (nI e)), some (.int (nI i))], [], (hx_S0, D, G), 0) G Q
  | 0, _, _, _, h, _, _ => by cases h
  | k + 1, x, e, i, h, hi, K => by
    unfold fU at h
    refine Rq.bf (fun _ => b98_26) (nI_ge (by omega) (by omega)) ?_
    by_cases c : flt x (FP.fconst2)
    · rw [if_pos c] at h
      cases h
      exact Rq.bt (fun _ => b98_32) c (K _)
    · rw [if_neg c, fr_eq] at h
      split at h
      · rename_i ho
        refine Rq.bf (fun _ => b98_32) c ?_
        refine Rq.s (fun _ => b98_38 ho) ?_
        simp only [nI_add]
        exact m98u k _ _ _ h (by omega) K
      · cases h
theorem m98d {sc : Nat × (Nat → Int32)} {d : Nat} {D : Nat → Nat → Int32} {G : Nat → Nat → Int64} {Q : hx_RS → (Nat → Nat → Int32) → Prop} {v : UInt32} {q : UInt32 × Nat} : ∀ (k : Nat) (x : UInt32) (e : Nat) (i : Nat) , fD k x e = some q → i + k ≤ 100 → (∀ i, Rq sc d 98 (78, [some (.float v), some (.float q.1), some (.int (nI q.2)), some (.int i)], [], (hx_S0, D, G), 0) G Q) → Rq sc d 98 (53, [some (.float v), some (.float x), some (.int (nI e)), some (.int (nI i))], [], (hx_S0, D, G), 0) G Q
  | 0, _, _, _, h, _, _ => by cases h
  | k + 1, x, e, i, h, hi, K => by
    unfold fD at h
    refine Rq.bf (fun _ => b98_53) (nI_ge (by omega) (by omega)) ?_
    split at h
    · cases h
    · rename_i c0
      by_cases c : fge x (FP.fconst1)
      · rw [if_pos c] at h
        cases h
        exact Rq.bt (fun _ => b98_59) c (K _)
      · rw [if_neg c] at h
        split at h
        · cases h
        · rename_i he
          rw [fr_eq] at h
          split at h
          · rename_i ho
            refine Rq.bf (fun _ => b98_59) c ?_
            refine Rq.s (fun _ => b98_65 ho) ?_
            rw [pk_m1s (by omega), nI_add]
            exact m98d k _ _ _ h (by omega) K
          · cases h
theorem m175u {sc : Nat × (Nat → Int32)} {d : Nat} {D : Nat → Nat → Int32} {G : Nat → Nat → Int64} {Q : hx_RS → (Nat → Nat → Int32) → Prop} {v : UInt32} {q : UInt32 × Nat} : ∀ (k : Nat) (x : UInt32) (e : Nat) , fU k x e = some q → (Rq sc d 175 (32, [some (.float v), some (.float q.1), some (.int (nI q.2)), none], [], (hx_S0, D, G), 0) G Q) → Rq sc d 175 (16, [some (.float v), some (.float x), some (.int (nI e)), none], [], (hx_S0, D, G), 0) G Q
  | 0, _, _, h, _ => by cases h
  | k + 1, x, e, h, K => by
    unfold fU at h
    by_cases c : flt x (FP.fconst2)
    · rw [if_pos c] at h
      cases h
      exact Rq.bt (fun _ => b175_16) c K
    · rw [if_neg c, fr_eq] at h
      split at h
      · rename_i ho
        refine Rq.bf (fun _ => b175_16) c ?_
        refine Rq.s (fun _ => b175_22 ho) ?_
        simp only [nI_add]
        exact m175u k _ _ h K
      · cases h
theorem m175d {sc : Nat × (Nat → Int32)} {d : Nat} {D : Nat → Nat → Int32} {G : Nat → Nat → Int64} {Q : hx_RS → (Nat → Nat → Int32) → Prop} {v : UInt32} {q : UInt32 × Nat} : ∀ (k : Nat) (x : UInt32) (e : Nat) , fD k x e = some q → (Rq sc d 175 (54, [some (.float v), some (.float q.1), some (.int (nI q.2)), none], [], (hx_S0, D, G), 0) G Q) → Rq sc d 175 (32, [some (.float v), some (.float x), some (.int (nI e)), none], [], (hx_S0, D, G), 0) G Q
  | 0, _, _, h, _ => by cases h
  | k + 1, x, e, h, K => by
    unfold fD at h
    split at h
    · cases h
    · rename_i c0
      refine Rq.bf (fun _ => b175_32) c0 ?_
      by_cases c : fge x (FP.fconst1)
      · rw [if_pos c] at h
        cases h
        exact Rq.bt (fun _ => b175_38) c K
      · rw [if_neg c] at h
        split at h
        · cases h
        · rename_i he
          rw [fr_eq] at h
          split at h
          · rename_i ho
            refine Rq.bf (fun _ => b175_38) c ?_
            refine Rq.s (fun _ => b175_44 ho) ?_
            rw [pk_m1s (by omega)]
            exact m175d k _ _ h K
          · cases h
theorem m98 {sc : Nat × (Nat → Int32)} {d : Nat} {D : Nat → Nat → Int32} {G : Nat → Nat → Int64} {v : UInt32} (h : fA v) : Cl sc d 98 [.float v] (hx_S0, D, G) (.inl (some (.int (fBits v)))) (hx_S0, D, G) := by
  refine Cq.pv ?_
  refine Cq.c (fun _ _ _ => c98) ?_
  unfold fBits
  rcases h.2.2 with ⟨h1, h2, h3⟩ | ⟨h1, h2, h3⟩ | ⟨h1, h2, h3⟩
  · rw [if_pos h1]
    exact Rq.bf (fun _ => b98_0) (fun z => z h1) (Rq.e b98_6 ⟨rfl, rfl⟩)
  · obtain ⟨q1, q2, e1, e2, e3, e4, e5, e6⟩ := fN_spec h3
    rw [if_neg h1, if_pos h2, e3]
    refine Rq.bt (fun _ => b98_0) h1 ?_
    refine Rq.bt (fun _ => b98_8) h2 ?_
    refine Rq.s (fun _ => b98_19) ?_
    refine Rq.s (fun _ => b98_20) ?_
    refine m98u 13 v 127 0 e1 (by omega) (fun i => ?_)
    refine Rq.s (fun _ => b98_51) ?_
    refine m98d 12 q1.1 q1.2 0 e2 (by omega) (fun i => ?_)
    refine Rq.bt (fun _ => b98_78) h2 ?_
    refine Rq.s (fun _ => b98_90) ?_
    refine Rq.e (b98_91 e4 e5) ⟨?_, rfl⟩
    show Sum.inl (some (Value.int ((nI 0 ||| (nI q2.2 <<< ((nI 23) &&& 31))) ||| fM q2.1))) = _
    rw [e6]
  · obtain ⟨q1, q2, e1, e2, e3, e4, e5, e6⟩ := fN_spec h3
    rw [if_neg h1, if_neg h2, e3]
    refine Rq.bt (fun _ => b98_0) h1 ?_
    refine Rq.bf (fun _ => b98_8) h2 ?_
    refine Rq.s (fun _ => b98_14) ?_
    refine Rq.s (fun _ => b98_20) ?_
    refine m98u 13 _ 127 0 e1 (by omega) (fun i => ?_)
    refine Rq.s (fun _ => b98_51) ?_
    refine m98d 12 q1.1 q1.2 0 e2 (by omega) (fun i => ?_)
    refine Rq.bf (fun _ => b98_78) h2 ?_
    refine Rq.s (fun _ => b98_84) ?_
    refine Rq.e (b98_91b e4 e5) ⟨?_, rfl⟩
    show Sum.inl (some (Value.int (((-2147483648) ||| (nI q2.2 <<< ((nI 23) &&& 31))) ||| fM q2.1))) = _
    dsimp only
    rw [← e6, nI_0, Int32.zero_or, Int32.or_assoc, Int32.or_comm (-2147483648)]
theorem m175 {sc : Nat × (Nat → Int32)} {d : Nat} {D : Nat → Nat → Int32} {G : Nat → Nat → Int64} {v : UInt32} (h : fA v) : Cl sc d 175 [.float v] (hx_S0, D, G) (.inl (some (.int (fBits v)))) (hx_S0, D, G) := by
  refine Cq.pv ?_
  refine Cq.c (fun _ _ _ => c175) ?_
  unfold fBits
  rcases h.2.2 with ⟨h1, h2, h3⟩ | ⟨h1, h2, h3⟩ | ⟨h1, h2, h3⟩
  · rw [if_pos h1]
    refine Rq.bt (fun _ => b175_0) h2 ?_
    refine Rq.s (fun _ => b175_11) ?_
    refine Rq.s (fun _ => b175_12) ?_
    refine Rq.bt (fun _ => b175_16) h3 ?_
    refine Rq.bt (fun _ => b175_32) (by rw [h1]; decide) ?_
    refine Rq.bf (fun _ => b175_54) (fun z => z h1) ?_
    refine Rq.s (fun _ => b175_60) ?_
    refine Rq.bt (fun _ => b175_76b) h2 ?_
    refine Rq.s (fun _ => b175_90) ?_
    exact Rq.e b175_91 ⟨rfl, rfl⟩
  · obtain ⟨q1, q2, e1, e2, e3, e4, e5, e6⟩ := fN_spec h3
    rw [if_neg h1, if_pos h2, e3]
    refine Rq.bt (fun _ => b175_0) h2 ?_
    refine Rq.s (fun _ => b175_11) ?_
    refine Rq.s (fun _ => b175_12) ?_
    refine m175u 13 v 127 e1 ?_
    refine m175d 12 q1.1 q1.2 e2 ?_
    refine Rq.bt (fun _ => b175_54) h1 ?_
    refine Rq.s (fun _ => b175_64 e4 e5) ?_
    refine Rq.bt (fun _ => b175_76) h2 ?_
    refine Rq.s (fun _ => b175_90) ?_
    exact Rq.e b175_91 ⟨rfl, rfl⟩
  · obtain ⟨q1, q2, e1, e2, e3, e4, e5, e6⟩ := fN_spec h3
    rw [if_neg h1, if_neg h2, e3]
    refine Rq.bf (fun _ => b175_0) h2 ?_
    refine Rq.s (fun _ => b175_6) ?_
    refine Rq.s (fun _ => b175_12) ?_
    refine m175u 13 _ 127 e1 ?_
    refine m175d 12 q1.1 q1.2 e2 ?_
    refine Rq.bt (fun _ => b175_54) h1 ?_
    refine Rq.s (fun _ => b175_64 e4 e5) ?_
    refine Rq.bf (fun _ => b175_76) h2 ?_
    refine Rq.s (fun _ => b175_83) ?_
    exact Rq.e b175_91b ⟨rfl, rfl⟩
theorem m99u {sc : Nat × (Nat → Int32)} {d : Nat} {D : Nat → Nat → Int32} {G : Nat → Nat → Int64} {Q : hx_RS → (Nat → Nat → Int32) → Prop} {q : UInt64 × Nat} : ∀ (k : Nat) (x : UInt64) (e : Nat) (i : Nat) , dU k x e = some q → i + k ≤ 100 → (∀ i, Rq sc d 99 (52, [none, none, some (.double q.1), none, some (.long (lN q.2)), none, some (.int i)], [], (hx_S0, D, G), 0) G Q) → Rq sc d 99 (18, [none, none, some (.double x), none, some (.long (lN e)), none, some (.int (nI i))], [], (hx_S0, D, G), 0) G Q
  | 0, _, _, _, h, _, _ => by cases h
  | k + 1, x, e, i, h, hi, K => by
    unfold dU at h
    refine Rq.bf (fun _ => b99_18) (nI_ge (by omega) (by omega)) ?_
    refine Rq.s (fun _ => b99_26) ?_
    by_cases c : dlt x (4611686018427387904)
    · rw [if_pos c] at h
      cases h
      exact Rq.bt (fun _ => b99_31) c (K _)
    · rw [if_neg c, dr_eq] at h
      split at h
      · rename_i ho
        refine Rq.bf (fun _ => b99_31) c ?_
        refine Rq.s (fun _ => b99_34 ho) ?_
        refine Rq.s (fun _ => b99_39) ?_
        refine Rq.s (fun _ => b99_43) ?_
        refine Rq.s (fun _ => b99_49) ?_
        rw [lN_1, nI_add]
        exact m99u k _ _ _ h (by omega) K
      · cases h
theorem m99d {sc : Nat × (Nat → Int32)} {d : Nat} {D : Nat → Nat → Int32} {G : Nat → Nat → Int64} {Q : hx_RS → (Nat → Nat → Int32) → Prop} {q : UInt64 × Nat} : ∀ (k : Nat) (x : UInt64) (e : Nat) (i : Nat) , dD k x e = some q → i + k ≤ 100 → (∀ i, Rq sc d 99 (87, [none, none, some (.double q.1), none, some (.long (lN q.2)), none, some (.int i)], [], (hx_S0, D, G), 0) G Q) → Rq sc d 99 (55, [none, none, some (.double x), none, some (.long (lN e)), none, some (.int (nI i))], [], (hx_S0, D, G), 0) G Q
  | 0, _, _, _, h, _, _ => by cases h
  | k + 1, x, e, i, h, hi, K => by
    unfold dD at h
    refine Rq.bf (fun _ => b99_55) (nI_ge (by omega) (by omega)) ?_
    refine Rq.s (fun _ => b99_63) ?_
    by_cases c : dge x (FP.dconst1)
    · rw [if_pos c] at h
      cases h
      exact Rq.bt (fun _ => b99_66) c (K _)
    · rw [if_neg c] at h
      split at h
      · cases h
      · rename_i he
        rw [dr_eq] at h
        split at h
        · rename_i ho
          refine Rq.bf (fun _ => b99_66) c ?_
          refine Rq.s (fun _ => b99_69 ho) ?_
          refine Rq.s (fun _ => b99_74) ?_
          refine Rq.s (fun _ => b99_78) ?_
          refine Rq.s (fun _ => b99_84) ?_
          rw [show lN e - 1 = lN (e - 1) from lN_sub (b := 1) (by omega), nI_add]
          exact m99d k _ _ _ h (by omega) K
        · cases h
theorem m176u {sc : Nat × (Nat → Int32)} {d : Nat} {D : Nat → Nat → Int32} {G : Nat → Nat → Int64} {Q : hx_RS → (Nat → Nat → Int32) → Prop} {q : UInt64 × Nat} : ∀ (k : Nat) (x : UInt64) (e : Nat) , dU k x e = some q → (Rq sc d 176 (38, [none, none, some (.double q.1), none, some (.long (lN q.2)), none], [], (hx_S0, D, G), 0) G Q) → Rq sc d 176 (15, [none, none, some (.double x), none, some (.long (lN e)), none], [], (hx_S0, D, G), 0) G Q
  | 0, _, _, h, _ => by cases h
  | k + 1, x, e, h, K => by
    unfold dU at h
    refine Rq.s (fun _ => b176_15) ?_
    by_cases c : dlt x (4611686018427387904)
    · rw [if_pos c] at h
      cases h
      exact Rq.bt (fun _ => b176_20) c K
    · rw [if_neg c, dr_eq] at h
      split at h
      · rename_i ho
        refine Rq.bf (fun _ => b176_20) c ?_
        refine Rq.s (fun _ => b176_23 ho) ?_
        refine Rq.s (fun _ => b176_28) ?_
        refine Rq.s (fun _ => b176_32) ?_
        rw [lN_1]
        exact m176u k _ _ h K
      · cases h
theorem m176d {sc : Nat × (Nat → Int32)} {d : Nat} {D : Nat → Nat → Int32} {G : Nat → Nat → Int64} {Q : hx_RS → (Nat → Nat → Int32) → Prop} {q : UInt64 × Nat} : ∀ (k : Nat) (x : UInt64) (e : Nat) , dD k x e = some q → (Rq sc d 176 (59, [none, none, some (.double q.1), none, some (.long (lN q.2)), none], [], (hx_S0, D, G), 0) G Q) → Rq sc d 176 (38, [none, none, some (.double x), none, some (.long (lN e)), none], [], (hx_S0, D, G), 0) G Q
  | 0, _, _, h, _ => by cases h
  | k + 1, x, e, h, K => by
    unfold dD at h
    refine Rq.s (fun _ => b176_38) ?_
    by_cases c : dge x (FP.dconst1)
    · rw [if_pos c] at h
      cases h
      exact Rq.bt (fun _ => b176_41) c K
    · rw [if_neg c] at h
      split at h
      · cases h
      · rename_i he
        rw [dr_eq] at h
        split at h
        · rename_i ho
          refine Rq.bf (fun _ => b176_41) c ?_
          refine Rq.s (fun _ => b176_44 ho) ?_
          refine Rq.s (fun _ => b176_49) ?_
          refine Rq.s (fun _ => b176_53) ?_
          rw [show lN e - 1 = lN (e - 1) from lN_sub (b := 1) (by omega)]
          exact m176d k _ _ h K
        · cases h
theorem m99 {sc : Nat × (Nat → Int32)} {d : Nat} {D : Nat → Nat → Int32} {G : Nat → Nat → Int64} {v : UInt64} (h : dA v) : Cl sc d 99 [.double v] (hx_S0, D, G) (.inl (some (.long (dBits v)))) (hx_S0, D, G) := by
  refine Cq.pv ?_
  refine Cq.c (fun _ _ _ => c99) ?_
  unfold dBits
  refine Rq.s (fun _ => b99_0) ?_
  rcases h.2 with ⟨h1, h2⟩ | ⟨h1, h2, h3⟩
  · rw [if_pos h1]
    exact Rq.bf (fun _ => b99_3) h2 (Rq.e b99_6 ⟨rfl, rfl⟩)
  · obtain ⟨q1, q2, e1, e2, e3, e4, e5, e6⟩ := dN_spec h3
    rw [if_neg h1, e3]
    refine Rq.bt (fun _ => b99_3) h2 ?_
    refine Rq.s (fun _ => b99_8) ?_
    refine Rq.s (fun _ => b99_13) ?_
    refine m99u 13 v 1023 0 e1 (by omega) (fun i => ?_)
    refine Rq.s (fun _ => b99_52) ?_
    refine m99d 12 q1.1 q1.2 0 e2 (by omega) (fun i => ?_)
    refine Rq.s (fun _ => b99_87) ?_
    refine Rq.s (fun _ => b99_92 e4) ?_
    refine Rq.s (fun _ => b99_95 e5) ?_
    refine Rq.e b99_100 ⟨?_, rfl⟩
    show Sum.inl (some (Value.long ((lN q2.2 <<< ((nI 52).toInt64 &&& 63)) ||| dM q2.1))) = _
    rw [e6]
theorem m176 {sc : Nat × (Nat → Int32)} {d : Nat} {D : Nat → Nat → Int32} {G : Nat → Nat → Int64} {v : UInt64} (h : dA v) : Cl sc d 176 [.double v] (hx_S0, D, G) (.inl (some (.long (dBits v)))) (hx_S0, D, G) := by
  refine Cq.pv ?_
  refine Cq.c (fun _ _ _ => c176) ?_
  unfold dBits
  refine Rq.s (fun _ => b176_0) ?_
  rcases h.2 with ⟨h1, h2⟩ | ⟨h1, h2, h3⟩
  · rw [if_pos h1]
    exact Rq.bf (fun _ => b176_3) (fun z => z h1) (Rq.e b176_6 ⟨rfl, rfl⟩)
  · obtain ⟨q1, q2, e1, e2, e3, e4, e5, e6⟩ := dN_spec h3
    rw [if_neg h1, e3]
    refine Rq.bt (fun _ => b176_3) h1 ?_
    refine Rq.s (fun _ => b176_8) ?_
    refine Rq.s (fun _ => b176_13) ?_
    refine m176u 13 v 1023 e1 ?_
    refine m176d 12 q1.1 q1.2 e2 ?_
    refine Rq.s (fun _ => b176_59) ?_
    refine Rq.s (fun _ => b176_65 e4) ?_
    refine Rq.s (fun _ => b176_68 e5) ?_
    exact Rq.e b176_73 ⟨rfl, rfl⟩
