/-! ===== the reference: what moves numbers about ===== -/
/-- only the row has changed, to w -/
def QRow (V : ZV) (w : Nat → Nat) (D : Nat → Nat → Int32) : hx_RS → (Nat → Nat → Int32) → Prop := fun r D2 => r = .inl none ∧ (∀ i, i < zn V → D2 80 (91 + i) = nI (w i)) ∧ (∀ j, j < 91 ∨ 98 ≤ j → D2 80 j = D 80 j) ∧ ∀ a, a ≠ 80 → D2 a = D a
theorem RepM_row {D D2 : Nat → Nat → Int32} {V : ZV} {w : Nat → Nat} (R : RepM D 80 0 V) (hv : Valid V) (h1 : ∀ i, i < zn V → D2 80 (91 + i) = nI (w i)) (h2 : ∀ j, j < 91 ∨ 98 ≤ j → D2 80 j = D 80 j) : RepM D2 80 0 (zn V, zm V, zw V, ze V, zh V, w, zs V) := by
  have h7 := hv.1
  obtain ⟨a, b, c, e, f, g, h, i⟩ := R
  simp only [Nat.zero_add] at a b c e f g h i
  refine ⟨?_, ?_, fun p hp => ?_, fun p j hp hj => ?_, fun p hp => ?_, fun i hi => ?_, ?_, ?_⟩ <;> simp only [Nat.zero_add]
  · rw [h2 98 (by omega)]; exact a
  · rw [h2 99 (by omega)]; exact b
  · have hp2 : p < zn V := hp
    rw [h2 _ (by omega)]; exact c p hp
  · have hp2 : p < zn V := hp
    rw [h2 _ (by omega)]; exact e p j hp hj
  · have hp2 : p < zn V := hp
    rw [h2 _ (by omega), h2 _ (by omega)]; exact f p hp
  · exact h1 i hi
  · rw [h2 100 (by omega)]; exact h
  · rw [h2 101 (by omega)]; exact i
theorem m117 {sc : Nat × (Nat → Int32)} {d : Nat} {D : Nat → Nat → Int32} {G : Nat → Nat → Int64} {V : ZV} {p pl : Nat} (R : RepM D 80 0 V) (hv : Valid V) (hp : p < zn V) (hpl : pl < zn V) : Cq sc (d + 1) 117 [.ref 79, .int (nI p), .int (nI pl)] D G (QRow V (zmv V p pl) D) := by
  obtain ⟨s0, s1, sw, se, sb, sr, ss0, ss1⟩ := rM R
  obtain ⟨h7, vw, ve, vh, vE, vr, vj, vs0, vs1⟩ := id hv
  obtain ⟨q1, q2, q3⟩ := zq_spec hv hp
  have U : ∀ n at_ D3, pl - at_ = n → zq V p ≤ at_ → at_ ≤ pl → (∀ a, a ≠ 80 → D3 a = D a) → (∀ j, j < 91 ∨ 98 ≤ j → D3 80 j = D 80 j) → (∀ i, i < zn V → D3 80 (91 + i) = nI (if i < zq V p then zr V i else if i < at_ then zr V (i + 1) else zr V i)) → Rq sc (d + 1) 117 (6, [some (.ref 79), some (.int (nI p)), some (.int (nI pl)), some (.int (nI at_)), none], [], (hx_S0, D3, G), 0) G (QRow V (zmv V p pl) D) := by
    intro n
    induction n using Nat.strongRecOn with
    | _ n ih =>
    intro at_ D3 hn ha hb hI h2 h3
    refine Rq.b (fun _ => b117_6) (fun h6 => ?_) (fun h6 => ?_)
    · try simp (disch := omega) only [Int32.le_iff_toInt_le, Int32.lt_iff_toInt_lt, z_eq, z_nI, z_0, z_m1, z_sub, nI_add, nI_mulN, pk_sub, nI_clamp, Nat.reduceAdd, Nat.reduceMul, Nat.reduceSub, Nat.zero_add, Nat.add_zero] at h6
      all_goals (try (exfalso; omega))
      all_goals
        refine Rq.e (b117_52 (by (try simp (disch := omega) only [nI_add, nI_mulN, pk_sub, nI_clamp, Nat.reduceAdd, Nat.reduceMul, Nat.reduceSub, Nat.zero_add, Nat.add_zero]); exact nI_inbT (by omega) (by omega))) ?_
        have hat : at_ = pl := by omega
        subst hat
        rw [nI_add, nI_clamp (by omega)]
        refine ⟨rfl, fun i hi => ?_, fun j hj => by rw [hx_up_in _ _ _ (by omega)]; exact h2 j hj, fun a ha => by rw [hx_up_ne ha]; exact hI a ha⟩
        unfold zmv
        by_cases c : i = at_
        · rw [if_pos c, c, hx_up_s]
        · rw [if_neg c, hx_up_in _ _ _ (by omega), h3 i hi]
          congr 1
          unfold sk
          repeat' split
          all_goals first | rfl | (exfalso; omega) | (congr 1; omega)
    · try simp (disch := omega) only [Int32.le_iff_toInt_le, Int32.lt_iff_toInt_lt, z_eq, z_nI, z_0, z_m1, z_sub, nI_add, nI_mulN, pk_sub, nI_clamp, Nat.reduceAdd, Nat.reduceMul, Nat.reduceSub, Nat.zero_add, Nat.add_zero] at h6
      all_goals (try (exfalso; omega))
      all_goals
        refine Rq.b (fun _ => b117_11) (fun h11 => ?_) (fun h11 => ?_)
        · try simp (disch := omega) only [Int32.le_iff_toInt_le, Int32.lt_iff_toInt_lt, z_eq, z_nI, z_0, z_m1, z_sub, nI_add, nI_mulN, pk_sub, nI_clamp, Nat.reduceAdd, Nat.reduceMul, Nat.reduceSub, Nat.zero_add, Nat.add_zero] at h11
          all_goals (try (exfalso; omega))
          all_goals
            refine Rq.s (fun _ => b117_22) ?_
            try simp (disch := omega) only [nI_add, nI_mulN, pk_sub, nI_clamp, Nat.reduceAdd, Nat.reduceMul, Nat.reduceSub, Nat.zero_add, Nat.add_zero]
            have h3n : D3 80 (91 + (at_ + 1)) = nI (zr V (at_ + 1)) := by rw [h3 _ (by omega), if_neg (by omega), if_neg (by omega)]
            refine Rq.s (fun _ => b117_25 (by (try simp (disch := omega) only [nI_add, nI_mulN, pk_sub, nI_clamp, Nat.reduceAdd, Nat.reduceMul, Nat.reduceSub, Nat.zero_add, Nat.add_zero, h3n]); exact nI_inbT (by omega) (by omega)) (by (try simp (disch := omega) only [nI_add, nI_mulN, pk_sub, nI_clamp, Nat.reduceAdd, Nat.reduceMul, Nat.reduceSub, Nat.zero_add, Nat.add_zero, h3n]); exact nI_inbT (by omega) (by omega))) ?_
            try simp (disch := omega) only [nI_add, nI_mulN, pk_sub, nI_clamp, Nat.reduceAdd, Nat.reduceMul, Nat.reduceSub, Nat.zero_add, Nat.add_zero, h3n]
            refine Rq.s (fun _ => b117_46) ?_
            refine ih _ (by omega) (at_ + 1) _ rfl (by omega) (by omega) (fun a a1 => by rw [hx_up_ne a1]; exact hI a a1) (fun j hj => by rw [hx_up_in _ _ _ (by omega)]; exact h2 j hj) (fun i hi => ?_)
            by_cases c : i = at_
            · rw [c, hx_up_s, if_neg (by omega), if_pos (by omega)]
            · rw [hx_up_in _ _ _ (by omega), h3 i hi]
              congr 1
              repeat' split
              all_goals first | rfl | (exfalso; omega)
        · try simp (disch := omega) only [Int32.le_iff_toInt_le, Int32.lt_iff_toInt_lt, z_eq, z_nI, z_0, z_m1, z_sub, nI_add, nI_mulN, pk_sub, nI_clamp, Nat.reduceAdd, Nat.reduceMul, Nat.reduceSub, Nat.zero_add, Nat.add_zero] at h11
          all_goals (try (exfalso; omega))
          all_goals
            refine Rq.s (fun _ => b117_16) ?_
            try simp (disch := omega) only [nI_add, nI_mulN, pk_sub, nI_clamp, Nat.reduceAdd, Nat.reduceMul, Nat.reduceSub, Nat.zero_add, Nat.add_zero]
            have h3n : D3 80 (91 + (at_ + 1)) = nI (zr V (at_ + 1)) := by rw [h3 _ (by omega), if_neg (by omega), if_neg (by omega)]
            refine Rq.s (fun _ => b117_25 (by (try simp (disch := omega) only [nI_add, nI_mulN, pk_sub, nI_clamp, Nat.reduceAdd, Nat.reduceMul, Nat.reduceSub, Nat.zero_add, Nat.add_zero, h3n]); exact nI_inbT (by omega) (by omega)) (by (try simp (disch := omega) only [nI_add, nI_mulN, pk_sub, nI_clamp, Nat.reduceAdd, Nat.reduceMul, Nat.reduceSub, Nat.zero_add, Nat.add_zero, h3n]); exact nI_inbT (by omega) (by omega))) ?_
            try simp (disch := omega) only [nI_add, nI_mulN, pk_sub, nI_clamp, Nat.reduceAdd, Nat.reduceMul, Nat.reduceSub, Nat.zero_add, Nat.add_zero, h3n]
            refine Rq.s (fun _ => b117_46) ?_
            refine ih _ (by omega) (at_ + 1) _ rfl (by omega) (by omega) (fun a a1 => by rw [hx_up_ne a1]; exact hI a a1) (fun j hj => by rw [hx_up_in _ _ _ (by omega)]; exact h2 j hj) (fun i hi => ?_)
            by_cases c : i = at_
            · rw [c, hx_up_s, if_neg (by omega), if_pos (by omega)]
            · rw [hx_up_in _ _ _ (by omega), h3 i hi]
              congr 1
              repeat' split
              all_goals first | rfl | (exfalso; omega)
  have W : ∀ n at_ D3, at_ - pl = n → at_ ≤ zq V p → pl ≤ at_ → (∀ a, a ≠ 80 → D3 a = D a) → (∀ j, j < 91 ∨ 98 ≤ j → D3 80 j = D 80 j) → (∀ i, i < zn V → D3 80 (91 + i) = nI (if i ≤ at_ then zr V i else if i ≤ zq V p then zr V (i - 1) else zr V i)) → Rq sc (d + 1) 117 (6, [some (.ref 79), some (.int (nI p)), some (.int (nI pl)), some (.int (nI at_)), none], [], (hx_S0, D3, G), 0) G (QRow V (zmv V p pl) D) := by
    intro n
    induction n using Nat.strongRecOn with
    | _ n ih =>
    intro at_ D3 hn ha hb hI h2 h3
    refine Rq.b (fun _ => b117_6) (fun h6 => ?_) (fun h6 => ?_)
    · try simp (disch := omega) only [Int32.le_iff_toInt_le, Int32.lt_iff_toInt_lt, z_eq, z_nI, z_0, z_m1, z_sub, nI_add, nI_mulN, pk_sub, nI_clamp, Nat.reduceAdd, Nat.reduceMul, Nat.reduceSub, Nat.zero_add, Nat.add_zero] at h6
      all_goals (try (exfalso; omega))
      all_goals
        refine Rq.e (b117_52 (by (try simp (disch := omega) only [nI_add, nI_mulN, pk_sub, nI_clamp, Nat.reduceAdd, Nat.reduceMul, Nat.reduceSub, Nat.zero_add, Nat.add_zero]); exact nI_inbT (by omega) (by omega))) ?_
        have hat : at_ = pl := by omega
        subst hat
        rw [nI_add, nI_clamp (by omega)]
        refine ⟨rfl, fun i hi => ?_, fun j hj => by rw [hx_up_in _ _ _ (by omega)]; exact h2 j hj, fun a ha => by rw [hx_up_ne ha]; exact hI a ha⟩
        unfold zmv
        by_cases c : i = at_
        · rw [if_pos c, c, hx_up_s]
        · rw [if_neg c, hx_up_in _ _ _ (by omega), h3 i hi]
          congr 1
          unfold sk
          repeat' split
          all_goals first | rfl | (exfalso; omega) | (congr 1; omega)
    · try simp (disch := omega) only [Int32.le_iff_toInt_le, Int32.lt_iff_toInt_lt, z_eq, z_nI, z_0, z_m1, z_sub, nI_add, nI_mulN, pk_sub, nI_clamp, Nat.reduceAdd, Nat.reduceMul, Nat.reduceSub, Nat.zero_add, Nat.add_zero] at h6
      all_goals (try (exfalso; omega))
      all_goals
        refine Rq.b (fun _ => b117_11) (fun h11 => ?_) (fun h11 => ?_)
        · try simp (disch := omega) only [Int32.le_iff_toInt_le, Int32.lt_iff_toInt_lt, z_eq, z_nI, z_0, z_m1, z_sub, nI_add, nI_mulN, pk_sub, nI_clamp, Nat.reduceAdd, Nat.reduceMul, Nat.reduceSub, Nat.zero_add, Nat.add_zero] at h11
          all_goals (try (exfalso; omega))
          all_goals
            refine Rq.s (fun _ => b117_22) ?_
            try simp (disch := omega) only [nI_add, nI_mulN, pk_sub, nI_clamp, Nat.reduceAdd, Nat.reduceMul, Nat.reduceSub, Nat.zero_add, Nat.add_zero]
            have h3n : D3 80 (91 + (at_ - 1)) = nI (zr V (at_ - 1)) := by rw [h3 _ (by omega), if_pos (by omega)]
            refine Rq.s (fun _ => b117_25 (by (try simp (disch := omega) only [nI_add, nI_mulN, pk_sub, nI_clamp, Nat.reduceAdd, Nat.reduceMul, Nat.reduceSub, Nat.zero_add, Nat.add_zero, h3n]); exact nI_inbT (by omega) (by omega)) (by (try simp (disch := omega) only [nI_add, nI_mulN, pk_sub, nI_clamp, Nat.reduceAdd, Nat.reduceMul, Nat.reduceSub, Nat.zero_add, Nat.add_zero, h3n]); exact nI_inbT (by omega) (by omega))) ?_
            try simp (disch := omega) only [nI_add, nI_mulN, pk_sub, nI_clamp, Nat.reduceAdd, Nat.reduceMul, Nat.reduceSub, Nat.zero_add, Nat.add_zero, h3n]
            refine Rq.s (fun _ => b117_46) ?_
            refine ih _ (by omega) (at_ - 1) _ rfl (by omega) (by omega) (fun a a1 => by rw [hx_up_ne a1]; exact hI a a1) (fun j hj => by rw [hx_up_in _ _ _ (by omega)]; exact h2 j hj) (fun i hi => ?_)
            by_cases c : i = at_
            · rw [c, hx_up_s, if_neg (by omega), if_pos (by omega)]
            · rw [hx_up_in _ _ _ (by omega), h3 i hi]
              congr 1
              repeat' split
              all_goals first | rfl | (exfalso; omega)
        · try simp (disch := omega) only [Int32.le_iff_toInt_le, Int32.lt_iff_toInt_lt, z_eq, z_nI, z_0, z_m1, z_sub, nI_add, nI_mulN, pk_sub, nI_clamp, Nat.reduceAdd, Nat.reduceMul, Nat.reduceSub, Nat.zero_add, Nat.add_zero] at h11
          all_goals (try (exfalso; omega))
          all_goals
            refine Rq.s (fun _ => b117_16) ?_
            try simp (disch := omega) only [nI_add, nI_mulN, pk_sub, nI_clamp, Nat.reduceAdd, Nat.reduceMul, Nat.reduceSub, Nat.zero_add, Nat.add_zero]
            have h3n : D3 80 (91 + (at_ - 1)) = nI (zr V (at_ - 1)) := by rw [h3 _ (by omega), if_pos (by omega)]
            refine Rq.s (fun _ => b117_25 (by (try simp (disch := omega) only [nI_add, nI_mulN, pk_sub, nI_clamp, Nat.reduceAdd, Nat.reduceMul, Nat.reduceSub, Nat.zero_add, Nat.add_zero, h3n]); exact nI_inbT (by omega) (by omega)) (by (try simp (disch := omega) only [nI_add, nI_mulN, pk_sub, nI_clamp, Nat.reduceAdd, Nat.reduceMul, Nat.reduceSub, Nat.zero_add, Nat.add_zero, h3n]); exact nI_inbT (by omega) (by omega))) ?_
            try simp (disch := omega) only [nI_add, nI_mulN, pk_sub, nI_clamp, Nat.reduceAdd, Nat.reduceMul, Nat.reduceSub, Nat.zero_add, Nat.add_zero, h3n]
            refine Rq.s (fun _ => b117_46) ?_
            refine ih _ (by omega) (at_ - 1) _ rfl (by omega) (by omega) (fun a a1 => by rw [hx_up_ne a1]; exact hI a a1) (fun j hj => by rw [hx_up_in _ _ _ (by omega)]; exact h2 j hj) (fun i hi => ?_)
            by_cases c : i = at_
            · rw [c, hx_up_s, if_neg (by omega), if_pos (by omega)]
            · rw [hx_up_in _ _ _ (by omega), h3 i hi]
              congr 1
              repeat' split
              all_goals first | rfl | (exfalso; omega)
  refine Cq.c (fun _ _ _ => c117) ?_
  refine Rq.s (fun _ => b117_0 (m112 (d := d) R hv hp)) ?_
  refine Rq.s (fun _ => b117_5) ?_
  by_cases c : zq V p ≤ pl
  · exact U _ (zq V p) D rfl (Nat.le_refl _) c (fun a _ => rfl) (fun j _ => rfl) (fun i hi => by rw [sr i hi]; congr 1; repeat' split; all_goals first | rfl | (exfalso; omega))
  · exact W _ (zq V p) D rfl (Nat.le_refl _) (by omega) (fun a _ => rfl) (fun j _ => rfl) (fun i hi => by rw [sr i hi]; congr 1; repeat' split; all_goals first | rfl | (exfalso; omega))
theorem m107 {sc : Nat × (Nat → Int32)} {d : Nat} {D : Nat → Nat → Int32} {G : Nat → Nat → Int64} : Cq sc d 107 [.ref 79] D G (fun r D2 => r = .inl none ∧ (∀ i, i < 102 → D2 81 i = D 80 i) ∧ ∀ a, a ≠ 81 → D2 a = D a) := by
  have L : ∀ n i D3, 102 - i = n → i ≤ 102 → (∀ j, j < i → D3 81 j = D 80 j) → (∀ a, a ≠ 81 → D3 a = D a) → Rq sc d 107 (2, [some (.ref 79), some (.int (nI i))], [], (hx_S0, D3, G), 0) G (fun r D2 => r = .inl none ∧ (∀ i, i < 102 → D2 81 i = D 80 i) ∧ ∀ a, a ≠ 81 → D2 a = D a) := by
    intro n
    induction n using Nat.strongRecOn with
    | _ n ih =>
    intro i D3 hn hi h1 hI
    have kb : D3 80 = D 80 := hI 80 (by omega)
    refine Rq.b (fun _ => b107_2) (fun h2 => ?_) (fun h2 => ?_)
    · try simp (disch := omega) only [Int32.le_iff_toInt_le, Int32.lt_iff_toInt_lt, z_eq, z_nI, z_0, z_m1, z_sub, nI_add, nI_mulN, pk_sub, nI_clamp, Nat.reduceAdd, Nat.reduceMul, Nat.reduceSub, Nat.zero_add, Nat.add_zero, kb] at h2
      all_goals (try (exfalso; omega))
      all_goals
        refine Rq.e (b107_26) ?_
        exact ⟨rfl, fun j hj => h1 j (by omega), hI⟩
    · try simp (disch := omega) only [Int32.le_iff_toInt_le, Int32.lt_iff_toInt_lt, z_eq, z_nI, z_0, z_m1, z_sub, nI_add, nI_mulN, pk_sub, nI_clamp, Nat.reduceAdd, Nat.reduceMul, Nat.reduceSub, Nat.zero_add, Nat.add_zero, kb] at h2
      all_goals (try (exfalso; omega))
      all_goals
        refine Rq.s (fun _ => b107_8 (by (try simp (disch := omega) only [nI_add, nI_mulN, pk_sub, nI_clamp, Nat.reduceAdd, Nat.reduceMul, Nat.reduceSub, Nat.zero_add, Nat.add_zero, kb]); exact nI_inbT (by omega) (by omega)) (by (try simp (disch := omega) only [nI_add, nI_mulN, pk_sub, nI_clamp, Nat.reduceAdd, Nat.reduceMul, Nat.reduceSub, Nat.zero_add, Nat.add_zero, kb]); exact nI_inbT (by omega) (by omega))) ?_
        try simp (disch := omega) only [nI_add, nI_mulN, pk_sub, nI_clamp, Nat.reduceAdd, Nat.reduceMul, Nat.reduceSub, Nat.zero_add, Nat.add_zero, kb]
        refine ih _ (by omega) (i + 1) _ rfl (by omega) (fun j hj => ?_) (fun a ha => by rw [hx_up_ne ha]; exact hI a ha)
        by_cases c : j = i
        · rw [c, hx_up_s]
        · rw [hx_up_in _ _ _ c]
          exact h1 j (by omega)
  refine Cq.c (fun _ _ _ => c107) ?_
  refine Rq.s (fun _ => b107_0) ?_
  try simp (disch := omega) only [nI_add, nI_mulN, pk_sub, nI_clamp, Nat.reduceAdd, Nat.reduceMul, Nat.reduceSub, Nat.zero_add, Nat.add_zero]
  exact L _ 0 D rfl (by omega) (fun j hj => absurd hj (Nat.not_lt_zero _)) (fun a _ => rfl)
theorem m108 {sc : Nat × (Nat → Int32)} {d : Nat} {D : Nat → Nat → Int32} {G : Nat → Nat → Int64} : Cq sc d 108 [.ref 79] D G (fun r D2 => r = .inl none ∧ (∀ i, i < 102 → D2 80 i = D 81 i) ∧ ∀ a, a ≠ 80 → D2 a = D a) := by
  have L : ∀ n i D3, 102 - i = n → i ≤ 102 → (∀ j, j < i → D3 80 j = D 81 j) → (∀ a, a ≠ 80 → D3 a = D a) → Rq sc d 108 (2, [some (.ref 79), some (.int (nI i))], [], (hx_S0, D3, G), 0) G (fun r D2 => r = .inl none ∧ (∀ i, i < 102 → D2 80 i = D 81 i) ∧ ∀ a, a ≠ 80 → D2 a = D a) := by
    intro n
    induction n using Nat.strongRecOn with
    | _ n ih =>
    intro i D3 hn hi h1 hI
    have kb : D3 81 = D 81 := hI 81 (by omega)
    refine Rq.b (fun _ => b108_2) (fun h2 => ?_) (fun h2 => ?_)
    · try simp (disch := omega) only [Int32.le_iff_toInt_le, Int32.lt_iff_toInt_lt, z_eq, z_nI, z_0, z_m1, z_sub, nI_add, nI_mulN, pk_sub, nI_clamp, Nat.reduceAdd, Nat.reduceMul, Nat.reduceSub, Nat.zero_add, Nat.add_zero, kb] at h2
      all_goals (try (exfalso; omega))
      all_goals
        refine Rq.e (b108_26) ?_
        exact ⟨rfl, fun j hj => h1 j (by omega), hI⟩
    · try simp (disch := omega) only [Int32.le_iff_toInt_le, Int32.lt_iff_toInt_lt, z_eq, z_nI, z_0, z_m1, z_sub, nI_add, nI_mulN, pk_sub, nI_clamp, Nat.reduceAdd, Nat.reduceMul, Nat.reduceSub, Nat.zero_add, Nat.add_zero, kb] at h2
      all_goals (try (exfalso; omega))
      all_goals
        refine Rq.s (fun _ => b108_8 (by (try simp (disch := omega) only [nI_add, nI_mulN, pk_sub, nI_clamp, Nat.reduceAdd, Nat.reduceMul, Nat.reduceSub, Nat.zero_add, Nat.add_zero, kb]); exact nI_inbT (by omega) (by omega)) (by (try simp (disch := omega) only [nI_add, nI_mulN, pk_sub, nI_clamp, Nat.reduceAdd, Nat.reduceMul, Nat.reduceSub, Nat.zero_add, Nat.add_zero, kb]); exact nI_inbT (by omega) (by omega))) ?_
        try simp (disch := omega) only [nI_add, nI_mulN, pk_sub, nI_clamp, Nat.reduceAdd, Nat.reduceMul, Nat.reduceSub, Nat.zero_add, Nat.add_zero, kb]
        refine ih _ (by omega) (i + 1) _ rfl (by omega) (fun j hj => ?_) (fun a ha => by rw [hx_up_ne ha]; exact hI a ha)
        by_cases c : j = i
        · rw [c, hx_up_s]
        · rw [hx_up_in _ _ _ c]
          exact h1 j (by omega)
  refine Cq.c (fun _ _ _ => c108) ?_
  refine Rq.s (fun _ => b108_0) ?_
  try simp (disch := omega) only [nI_add, nI_mulN, pk_sub, nI_clamp, Nat.reduceAdd, Nat.reduceMul, Nat.reduceSub, Nat.zero_add, Nat.add_zero]
  exact L _ 0 D rfl (by omega) (fun j hj => absurd hj (Nat.not_lt_zero _)) (fun a _ => rfl)
theorem m163 {sc : Nat × (Nat → Int32)} {d : Nat} {D : Nat → Nat → Int32} {G : Nat → Nat → Int64} {V : ZV} {p b : Nat} {bu : Int32} (R : RepM D 80 0 V) (hv : Valid V) (hp : p < zn V) (hb : ∀ k, k < zn V → (nI k = bu ↔ k = b)) : Cl sc (d + 2) 163 [.ref 79, .int (nI p), .int bu] (hx_S0, D, G) (.inl (some (.int (zo (zbb (zj V) p b (zn V)))))) (hx_S0, D, G) := by
  obtain ⟨s0, s1, sw, se, sb, sr, ss0, ss1⟩ := rM R
  obtain ⟨h7, vw, ve, vh, vE, vr, vj, vs0, vs1⟩ := id hv
  have hJ : ∀ j, j < zn V → zj V p j ≤ 38 := fun j hj => zj_le hv hp hj
  have L : ∀ m i, zn V - i = m → i ≤ zn V → Rq sc (d + 2) 163 (5, [some (.ref 79), some (.int (nI p)), some (.int bu), some (.int (zo (zbb (zj V) p b i))), some (.int (nI i)), none], [], (hx_S0, D, G), 0) G (Qp (zo (zbb (zj V) p b (zn V))) D) := by
    intro m
    induction m using Nat.strongRecOn with
    | _ m ih =>
    intro i hm hi
    by_cases hx : zn V ≤ i
    · refine Rq.bt (fun _ => b163_5 (nI_inbT (by omega) (by omega))) (by rw [nI_clamp (show 98 < 2 ^ 31 by omega), s0]; exact nI_le hx (by omega)) ?_
      exact Rq.e b163_75 (Qp.i (by rw [show i = zn V by omega]))
    have hbi := hb i (by omega)
    have hJi := hJ i (by omega)
    have NX : zbb (zj V) p b (i + 1) = zbb (zj V) p b i → Rq sc (d + 2) 163 (5, [some (.ref 79), some (.int (nI p)), some (.int bu), some (.int (zo (zbb (zj V) p b i))), some (.int (nI (i + 1))), none], [], (hx_S0, D, G), 0) G (Qp (zo (zbb (zj V) p b (zn V))) D) := by
      intro e
      have := ih _ (by omega) (i + 1) rfl (by omega)
      rw [e] at this
      exact this
    have YX : zbb (zj V) p b (i + 1) = some i → Rq sc (d + 2) 163 (5, [some (.ref 79), some (.int (nI p)), some (.int bu), some (.int (nI i)), some (.int (nI (i + 1))), none], [], (hx_S0, D, G), 0) G (Qp (zo (zbb (zj V) p b (zn V))) D) := by
      intro e
      have := ih _ (by omega) (i + 1) rfl (by omega)
      rw [e] at this
      exact this
    have SK : ¬ (i ≠ p ∧ i ≠ b) → Rq sc (d + 2) 163 (34, [some (.ref 79), some (.int (nI p)), some (.int bu), some (.int (zo (zbb (zj V) p b i))), some (.int (nI i)), none], [.int (nI 0)], (hx_S0, D, G), 0) G (Qp (zo (zbb (zj V) p b (zn V))) D) := by
      intro c
      refine Rq.bt (fun _ => b163_34) rfl ?_
      refine Rq.s (fun _ => b163_67) ?_
      refine Rq.s (fun _ => b163_68) ?_
      rw [nI_add]
      exact NX (zbb_F (fun z => c ⟨z.1, z.2.1⟩))
    refine Rq.bf (fun _ => b163_5 (nI_inbT (by omega) (by omega))) (by rw [nI_clamp (show 98 < 2 ^ 31 by omega), s0]; exact nI_ge (by omega) (by omega)) ?_
    by_cases c1 : i = p
    · refine Rq.bt (fun _ => b163_17) (by rw [c1]) ?_
      refine Rq.s (fun _ => b163_33) ?_
      exact SK (fun z => z.1 c1)
    refine Rq.bf (fun _ => b163_17) (fun z => c1 ((nI_eq (by omega) (by omega)).mp z)) ?_
    by_cases c2 : i = b
    · refine Rq.bt (fun _ => b163_23) (hbi.mpr c2) ?_
      refine Rq.s (fun _ => b163_33) ?_
      exact SK (fun z => z.2 c2)
    refine Rq.bf (fun _ => b163_23) (fun z => c2 (hbi.mp z)) ?_
    refine Rq.s (fun _ => b163_29) ?_
    refine Rq.bf (fun _ => b163_34) (by decide) ?_
    cases e : zbb (zj V) p b i with
    | none =>
      refine Rq.bt (fun _ => b163_41) rfl ?_
      refine Rq.s (fun _ => b163_62) ?_
      refine Rq.s (fun _ => b163_68b) ?_
      rw [nI_add]
      exact YX (zbb_T c1 c2 (by rw [e]; show zj V p i < 1000; omega))
    | some y =>
      have hy := zbb_of _ _ e
      have hJy := hJ y (by omega)
      show Rq sc (d + 2) 163 (41, [some (.ref 79), some (.int (nI p)), some (.int bu), some (.int (nI y)), some (.int (nI i)), some (.int (nI 1))], [], (hx_S0, D, G), 0) G _
      refine Rq.bf (fun _ => b163_41) (zo_ne (by omega)) ?_
      refine Rq.s (fun _ => b163_46 (m110 (d := d) R hv hp (by omega))) ?_
      refine Rq.s (fun _ => b163_53 (m110 (d := d) R hv hp (by omega))) ?_
      by_cases c3 : zj V p i < zj V p y
      · refine Rq.bf (fun _ => b163_59) (nI_ge c3 (by omega)) ?_
        refine Rq.s (fun _ => b163_62) ?_
        refine Rq.s (fun _ => b163_68b) ?_
        rw [nI_add]
        exact YX (zbb_T c1 c2 (by rw [e]; exact c3))
      · refine Rq.bt (fun _ => b163_59) (nI_le (by omega) (by omega)) ?_
        refine Rq.s (fun _ => b163_67) ?_
        refine Rq.s (fun _ => b163_68) ?_
        rw [nI_add]
        have := NX (zbb_F (fun z => c3 (by have := z.2.2; rw [e] at this; exact this)))
        rw [e] at this
        exact this
  refine Cq.p (Cq.c (fun _ _ _ => c163) ?_)
  refine Rq.s (fun _ => b163_0) ?_
  exact L _ 0 rfl (by omega)
theorem m165 {sc : Nat × (Nat → Int32)} {d : Nat} {D : Nat → Nat → Int32} {G : Nat → Nat → Int64} {V : ZV} {p : Nat} (R : RepM D 80 0 V) (hv : Valid V) (hp : p < zn V) : Cl sc (d + 3) 165 [.ref 79, .int (nI p)] (hx_S0, D, G) (.inl (some (.int (zsu V p)))) (hx_S0, D, G) := by
  obtain ⟨s0, s1, sw, se, sb, sr, ss0, ss1⟩ := rM R
  obtain ⟨h7, vw, ve, vh, vE, vr, vj, vs0, vs1⟩ := id hv
  have hJ : ∀ j, j < zn V → zj V p j ≤ 38 := fun j hj => zj_le hv hp hj
  have hbest := m163 (sc := sc) (d := d) (G := G) (p := p) (b := 99) (bu := -1) R hv hp (fun k hk => ⟨fun z => absurd z (zo_ne (by omega)), fun z => by omega⟩)
  refine Cq.p (Cq.c (fun _ _ _ => c165) ?_)
  refine Rq.s (fun _ => b165_0 hbest) ?_
  by_cases h3 : 3 ≤ zn V
  · obtain ⟨b, eb⟩ := zbb_some (J := zj V) (p := p) (but := 99) (k := zn V) (j := if p = 0 then 1 else 0) (by split <;> omega) (by split <;> omega) (by split <;> omega) (by have := hJ (if p = 0 then 1 else 0) (by split <;> omega); omega)
    have hbn := zbb_of _ _ eb
    have hsec := m163 (sc := sc) (d := d) (G := G) (p := p) (b := b) (bu := nI b) R hv hp (fun k hk => nI_eq (by omega) (by omega))
    obtain ⟨c, ec⟩ : ∃ c, zbb (zj V) p b (zn V) = some c := by
      have : ∃ j, j < zn V ∧ j ≠ p ∧ j ≠ b := by
        by_cases a0 : 0 ≠ p ∧ 0 ≠ b
        · exact ⟨0, by omega, a0.1, a0.2⟩
        · by_cases a1 : 1 ≠ p ∧ 1 ≠ b
          · exact ⟨1, by omega, a1.1, a1.2⟩
          · exact ⟨2, by omega, by omega, by omega⟩
      obtain ⟨j, j1, j2, j3⟩ := this
      exact zbb_some j1 j2 j3 (by have := hJ j j1; omega)
    have hcn := zbb_of _ _ ec
    have hs : zsu V p = nI (zj V p c) - nI (zj V p b) := by
      unfold zsu
      rw [if_neg (by omega), eb]
      show nI (zl (zj V) p (zbb (zj V) p b (zn V))) - _ = _
      rw [ec]
      rfl
    rw [eb]
    rw [ec] at hsec
    refine Rq.s (fun _ => b165_6 hsec) ?_
    refine Rq.bt (fun _ => b165_13 (nI_inbT (by omega) (by omega))) (by rw [nI_clamp (show 98 < 2 ^ 31 by omega), s0]; exact nI_le h3 (by omega)) ?_
    refine Rq.s (fun _ => b165_29 (m110 (d := d + 1) R hv hp hcn.1)) ?_
    refine Rq.s (fun _ => b165_35 (m110 (d := d + 1) R hv hp hbn.1)) ?_
    refine Rq.s (fun _ => b165_41) ?_
    exact Rq.e b165_42b (Qp.i hs.symm)
  · have hs : zsu V p = -1 := by unfold zsu; rw [if_pos (by omega)]
    obtain ⟨z, hz⟩ : ∃ z, Cl sc (d + 2) 163 [.ref 79, .int (nI p), .int (zo (zbb (zj V) p 99 (zn V)))] (hx_S0, D, G) (.inl (some (.int z))) (hx_S0, D, G) := by
      cases e : zbb (zj V) p 99 (zn V) with
      | none => exact ⟨_, m163 (b := 99) R hv hp (fun k hk => ⟨fun z => absurd z (zo_ne (by omega)), fun z => by omega⟩)⟩
      | some b =>
        have hbn := zbb_of _ _ e
        exact ⟨_, m163 (b := b) R hv hp (fun k hk => nI_eq (by omega) (by omega))⟩
    refine Rq.s (fun _ => b165_6 hz) ?_
    refine Rq.bf (fun _ => b165_13 (nI_inbT (by omega) (by omega))) (by rw [nI_clamp (show 98 < 2 ^ 31 by omega), s0]; exact nI_ge (by omega) (by omega)) ?_
    refine Rq.s (fun _ => b165_25) ?_
    exact Rq.e b165_42 (Qp.i hs.symm)
