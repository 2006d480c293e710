/-! ===== the reference: keep, goBack, undo, hole, remove ===== -/
theorem zk2_set (a b : Bool) : ∀ k, k < 2 → nI ((if a = true then 1 else 0) + 2 * (if b = true then 1 else 0)) ||| (nI 1 <<< (nI k &&& 31)) = nI ((if (if k = 0 then true else a) = true then 1 else 0) + 2 * (if (if k = 1 then true else b) = true then 1 else 0)) := by
  cases a <;> cases b <;> decide +kernel
theorem zk2_get (a b : Bool) : ∀ k, k < 2 → (nI ((if a = true then 1 else 0) + 2 * (if b = true then 1 else 0)) >>> (nI k &&& 31)) &&& nI 1 = nI (if (if k = 0 then a else b) = true then 1 else 0) := by
  cases a <;> cases b <;> decide +kernel
theorem rKeep {sc : Nat × (Nat → Int32)} {d : Nat} {D : Nat → Nat → Int32} {G : Nat → Nat → Int64} {t : ST} {x : Int} (bx1 : -2147483648 ≤ x) (bx2 : x < 2147483648) (I : InvM D t) (hs : SV t) : Cq sc (d + 1) 149 [.ref 79, .int (iI x)] D G (OKm D (oKeep t x)) := by
  have hv := hs.1
  have h7 := hv.1
  have R := I.1
  have R1 := (InvM_t (x := nI 0) hs I).1
  have s98 := (rM I.1).1
  have w98 := (rM R1).1
  refine Cq.c (fun _ _ _ => c149) ?_
  unfold oKeep
  have h102 := m102 (sc := sc) (d := d) (D := D) (G := G) (z_iI bx1 bx2) (z_nI (show 0 < 2 ^ 31 by omega)) (z_nI (show 1 < 2 ^ 31 by omega)) (P := 0 ≤ x ∧ x < 2) (by omega)
  by_cases hx : 0 ≤ x ∧ x < 2
  · rw [if_pos hx] at h102 ⊢
    obtain ⟨x, rfl⟩ := arg_nat hx.1
    simp only [← i_nI, Int.toNat_natCast] at h102 ⊢
    have L : ∀ n i D3, 102 - i = n → i ≤ 102 → (∀ j, j < i → D3 83 (102 * x + j) = D 80 j) → (∀ j, (j < 102 * x ∨ 102 * x + 102 ≤ j) → D3 83 j = D 83 j) → (∀ a, a ≠ 83 → D3 a = hx_up D 79 0 (nI 0) a) → Rq sc (d + 1) 149 (25, [some (.ref 79), some (.int (nI x)), some (.int (nI i))], [], (hx_S0, D3, G), 0) G (OKm D (0, nI (zn (tV t)), tV t, tS t, gup (tK t) x (some (tV t)), tn t, tb t)) := by
      intro n
      induction n using Nat.strongRecOn with
      | _ n ih =>
      intro i D3 hn hi h1 h2 hI
      have k80 : D3 80 = D 80 := by rw [hI 80 (by omega), hx_up_ne (by omega)]
      refine Rq.b (fun _ => b149_25) (fun h25 => ?_) (fun h25 => ?_)
      · try simp (disch := omega) only [Int32.le_iff_toInt_le, Int32.lt_iff_toInt_lt, z_eq, z_nI, z_0, z_m1, z_sub, nI_add, nI_mulN, pk_sub, nI_clamp, Nat.reduceAdd, Nat.reduceMul, Nat.reduceSub, Nat.zero_add, Nat.add_zero, k80, s98] at h25
        all_goals (try (exfalso; omega))
        all_goals
          refine Rq.e (b149_54 (by (try simp (disch := omega) only [nI_add, nI_mulN, pk_sub, nI_clamp, Nat.reduceAdd, Nat.reduceMul, Nat.reduceSub, Nat.zero_add, Nat.add_zero, k80, s98]); exact nI_inbT (by omega) (by omega))) ?_
          try simp (disch := omega) only [nI_add, nI_mulN, pk_sub, nI_clamp, Nat.reduceAdd, Nat.reduceMul, Nat.reduceSub, Nat.zero_add, Nat.add_zero, k80, s98]
          obtain ⟨i1, i2, i3, i4, i5, i6, i7⟩ := InvM_t (x := nI 0) hs I
          have k79 : D3 79 = hx_up D 79 0 (nI 0) 79 := hI 79 (by omega)
          have k6 : D3 79 6 = nI (zk2 (tK t)) := by rw [k79]; exact i4
          refine OKm.v (t := (tV t, tS t, gup (tK t) x (some (tV t)), tn t, tb t)) rfl (by rw [hx_up_in _ _ _ (by omega), k79]; exact hx_up_s _ _ _ _) ?_ (fun a ha => by rw [hx_up_ne (by omega), hI a (by omega), hx_up_ne (by omega)])
          refine ⟨RepM_k hs.1 (fun i _ => by rw [hx_up_ne (by omega), hI 80 (by omega)]) i1, by rw [hx_up_in _ _ _ (by omega), k79]; exact i2, fun j X h => RepM_k (hs.2.2.1 X (hx_nth_mem h)) (fun i _ => by rw [hx_up_ne (by omega), hI 82 (by omega)]) (i3 j X h), ?_, fun k X h3 h4 => ?_, by rw [hx_up_in _ _ _ (by omega), k79]; exact i6, fun i hi => by rw [hx_up_ne (by omega), hI 84 (by omega)]; exact i7 i hi⟩
          · rw [hx_up_s, k6]
            show nI (zk2 (tK t)) ||| (nI 1 <<< (nI x &&& 31)) = nI (zk2 (gup (tK t) x (some (tV t))))
            unfold zk2
            rw [zk2_set _ _ x (by omega)]
            rcases (by omega : x = 0 ∨ x = 1) with c | c <;> subst c <;> rfl
          · have h5 : gup (tK t) x (some (tV t)) k = some X := h4
            by_cases c : k = x
            · rw [c, gup_s] at h5
              cases h5
              exact RepM_k hs.1 (fun i hi => by rw [hx_up_ne (by omega), Nat.zero_add, c]; exact h1 i (by omega)) I.1
            · rw [gup_n _ _ c] at h5
              exact RepM_k (hs.2.2.2.1 k X h5) (fun i hi => by rw [hx_up_ne (by omega), h2 _ (by omega), hx_up_ne (by omega)]) (i5 k X h3 h5)
      · try simp (disch := omega) only [Int32.le_iff_toInt_le, Int32.lt_iff_toInt_lt, z_eq, z_nI, z_0, z_m1, z_sub, nI_add, nI_mulN, pk_sub, nI_clamp, Nat.reduceAdd, Nat.reduceMul, Nat.reduceSub, Nat.zero_add, Nat.add_zero, k80, s98] at h25
        all_goals (try (exfalso; omega))
        all_goals
          refine Rq.s (fun _ => b149_31 (by (try simp (disch := omega) only [nI_add, nI_mulN, pk_sub, nI_clamp, Nat.reduceAdd, Nat.reduceMul, Nat.reduceSub, Nat.zero_add, Nat.add_zero, k80, s98]); exact nI_inbT (by omega) (by omega)) (by (try simp (disch := omega) only [nI_add, nI_mulN, pk_sub, nI_clamp, Nat.reduceAdd, Nat.reduceMul, Nat.reduceSub, Nat.zero_add, Nat.add_zero, k80, s98]); exact nI_inbT (by omega) (by omega))) ?_
          try simp (disch := omega) only [nI_add, nI_mulN, pk_sub, nI_clamp, Nat.reduceAdd, Nat.reduceMul, Nat.reduceSub, Nat.zero_add, Nat.add_zero, k80, s98]
          refine Rq.s (fun _ => b149_48) ?_
          try simp (disch := omega) only [nI_add, nI_mulN, pk_sub, nI_clamp, Nat.reduceAdd, Nat.reduceMul, Nat.reduceSub, Nat.zero_add, Nat.add_zero, k80, s98]
          refine ih _ (by omega) (i + 1) _ rfl (by omega) (fun j hj => ?_) (fun j hj => by rw [hx_up_in _ _ _ (by omega)]; exact h2 j hj) (fun a ha => by rw [hx_up_ne ha]; exact hI a ha)
          by_cases c : j = i
          · rw [c, hx_up_s]
          · rw [hx_up_in _ _ _ (by omega)]
            exact h1 j (by omega)
    refine Rq.s (fun _ => b149_0 (by (try simp (disch := omega) only [nI_add, nI_mulN, pk_sub, nI_clamp, Nat.reduceAdd, Nat.reduceMul, Nat.reduceSub, Nat.zero_add, Nat.add_zero]); exact h102)) ?_
    refine Rq.bf (fun _ => b149_7) (by decide) ?_
    refine Rq.s (fun _ => b149_10) ?_
    try simp (disch := omega) only [nI_add, nI_mulN, pk_sub, nI_clamp, Nat.reduceAdd, Nat.reduceMul, Nat.reduceSub, Nat.zero_add, Nat.add_zero]
    refine Rq.s (fun _ => b149_15 (by (try simp (disch := omega) only [nI_add, nI_mulN, pk_sub, nI_clamp, Nat.reduceAdd, Nat.reduceMul, Nat.reduceSub, Nat.zero_add, Nat.add_zero]); exact t103_0)) ?_
    refine Rq.bt (fun _ => b149_18) (by decide) ?_
    refine Rq.s (fun _ => b149_23) ?_
    try simp (disch := omega) only [nI_add, nI_mulN, pk_sub, nI_clamp, Nat.reduceAdd, Nat.reduceMul, Nat.reduceSub, Nat.zero_add, Nat.add_zero]
    exact L _ 0 _ rfl (by omega) (fun j hj => absurd hj (Nat.not_lt_zero _)) (fun j hj => by rw [hx_up_ne (by omega)]) (fun a ha => rfl)
  · rw [if_neg hx] at h102 ⊢
    refine Rq.s (fun _ => b149_0 (by (try simp (disch := omega) only [nI_add, nI_mulN, pk_sub, nI_clamp, Nat.reduceAdd, Nat.reduceMul, Nat.reduceSub, Nat.zero_add, Nat.add_zero]); exact h102)) ?_
    refine Rq.bt (fun _ => b149_7) (rfl) ?_
    refine Rq.s (fun _ => b149_14) ?_
    try simp (disch := omega) only [nI_add, nI_mulN, pk_sub, nI_clamp, Nat.reduceAdd, Nat.reduceMul, Nat.reduceSub, Nat.zero_add, Nat.add_zero]
    refine Rq.s (fun _ => b149_15 (by (try simp (disch := omega) only [nI_add, nI_mulN, pk_sub, nI_clamp, Nat.reduceAdd, Nat.reduceMul, Nat.reduceSub, Nat.zero_add, Nat.add_zero]); exact t103_k (k := 1) (by omega) (by omega))) ?_
    refine Rq.bf (fun _ => b149_18) (fun z => z rfl) ?_
    refine Rq.e (b149_21) ?_
    exact OKm.x (k := 1) hs I rfl
theorem rGoBack {sc : Nat × (Nat → Int32)} {d : Nat} {D : Nat → Nat → Int32} {G : Nat → Nat → Int64} {t : ST} {x : Int} (bx1 : -2147483648 ≤ x) (bx2 : x < 2147483648) (I : InvM D t) (hs : SV t) : Cq sc (d + 1) 150 [.ref 79, .int (iI x)] D G (OKm D (oGoBack t x)) := by
  have hv := hs.1
  have h7 := hv.1
  have R := I.1
  have R1 := (InvM_t (x := nI 0) hs I).1
  have s98 := (rM I.1).1
  have w98 := (rM R1).1
  have s6 := I.2.2.2.1
  refine Cq.c (fun _ _ _ => c150) ?_
  unfold oGoBack
  have h102 := m102 (sc := sc) (d := d) (D := D) (G := G) (z_iI bx1 bx2) (z_nI (show 0 < 2 ^ 31 by omega)) (z_nI (show 1 < 2 ^ 31 by omega)) (P := 0 ≤ x ∧ x < 2) (by omega)
  by_cases hx : 0 ≤ x ∧ x < 2
  · rw [if_pos hx] at h102 ⊢
    obtain ⟨x, rfl⟩ := arg_nat hx.1
    simp only [← i_nI, Int.toNat_natCast] at h102 ⊢
    have hbit : ((D 79 6) >>> (nI x &&& 31)) &&& nI 1 = nI (if (tK t x).isSome = true then 1 else 0) := by
      rw [s6]
      unfold zk2
      rw [zk2_get _ _ x (by omega)]
      rcases (by omega : x = 0 ∨ x = 1) with c | c <;> subst c <;> rfl
    cases hK : tK t x with
    | none =>
      rw [hK] at hbit
      refine Rq.s (fun _ => b150_0 (by (try simp (disch := omega) only [nI_add, nI_mulN, pk_sub, nI_clamp, Nat.reduceAdd, Nat.reduceMul, Nat.reduceSub, Nat.zero_add, Nat.add_zero]); exact h102)) ?_
      refine Rq.bt (fun _ => b150_7) (by decide) ?_
      refine Rq.bf (fun _ => b150_14) (by rw [hbit]; exact fun z => z rfl) ?_
      refine Rq.s (fun _ => b150_25) ?_
      try simp (disch := omega) only [nI_add, nI_mulN, pk_sub, nI_clamp, Nat.reduceAdd, Nat.reduceMul, Nat.reduceSub, Nat.zero_add, Nat.add_zero]
      refine Rq.s (fun _ => b150_30 (by (try simp (disch := omega) only [nI_add, nI_mulN, pk_sub, nI_clamp, Nat.reduceAdd, Nat.reduceMul, Nat.reduceSub, Nat.zero_add, Nat.add_zero]); exact t103_k (k := 2) (by omega) (by omega))) ?_
      refine Rq.bf (fun _ => b150_33) (fun z => z rfl) ?_
      refine Rq.e (b150_36) ?_
      exact OKm.x (k := 2) hs I rfl
    | some X =>
      rw [hK] at hbit
      have hX := hs.2.2.2.1 x X hK
      obtain ⟨_, D4, hC4, rfl, I4, k4, f4⟩ := m106 (sc := sc) (d := d) (G := G) hs (InvM_t (x := nI 0) hs I)
      have RX := I4.2.2.2.2.1 x X (by omega) hK
      have L : ∀ n i D3, 102 - i = n → i ≤ 102 → (∀ j, j < i → D3 80 j = D4 83 (102 * x + j)) → (∀ a, a ≠ 80 → D3 a = D4 a) → Rq sc (d + 1) 150 (44, [some (.ref 79), some (.int (nI x)), some (.int (nI i))], [], (hx_S0, D3, G), 0) G (OKm D (0, nI (zn X), setV (zsv t) X)) := by
        intro n
        induction n using Nat.strongRecOn with
        | _ n ih =>
        intro i D3 hn hi h1 hI
        have k83 : D3 83 = D4 83 := hI 83 (by omega)
        refine Rq.b (fun _ => b150_44) (fun h44 => ?_) (fun h44 => ?_)
        · try simp (disch := omega) only [Int32.le_iff_toInt_le, Int32.lt_iff_toInt_lt, z_eq, z_nI, z_0, z_m1, z_sub, nI_add, nI_mulN, pk_sub, nI_clamp, Nat.reduceAdd, Nat.reduceMul, Nat.reduceSub, Nat.zero_add, Nat.add_zero, k83] at h44
          all_goals (try (exfalso; omega))
          all_goals
            refine Rq.e (b150_73 (by (try simp (disch := omega) only [nI_add, nI_mulN, pk_sub, nI_clamp, Nat.reduceAdd, Nat.reduceMul, Nat.reduceSub, Nat.zero_add, Nat.add_zero, k83]); exact nI_inbT (by omega) (by omega))) ?_
            have R3 : RepM D3 80 0 X := RepM_k hX (fun i hi => by rw [Nat.zero_add]; exact h1 i (by omega)) RX
            rw [nI_clamp (by omega), (rM R3).1]
            exact OKm.v rfl (by rw [hI 79 (by omega), f4 0 (by omega)]; exact hx_up_s _ _ _ _) (InvM_set (SV_zsv hs) I4 R3 (fun a ha => hI a (by omega)) (fun j hj => by rw [hI 79 (by omega)])) (fun a ha => by rw [hI a (by omega), k4 a (by omega) (by omega), hx_up_ne (by omega)])
        · try simp (disch := omega) only [Int32.le_iff_toInt_le, Int32.lt_iff_toInt_lt, z_eq, z_nI, z_0, z_m1, z_sub, nI_add, nI_mulN, pk_sub, nI_clamp, Nat.reduceAdd, Nat.reduceMul, Nat.reduceSub, Nat.zero_add, Nat.add_zero, k83] at h44
          all_goals (try (exfalso; omega))
          all_goals
            refine Rq.s (fun _ => b150_50 (by (try simp (disch := omega) only [nI_add, nI_mulN, pk_sub, nI_clamp, Nat.reduceAdd, Nat.reduceMul, Nat.reduceSub, Nat.zero_add, Nat.add_zero, k83]); exact nI_inbT (by omega) (by omega)) (by (try simp (disch := omega) only [nI_add, nI_mulN, pk_sub, nI_clamp, Nat.reduceAdd, Nat.reduceMul, Nat.reduceSub, Nat.zero_add, Nat.add_zero, k83]); exact nI_inbT (by omega) (by omega))) ?_
            try simp (disch := omega) only [nI_add, nI_mulN, pk_sub, nI_clamp, Nat.reduceAdd, Nat.reduceMul, Nat.reduceSub, Nat.zero_add, Nat.add_zero, k83]
            refine Rq.s (fun _ => b150_67) ?_
            try simp (disch := omega) only [nI_add, nI_mulN, pk_sub, nI_clamp, Nat.reduceAdd, Nat.reduceMul, Nat.reduceSub, Nat.zero_add, Nat.add_zero, k83]
            refine ih _ (by omega) (i + 1) _ rfl (by omega) (fun j hj => ?_) (fun a ha => by rw [hx_up_ne ha]; exact hI a ha)
            by_cases c : j = i
            · rw [c, hx_up_s]
            · rw [hx_up_in _ _ _ (by omega)]
              exact h1 j (by omega)
      refine Rq.s (fun _ => b150_0 (by (try simp (disch := omega) only [nI_add, nI_mulN, pk_sub, nI_clamp, Nat.reduceAdd, Nat.reduceMul, Nat.reduceSub, Nat.zero_add, Nat.add_zero]); exact h102)) ?_
      refine Rq.bt (fun _ => b150_7) (by decide) ?_
      refine Rq.bt (fun _ => b150_14) (by rw [hbit]; show ¬ nI 1 = 0; decide) ?_
      refine Rq.s (fun _ => b150_29) ?_
      try simp (disch := omega) only [nI_add, nI_mulN, pk_sub, nI_clamp, Nat.reduceAdd, Nat.reduceMul, Nat.reduceSub, Nat.zero_add, Nat.add_zero]
      refine Rq.s (fun _ => b150_30 (by (try simp (disch := omega) only [nI_add, nI_mulN, pk_sub, nI_clamp, Nat.reduceAdd, Nat.reduceMul, Nat.reduceSub, Nat.zero_add, Nat.add_zero]); exact t103_0)) ?_
      refine Rq.bt (fun _ => b150_33) (by decide) ?_
      refine Rq.s (fun _ => b150_38 (by (try simp (disch := omega) only [nI_add, nI_mulN, pk_sub, nI_clamp, Nat.reduceAdd, Nat.reduceMul, Nat.reduceSub, Nat.zero_add, Nat.add_zero]); exact hC4)) ?_
      refine Rq.s (fun _ => b150_42) ?_
      try simp (disch := omega) only [nI_add, nI_mulN, pk_sub, nI_clamp, Nat.reduceAdd, Nat.reduceMul, Nat.reduceSub, Nat.zero_add, Nat.add_zero]
      exact L _ 0 D4 rfl (by omega) (fun j hj => absurd hj (Nat.not_lt_zero _)) (fun a ha => rfl)
  · rw [if_neg hx] at h102 ⊢
    refine Rq.s (fun _ => b150_0 (by (try simp (disch := omega) only [nI_add, nI_mulN, pk_sub, nI_clamp, Nat.reduceAdd, Nat.reduceMul, Nat.reduceSub, Nat.zero_add, Nat.add_zero]); exact h102)) ?_
    refine Rq.bf (fun _ => b150_7) (fun z => z rfl) ?_
    refine Rq.s (fun _ => b150_10) ?_
    try simp (disch := omega) only [nI_add, nI_mulN, pk_sub, nI_clamp, Nat.reduceAdd, Nat.reduceMul, Nat.reduceSub, Nat.zero_add, Nat.add_zero]
    refine Rq.s (fun _ => b150_30 (by (try simp (disch := omega) only [nI_add, nI_mulN, pk_sub, nI_clamp, Nat.reduceAdd, Nat.reduceMul, Nat.reduceSub, Nat.zero_add, Nat.add_zero]); exact t103_k (k := 1) (by omega) (by omega))) ?_
    refine Rq.bf (fun _ => b150_33) (fun z => z rfl) ?_
    refine Rq.e (b150_36) ?_
    exact OKm.x (k := 1) hs I rfl
theorem rUndo {sc : Nat × (Nat → Int32)} {d : Nat} {D : Nat → Nat → Int32} {G : Nat → Nat → Int64} {t : ST} (I : InvM D t) (hs : SV t) : Cq sc (d + 1) 151 [.ref 79] D G (OKm D (oUndo t)) := by
  have hv := hs.1
  have h7 := hv.1
  have R := I.1
  have R1 := (InvM_t (x := nI 0) hs I).1
  have s98 := (rM I.1).1
  have w98 := (rM R1).1
  have s4 := I.2.1
  have h6 := hs.2.1
  refine Cq.c (fun _ _ _ => c151) ?_
  unfold oUndo
  cases hK : hx_nth (tS t) ((tS t).length - 1) with
  | none =>
    have hl : (tS t).length = 0 := by
      rw [hx_nth_eq, List.getElem?_eq_none_iff] at hK
      omega
    refine Rq.bt (fun _ => b151_0) (by rw [s4, hl]; decide) ?_
    refine Rq.s (fun _ => b151_12) ?_
    try simp (disch := omega) only [nI_add, nI_mulN, pk_sub, nI_clamp, Nat.reduceAdd, Nat.reduceMul, Nat.reduceSub, Nat.zero_add, Nat.add_zero]
    refine Rq.s (fun _ => b151_13 (by (try simp (disch := omega) only [nI_add, nI_mulN, pk_sub, nI_clamp, Nat.reduceAdd, Nat.reduceMul, Nat.reduceSub, Nat.zero_add, Nat.add_zero]); exact t103_k (k := 1) (by omega) (by omega))) ?_
    refine Rq.bf (fun _ => b151_16) (fun z => z rfl) ?_
    refine Rq.e (b151_19) ?_
    exact OKm.x (k := 1) hs I rfl
  | some X =>
    have hX := hs.2.2.1 X (hx_nth_mem hK)
    have hl : 1 ≤ (tS t).length := by
      rw [hx_nth_eq] at hK
      have := (List.getElem?_eq_some_iff.mp hK).1
      omega
    have w4 : hx_up D 79 0 (nI 0) 79 4 = nI (tS t).length := by rw [hx_up_in _ _ _ (by omega)]; exact s4
    have RX := I.2.2.1 _ X hK
    have L : ∀ n i D3, 102 - i = n → i ≤ 102 → (∀ j, j < i → D3 80 j = D 82 (102 * ((tS t).length - 1) + j)) → (∀ a, a ≠ 80 → D3 a = hx_up (hx_up D 79 0 (nI 0)) 79 4 (nI ((tS t).length - 1)) a) → Rq sc (d + 1) 151 (33, [some (.ref 79), some (.int (nI i))], [], (hx_S0, D3, G), 0) G (OKm D (0, nI ((tS t).length - 1), X, (tS t).take ((tS t).length - 1), tK t, tn t, tb t)) := by
      intro n
      induction n using Nat.strongRecOn with
      | _ n ih =>
      intro i D3 hn hi h1 hI
      have k82 : D3 82 = D 82 := by rw [hI 82 (by omega), hx_up_ne (by omega), hx_up_ne (by omega)]
      have k4 : D3 79 4 = nI ((tS t).length - 1) := by rw [hI 79 (by omega), hx_up_s]
      refine Rq.b (fun _ => b151_33) (fun h33 => ?_) (fun h33 => ?_)
      · try simp (disch := omega) only [Int32.le_iff_toInt_le, Int32.lt_iff_toInt_lt, z_eq, z_nI, z_0, z_m1, z_sub, nI_add, nI_mulN, pk_sub, nI_clamp, Nat.reduceAdd, Nat.reduceMul, Nat.reduceSub, Nat.zero_add, Nat.add_zero, k82, k4] at h33
        all_goals (try (exfalso; omega))
        all_goals
          refine Rq.e (b151_65) ?_
          rw [k4]
          obtain ⟨i1, i2, i3, i4, i5, i6, i7⟩ := InvM_t (x := nI 0) hs I
          have kk : ∀ a, a ≠ 80 → a ≠ 79 → D3 a = D a := fun a a1 a2 => by rw [hI a a1, hx_up_ne a2, hx_up_ne a2]
          have k79 : ∀ j, j ≠ 4 → D3 79 j = hx_up D 79 0 (nI 0) 79 j := fun j hj => by rw [hI 79 (by omega), hx_up_in _ _ _ hj]
          refine OKm.v (t := (X, (tS t).take ((tS t).length - 1), tK t, tn t, tb t)) rfl (by rw [k79 0 (by omega)]; exact hx_up_s _ _ _ _) ?_ (fun a ha => kk a (by omega) (by omega))
          refine ⟨RepM_k hX (fun i hi => by rw [Nat.zero_add]; exact h1 i (by omega)) RX, ?_, fun j Y hj => ?_, by rw [k79 6 (by omega)]; exact i4, fun k Y h3 h4 => RepM_k (hs.2.2.2.1 k Y h4) (fun i _ => by rw [kk 83 (by omega) (by omega), hx_up_ne (by omega)]) (i5 k Y h3 h4), by rw [k79 8 (by omega)]; exact i6, fun i hi => by rw [kk 84 (by omega) (by omega)]; exact I.2.2.2.2.2.2 i hi⟩
          · rw [k4]
            show _ = nI ((tS t).take ((tS t).length - 1)).length
            rw [List.length_take, Nat.min_eq_left (by omega)]
          · have hj2 : hx_nth ((tS t).take ((tS t).length - 1)) j = some Y := hj
            have hj3 : hx_nth (tS t) j = some Y := by
              rw [hx_nth_eq] at hj2 ⊢
              have hlt := (List.getElem?_eq_some_iff.mp hj2).1
              rw [List.length_take] at hlt
              rw [List.getElem?_take_of_lt (by omega)] at hj2
              exact hj2
            exact RepM_k (hs.2.2.1 Y (hx_nth_mem hj3)) (fun i _ => by rw [kk 82 (by omega) (by omega), hx_up_ne (by omega)]) (i3 j Y hj3)
      · try simp (disch := omega) only [Int32.le_iff_toInt_le, Int32.lt_iff_toInt_lt, z_eq, z_nI, z_0, z_m1, z_sub, nI_add, nI_mulN, pk_sub, nI_clamp, Nat.reduceAdd, Nat.reduceMul, Nat.reduceSub, Nat.zero_add, Nat.add_zero, k82, k4] at h33
        all_goals (try (exfalso; omega))
        all_goals
          refine Rq.s (fun _ => b151_39 (by (try simp (disch := omega) only [nI_add, nI_mulN, pk_sub, nI_clamp, Nat.reduceAdd, Nat.reduceMul, Nat.reduceSub, Nat.zero_add, Nat.add_zero, k82, k4]); exact nI_inbT (by omega) (by omega)) (by (try simp (disch := omega) only [nI_add, nI_mulN, pk_sub, nI_clamp, Nat.reduceAdd, Nat.reduceMul, Nat.reduceSub, Nat.zero_add, Nat.add_zero, k82, k4]); exact nI_inbT (by omega) (by omega))) ?_
          try simp (disch := omega) only [nI_add, nI_mulN, pk_sub, nI_clamp, Nat.reduceAdd, Nat.reduceMul, Nat.reduceSub, Nat.zero_add, Nat.add_zero, k82, k4]
          refine Rq.s (fun _ => b151_59) ?_
          try simp (disch := omega) only [nI_add, nI_mulN, pk_sub, nI_clamp, Nat.reduceAdd, Nat.reduceMul, Nat.reduceSub, Nat.zero_add, Nat.add_zero, k82, k4]
          refine ih _ (by omega) (i + 1) _ rfl (by omega) (fun j hj => ?_) (fun a ha => by rw [hx_up_ne ha]; exact hI a ha)
          by_cases c : j = i
          · rw [c, hx_up_s]
          · rw [hx_up_in _ _ _ (by omega)]
            exact h1 j (by omega)
    refine Rq.bf (fun _ => b151_0) (by rw [s4]; simp (disch := omega) only [Int32.le_iff_toInt_le, z_nI, z_0]; omega) ?_
    refine Rq.s (fun _ => b151_8) ?_
    try simp (disch := omega) only [nI_add, nI_mulN, pk_sub, nI_clamp, Nat.reduceAdd, Nat.reduceMul, Nat.reduceSub, Nat.zero_add, Nat.add_zero, w4]
    refine Rq.s (fun _ => b151_13 (by (try simp (disch := omega) only [nI_add, nI_mulN, pk_sub, nI_clamp, Nat.reduceAdd, Nat.reduceMul, Nat.reduceSub, Nat.zero_add, Nat.add_zero, w4]); exact t103_0)) ?_
    refine Rq.bt (fun _ => b151_16) (by decide) ?_
    refine Rq.s (fun _ => b151_21) ?_
    try simp (disch := omega) only [nI_add, nI_mulN, pk_sub, nI_clamp, Nat.reduceAdd, Nat.reduceMul, Nat.reduceSub, Nat.zero_add, Nat.add_zero, w4]
    exact L _ 0 _ rfl (by omega) (fun j hj => absurd hj (Nat.not_lt_zero _)) (fun a ha => rfl)
