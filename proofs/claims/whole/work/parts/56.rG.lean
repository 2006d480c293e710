/-! ===== the reference: what changes it ===== -/
def QCp (m : Nat) (D : Nat → Nat → Int32) : hx_RS → (Nat → Nat → Int32) → Prop := fun r D2 => r = .inl none ∧ D2 79 4 = nI (m + 1) ∧ (∀ j, j < 102 → D2 82 (102 * m + j) = D 80 j) ∧ (∀ j, j < 102 * m → D2 82 j = D 82 j) ∧ (∀ a, a ≠ 79 → a ≠ 82 → D2 a = D a) ∧ ∀ j, j ≠ 4 → D2 79 j = D 79 j
theorem m106a {sc : Nat × (Nat → Int32)} {d : Nat} {D : Nat → Nat → Int32} {G : Nat → Nat → Int64} {m : Nat} (h4 : D 79 4 = nI m) (hm : m ≤ 5) : Rq sc d 106 (51, [some (.ref 79), some (.int (nI 0))], [], (hx_S0, D, G), 0) G (QCp m D) := by
  have L : ∀ n i D3, 102 - i = n → i ≤ 102 → (∀ j, j < i → D3 82 (102 * m + j) = D 80 j) → (∀ j, j < 102 * m → D3 82 j = D 82 j) → (∀ a, a ≠ 82 → D3 a = D a) → Rq sc d 106 (51, [some (.ref 79), some (.int (nI i))], [], (hx_S0, D3, G), 0) G (QCp m D) := by
    intro n
    induction n using Nat.strongRecOn with
    | _ n ih =>
    intro i D3 hn hi h1 h2 hI
    have k4 : D3 79 4 = nI m := by rw [hI 79 (by omega)]; exact h4
    have k80 : D3 80 = D 80 := hI 80 (by omega)
    refine Rq.b (fun _ => b106_51) (fun h51 => ?_) (fun h51 => ?_)
    · try simp (disch := omega) only [Int32.le_iff_toInt_le, Int32.lt_iff_toInt_lt, z_eq, z_nI, z_0, z_m1, z_sub, nI_add, nI_mulN, pk_sub, nI_clamp, Nat.reduceAdd, Nat.reduceMul, Nat.reduceSub, Nat.zero_add, Nat.add_zero, k4, k80] at h51
      all_goals (try (exfalso; omega))
      all_goals
        refine Rq.e (b106_83) ?_
        exact ⟨rfl, by rw [hx_up_s, k4, nI_add], fun j hj => by rw [hx_up_ne (by omega)]; exact h1 j (by omega), fun j hj => by rw [hx_up_ne (by omega)]; exact h2 j hj, fun a a1 a2 => by rw [hx_up_ne (by omega)]; exact hI a a2, fun j hj => by rw [hx_up_in _ _ _ (by omega), hI 79 (by omega)]⟩
    · try simp (disch := omega) only [Int32.le_iff_toInt_le, Int32.lt_iff_toInt_lt, z_eq, z_nI, z_0, z_m1, z_sub, nI_add, nI_mulN, pk_sub, nI_clamp, Nat.reduceAdd, Nat.reduceMul, Nat.reduceSub, Nat.zero_add, Nat.add_zero, k4, k80] at h51
      all_goals (try (exfalso; omega))
      all_goals
        refine Rq.s (fun _ => b106_57 (by (try simp (disch := omega) only [nI_add, nI_mulN, pk_sub, nI_clamp, Nat.reduceAdd, Nat.reduceMul, Nat.reduceSub, Nat.zero_add, Nat.add_zero, k4, k80]); exact nI_inbT (by omega) (by omega)) (by (try simp (disch := omega) only [nI_add, nI_mulN, pk_sub, nI_clamp, Nat.reduceAdd, Nat.reduceMul, Nat.reduceSub, Nat.zero_add, Nat.add_zero, k4, k80]); exact nI_inbT (by omega) (by omega))) ?_
        try simp (disch := omega) only [nI_add, nI_mulN, pk_sub, nI_clamp, Nat.reduceAdd, Nat.reduceMul, Nat.reduceSub, Nat.zero_add, Nat.add_zero, k4, k80]
        refine Rq.s (fun _ => b106_77) ?_
        try simp (disch := omega) only [nI_add, nI_mulN, pk_sub, nI_clamp, Nat.reduceAdd, Nat.reduceMul, Nat.reduceSub, Nat.zero_add, Nat.add_zero, k4, k80]
        refine ih _ (by omega) (i + 1) _ rfl (by omega) (fun j hj => ?_) (fun j hj => by rw [hx_up_in _ _ _ (by omega)]; exact h2 j hj) (fun a ha => by rw [hx_up_ne ha]; exact hI a ha)
        by_cases c : j = i
        · rw [c, hx_up_s]
        · rw [hx_up_in _ _ _ (by omega)]
          exact h1 j (by omega)
  exact L _ 0 D rfl (by omega) (fun j hj => absurd hj (Nat.not_lt_zero _)) (fun j _ => rfl) (fun a _ => rfl)
theorem m106b {sc : Nat × (Nat → Int32)} {d : Nat} {D : Nat → Nat → Int32} {G : Nat → Nat → Int64} : (D 79 4 = nI 6) → Rq sc d 106 (11, [some (.ref 79), some (.int (nI 0))], [], (hx_S0, D, G), 0) G (fun r D2 => r = .inl none ∧ D2 79 4 = nI 6 ∧ (∀ j, j < 102 → D2 82 (510 + j) = D 80 j) ∧ (∀ j, j < 510 → D2 82 j = D 82 (j + 102)) ∧ (∀ a, a ≠ 79 → a ≠ 82 → D2 a = D a) ∧ ∀ j, j ≠ 4 → D2 79 j = D 79 j) := by
  intro h4
  have L : ∀ n i D3, 510 - i = n → i ≤ 510 → (∀ j, j < i → D3 82 j = D 82 (j + 102)) → (∀ j, i ≤ j → D3 82 j = D 82 j) → (∀ a, a ≠ 82 → D3 a = D a) → Rq sc d 106 (11, [some (.ref 79), some (.int (nI i))], [], (hx_S0, D3, G), 0) G (fun r D2 => r = .inl none ∧ D2 79 4 = nI 6 ∧ (∀ j, j < 102 → D2 82 (510 + j) = D 80 j) ∧ (∀ j, j < 510 → D2 82 j = D 82 (j + 102)) ∧ (∀ a, a ≠ 79 → a ≠ 82 → D2 a = D a) ∧ ∀ j, j ≠ 4 → D2 79 j = D 79 j) := by
    intro n
    induction n using Nat.strongRecOn with
    | _ n ih =>
    intro i D3 hn hi h1 h2 hI
    have k4 : D3 79 4 = nI 6 := by rw [hI 79 (by omega)]; exact h4
    refine Rq.b (fun _ => b106_11) (fun h11 => ?_) (fun h11 => ?_)
    · try simp (disch := omega) only [Int32.le_iff_toInt_le, Int32.lt_iff_toInt_lt, z_eq, z_nI, z_0, z_m1, z_sub, nI_add, nI_mulN, pk_sub, nI_clamp, Nat.reduceAdd, Nat.reduceMul, Nat.reduceSub, Nat.zero_add, Nat.add_zero, k4] at h11
      all_goals (try (exfalso; omega))
      all_goals
        refine Rq.s (fun _ => b106_39) ?_
        try simp (disch := omega) only [nI_add, nI_mulN, pk_sub, nI_clamp, Nat.reduceAdd, Nat.reduceMul, Nat.reduceSub, Nat.zero_add, Nat.add_zero, k4]
        refine Rq.s (fun _ => b106_49b) ?_
        try simp (disch := omega) only [nI_add, nI_mulN, pk_sub, nI_clamp, Nat.reduceAdd, Nat.reduceMul, Nat.reduceSub, Nat.zero_add, Nat.add_zero, k4]
        obtain ⟨r, D2, u, hR, rfl, e4, e1, e2, e3, e5⟩ := m106a (sc := sc) (d := d) (D := hx_up D3 79 4 (nI 5)) (G := G) (m := 5) (hx_up_s _ _ _ _) (by omega)
        exact ⟨_, D2, u, hR, rfl, e4, fun j hj => by rw [show 510 + j = 102 * 5 + j by omega, e1 j hj, hx_up_ne (by omega), hI 80 (by omega)], fun j hj => by rw [e2 j (by omega), hx_up_ne (by omega)]; exact h1 j (by omega), fun a a1 a2 => by rw [e3 a a1 a2, hx_up_ne (by omega)]; exact hI a a2, fun j hj => by rw [e5 j hj, hx_up_in _ _ _ (by omega), hI 79 (by omega)]⟩
    · try simp (disch := omega) only [Int32.le_iff_toInt_le, Int32.lt_iff_toInt_lt, z_eq, z_nI, z_0, z_m1, z_sub, nI_add, nI_mulN, pk_sub, nI_clamp, Nat.reduceAdd, Nat.reduceMul, Nat.reduceSub, Nat.zero_add, Nat.add_zero, k4] at h11
      all_goals (try (exfalso; omega))
      all_goals
        refine Rq.s (fun _ => b106_18 (by (try simp (disch := omega) only [nI_add, nI_mulN, pk_sub, nI_clamp, Nat.reduceAdd, Nat.reduceMul, Nat.reduceSub, Nat.zero_add, Nat.add_zero, k4]); exact nI_inbT (by omega) (by omega)) (by (try simp (disch := omega) only [nI_add, nI_mulN, pk_sub, nI_clamp, Nat.reduceAdd, Nat.reduceMul, Nat.reduceSub, Nat.zero_add, Nat.add_zero, k4]); exact nI_inbT (by omega) (by omega))) ?_
        try simp (disch := omega) only [nI_add, nI_mulN, pk_sub, nI_clamp, Nat.reduceAdd, Nat.reduceMul, Nat.reduceSub, Nat.zero_add, Nat.add_zero, k4]
        refine ih _ (by omega) (i + 1) _ rfl (by omega) (fun j hj => ?_) (fun j hj => by rw [hx_up_in _ _ _ (by omega)]; exact h2 j (by omega)) (fun a ha => by rw [hx_up_ne ha]; exact hI a ha)
        by_cases c : j = i
        · rw [c, hx_up_s]
          exact h2 _ (by omega)
        · rw [hx_up_in _ _ _ (by omega)]
          exact h1 j (by omega)
  exact L _ 0 D rfl (by omega) (fun j hj => absurd hj (Nat.not_lt_zero _)) (fun j _ => rfl) (fun a _ => rfl)
theorem m106 {sc : Nat × (Nat → Int32)} {d : Nat} {D : Nat → Nat → Int32} {G : Nat → Nat → Int64} {t : ST} (hs : SV t) (I : InvM D t) : Cq sc d 106 [.ref 79] D G (fun r D2 => r = .inl none ∧ InvM D2 (zsv t) ∧ (∀ a, a ≠ 79 → a ≠ 82 → D2 a = D a) ∧ ∀ j, j ≠ 4 → D2 79 j = D 79 j) := by
  obtain ⟨i1, i2, i3, i4, i5, i6, i7⟩ := id I
  have hl := hs.2.1
  refine Cq.c (fun _ _ _ => c106) ?_
  by_cases c : (tS t).length = 6
  · rw [c] at i2
    refine Rq.bf (fun _ => b106_0) (by rw [i2]; exact fun z => z rfl) ?_
    refine Rq.s (fun _ => b106_9) ?_
    obtain ⟨r, D2, u, hR, rfl, e4, e1, e2, e3, e5⟩ := m106b (sc := sc) (d := d) (G := G) i2
    refine ⟨_, D2, u, hR, rfl, ⟨RepM_k hs.1 (fun i _ => by rw [e3 80 (by omega) (by omega)]) i1, ?_, fun j X hj => ?_, by rw [e5 6 (by omega)]; exact i4, fun k X h1 h2 => RepM_k (hs.2.2.2.1 k X h2) (fun i _ => by rw [e3 83 (by omega) (by omega)]) (i5 k X h1 h2), by rw [e5 8 (by omega)]; exact i6, fun i hi => by rw [e3 84 (by omega) (by omega)]; exact i7 i hi⟩, e3, e5⟩
    · show D2 79 4 = nI ((if (tS t).length = 6 then (tS t).drop 1 else tS t) ++ [tV t]).length
      rw [if_pos c, e4, List.length_append, List.length_drop, List.length_singleton, c]
    · have hj2 : hx_nth ((if (tS t).length = 6 then (tS t).drop 1 else tS t) ++ [tV t]) j = some X := hj
      rw [if_pos c, hx_nth_eq] at hj2
      by_cases cj : j < 5
      · rw [List.getElem?_append_left (by rw [List.length_drop]; omega), List.getElem?_drop] at hj2
        have h3 := i3 (1 + j) X (by rw [hx_nth_eq]; exact hj2)
        exact RepM_k (hs.2.2.1 X (List.mem_of_getElem? hj2)) (fun i hi => by rw [e2 _ (by omega)]; congr 1; omega) h3
      · rw [List.getElem?_append_right (by rw [List.length_drop]; omega), List.length_drop, c] at hj2
        have hj5 : j = 5 := by
          have := (List.getElem?_eq_some_iff.mp hj2).1
          rw [List.length_singleton] at this
          omega
        subst hj5
        cases hj2
        exact RepM_k hs.1 (fun i hi => by rw [Nat.zero_add]; exact e1 i hi) i1
  · refine Rq.bt (fun _ => b106_0) (by rw [i2]; simp (disch := omega) only [z_eq, z_nI]; omega) ?_
    refine Rq.s (fun _ => b106_49) ?_
    obtain ⟨r, D2, u, hR, rfl, e4, e1, e2, e3, e5⟩ := m106a (sc := sc) (d := d) (G := G) i2 (by omega)
    refine ⟨_, D2, u, hR, rfl, ⟨RepM_k hs.1 (fun i _ => by rw [e3 80 (by omega) (by omega)]) i1, ?_, fun j X hj => ?_, by rw [e5 6 (by omega)]; exact i4, fun k X h1 h2 => RepM_k (hs.2.2.2.1 k X h2) (fun i _ => by rw [e3 83 (by omega) (by omega)]) (i5 k X h1 h2), by rw [e5 8 (by omega)]; exact i6, fun i hi => by rw [e3 84 (by omega) (by omega)]; exact i7 i hi⟩, e3, e5⟩
    · show D2 79 4 = nI ((if (tS t).length = 6 then (tS t).drop 1 else tS t) ++ [tV t]).length
      rw [if_neg c, e4, List.length_append, List.length_singleton]
    · have hj2 : hx_nth ((if (tS t).length = 6 then (tS t).drop 1 else tS t) ++ [tV t]) j = some X := hj
      rw [if_neg c, hx_nth_eq] at hj2
      by_cases cj : j < (tS t).length
      · rw [List.getElem?_append_left cj] at hj2
        have h3 := i3 j X (by rw [hx_nth_eq]; exact hj2)
        exact RepM_k (hs.2.2.1 X (List.mem_of_getElem? hj2)) (fun i hi => e2 _ (by omega)) h3
      · rw [List.getElem?_append_right (by omega)] at hj2
        have hj5 : j = (tS t).length := by
          have := (List.getElem?_eq_some_iff.mp hj2).1
          rw [List.length_singleton] at this
          omega
        subst hj5
        rw [Nat.sub_self] at hj2
        cases hj2
        exact RepM_k hs.1 (fun i hi => by rw [Nat.zero_add]; exact e1 i hi) i1
theorem InvM_set {D D2 : Nat → Nat → Int32} {t : ST} {V : ZV} (hs : SV t) (I : InvM D t) (R : RepM D2 80 0 V) (e1 : ∀ a, a = 82 ∨ a = 83 ∨ a = 84 → D2 a = D a) (e3 : ∀ j, j = 4 ∨ j = 6 ∨ j = 8 → D2 79 j = D 79 j) : InvM D2 (setV t V) := by
  obtain ⟨i1, i2, i3, i4, i5, i6, i7⟩ := I
  exact ⟨R, by rw [e3 4 (by omega)]; exact i2, fun j X h => RepM_k (hs.2.2.1 X (hx_nth_mem h)) (fun i _ => by rw [e1 82 (by omega)]) (i3 j X h), by rw [e3 6 (by omega)]; exact i4, fun k X h1 h2 => RepM_k (hs.2.2.2.1 k X h2) (fun i _ => by rw [e1 83 (by omega)]) (i5 k X h1 h2), by rw [e3 8 (by omega)]; exact i6, fun i hi => by rw [e1 84 (by omega)]; exact i7 i hi⟩
theorem zB_0 : ∀ k, zB (fun _ => false) k = 0
  | 0 => rfl
  | k + 1 => by
    show zB (fun _ => false) k + (if (false : Bool) then 2 ^ k else 0) = 0
    rw [zB_0 k]
    rfl
theorem RepM_i {D : Nat → Nat → Int32} {V : ZV} (h98 : D 80 98 = nI (zn V)) (h99 : D 80 99 = nI (zm V)) (hw : ∀ p, p < zn V → D 80 (13 * p) = nI (zw V p)) (he : ∀ p j, p < zn V → j < 10 → D 80 (13 * p + (j + 1)) = nI (ze V p j)) (hh : ∀ p, p < zn V → D 80 (13 * p + 11) = nI (zB (zh V p) 30) ∧ D 80 (13 * p + 12) = nI (zB (fun x => zh V p (x + 30)) 30)) (hr : ∀ i, i < zn V → D 80 (91 + i) = nI (zr V i)) (h0 : D 80 100 = nI (zs V 0)) (h1 : D 80 101 = nI (zs V 1)) : RepM D 80 0 V := by
  unfold RepM
  simp only [Nat.zero_add]
  exact ⟨h98, h99, fun p hp => by rw [Nat.mul_comm]; exact hw p hp, fun p j hp hj => by rw [Nat.mul_comm]; exact he p j hp hj, fun p hp => by rw [Nat.mul_comm]; exact hh p hp, hr, h0, h1⟩
theorem RepM_add {D D2 : Nat → Nat → Int32} {V : ZV} {w : Nat} (hv : Valid V) (hn : zn V < 7) (R : RepM D 80 0 V) (e98 : D2 80 98 = nI (zn V + 1)) (ew : D2 80 (13 * zn V) = nI w) (e0 : ∀ j, 1 ≤ j → j < 13 → D2 80 (13 * zn V + j) = nI 0) (er : D2 80 (91 + zn V) = nI (zn V)) (e : ∀ i, i < 102 → i ≠ 98 → (i < 13 * zn V ∨ 13 * zn V + 13 ≤ i) → i ≠ 91 + zn V → D2 80 i = D 80 i) : RepM D2 80 0 (opAdd V w) := by
  obtain ⟨r98, r99, rw, re, rh, rr, r0, r1⟩ := rM R
  refine RepM_i e98 (by rw [e 99 (by omega) (by omega) (by omega) (by omega)]; exact r99) (fun p hp => ?_) (fun p j hp hj => ?_) (fun p hp => ?_) (fun i hi => ?_) (by rw [e 100 (by omega) (by omega) (by omega) (by omega)]; exact r0) (by rw [e 101 (by omega) (by omega) (by omega) (by omega)]; exact r1)
  · have hp2 : p < zn V + 1 := hp
    show _ = nI (gup (zw V) (zn V) w p)
    by_cases c : p = zn V
    · rw [c, gup_s]; exact ew
    · rw [gup_n _ _ c, e _ (by omega) (by omega) (by omega) (by omega)]; exact rw p (by omega)
  · have hp2 : p < zn V + 1 := hp
    show _ = nI (gup (ze V) (zn V) (fun _ => 0) p j)
    by_cases c : p = zn V
    · rw [c, gup_s]; exact e0 _ (by omega) (by omega)
    · rw [gup_n _ _ c, e _ (by omega) (by omega) (by omega) (by omega)]; exact re p j (by omega) hj
  · have hp2 : p < zn V + 1 := hp
    show _ = nI (zB (gup (zh V) (zn V) (fun _ => false) p) 30) ∧ _ = nI (zB (fun x => gup (zh V) (zn V) (fun _ => false) p (x + 30)) 30)
    by_cases c : p = zn V
    · rw [c, gup_s, zB_0]
      exact ⟨e0 _ (by omega) (by omega), e0 _ (by omega) (by omega)⟩
    · rw [gup_n _ _ c, e _ (by omega) (by omega) (by omega) (by omega), e _ (by omega) (by omega) (by omega) (by omega)]; exact rh p (by omega)
  · have hi2 : i < zn V + 1 := hi
    show _ = nI (gup (zr V) (zn V) (zn V) i)
    by_cases c : i = zn V
    · rw [c, gup_s]; exact er
    · rw [gup_n _ _ c, e _ (by omega) (by omega) (by omega) (by omega)]; exact rr i (by omega)
theorem m125 {sc : Nat × (Nat → Int32)} {d : Nat} {D : Nat → Nat → Int32} {G : Nat → Nat → Int64} {V : ZV} {w : Nat} (R : RepM D 80 0 V) (hv : Valid V) (hn : zn V < 7) : Cq sc (d + 1) 125 [.ref 79, .int (nI w)] D G (fun r D2 => r = .inl (some (.int (nI (zn V)))) ∧ RepM D2 80 0 (opAdd V w) ∧ ∀ a, a ≠ 80 → D2 a = D a) := by
  have s98 := (rM R).1
  have L : ∀ m i D3, 13 - i = m → i ≤ 13 → (∀ a, a ≠ 80 → D3 a = D a) → (∀ j, j < i → D3 80 (13 * zn V + j) = nI 0) → D3 80 98 = nI (zn V + 1) → (∀ j, j < 102 → j ≠ 98 → (j < 13 * zn V ∨ 13 * zn V + 13 ≤ j) → D3 80 j = D 80 j) → Rq sc (d + 1) 125 (21, [some (.ref 79), some (.int (nI w)), some (.int (nI (zn V))), some (.int (nI i))], [], (hx_S0, D3, G), 0) G (fun r D2 => r = .inl (some (.int (nI (zn V)))) ∧ RepM D2 80 0 (opAdd V w) ∧ ∀ a, a ≠ 80 → D2 a = D a) := by
    intro m
    induction m using Nat.strongRecOn with
    | _ m ih =>
    intro i D3 hm hi hI h0 h98 he
    refine Rq.b (fun _ => b125_21) (fun h21 => ?_) (fun h21 => ?_)
    · try simp (disch := omega) only [Int32.le_iff_toInt_le, Int32.lt_iff_toInt_lt, z_eq, z_nI, z_0, z_m1, z_sub, nI_add, nI_mulN, pk_sub, nI_clamp, Nat.reduceAdd, Nat.reduceMul, Nat.reduceSub, Nat.zero_add, Nat.add_zero] at h21
      all_goals (try (exfalso; omega))
      all_goals
        refine Rq.s (fun _ => b125_44 (by (try simp (disch := omega) only [nI_add, nI_mulN, pk_sub, nI_clamp, Nat.reduceAdd, Nat.reduceMul, Nat.reduceSub, Nat.zero_add, Nat.add_zero]); exact m105)) ?_
        refine Rq.e (b125_53 (by (try simp (disch := omega) only [nI_add, nI_mulN, pk_sub, nI_clamp, Nat.reduceAdd, Nat.reduceMul, Nat.reduceSub, Nat.zero_add, Nat.add_zero]); exact nI_inbT (by omega) (by omega)) (by (try simp (disch := omega) only [nI_add, nI_mulN, pk_sub, nI_clamp, Nat.reduceAdd, Nat.reduceMul, Nat.reduceSub, Nat.zero_add, Nat.add_zero]); exact nI_inbT (by omega) (by omega))) ?_
        try simp (disch := omega) only [nI_add, nI_mulN, pk_sub, nI_clamp, Nat.reduceAdd, Nat.reduceMul, Nat.reduceSub, Nat.zero_add, Nat.add_zero]
        refine ⟨trivial, RepM_add hv hn R (by rw [hx_up_in _ _ _ (by omega), hx_up_in _ _ _ (by omega)]; exact h98) (by rw [hx_up_in _ _ _ (by omega), hx_up_s]) (fun j h1 h2 => by rw [hx_up_in _ _ _ (by omega), hx_up_in _ _ _ (by omega)]; exact h0 j (by omega)) (by rw [hx_up_s]) (fun j h1 h2 h3 h4 => by rw [hx_up_in _ _ _ (by omega), hx_up_in _ _ _ (by omega)]; exact he j h1 h2 h3), fun a ha => by rw [hx_up_ne ha, hx_up_ne ha]; exact hI a ha⟩
    · try simp (disch := omega) only [Int32.le_iff_toInt_le, Int32.lt_iff_toInt_lt, z_eq, z_nI, z_0, z_m1, z_sub, nI_add, nI_mulN, pk_sub, nI_clamp, Nat.reduceAdd, Nat.reduceMul, Nat.reduceSub, Nat.zero_add, Nat.add_zero] at h21
      all_goals (try (exfalso; omega))
      all_goals
        refine Rq.s (fun _ => b125_27 (by (try simp (disch := omega) only [nI_add, nI_mulN, pk_sub, nI_clamp, Nat.reduceAdd, Nat.reduceMul, Nat.reduceSub, Nat.zero_add, Nat.add_zero]); exact m105)) ?_
        refine Rq.s (fun _ => b125_36 (by (try simp (disch := omega) only [nI_add, nI_mulN, pk_sub, nI_clamp, Nat.reduceAdd, Nat.reduceMul, Nat.reduceSub, Nat.zero_add, Nat.add_zero]); exact nI_inbT (by omega) (by omega))) ?_
        try simp (disch := omega) only [nI_add, nI_mulN, pk_sub, nI_clamp, Nat.reduceAdd, Nat.reduceMul, Nat.reduceSub, Nat.zero_add, Nat.add_zero]
        refine ih _ (by omega) (i + 1) _ rfl (by omega) (fun a ha => by rw [hx_up_ne ha]; exact hI a ha) (fun j hj => ?_) (by rw [hx_up_in _ _ _ (by omega)]; exact h98) (fun j h1 h2 h3 => by rw [hx_up_in _ _ _ (by omega)]; exact he j h1 h2 h3)
        by_cases c : j = i
        · rw [c, hx_up_s]
        · rw [hx_up_in _ _ _ (by omega)]
          exact h0 j (by omega)
  refine Cq.c (fun _ _ _ => c125) ?_
  refine Rq.s (fun _ => b125_0 (by (try simp (disch := omega) only [nI_add, nI_mulN, pk_sub, nI_clamp, Nat.reduceAdd, Nat.reduceMul, Nat.reduceSub, Nat.zero_add, Nat.add_zero, s98]); exact nI_inbT (by omega) (by omega)) (by (try simp (disch := omega) only [nI_add, nI_mulN, pk_sub, nI_clamp, Nat.reduceAdd, Nat.reduceMul, Nat.reduceSub, Nat.zero_add, Nat.add_zero, s98]); exact nI_inbT (by omega) (by omega)) (by (try simp (disch := omega) only [nI_add, nI_mulN, pk_sub, nI_clamp, Nat.reduceAdd, Nat.reduceMul, Nat.reduceSub, Nat.zero_add, Nat.add_zero, s98]); exact nI_inbT (by omega) (by omega))) ?_
  try simp (disch := omega) only [nI_add, nI_mulN, pk_sub, nI_clamp, Nat.reduceAdd, Nat.reduceMul, Nat.reduceSub, Nat.zero_add, Nat.add_zero, s98]
  refine Rq.s (fun _ => b125_19) ?_
  try simp (disch := omega) only [nI_add, nI_mulN, pk_sub, nI_clamp, Nat.reduceAdd, Nat.reduceMul, Nat.reduceSub, Nat.zero_add, Nat.add_zero, s98]
  exact L _ 0 _ rfl (by omega) (fun a ha => by rw [hx_up_ne ha]) (fun j hj => absurd hj (Nat.not_lt_zero _)) (hx_up_s _ _ _ _) (fun j h1 h2 h3 => by rw [hx_up_in _ _ _ h2])
theorem rAdd {sc : Nat × (Nat → Int32)} {d : Nat} {D : Nat → Nat → Int32} {G : Nat → Nat → Int64} {t : ST} {x : Int} (bx1 : -2147483648 ≤ x) (bx2 : x < 2147483648) (I : InvM D t) (hs : SV t) : Cq sc (d + 2) 126 [.ref 79, .int (iI x)] D G (OKm D (oAdd t x)) := by
  have hv := hs.1
  have h7 := hv.1
  have R := I.1
  have R1 := (InvM_t (x := nI 0) hs I).1
  have s98 := (rM I.1).1
  have w98 := (rM R1).1
  refine Cq.c (fun _ _ _ => c126) ?_
  unfold oAdd
  have h102 := m102 (sc := sc) (d := d + 1) (D := D) (G := G) (z_iI bx1 bx2) (z_nI (show 1 < 2 ^ 31 by omega)) (z_nI (show 60 < 2 ^ 31 by omega)) (P := 1 ≤ x ∧ x ≤ 60) (by omega)
  by_cases hx : 1 ≤ x ∧ x ≤ 60
  · rw [if_pos hx] at h102 ⊢
    obtain ⟨x, rfl⟩ := arg_nat (show 0 ≤ x by omega)
    simp only [← i_nI, Int.toNat_natCast] at h102 ⊢
    by_cases hn : zn (tV t) = 7
    · rw [if_pos hn]
      refine Rq.s (fun _ => b126_0 (by (try simp (disch := omega) only [nI_add, nI_mulN, pk_sub, nI_clamp, Nat.reduceAdd, Nat.reduceMul, Nat.reduceSub, Nat.zero_add, Nat.add_zero]); exact h102)) ?_
      refine Rq.bt (fun _ => b126_8) (by decide) ?_
      refine Rq.bf (fun _ => b126_15 (by (try simp (disch := omega) only [nI_add, nI_mulN, pk_sub, nI_clamp, Nat.reduceAdd, Nat.reduceMul, Nat.reduceSub, Nat.zero_add, Nat.add_zero]); exact nI_inbT (by omega) (by omega))) (by rw [nI_clamp (by omega), s98, hn]; exact fun z => z rfl) ?_
      refine Rq.s (fun _ => b126_27) ?_
      try simp (disch := omega) only [nI_add, nI_mulN, pk_sub, nI_clamp, Nat.reduceAdd, Nat.reduceMul, Nat.reduceSub, Nat.zero_add, Nat.add_zero]
      refine Rq.s (fun _ => b126_32 (by (try simp (disch := omega) only [nI_add, nI_mulN, pk_sub, nI_clamp, Nat.reduceAdd, Nat.reduceMul, Nat.reduceSub, Nat.zero_add, Nat.add_zero]); exact t103_k (k := 2) (by omega) (by omega))) ?_
      refine Rq.bf (fun _ => b126_35) (fun z => z rfl) ?_
      refine Rq.e (b126_38) ?_
      exact OKm.x (k := 2) hs I rfl
    · rw [if_neg hn]
      obtain ⟨_, D4, hC4, rfl, I4, k4, f4⟩ := m106 (sc := sc) (d := d + 1) (G := G) hs (InvM_t (x := nI 0) hs I)
      obtain ⟨_, D5, hC5, rfl, R5, k5⟩ := m125 (sc := sc) (d := d) (G := G) (w := x) I4.1 hv (by show zn (tV t) < 7; omega)
      refine Rq.s (fun _ => b126_0 (by (try simp (disch := omega) only [nI_add, nI_mulN, pk_sub, nI_clamp, Nat.reduceAdd, Nat.reduceMul, Nat.reduceSub, Nat.zero_add, Nat.add_zero]); exact h102)) ?_
      refine Rq.bt (fun _ => b126_8) (by decide) ?_
      refine Rq.bt (fun _ => b126_15 (by (try simp (disch := omega) only [nI_add, nI_mulN, pk_sub, nI_clamp, Nat.reduceAdd, Nat.reduceMul, Nat.reduceSub, Nat.zero_add, Nat.add_zero]); exact nI_inbT (by omega) (by omega))) (by rw [nI_clamp (by omega), s98]; simp (disch := omega) only [z_eq, z_nI]; omega) ?_
      refine Rq.s (fun _ => b126_31) ?_
      try simp (disch := omega) only [nI_add, nI_mulN, pk_sub, nI_clamp, Nat.reduceAdd, Nat.reduceMul, Nat.reduceSub, Nat.zero_add, Nat.add_zero]
      refine Rq.s (fun _ => b126_32 (by (try simp (disch := omega) only [nI_add, nI_mulN, pk_sub, nI_clamp, Nat.reduceAdd, Nat.reduceMul, Nat.reduceSub, Nat.zero_add, Nat.add_zero]); exact t103_0)) ?_
      refine Rq.bt (fun _ => b126_35) (by decide) ?_
      refine Rq.s (fun _ => b126_40 (by (try simp (disch := omega) only [nI_add, nI_mulN, pk_sub, nI_clamp, Nat.reduceAdd, Nat.reduceMul, Nat.reduceSub, Nat.zero_add, Nat.add_zero]); exact hC4)) ?_
      refine Rq.s (fun _ => b126_44 (by (try simp (disch := omega) only [nI_add, nI_mulN, pk_sub, nI_clamp, Nat.reduceAdd, Nat.reduceMul, Nat.reduceSub, Nat.zero_add, Nat.add_zero]); exact hC5)) ?_
      refine Rq.e (b126_49) ?_
      exact OKm.v rfl (by rw [k5 79 (by omega), f4 0 (by omega)]; exact hx_up_s _ _ _ _) (InvM_set (SV_zsv hs) I4 R5 (fun a ha => k5 a (by omega)) (fun j hj => by rw [k5 79 (by omega)])) (fun a ha => by rw [k5 a (by omega), k4 a (by omega) (by omega), hx_up_ne (by omega)])
  · rw [if_neg hx] at h102 ⊢
    refine Rq.s (fun _ => b126_0 (by (try simp (disch := omega) only [nI_add, nI_mulN, pk_sub, nI_clamp, Nat.reduceAdd, Nat.reduceMul, Nat.reduceSub, Nat.zero_add, Nat.add_zero]); exact h102)) ?_
    refine Rq.bf (fun _ => b126_8) (fun z => z rfl) ?_
    refine Rq.s (fun _ => b126_11) ?_
    try simp (disch := omega) only [nI_add, nI_mulN, pk_sub, nI_clamp, Nat.reduceAdd, Nat.reduceMul, Nat.reduceSub, Nat.zero_add, Nat.add_zero]
    refine Rq.s (fun _ => b126_32 (by (try simp (disch := omega) only [nI_add, nI_mulN, pk_sub, nI_clamp, Nat.reduceAdd, Nat.reduceMul, Nat.reduceSub, Nat.zero_add, Nat.add_zero]); exact t103_k (k := 1) (by omega) (by omega))) ?_
    refine Rq.bf (fun _ => b126_35) (fun z => z rfl) ?_
    refine Rq.e (b126_38) ?_
    exact OKm.x (k := 1) hs I rfl
theorem m127 {sc : Nat × (Nat → Int32)} {d : Nat} {D : Nat → Nat → Int32} {G : Nat → Nat → Int64} {t : ST} {z x : Nat} (I : InvM D t) (hs : SV t) (hz : z < 102) : Cq sc (d + 1) 127 [.ref 79, .int (nI z), .int (nI x)] D G (fun r D2 => r = .inl (some (.int (D 80 z))) ∧ ∃ D1, InvM D1 (zsv t) ∧ D2 = hx_up D1 80 z (nI x) ∧ (∀ a, a ≠ 79 → a ≠ 82 → D1 a = D a) ∧ ∀ j, j ≠ 4 → D1 79 j = D 79 j) := by
  obtain ⟨_, D4, hC4, rfl, I4, k4, f4⟩ := m106 (sc := sc) (d := d) (G := G) hs I
  have k80 := k4 80 (by omega) (by omega)
  refine Cq.c (fun _ _ _ => c127) ?_
  refine Rq.s (fun _ => b127_0 (by (try simp (disch := omega) only [nI_add, nI_mulN, pk_sub, nI_clamp, Nat.reduceAdd, Nat.reduceMul, Nat.reduceSub, Nat.zero_add, Nat.add_zero, k80]); exact hC4)) ?_
  refine Rq.e (b127_4 (by (try simp (disch := omega) only [nI_add, nI_mulN, pk_sub, nI_clamp, Nat.reduceAdd, Nat.reduceMul, Nat.reduceSub, Nat.zero_add, Nat.add_zero, k80]); exact nI_inbT (by omega) (by omega)) (by (try simp (disch := omega) only [nI_add, nI_mulN, pk_sub, nI_clamp, Nat.reduceAdd, Nat.reduceMul, Nat.reduceSub, Nat.zero_add, Nat.add_zero, k80]); exact nI_inbT (by omega) (by omega))) ?_
  try simp (disch := omega) only [nI_add, nI_mulN, pk_sub, nI_clamp, Nat.reduceAdd, Nat.reduceMul, Nat.reduceSub, Nat.zero_add, Nat.add_zero, k80]
  first
    | exact ⟨rfl, D4, I4, rfl, k4, f4⟩
    | exact ⟨trivial, D4, I4, rfl, k4, f4⟩
theorem RepM_edge {D : Nat → Nat → Int32} {V : ZV} {p j h : Nat} (R : RepM D 80 0 V) (hv : Valid V) (hp : p < zn V) (hj : j < 10) : RepM (hx_up D 80 (13 * p + (j + 1)) (nI h)) 80 0 (opEdge V p j h) := by
  obtain ⟨r98, r99, rw, re, rh, rr, r0, r1⟩ := rM R
  have h7 := hv.1
  refine RepM_i (by rw [hx_up_in _ _ _ (by omega)]; exact r98) (by rw [hx_up_in _ _ _ (by omega)]; exact r99) (fun q hq => by have hq2 : q < zn V := hq; rw [hx_up_in _ _ _ (by omega)]; exact rw q hq) (fun q i hq hi => ?_) (fun q hq => by have hq2 : q < zn V := hq; rw [hx_up_in _ _ _ (by omega), hx_up_in _ _ _ (by omega)]; exact rh q hq) (fun i hi => by rw [hx_up_in _ _ _ (by omega)]; exact rr i hi) (by rw [hx_up_in _ _ _ (by omega)]; exact r0) (by rw [hx_up_in _ _ _ (by omega)]; exact r1)
  have hq2 : q < zn V := hq
  show _ = nI (gup (ze V) p (gup (ze V p) j h) q i)
  by_cases c : q = p
  · rw [c, gup_s]
    by_cases c2 : i = j
    · rw [c2, gup_s, hx_up_s]
    · rw [gup_n _ _ c2, hx_up_in _ _ _ (by omega)]
      exact re p i hp hi
  · rw [gup_n _ _ c, hx_up_in _ _ _ (by omega)]
    exact re q i hq hi
theorem RepM_setg {D : Nat → Nat → Int32} {V : ZV} {k x : Nat} (R : RepM D 80 0 V) (hv : Valid V) (hk : k < 2) : RepM (hx_up D 80 (100 + k) (nI x)) 80 0 (opSet V k x) := by
  obtain ⟨r98, r99, rw, re, rh, rr, r0, r1⟩ := rM R
  have h7 := hv.1
  refine RepM_i (by rw [hx_up_in _ _ _ (by omega)]; exact r98) (by rw [hx_up_in _ _ _ (by omega)]; exact r99) (fun q hq => by have hq2 : q < zn V := hq; rw [hx_up_in _ _ _ (by omega)]; exact rw q hq) (fun q i hq hi => by have hq2 : q < zn V := hq; rw [hx_up_in _ _ _ (by omega)]; exact re q i hq hi) (fun q hq => by have hq2 : q < zn V := hq; rw [hx_up_in _ _ _ (by omega), hx_up_in _ _ _ (by omega)]; exact rh q hq) (fun i hi => by have hi2 : i < zn V := hi; rw [hx_up_in _ _ _ (by omega)]; exact rr i hi) ?_ ?_
  · show _ = nI (gup (zs V) k x 0)
    by_cases c : k = 0
    · rw [c, gup_s, hx_up_s]
    · rw [gup_n _ _ (by omega), hx_up_in _ _ _ (by omega)]; exact r0
  · show _ = nI (gup (zs V) k x 1)
    by_cases c : k = 1
    · rw [c, gup_s, hx_up_s]
    · rw [gup_n _ _ (by omega), hx_up_in _ _ _ (by omega)]; exact r1
theorem rTear {sc : Nat × (Nat → Int32)} {d : Nat} {D : Nat → Nat → Int32} {G : Nat → Nat → Int64} {t : ST} {p : Int} {s : Int} {k : Int} {h : Int} (bp1 : -2147483648 ≤ p) (bp2 : p < 2147483648) (bs1 : -2147483648 ≤ s) (bs2 : s < 2147483648) (bk1 : -2147483648 ≤ k) (bk2 : k < 2147483648) (bh1 : -2147483648 ≤ h) (bh2 : h < 2147483648) (I : InvM D t) (hs : SV t) : Cq sc (d + 2) 128 [.ref 79, .int (iI p), .int (iI s), .int (iI k), .int (iI h)] D G (OKm D (oTear t p s k h)) := by
  have hv := hs.1
  have h7 := hv.1
  have R := I.1
  have R1 := (InvM_t (x := nI 0) hs I).1
  have s98 := (rM I.1).1
  have w98 := (rM R1).1
  have L : ∀ Q, Rq sc (d + 2) 128 (33, [some (.ref 79), some (.int (iI p)), some (.int (iI s)), some (.int (iI k)), some (.int (iI h)), none], [.int (nI (if (0 ≤ s ∧ s ≤ 1) ∧ (0 ≤ k ∧ k ≤ 3) ∧ 0 ≤ h ∧ h ≤ 5 then 1 else 0))], (hx_S0, D, G), 0) G Q → Rq sc (d + 2) 128 (0, [some (.ref 79), some (.int (iI p)), some (.int (iI s)), some (.int (iI k)), some (.int (iI h)), none], [], (hx_S0, D, G), 0) G Q := by
    intro Q K
    have ha1 := m102 (sc := sc) (d := d + 1) (D := D) (G := G) (z_iI bs1 bs2) (z_nI (show 0 < 2 ^ 31 by omega)) (z_nI (show 1 < 2 ^ 31 by omega)) (P := 0 ≤ s ∧ s ≤ 1) (by omega)
    have ha2 := m102 (sc := sc) (d := d + 1) (D := D) (G := G) (z_iI bk1 bk2) (z_nI (show 0 < 2 ^ 31 by omega)) (z_nI (show 3 < 2 ^ 31 by omega)) (P := 0 ≤ k ∧ k ≤ 3) (by omega)
    have ha3 := m102 (sc := sc) (d := d + 1) (D := D) (G := G) (z_iI bh1 bh2) (z_nI (show 0 < 2 ^ 31 by omega)) (z_nI (show 5 < 2 ^ 31 by omega)) (P := 0 ≤ h ∧ h ≤ 5) (by omega)
    by_cases c1 : 0 ≤ s ∧ s ≤ 1
    · rw [if_pos c1] at ha1
      by_cases c2 : 0 ≤ k ∧ k ≤ 3
      · rw [if_pos c2] at ha2
        by_cases c3 : 0 ≤ h ∧ h ≤ 5
        · rw [if_pos c3] at ha3
          rw [if_pos ⟨c1, c2, c3⟩] at K
          refine Rq.s (fun _ => b128_0 (by (try simp (disch := omega) only [nI_add, nI_mulN, pk_sub, nI_clamp, Nat.reduceAdd, Nat.reduceMul, Nat.reduceSub, Nat.zero_add, Nat.add_zero]); exact ha1)) ?_
          refine Rq.bf (fun _ => b128_6) (by decide) ?_
          refine Rq.s (fun _ => b128_9 (by (try simp (disch := omega) only [nI_add, nI_mulN, pk_sub, nI_clamp, Nat.reduceAdd, Nat.reduceMul, Nat.reduceSub, Nat.zero_add, Nat.add_zero]); exact ha2)) ?_
          refine Rq.bf (fun _ => b128_15) (by decide) ?_
          refine Rq.s (fun _ => b128_18 (by (try simp (disch := omega) only [nI_add, nI_mulN, pk_sub, nI_clamp, Nat.reduceAdd, Nat.reduceMul, Nat.reduceSub, Nat.zero_add, Nat.add_zero]); exact ha3)) ?_
          refine Rq.bf (fun _ => b128_25) (by decide) ?_
          refine Rq.s (fun _ => b128_28) ?_
          try simp (disch := omega) only [nI_add, nI_mulN, pk_sub, nI_clamp, Nat.reduceAdd, Nat.reduceMul, Nat.reduceSub, Nat.zero_add, Nat.add_zero]
          exact K
        · rw [if_neg c3] at ha3
          rw [if_neg (fun z => c3 z.2.2)] at K
          refine Rq.s (fun _ => b128_0 (by (try simp (disch := omega) only [nI_add, nI_mulN, pk_sub, nI_clamp, Nat.reduceAdd, Nat.reduceMul, Nat.reduceSub, Nat.zero_add, Nat.add_zero]); exact ha1)) ?_
          refine Rq.bf (fun _ => b128_6) (by decide) ?_
          refine Rq.s (fun _ => b128_9 (by (try simp (disch := omega) only [nI_add, nI_mulN, pk_sub, nI_clamp, Nat.reduceAdd, Nat.reduceMul, Nat.reduceSub, Nat.zero_add, Nat.add_zero]); exact ha2)) ?_
          refine Rq.bf (fun _ => b128_15) (by decide) ?_
          refine Rq.s (fun _ => b128_18 (by (try simp (disch := omega) only [nI_add, nI_mulN, pk_sub, nI_clamp, Nat.reduceAdd, Nat.reduceMul, Nat.reduceSub, Nat.zero_add, Nat.add_zero]); exact ha3)) ?_
          refine Rq.bt (fun _ => b128_25) (rfl) ?_
          refine Rq.s (fun _ => b128_32) ?_
          try simp (disch := omega) only [nI_add, nI_mulN, pk_sub, nI_clamp, Nat.reduceAdd, Nat.reduceMul, Nat.reduceSub, Nat.zero_add, Nat.add_zero]
          exact K
      · rw [if_neg c2] at ha2
        rw [if_neg (fun z => c2 z.2.1)] at K
        refine Rq.s (fun _ => b128_0 (by (try simp (disch := omega) only [nI_add, nI_mulN, pk_sub, nI_clamp, Nat.reduceAdd, Nat.reduceMul, Nat.reduceSub, Nat.zero_add, Nat.add_zero]); exact ha1)) ?_
        refine Rq.bf (fun _ => b128_6) (by decide) ?_
        refine Rq.s (fun _ => b128_9 (by (try simp (disch := omega) only [nI_add, nI_mulN, pk_sub, nI_clamp, Nat.reduceAdd, Nat.reduceMul, Nat.reduceSub, Nat.zero_add, Nat.add_zero]); exact ha2)) ?_
        refine Rq.bt (fun _ => b128_15) (rfl) ?_
        refine Rq.s (fun _ => b128_32) ?_
        try simp (disch := omega) only [nI_add, nI_mulN, pk_sub, nI_clamp, Nat.reduceAdd, Nat.reduceMul, Nat.reduceSub, Nat.zero_add, Nat.add_zero]
        exact K
    · rw [if_neg c1] at ha1
      rw [if_neg (fun z => c1 z.1)] at K
      refine Rq.s (fun _ => b128_0 (by (try simp (disch := omega) only [nI_add, nI_mulN, pk_sub, nI_clamp, Nat.reduceAdd, Nat.reduceMul, Nat.reduceSub, Nat.zero_add, Nat.add_zero]); exact ha1)) ?_
      refine Rq.bt (fun _ => b128_6) (rfl) ?_
      refine Rq.s (fun _ => b128_32) ?_
      try simp (disch := omega) only [nI_add, nI_mulN, pk_sub, nI_clamp, Nat.reduceAdd, Nat.reduceMul, Nat.reduceSub, Nat.zero_add, Nat.add_zero]
      exact K
  refine Cq.c (fun _ _ _ => c128) (L _ ?_)
  unfold oTear
  have h104 := m104 (sc := sc) (d := d) (G := G) s98 (by omega) bp1 bp2
  by_cases hp : 0 ≤ p ∧ p < (zn (tV t) : Int)
  · rw [if_pos hp] at h104 ⊢
    obtain ⟨p, rfl⟩ := arg_nat hp.1
    have hpn : p < zn (tV t) := by omega
    simp only [← i_nI, Int.toNat_natCast] at h104 ⊢
    by_cases ha : (0 ≤ s ∧ s ≤ 1) ∧ (0 ≤ k ∧ k ≤ 3) ∧ 0 ≤ h ∧ h ≤ 5
    · rw [if_pos ha, if_pos ha]
      obtain ⟨s, rfl⟩ := arg_nat ha.1.1
      obtain ⟨k, rfl⟩ := arg_nat ha.2.1.1
      obtain ⟨h, rfl⟩ := arg_nat ha.2.2.1
      simp only [← i_nI, Int.toNat_natCast]
      rcases (by omega : s = 0 ∨ s = 1) with c | c <;> subst c
      · have hold : D 80 (13 * p + (1 + k)) = nI (ze (tV t) p k) := by
          rw [show 13 * p + (1 + k) = 13 * p + (k + 1) by omega]
          exact (rM R).2.2.2.1 p k hpn (by omega)
        obtain ⟨_, D5, hC5, rfl, D4, I4, rfl, k4, f4⟩ := m127 (sc := sc) (d := d) (G := G) (z := 13 * p + (1 + k)) (x := h) (InvM_t (x := nI 0) hs I) hs (by omega)
        refine Rq.s (fun _ => b128_33 (by (try simp (disch := omega) only [nI_add, nI_mulN, pk_sub, nI_clamp, Nat.reduceAdd, Nat.reduceMul, Nat.reduceSub, Nat.zero_add, Nat.add_zero]); exact h104)) ?_
        refine Rq.bt (fun _ => b128_41) (by decide) ?_
        refine Rq.bf (fun _ => b128_48) (by decide) ?_
        refine Rq.s (fun _ => b128_53) ?_
        try simp (disch := omega) only [nI_add, nI_mulN, pk_sub, nI_clamp, Nat.reduceAdd, Nat.reduceMul, Nat.reduceSub, Nat.zero_add, Nat.add_zero]
        refine Rq.s (fun _ => b128_58 (by (try simp (disch := omega) only [nI_add, nI_mulN, pk_sub, nI_clamp, Nat.reduceAdd, Nat.reduceMul, Nat.reduceSub, Nat.zero_add, Nat.add_zero]); exact t103_0)) ?_
        refine Rq.bf (fun _ => b128_61) (by decide) ?_
        refine Rq.bf (fun _ => b128_64) (fun z => z rfl) ?_
        refine Rq.s (fun _ => b128_70) ?_
        try simp (disch := omega) only [nI_add, nI_mulN, pk_sub, nI_clamp, Nat.reduceAdd, Nat.reduceMul, Nat.reduceSub, Nat.zero_add, Nat.add_zero]
        refine Rq.s (fun _ => b128_76b (by (try simp (disch := omega) only [nI_add, nI_mulN, pk_sub, nI_clamp, Nat.reduceAdd, Nat.reduceMul, Nat.reduceSub, Nat.zero_add, Nat.add_zero]); exact m105)) ?_
        refine Rq.s (fun _ => b128_81b (by (try simp (disch := omega) only [nI_add, nI_mulN, pk_sub, nI_clamp, Nat.reduceAdd, Nat.reduceMul, Nat.reduceSub, Nat.zero_add, Nat.add_zero]); exact hC5)) ?_
        refine Rq.s (fun _ => b128_86b) ?_
        refine Rq.e (b128_90c) ?_
        exact OKm.v (by rw [hx_up_ne (by omega), hold]; first | done | rfl) (by rw [hx_up_ne (by omega), f4 0 (by omega)]; exact hx_up_s _ _ _ _) (InvM_set (SV_zsv hs) I4 (by rw [show 13 * p + (1 + k) = 13 * p + (k + 1) by omega]; exact RepM_edge (j := k) I4.1 hv hpn (by omega)) (fun a ha => by rw [hx_up_ne (by omega)]) (fun j hj => by rw [hx_up_ne (by omega)])) (fun a ha => by rw [hx_up_ne (by omega), k4 a (by omega) (by omega), hx_up_ne (by omega)])
      · have hold : D 80 (13 * p + (6 + k)) = nI (ze (tV t) p (5 + k)) := by
          rw [show 13 * p + (6 + k) = 13 * p + (5 + k + 1) by omega]
          exact (rM R).2.2.2.1 p (5 + k) hpn (by omega)
        obtain ⟨_, D5, hC5, rfl, D4, I4, rfl, k4, f4⟩ := m127 (sc := sc) (d := d) (G := G) (z := 13 * p + (6 + k)) (x := h) (InvM_t (x := nI 0) hs I) hs (by omega)
        refine Rq.s (fun _ => b128_33 (by (try simp (disch := omega) only [nI_add, nI_mulN, pk_sub, nI_clamp, Nat.reduceAdd, Nat.reduceMul, Nat.reduceSub, Nat.zero_add, Nat.add_zero]); exact h104)) ?_
        refine Rq.bt (fun _ => b128_41) (by decide) ?_
        refine Rq.bf (fun _ => b128_48) (by decide) ?_
        refine Rq.s (fun _ => b128_53) ?_
        try simp (disch := omega) only [nI_add, nI_mulN, pk_sub, nI_clamp, Nat.reduceAdd, Nat.reduceMul, Nat.reduceSub, Nat.zero_add, Nat.add_zero]
        refine Rq.s (fun _ => b128_58 (by (try simp (disch := omega) only [nI_add, nI_mulN, pk_sub, nI_clamp, Nat.reduceAdd, Nat.reduceMul, Nat.reduceSub, Nat.zero_add, Nat.add_zero]); exact t103_0)) ?_
        refine Rq.bf (fun _ => b128_61) (by decide) ?_
        refine Rq.bt (fun _ => b128_64) (by decide) ?_
        refine Rq.s (fun _ => b128_74) ?_
        try simp (disch := omega) only [nI_add, nI_mulN, pk_sub, nI_clamp, Nat.reduceAdd, Nat.reduceMul, Nat.reduceSub, Nat.zero_add, Nat.add_zero]
        refine Rq.s (fun _ => b128_76 (by (try simp (disch := omega) only [nI_add, nI_mulN, pk_sub, nI_clamp, Nat.reduceAdd, Nat.reduceMul, Nat.reduceSub, Nat.zero_add, Nat.add_zero]); exact m105)) ?_
        refine Rq.s (fun _ => b128_81 (by (try simp (disch := omega) only [nI_add, nI_mulN, pk_sub, nI_clamp, Nat.reduceAdd, Nat.reduceMul, Nat.reduceSub, Nat.zero_add, Nat.add_zero]); exact hC5)) ?_
        refine Rq.s (fun _ => b128_86) ?_
        refine Rq.e (b128_90c) ?_
        exact OKm.v (by rw [hx_up_ne (by omega), hold]; first | done | rfl) (by rw [hx_up_ne (by omega), f4 0 (by omega)]; exact hx_up_s _ _ _ _) (InvM_set (SV_zsv hs) I4 (by rw [show 13 * p + (6 + k) = 13 * p + (5 + k + 1) by omega]; exact RepM_edge (j := 5 + k) I4.1 hv hpn (by omega)) (fun a ha => by rw [hx_up_ne (by omega)]) (fun j hj => by rw [hx_up_ne (by omega)])) (fun a ha => by rw [hx_up_ne (by omega), k4 a (by omega) (by omega), hx_up_ne (by omega)])
    · rw [if_neg ha, if_neg ha]
      refine Rq.s (fun _ => b128_33 (by (try simp (disch := omega) only [nI_add, nI_mulN, pk_sub, nI_clamp, Nat.reduceAdd, Nat.reduceMul, Nat.reduceSub, Nat.zero_add, Nat.add_zero]); exact h104)) ?_
      refine Rq.bt (fun _ => b128_41) (by decide) ?_
      refine Rq.bt (fun _ => b128_48) (rfl) ?_
      refine Rq.s (fun _ => b128_57) ?_
      try simp (disch := omega) only [nI_add, nI_mulN, pk_sub, nI_clamp, Nat.reduceAdd, Nat.reduceMul, Nat.reduceSub, Nat.zero_add, Nat.add_zero]
      refine Rq.s (fun _ => b128_58b (by (try simp (disch := omega) only [nI_add, nI_mulN, pk_sub, nI_clamp, Nat.reduceAdd, Nat.reduceMul, Nat.reduceSub, Nat.zero_add, Nat.add_zero]); exact t103_k (k := 2) (by omega) (by omega))) ?_
      refine Rq.bt (fun _ => b128_61b) (rfl) ?_
      refine Rq.s (fun _ => b128_89b) ?_
      try simp (disch := omega) only [nI_add, nI_mulN, pk_sub, nI_clamp, Nat.reduceAdd, Nat.reduceMul, Nat.reduceSub, Nat.zero_add, Nat.add_zero]
      refine Rq.e (b128_90b) ?_
      exact OKm.x (k := 2) hs I rfl
  · rw [if_neg hp] at h104 ⊢
    refine Rq.s (fun _ => b128_33 (by (try simp (disch := omega) only [nI_add, nI_mulN, pk_sub, nI_clamp, Nat.reduceAdd, Nat.reduceMul, Nat.reduceSub, Nat.zero_add, Nat.add_zero]); exact h104)) ?_
    refine Rq.bf (fun _ => b128_41) (fun z => z rfl) ?_
    refine Rq.s (fun _ => b128_44) ?_
    try simp (disch := omega) only [nI_add, nI_mulN, pk_sub, nI_clamp, Nat.reduceAdd, Nat.reduceMul, Nat.reduceSub, Nat.zero_add, Nat.add_zero]
    refine Rq.s (fun _ => b128_58 (by (try simp (disch := omega) only [nI_add, nI_mulN, pk_sub, nI_clamp, Nat.reduceAdd, Nat.reduceMul, Nat.reduceSub, Nat.zero_add, Nat.add_zero]); exact t103_k (k := 1) (by omega) (by omega))) ?_
    refine Rq.bt (fun _ => b128_61) (rfl) ?_
    refine Rq.s (fun _ => b128_89) ?_
    try simp (disch := omega) only [nI_add, nI_mulN, pk_sub, nI_clamp, Nat.reduceAdd, Nat.reduceMul, Nat.reduceSub, Nat.zero_add, Nat.add_zero]
    refine Rq.e (b128_90) ?_
    exact OKm.x (k := 1) hs I rfl
