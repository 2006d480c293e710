/-! ===== the reference: its state, and what it tells ===== -/
def zk2 (K : Nat → Option ZV) : Nat := (if (K 0).isSome = true then 1 else 0) + 2 * (if (K 1).isSome = true then 1 else 0)
def InvM (D : Nat → Nat → Int32) (t : ST) : Prop := RepM D 80 0 (tV t) ∧ D 79 4 = nI (tS t).length ∧ (∀ j X, hx_nth (tS t) j = some X → RepM D 82 (102 * j) X) ∧ D 79 6 = nI (zk2 (tK t)) ∧ (∀ k X, k < 2 → tK t k = some X → RepM D 83 (102 * k) X) ∧ D 79 8 = nI (tn t) ∧ ∀ i, i < tn t → D 84 i = nI (tb t i)
/-- the class's cells are as they were -/
def eqC (D D2 : Nat → Nat → Int32) : Prop := ∀ a, a ≤ 78 → D2 a = D a
/-- the reference's call ends as told -/
def OKm (D : Nat → Nat → Int32) (u : OUT) : hx_RS → (Nat → Nat → Int32) → Prop := fun r D2 => r = .inl (some (.int u.2.1)) ∧ D2 79 0 = nI u.1 ∧ InvM D2 u.2.2 ∧ eqC D D2
theorem hx_nth_mem {α : Type} {l : List α} {j : Nat} {x : α} (h : hx_nth l j = some x) : x ∈ l := by
  rw [hx_nth_eq] at h
  exact List.mem_of_getElem? h
theorem InvM_w {D D2 : Nat → Nat → Int32} {t : ST} (hs : SV t) (I : InvM D t) (e1 : ∀ a, a = 82 ∨ a = 83 ∨ a = 84 → D2 a = D a) (e2 : ∀ i, i < 102 → D2 80 i = D 80 i) (e3 : ∀ j, j = 4 ∨ j = 6 ∨ j = 8 → D2 79 j = D 79 j) : InvM D2 t := by
  obtain ⟨i1, i2, i3, i4, i5, i6, i7⟩ := I
  exact ⟨RepM_k hs.1 (fun i hi => by rw [Nat.zero_add]; exact e2 i hi) i1, by rw [e3 4 (by omega)]; exact i2, fun j X h => RepM_k (hs.2.2.1 X (hx_nth_mem h)) (fun i _ => by rw [e1 82 (by omega)]) (i3 j X h), by rw [e3 6 (by omega)]; exact i4, fun k X h1 h2 => RepM_k (hs.2.2.2.1 k X h2) (fun i _ => by rw [e1 83 (by omega)]) (i5 k X h1 h2), by rw [e3 8 (by omega)]; exact i6, fun i hi => by rw [e1 84 (by omega)]; exact i7 i hi⟩
theorem InvM_t {D : Nat → Nat → Int32} {t : ST} {x : Int32} (hs : SV t) (I : InvM D t) : InvM (hx_up D 79 0 x) t := InvM_w hs I (fun a ha => hx_up_ne (by omega)) (fun i _ => by rw [hx_up_ne (by omega)]) (fun j hj => hx_up_in _ _ _ (by omega))
theorem OKm.x {D : Nat → Nat → Int32} {u : OUT} {t : ST} {k : Nat} (hs : SV t) (I : InvM D t) (h : u = (k, 0, t)) : OKm D u (.inl (some (.int (nI 0)))) (hx_up D 79 0 (nI k)) := by
  subst h
  exact ⟨rfl, hx_up_s _ _ _ _, InvM_t hs I, fun a ha => hx_up_ne (by omega)⟩
theorem OKm.w {D D2 : Nat → Nat → Int32} {u : OUT} {t : ST} {v : Int32} (hs : SV t) (I : InvM D t) (h : u = (0, v, t)) (e : eqW (hx_up D 79 0 (nI 0)) D2) : OKm D u (.inl (some (.int v))) D2 := by
  subst h
  refine ⟨rfl, by rw [e.2.2 0 (by omega)]; exact hx_up_s _ _ _ _, InvM_w hs (InvM_t hs I) (fun a ha => e.1 a (by omega)) e.2.1 (fun j hj => e.2.2 j (by omega)), fun a ha => by rw [e.1 a (by omega)]; exact hx_up_ne (by omega)⟩
theorem OKm.v {D D2 : Nat → Nat → Int32} {u : OUT} {t : ST} {v : Int32} (h : u = (0, v, t)) (h0 : D2 79 0 = nI 0) (I : InvM D2 t) (e : eqC D D2) : OKm D u (.inl (some (.int v))) D2 := by
  subst h
  exact ⟨rfl, h0, I, e⟩
theorem t103_0 {sc : Nat × (Nat → Int32)} {d : Nat} {D : Nat → Nat → Int32} {G : Nat → Nat → Int64} : Cl sc d 103 [.ref 79, .int (nI 0)] (hx_S0, D, G) (.inl (some (.int (nI 1)))) (hx_S0, hx_up D 79 0 (nI 0), G) := by
  obtain ⟨r, D2, h, rfl, rfl⟩ := m103 (sc := sc) (d := d) (D := D) (G := G) (k := 0) (by omega)
  exact h
theorem t103_k {sc : Nat × (Nat → Int32)} {d : Nat} {D : Nat → Nat → Int32} {G : Nat → Nat → Int64} {k : Nat} (h1 : 1 ≤ k) (h2 : k < 100) : Cl sc d 103 [.ref 79, .int (nI k)] (hx_S0, D, G) (.inl (some (.int (nI 0)))) (hx_S0, hx_up D 79 0 (nI k), G) := by
  obtain ⟨r, D2, h, rfl, rfl⟩ := m103 (sc := sc) (d := d) (D := D) (G := G) (k := k) h2
  rw [if_neg (by omega)] at h
  exact h
theorem rPieceOf {sc : Nat × (Nat → Int32)} {d : Nat} {D : Nat → Nat → Int32} {G : Nat → Nat → Int64} {t : ST} {p : Int} {x : Int} (bp1 : -2147483648 ≤ p) (bp2 : p < 2147483648) (bx1 : -2147483648 ≤ x) (bx2 : x < 2147483648) (I : InvM D t) (hs : SV t) : Cq sc (d + 4) 153 [.ref 79, .int (iI p), .int (iI x)] D G (OKm D (oPieceOf t p x)) := by
  have hv := hs.1
  have h7 := hv.1
  have R := I.1
  have R1 := (InvM_t (x := nI 0) hs I).1
  have s98 := (rM I.1).1
  have w98 := (rM R1).1
  refine Cq.c (fun _ _ _ => c153) ?_
  unfold oPieceOf
  have h104 := m104 (sc := sc) (d := d + 2) (G := G) s98 (by omega) bp1 bp2
  by_cases hp : 0 ≤ p ∧ p < (zn (tV t) : Int)
  · rw [if_pos hp] at h104 ⊢
    have h102 := m102 (sc := sc) (d := d + 3) (D := D) (G := G) (z_iI bx1 bx2) (z_nI (show 0 < 2 ^ 31 by omega)) (z_nI (show 13 < 2 ^ 31 by omega)) (P := 0 ≤ x ∧ x ≤ 13) (by omega)
    obtain ⟨p, rfl⟩ := arg_nat hp.1
    by_cases hx : 0 ≤ x ∧ x ≤ 13
    · rw [if_pos hx] at h102 ⊢
      obtain ⟨x, rfl⟩ := arg_nat hx.1
      simp only [← i_nI, Int.toNat_natCast] at h104 h102 ⊢
      refine Rq.s (fun _ => b153_0 (by (try simp (disch := omega) only [nI_add, nI_mulN, pk_sub, nI_clamp, Nat.reduceAdd, Nat.reduceMul, Nat.reduceSub, Nat.zero_add, Nat.add_zero]); exact h104)) ?_
      refine Rq.bt (fun _ => b153_6) (by decide) ?_
      refine Rq.s (fun _ => b153_13 (by (try simp (disch := omega) only [nI_add, nI_mulN, pk_sub, nI_clamp, Nat.reduceAdd, Nat.reduceMul, Nat.reduceSub, Nat.zero_add, Nat.add_zero]); exact h102)) ?_
      refine Rq.bf (fun _ => b153_20) (by decide) ?_
      refine Rq.s (fun _ => b153_23) ?_
      try simp (disch := omega) only [nI_add, nI_mulN, pk_sub, nI_clamp, Nat.reduceAdd, Nat.reduceMul, Nat.reduceSub, Nat.zero_add, Nat.add_zero]
      refine Rq.s (fun _ => b153_28 (by (try simp (disch := omega) only [nI_add, nI_mulN, pk_sub, nI_clamp, Nat.reduceAdd, Nat.reduceMul, Nat.reduceSub, Nat.zero_add, Nat.add_zero]); exact t103_0)) ?_
      refine Rq.bf (fun _ => b153_31) (by decide) ?_
      refine Rq.s (fun _ => b153_34 (by (try simp (disch := omega) only [nI_add, nI_mulN, pk_sub, nI_clamp, Nat.reduceAdd, Nat.reduceMul, Nat.reduceSub, Nat.zero_add, Nat.add_zero]); exact m152 (d := d) R1 hv (by omega) (by omega))) ?_
      refine Rq.s (fun _ => b153_40) ?_
      refine Rq.e (b153_44b) ?_
      exact OKm.w hs I rfl eqW.rf
    · rw [if_neg hx] at h102 ⊢
      simp only [← i_nI, Int.toNat_natCast] at h104 ⊢
      refine Rq.s (fun _ => b153_0 (by (try simp (disch := omega) only [nI_add, nI_mulN, pk_sub, nI_clamp, Nat.reduceAdd, Nat.reduceMul, Nat.reduceSub, Nat.zero_add, Nat.add_zero]); exact h104)) ?_
      refine Rq.bt (fun _ => b153_6) (by decide) ?_
      refine Rq.s (fun _ => b153_13 (by (try simp (disch := omega) only [nI_add, nI_mulN, pk_sub, nI_clamp, Nat.reduceAdd, Nat.reduceMul, Nat.reduceSub, Nat.zero_add, Nat.add_zero]); exact h102)) ?_
      refine Rq.bt (fun _ => b153_20) (rfl) ?_
      refine Rq.s (fun _ => b153_27) ?_
      try simp (disch := omega) only [nI_add, nI_mulN, pk_sub, nI_clamp, Nat.reduceAdd, Nat.reduceMul, Nat.reduceSub, Nat.zero_add, Nat.add_zero]
      refine Rq.s (fun _ => b153_28 (by (try simp (disch := omega) only [nI_add, nI_mulN, pk_sub, nI_clamp, Nat.reduceAdd, Nat.reduceMul, Nat.reduceSub, Nat.zero_add, Nat.add_zero]); exact t103_k (k := 2) (by omega) (by omega))) ?_
      refine Rq.bt (fun _ => b153_31) (rfl) ?_
      refine Rq.s (fun _ => b153_43) ?_
      try simp (disch := omega) only [nI_add, nI_mulN, pk_sub, nI_clamp, Nat.reduceAdd, Nat.reduceMul, Nat.reduceSub, Nat.zero_add, Nat.add_zero]
      refine Rq.e (b153_44) ?_
      exact OKm.x (k := 2) hs I rfl
  · rw [if_neg hp] at h104 ⊢
    refine Rq.s (fun _ => b153_0 (by (try simp (disch := omega) only [nI_add, nI_mulN, pk_sub, nI_clamp, Nat.reduceAdd, Nat.reduceMul, Nat.reduceSub, Nat.zero_add, Nat.add_zero]); exact h104)) ?_
    refine Rq.bf (fun _ => b153_6) (fun z => z rfl) ?_
    refine Rq.s (fun _ => b153_9) ?_
    try simp (disch := omega) only [nI_add, nI_mulN, pk_sub, nI_clamp, Nat.reduceAdd, Nat.reduceMul, Nat.reduceSub, Nat.zero_add, Nat.add_zero]
    refine Rq.s (fun _ => b153_28 (by (try simp (disch := omega) only [nI_add, nI_mulN, pk_sub, nI_clamp, Nat.reduceAdd, Nat.reduceMul, Nat.reduceSub, Nat.zero_add, Nat.add_zero]); exact t103_k (k := 1) (by omega) (by omega))) ?_
    refine Rq.bt (fun _ => b153_31) (rfl) ?_
    refine Rq.s (fun _ => b153_43) ?_
    try simp (disch := omega) only [nI_add, nI_mulN, pk_sub, nI_clamp, Nat.reduceAdd, Nat.reduceMul, Nat.reduceSub, Nat.zero_add, Nat.add_zero]
    refine Rq.e (b153_44) ?_
    exact OKm.x (k := 1) hs I rfl
theorem m130 {sc : Nat × (Nat → Int32)} {d : Nat} {D : Nat → Nat → Int32} {G : Nat → Nat → Int64} {V : ZV} {p : Nat} {x : Int} (R : RepM D 80 0 V) (hv : Valid V) (hp : p < zn V) (b1 : -2147483648 ≤ x) (b2 : x < 2147483648) : Cl sc (d + 1) 130 [.ref 79, .int (nI p), .int (iI x)] (hx_S0, D, G) (.inl (some (.int (nI (if 0 ≤ x ∧ x < (zw V p : Int) then 1 else 0))))) (hx_S0, D, G) := by
  have s0 := (rM R).2.2.1 p hp
  have h7 := hv.1
  have hw := hv.2.1 p hp
  have h102 := m102 (sc := sc) (d := d) (D := D) (G := G) (z_iI b1 b2) (z_nI (show 0 < 2 ^ 31 by omega)) (z_nI (n := zw V p - 1) (by omega)) (P := 0 ≤ x ∧ x < (zw V p : Int)) (by omega)
  refine Cq.p ?_
  refine Cq.c (fun _ _ _ => c130) ?_
  refine Rq.s (fun _ => b130_0 (by (try simp (disch := omega) only [nI_add, nI_mulN, pk_sub, nI_clamp, Nat.reduceAdd, Nat.reduceMul, Nat.reduceSub, Nat.zero_add, Nat.add_zero, s0]); exact m105)) ?_
  try simp (disch := omega) only [nI_add, nI_mulN, pk_sub, nI_clamp, Nat.reduceAdd, Nat.reduceMul, Nat.reduceSub, Nat.zero_add, Nat.add_zero, s0]
  refine Rq.s (fun _ => b130_11 (by (try simp (disch := omega) only [nI_add, nI_mulN, pk_sub, nI_clamp, Nat.reduceAdd, Nat.reduceMul, Nat.reduceSub, Nat.zero_add, Nat.add_zero, s0]); exact nI_inbT (by omega) (by omega)) (by (try simp (disch := omega) only [nI_add, nI_mulN, pk_sub, nI_clamp, Nat.reduceAdd, Nat.reduceMul, Nat.reduceSub, Nat.zero_add, Nat.add_zero, s0]); exact h102)) ?_
  refine Rq.e (b130_17 (by first | exact Or.inl rfl | exact Or.inr rfl | (split <;> first | exact Or.inl rfl | exact Or.inr rfl))) ?_
  exact Qp.i rfl
theorem m131 {sc : Nat × (Nat → Int32)} {d : Nat} {D : Nat → Nat → Int32} {G : Nat → Nat → Int64} {V : ZV} {p x : Nat} (R : RepM D 80 0 V) (hv : Valid V) (hp : p < zn V) (hx : x < 60) : Cl sc (d + 3) 131 [.ref 79, .int (nI p), .int (nI x)] (hx_S0, D, G) (.inl (some (.int (nI (if zh V p x = false ∧ (zE V p).length = 4 then 0 else 1))))) (hx_S0, D, G) := by
  have h118 := m118 (sc := sc) (d := d + 1) (G := G) R hv hp hx
  have h119 := m119 (sc := sc) (d := d) (G := G) R hv hp
  have hE := hv.2.2.2.2.1 p hp
  refine Cq.p ?_
  cases hh : zh V p x with
  | true =>
    rw [hh, if_pos rfl] at h118
    rw [if_neg (fun z => by cases z.1)]
    refine Cq.c (fun _ _ _ => c131) ?_
    refine Rq.s (fun _ => b131_0 (by (try simp (disch := omega) only [nI_add, nI_mulN, pk_sub, nI_clamp, Nat.reduceAdd, Nat.reduceMul, Nat.reduceSub, Nat.zero_add, Nat.add_zero]); exact h118)) ?_
    refine Rq.bt (fun _ => b131_6) (by decide) ?_
    refine Rq.s (fun _ => b131_18) ?_
    try simp (disch := omega) only [nI_add, nI_mulN, pk_sub, nI_clamp, Nat.reduceAdd, Nat.reduceMul, Nat.reduceSub, Nat.zero_add, Nat.add_zero]
    refine Rq.e (b131_23 (by first | exact Or.inl rfl | exact Or.inr rfl | (split <;> first | exact Or.inl rfl | exact Or.inr rfl))) ?_
    exact Qp.i rfl
  | false =>
    rw [hh, if_neg (fun z => by cases z)] at h118
    by_cases h4 : (zE V p).length = 4
    · rw [if_pos ⟨rfl, h4⟩]
      refine Cq.c (fun _ _ _ => c131) ?_
      refine Rq.s (fun _ => b131_0 (by (try simp (disch := omega) only [nI_add, nI_mulN, pk_sub, nI_clamp, Nat.reduceAdd, Nat.reduceMul, Nat.reduceSub, Nat.zero_add, Nat.add_zero]); exact h118)) ?_
      refine Rq.bf (fun _ => b131_6) (fun z => z rfl) ?_
      refine Rq.s (fun _ => b131_9 (by (try simp (disch := omega) only [nI_add, nI_mulN, pk_sub, nI_clamp, Nat.reduceAdd, Nat.reduceMul, Nat.reduceSub, Nat.zero_add, Nat.add_zero]); exact h119)) ?_
      refine Rq.bt (fun _ => b131_14) (by rw [h4]; decide) ?_
      refine Rq.s (fun _ => b131_22) ?_
      try simp (disch := omega) only [nI_add, nI_mulN, pk_sub, nI_clamp, Nat.reduceAdd, Nat.reduceMul, Nat.reduceSub, Nat.zero_add, Nat.add_zero]
      refine Rq.e (b131_23b (by first | exact Or.inl rfl | exact Or.inr rfl | (split <;> first | exact Or.inl rfl | exact Or.inr rfl))) ?_
      exact Qp.i rfl
    · rw [if_neg (fun z => h4 z.2)]
      refine Cq.c (fun _ _ _ => c131) ?_
      refine Rq.s (fun _ => b131_0 (by (try simp (disch := omega) only [nI_add, nI_mulN, pk_sub, nI_clamp, Nat.reduceAdd, Nat.reduceMul, Nat.reduceSub, Nat.zero_add, Nat.add_zero]); exact h118)) ?_
      refine Rq.bf (fun _ => b131_6) (fun z => z rfl) ?_
      refine Rq.s (fun _ => b131_9 (by (try simp (disch := omega) only [nI_add, nI_mulN, pk_sub, nI_clamp, Nat.reduceAdd, Nat.reduceMul, Nat.reduceSub, Nat.zero_add, Nat.add_zero]); exact h119)) ?_
      refine Rq.bf (fun _ => b131_14) (by simp (disch := omega) only [Int32.le_iff_toInt_le, z_nI]; omega) ?_
      refine Rq.s (fun _ => b131_18) ?_
      try simp (disch := omega) only [nI_add, nI_mulN, pk_sub, nI_clamp, Nat.reduceAdd, Nat.reduceMul, Nat.reduceSub, Nat.zero_add, Nat.add_zero]
      refine Rq.e (b131_23 (by first | exact Or.inl rfl | exact Or.inr rfl | (split <;> first | exact Or.inl rfl | exact Or.inr rfl))) ?_
      exact Qp.i rfl
theorem rIsHole {sc : Nat × (Nat → Int32)} {d : Nat} {D : Nat → Nat → Int32} {G : Nat → Nat → Int64} {t : ST} {p : Int} {x : Int} (bp1 : -2147483648 ≤ p) (bp2 : p < 2147483648) (bx1 : -2147483648 ≤ x) (bx2 : x < 2147483648) (I : InvM D t) (hs : SV t) : Cq sc (d + 3) 154 [.ref 79, .int (iI p), .int (iI x)] D G (OKm D (oIsHole t p x)) := by
  have hv := hs.1
  have h7 := hv.1
  have R := I.1
  have R1 := (InvM_t (x := nI 0) hs I).1
  have s98 := (rM I.1).1
  have w98 := (rM R1).1
  refine Cq.c (fun _ _ _ => c154) ?_
  unfold oIsHole
  have h104 := m104 (sc := sc) (d := d + 1) (G := G) s98 (by omega) bp1 bp2
  by_cases hp : 0 ≤ p ∧ p < (zn (tV t) : Int)
  · rw [if_pos hp] at h104 ⊢
    obtain ⟨p, rfl⟩ := arg_nat hp.1
    have hpn : p < zn (tV t) := by omega
    have h130 := m130 (sc := sc) (d := d + 1) (G := G) R hv hpn bx1 bx2
    have hw := hv.2.1 p hpn
    simp only [← i_nI, Int.toNat_natCast] at h104 ⊢
    by_cases hx : 0 ≤ x ∧ x < (zw (tV t) p : Int)
    · rw [if_pos hx] at h130 ⊢
      obtain ⟨x, rfl⟩ := arg_nat hx.1
      simp only [← i_nI, Int.toNat_natCast] at h130 ⊢
      have h118 := m118 (sc := sc) (d := d + 1) (G := G) (x := x) R1 hv hpn (by omega)
      by_cases hh : zh (tV t) p x = true
      · rw [if_pos hh] at h118 ⊢
        refine Rq.s (fun _ => b154_0 (by (try simp (disch := omega) only [nI_add, nI_mulN, pk_sub, nI_clamp, Nat.reduceAdd, Nat.reduceMul, Nat.reduceSub, Nat.zero_add, Nat.add_zero]); exact h104)) ?_
        refine Rq.bt (fun _ => b154_6) (by decide) ?_
        refine Rq.s (fun _ => b154_13 (by (try simp (disch := omega) only [nI_add, nI_mulN, pk_sub, nI_clamp, Nat.reduceAdd, Nat.reduceMul, Nat.reduceSub, Nat.zero_add, Nat.add_zero]); exact h130)) ?_
        refine Rq.bf (fun _ => b154_19) (by decide) ?_
        refine Rq.s (fun _ => b154_22) ?_
        try simp (disch := omega) only [nI_add, nI_mulN, pk_sub, nI_clamp, Nat.reduceAdd, Nat.reduceMul, Nat.reduceSub, Nat.zero_add, Nat.add_zero]
        refine Rq.s (fun _ => b154_27 (by (try simp (disch := omega) only [nI_add, nI_mulN, pk_sub, nI_clamp, Nat.reduceAdd, Nat.reduceMul, Nat.reduceSub, Nat.zero_add, Nat.add_zero]); exact t103_0)) ?_
        refine Rq.bt (fun _ => b154_30) (by decide) ?_
        refine Rq.s (fun _ => b154_35 (by (try simp (disch := omega) only [nI_add, nI_mulN, pk_sub, nI_clamp, Nat.reduceAdd, Nat.reduceMul, Nat.reduceSub, Nat.zero_add, Nat.add_zero]); exact h118)) ?_
        refine Rq.bf (fun _ => b154_41) (by decide) ?_
        refine Rq.s (fun _ => b154_44) ?_
        try simp (disch := omega) only [nI_add, nI_mulN, pk_sub, nI_clamp, Nat.reduceAdd, Nat.reduceMul, Nat.reduceSub, Nat.zero_add, Nat.add_zero]
        refine Rq.e (b154_49b) ?_
        exact OKm.w hs I rfl eqW.rf
      · rw [if_neg hh] at h118 ⊢
        refine Rq.s (fun _ => b154_0 (by (try simp (disch := omega) only [nI_add, nI_mulN, pk_sub, nI_clamp, Nat.reduceAdd, Nat.reduceMul, Nat.reduceSub, Nat.zero_add, Nat.add_zero]); exact h104)) ?_
        refine Rq.bt (fun _ => b154_6) (by decide) ?_
        refine Rq.s (fun _ => b154_13 (by (try simp (disch := omega) only [nI_add, nI_mulN, pk_sub, nI_clamp, Nat.reduceAdd, Nat.reduceMul, Nat.reduceSub, Nat.zero_add, Nat.add_zero]); exact h130)) ?_
        refine Rq.bf (fun _ => b154_19) (by decide) ?_
        refine Rq.s (fun _ => b154_22) ?_
        try simp (disch := omega) only [nI_add, nI_mulN, pk_sub, nI_clamp, Nat.reduceAdd, Nat.reduceMul, Nat.reduceSub, Nat.zero_add, Nat.add_zero]
        refine Rq.s (fun _ => b154_27 (by (try simp (disch := omega) only [nI_add, nI_mulN, pk_sub, nI_clamp, Nat.reduceAdd, Nat.reduceMul, Nat.reduceSub, Nat.zero_add, Nat.add_zero]); exact t103_0)) ?_
        refine Rq.bt (fun _ => b154_30) (by decide) ?_
        refine Rq.s (fun _ => b154_35 (by (try simp (disch := omega) only [nI_add, nI_mulN, pk_sub, nI_clamp, Nat.reduceAdd, Nat.reduceMul, Nat.reduceSub, Nat.zero_add, Nat.add_zero]); exact h118)) ?_
        refine Rq.bt (fun _ => b154_41) (rfl) ?_
        refine Rq.s (fun _ => b154_48) ?_
        try simp (disch := omega) only [nI_add, nI_mulN, pk_sub, nI_clamp, Nat.reduceAdd, Nat.reduceMul, Nat.reduceSub, Nat.zero_add, Nat.add_zero]
        refine Rq.e (b154_49) ?_
        exact OKm.w hs I rfl eqW.rf
    · rw [if_neg hx] at h130 ⊢
      refine Rq.s (fun _ => b154_0 (by (try simp (disch := omega) only [nI_add, nI_mulN, pk_sub, nI_clamp, Nat.reduceAdd, Nat.reduceMul, Nat.reduceSub, Nat.zero_add, Nat.add_zero]); exact h104)) ?_
      refine Rq.bt (fun _ => b154_6) (by decide) ?_
      refine Rq.s (fun _ => b154_13 (by (try simp (disch := omega) only [nI_add, nI_mulN, pk_sub, nI_clamp, Nat.reduceAdd, Nat.reduceMul, Nat.reduceSub, Nat.zero_add, Nat.add_zero]); exact h130)) ?_
      refine Rq.bt (fun _ => b154_19) (rfl) ?_
      refine Rq.s (fun _ => b154_26) ?_
      try simp (disch := omega) only [nI_add, nI_mulN, pk_sub, nI_clamp, Nat.reduceAdd, Nat.reduceMul, Nat.reduceSub, Nat.zero_add, Nat.add_zero]
      refine Rq.s (fun _ => b154_27 (by (try simp (disch := omega) only [nI_add, nI_mulN, pk_sub, nI_clamp, Nat.reduceAdd, Nat.reduceMul, Nat.reduceSub, Nat.zero_add, Nat.add_zero]); exact t103_k (k := 2) (by omega) (by omega))) ?_
      refine Rq.bf (fun _ => b154_30) (fun z => z rfl) ?_
      refine Rq.e (b154_33) ?_
      exact OKm.x (k := 2) hs I rfl
  · rw [if_neg hp] at h104 ⊢
    refine Rq.s (fun _ => b154_0 (by (try simp (disch := omega) only [nI_add, nI_mulN, pk_sub, nI_clamp, Nat.reduceAdd, Nat.reduceMul, Nat.reduceSub, Nat.zero_add, Nat.add_zero]); exact h104)) ?_
    refine Rq.bf (fun _ => b154_6) (fun z => z rfl) ?_
    refine Rq.s (fun _ => b154_9) ?_
    try simp (disch := omega) only [nI_add, nI_mulN, pk_sub, nI_clamp, Nat.reduceAdd, Nat.reduceMul, Nat.reduceSub, Nat.zero_add, Nat.add_zero]
    refine Rq.s (fun _ => b154_27 (by (try simp (disch := omega) only [nI_add, nI_mulN, pk_sub, nI_clamp, Nat.reduceAdd, Nat.reduceMul, Nat.reduceSub, Nat.zero_add, Nat.add_zero]); exact t103_k (k := 1) (by omega) (by omega))) ?_
    refine Rq.bf (fun _ => b154_30) (fun z => z rfl) ?_
    refine Rq.e (b154_33) ?_
    exact OKm.x (k := 1) hs I rfl
theorem rAt {sc : Nat × (Nat → Int32)} {d : Nat} {D : Nat → Nat → Int32} {G : Nat → Nat → Int64} {t : ST} {x : Int} (bx1 : -2147483648 ≤ x) (bx2 : x < 2147483648) (I : InvM D t) (hs : SV t) : Cq sc (d + 1) 155 [.ref 79, .int (iI x)] D G (OKm D (oAt t x)) := by
  have hv := hs.1
  have h7 := hv.1
  have R := I.1
  have R1 := (InvM_t (x := nI 0) hs I).1
  have s98 := (rM I.1).1
  have w98 := (rM R1).1
  refine Cq.c (fun _ _ _ => c155) ?_
  unfold oAt
  by_cases hx : x < 0
  · rw [if_pos hx]
    refine Rq.bf (fun _ => b155_0) (by (try simp (disch := omega) only [Int32.le_iff_toInt_le, Int32.lt_iff_toInt_lt, z_eq, z_nI, z_0, z_iI]); omega) ?_
    refine Rq.s (fun _ => b155_5) ?_
    try simp (disch := omega) only [nI_add, nI_mulN, pk_sub, nI_clamp, Nat.reduceAdd, Nat.reduceMul, Nat.reduceSub, Nat.zero_add, Nat.add_zero]
    refine Rq.s (fun _ => b155_10 (by (try simp (disch := omega) only [nI_add, nI_mulN, pk_sub, nI_clamp, Nat.reduceAdd, Nat.reduceMul, Nat.reduceSub, Nat.zero_add, Nat.add_zero]); exact t103_k (k := 1) (by omega) (by omega))) ?_
    refine Rq.bf (fun _ => b155_13) (fun z => z rfl) ?_
    refine Rq.e (b155_16) ?_
    exact OKm.x (k := 1) hs I rfl
  · rw [if_neg hx]
    obtain ⟨x, rfl⟩ := arg_nat (show 0 ≤ x by omega)
    simp only [← i_nI, Int.toNat_natCast]
    by_cases hn : (x : Int) < (zn (tV t) : Int)
    · rw [if_pos hn]
      have w91 := (rM R1).2.2.2.2.2.1 x (by omega)
      refine Rq.bt (fun _ => b155_0) (by (try simp (disch := omega) only [Int32.le_iff_toInt_le, Int32.lt_iff_toInt_lt, z_eq, z_nI, z_0, z_iI]); omega) ?_
      refine Rq.s (fun _ => b155_9) ?_
      try simp (disch := omega) only [nI_add, nI_mulN, pk_sub, nI_clamp, Nat.reduceAdd, Nat.reduceMul, Nat.reduceSub, Nat.zero_add, Nat.add_zero, w98, w91]
      refine Rq.s (fun _ => b155_10 (by (try simp (disch := omega) only [nI_add, nI_mulN, pk_sub, nI_clamp, Nat.reduceAdd, Nat.reduceMul, Nat.reduceSub, Nat.zero_add, Nat.add_zero, w98, w91]); exact t103_0)) ?_
      refine Rq.bt (fun _ => b155_13) (by decide) ?_
      refine Rq.bf (fun _ => b155_18 (by (try simp (disch := omega) only [nI_add, nI_mulN, pk_sub, nI_clamp, Nat.reduceAdd, Nat.reduceMul, Nat.reduceSub, Nat.zero_add, Nat.add_zero, w98, w91]); exact nI_inbT (by omega) (by omega))) (by rw [nI_clamp (by omega), w98]; simp (disch := omega) only [Int32.le_iff_toInt_le, z_nI]; omega) ?_
      refine Rq.s (fun _ => b155_29 (by (try simp (disch := omega) only [nI_add, nI_mulN, pk_sub, nI_clamp, Nat.reduceAdd, Nat.reduceMul, Nat.reduceSub, Nat.zero_add, Nat.add_zero, w98, w91]); exact nI_inbT (by omega) (by omega))) ?_
      try simp (disch := omega) only [nI_add, nI_mulN, pk_sub, nI_clamp, Nat.reduceAdd, Nat.reduceMul, Nat.reduceSub, Nat.zero_add, Nat.add_zero, w98, w91]
      refine Rq.e (b155_42b) ?_
      exact OKm.w hs I rfl eqW.rf
    · rw [if_neg hn]
      refine Rq.bt (fun _ => b155_0) (by (try simp (disch := omega) only [Int32.le_iff_toInt_le, Int32.lt_iff_toInt_lt, z_eq, z_nI, z_0, z_iI]); omega) ?_
      refine Rq.s (fun _ => b155_9) ?_
      try simp (disch := omega) only [nI_add, nI_mulN, pk_sub, nI_clamp, Nat.reduceAdd, Nat.reduceMul, Nat.reduceSub, Nat.zero_add, Nat.add_zero, w98]
      refine Rq.s (fun _ => b155_10 (by (try simp (disch := omega) only [nI_add, nI_mulN, pk_sub, nI_clamp, Nat.reduceAdd, Nat.reduceMul, Nat.reduceSub, Nat.zero_add, Nat.add_zero, w98]); exact t103_0)) ?_
      refine Rq.bt (fun _ => b155_13) (by decide) ?_
      refine Rq.bt (fun _ => b155_18 (by (try simp (disch := omega) only [nI_add, nI_mulN, pk_sub, nI_clamp, Nat.reduceAdd, Nat.reduceMul, Nat.reduceSub, Nat.zero_add, Nat.add_zero, w98]); exact nI_inbT (by omega) (by omega))) (by rw [nI_clamp (by omega), w98]; simp (disch := omega) only [Int32.le_iff_toInt_le, z_nI]; omega) ?_
      refine Rq.s (fun _ => b155_41) ?_
      try simp (disch := omega) only [nI_add, nI_mulN, pk_sub, nI_clamp, Nat.reduceAdd, Nat.reduceMul, Nat.reduceSub, Nat.zero_add, Nat.add_zero, w98]
      refine Rq.e (b155_42) ?_
      exact OKm.w hs I rfl eqW.rf
theorem rCost {sc : Nat × (Nat → Int32)} {d : Nat} {D : Nat → Nat → Int32} {G : Nat → Nat → Int64} {t : ST} {f : Int} {s : Int} (bf1 : -2147483648 ≤ f) (bf2 : f < 2147483648) (bs1 : -2147483648 ≤ s) (bs2 : s < 2147483648) (I : InvM D t) (hs : SV t) : Cq sc (d + 2) 156 [.ref 79, .int (iI f), .int (iI s)] D G (OKm D (oCost t f s)) := by
  have hv := hs.1
  have h7 := hv.1
  have R := I.1
  have R1 := (InvM_t (x := nI 0) hs I).1
  have s98 := (rM I.1).1
  have w98 := (rM R1).1
  refine Cq.c (fun _ _ _ => c156) ?_
  unfold oCost
  have h104 := m104 (sc := sc) (d := d) (G := G) s98 (by omega) bf1 bf2
  have h104s := m104 (sc := sc) (d := d) (G := G) s98 (by omega) bs1 bs2
  by_cases hf : 0 ≤ f ∧ f < (zn (tV t) : Int)
  · rw [if_pos hf] at h104
    by_cases hx : 0 ≤ s ∧ s < (zn (tV t) : Int)
    · rw [if_pos hx] at h104s
      rw [if_pos ⟨hf, hx⟩]
      obtain ⟨f, rfl⟩ := arg_nat hf.1
      obtain ⟨s, rfl⟩ := arg_nat hx.1
      simp only [← i_nI, Int.toNat_natCast] at h104 h104s ⊢
      by_cases he : f = s
      · subst he
        rw [if_pos rfl]
        refine Rq.s (fun _ => b156_0 (by (try simp (disch := omega) only [nI_add, nI_mulN, pk_sub, nI_clamp, Nat.reduceAdd, Nat.reduceMul, Nat.reduceSub, Nat.zero_add, Nat.add_zero]); exact h104)) ?_
        refine Rq.bf (fun _ => b156_6) (by decide) ?_
        refine Rq.s (fun _ => b156_9 (by (try simp (disch := omega) only [nI_add, nI_mulN, pk_sub, nI_clamp, Nat.reduceAdd, Nat.reduceMul, Nat.reduceSub, Nat.zero_add, Nat.add_zero]); exact h104s)) ?_
        refine Rq.bt (fun _ => b156_14) (by decide) ?_
        refine Rq.bf (fun _ => b156_21) (fun z => z rfl) ?_
        refine Rq.s (fun _ => b156_26) ?_
        try simp (disch := omega) only [nI_add, nI_mulN, pk_sub, nI_clamp, Nat.reduceAdd, Nat.reduceMul, Nat.reduceSub, Nat.zero_add, Nat.add_zero]
        refine Rq.s (fun _ => b156_31 (by (try simp (disch := omega) only [nI_add, nI_mulN, pk_sub, nI_clamp, Nat.reduceAdd, Nat.reduceMul, Nat.reduceSub, Nat.zero_add, Nat.add_zero]); exact t103_k (k := 2) (by omega) (by omega))) ?_
        refine Rq.bt (fun _ => b156_34) (rfl) ?_
        refine Rq.s (fun _ => b156_46) ?_
        try simp (disch := omega) only [nI_add, nI_mulN, pk_sub, nI_clamp, Nat.reduceAdd, Nat.reduceMul, Nat.reduceSub, Nat.zero_add, Nat.add_zero]
        refine Rq.e (b156_47) ?_
        exact OKm.x (k := 2) hs I rfl
      · rw [if_neg (by omega)]
        refine Rq.s (fun _ => b156_0 (by (try simp (disch := omega) only [nI_add, nI_mulN, pk_sub, nI_clamp, Nat.reduceAdd, Nat.reduceMul, Nat.reduceSub, Nat.zero_add, Nat.add_zero]); exact h104)) ?_
        refine Rq.bf (fun _ => b156_6) (by decide) ?_
        refine Rq.s (fun _ => b156_9 (by (try simp (disch := omega) only [nI_add, nI_mulN, pk_sub, nI_clamp, Nat.reduceAdd, Nat.reduceMul, Nat.reduceSub, Nat.zero_add, Nat.add_zero]); exact h104s)) ?_
        refine Rq.bt (fun _ => b156_14) (by decide) ?_
        refine Rq.bt (fun _ => b156_21) (by (try simp (disch := omega) only [Int32.le_iff_toInt_le, Int32.lt_iff_toInt_lt, z_eq, z_nI, z_0, z_iI]); omega) ?_
        refine Rq.s (fun _ => b156_30) ?_
        try simp (disch := omega) only [nI_add, nI_mulN, pk_sub, nI_clamp, Nat.reduceAdd, Nat.reduceMul, Nat.reduceSub, Nat.zero_add, Nat.add_zero]
        refine Rq.s (fun _ => b156_31 (by (try simp (disch := omega) only [nI_add, nI_mulN, pk_sub, nI_clamp, Nat.reduceAdd, Nat.reduceMul, Nat.reduceSub, Nat.zero_add, Nat.add_zero]); exact t103_0)) ?_
        refine Rq.bf (fun _ => b156_34) (by decide) ?_
        refine Rq.s (fun _ => b156_37 (by (try simp (disch := omega) only [nI_add, nI_mulN, pk_sub, nI_clamp, Nat.reduceAdd, Nat.reduceMul, Nat.reduceSub, Nat.zero_add, Nat.add_zero]); exact m110 (d := d) R1 hv (by omega) (by omega))) ?_
        refine Rq.s (fun _ => b156_43) ?_
        refine Rq.e (b156_47b) ?_
        exact OKm.w hs I rfl eqW.rf
    · rw [if_neg hx] at h104s
      rw [if_neg (fun z => hx z.2)]
      refine Rq.s (fun _ => b156_0 (by (try simp (disch := omega) only [nI_add, nI_mulN, pk_sub, nI_clamp, Nat.reduceAdd, Nat.reduceMul, Nat.reduceSub, Nat.zero_add, Nat.add_zero]); exact h104)) ?_
      refine Rq.bf (fun _ => b156_6) (by decide) ?_
      refine Rq.s (fun _ => b156_9 (by (try simp (disch := omega) only [nI_add, nI_mulN, pk_sub, nI_clamp, Nat.reduceAdd, Nat.reduceMul, Nat.reduceSub, Nat.zero_add, Nat.add_zero]); exact h104s)) ?_
      refine Rq.bf (fun _ => b156_14) (fun z => z rfl) ?_
      refine Rq.s (fun _ => b156_17) ?_
      try simp (disch := omega) only [nI_add, nI_mulN, pk_sub, nI_clamp, Nat.reduceAdd, Nat.reduceMul, Nat.reduceSub, Nat.zero_add, Nat.add_zero]
      refine Rq.s (fun _ => b156_31 (by (try simp (disch := omega) only [nI_add, nI_mulN, pk_sub, nI_clamp, Nat.reduceAdd, Nat.reduceMul, Nat.reduceSub, Nat.zero_add, Nat.add_zero]); exact t103_k (k := 1) (by omega) (by omega))) ?_
      refine Rq.bt (fun _ => b156_34) (rfl) ?_
      refine Rq.s (fun _ => b156_46) ?_
      try simp (disch := omega) only [nI_add, nI_mulN, pk_sub, nI_clamp, Nat.reduceAdd, Nat.reduceMul, Nat.reduceSub, Nat.zero_add, Nat.add_zero]
      refine Rq.e (b156_47) ?_
      exact OKm.x (k := 1) hs I rfl
  · rw [if_neg hf] at h104
    rw [if_neg (fun z => hf z.1)]
    refine Rq.s (fun _ => b156_0 (by (try simp (disch := omega) only [nI_add, nI_mulN, pk_sub, nI_clamp, Nat.reduceAdd, Nat.reduceMul, Nat.reduceSub, Nat.zero_add, Nat.add_zero]); exact h104)) ?_
    refine Rq.bt (fun _ => b156_6) (rfl) ?_
    refine Rq.s (fun _ => b156_17) ?_
    try simp (disch := omega) only [nI_add, nI_mulN, pk_sub, nI_clamp, Nat.reduceAdd, Nat.reduceMul, Nat.reduceSub, Nat.zero_add, Nat.add_zero]
    refine Rq.s (fun _ => b156_31 (by (try simp (disch := omega) only [nI_add, nI_mulN, pk_sub, nI_clamp, Nat.reduceAdd, Nat.reduceMul, Nat.reduceSub, Nat.zero_add, Nat.add_zero]); exact t103_k (k := 1) (by omega) (by omega))) ?_
    refine Rq.bt (fun _ => b156_34) (rfl) ?_
    refine Rq.s (fun _ => b156_46) ?_
    try simp (disch := omega) only [nI_add, nI_mulN, pk_sub, nI_clamp, Nat.reduceAdd, Nat.reduceMul, Nat.reduceSub, Nat.zero_add, Nat.add_zero]
    refine Rq.e (b156_47) ?_
    exact OKm.x (k := 1) hs I rfl
theorem rHoleOf {sc : Nat × (Nat → Int32)} {d : Nat} {D : Nat → Nat → Int32} {G : Nat → Nat → Int64} {t : ST} {x : Int} {y : Int} (bx1 : -2147483648 ≤ x) (bx2 : x < 2147483648) (by1 : -2147483648 ≤ y) (by2 : y < 2147483648) (I : InvM D t) (hs : SV t) : Cq sc (d + 4) 158 [.ref 79, .int (iI x), .int (iI y)] D G (OKm D (oHoleOf t x y)) := by
  have hv := hs.1
  have h7 := hv.1
  have R := I.1
  have R1 := (InvM_t (x := nI 0) hs I).1
  have s98 := (rM I.1).1
  have w98 := (rM R1).1
  refine Cq.c (fun _ _ _ => c158) ?_
  unfold oHoleOf
  have h102 := m102 (sc := sc) (d := d + 3) (D := D) (G := G) (z_iI by1 by2) (z_nI (show 0 < 2 ^ 31 by omega)) (z_nI (show 4 < 2 ^ 31 by omega)) (P := 0 ≤ y ∧ y ≤ 4) (by omega)
  by_cases hx : 0 ≤ x
  · by_cases hy : 0 ≤ y ∧ y ≤ 4
    · rw [if_pos hy] at h102
      rw [if_pos ⟨hx, hy⟩]
      obtain ⟨x, rfl⟩ := arg_nat hx
      obtain ⟨y, rfl⟩ := arg_nat hy.1
      simp only [← i_nI, Int.toNat_natCast] at h102 ⊢
      obtain ⟨_, D4, hC4, rfl, e4⟩ := m157 (sc := sc) (d := d) (G := G) (i := x) (j := y) R1 hv (by omega) (by omega)
      refine Rq.bf (fun _ => b158_0) (by (try simp (disch := omega) only [Int32.le_iff_toInt_le, Int32.lt_iff_toInt_lt, z_eq, z_nI, z_0, z_iI]); omega) ?_
      refine Rq.s (fun _ => b158_5 (by (try simp (disch := omega) only [nI_add, nI_mulN, pk_sub, nI_clamp, Nat.reduceAdd, Nat.reduceMul, Nat.reduceSub, Nat.zero_add, Nat.add_zero]); exact h102)) ?_
      refine Rq.bt (fun _ => b158_11) (by decide) ?_
      refine Rq.s (fun _ => b158_18) ?_
      try simp (disch := omega) only [nI_add, nI_mulN, pk_sub, nI_clamp, Nat.reduceAdd, Nat.reduceMul, Nat.reduceSub, Nat.zero_add, Nat.add_zero]
      refine Rq.s (fun _ => b158_19 (by (try simp (disch := omega) only [nI_add, nI_mulN, pk_sub, nI_clamp, Nat.reduceAdd, Nat.reduceMul, Nat.reduceSub, Nat.zero_add, Nat.add_zero]); exact t103_0)) ?_
      refine Rq.bf (fun _ => b158_22) (by decide) ?_
      refine Rq.s (fun _ => b158_25 (by (try simp (disch := omega) only [nI_add, nI_mulN, pk_sub, nI_clamp, Nat.reduceAdd, Nat.reduceMul, Nat.reduceSub, Nat.zero_add, Nat.add_zero]); exact hC4)) ?_
      refine Rq.s (fun _ => b158_31) ?_
      refine Rq.e (b158_35b) ?_
      exact OKm.w hs I rfl e4
    · rw [if_neg hy] at h102
      rw [if_neg (fun z => hy z.2)]
      refine Rq.bf (fun _ => b158_0) (by (try simp (disch := omega) only [Int32.le_iff_toInt_le, Int32.lt_iff_toInt_lt, z_eq, z_nI, z_0, z_iI]); omega) ?_
      refine Rq.s (fun _ => b158_5 (by (try simp (disch := omega) only [nI_add, nI_mulN, pk_sub, nI_clamp, Nat.reduceAdd, Nat.reduceMul, Nat.reduceSub, Nat.zero_add, Nat.add_zero]); exact h102)) ?_
      refine Rq.bf (fun _ => b158_11) (fun z => z rfl) ?_
      refine Rq.s (fun _ => b158_14) ?_
      try simp (disch := omega) only [nI_add, nI_mulN, pk_sub, nI_clamp, Nat.reduceAdd, Nat.reduceMul, Nat.reduceSub, Nat.zero_add, Nat.add_zero]
      refine Rq.s (fun _ => b158_19 (by (try simp (disch := omega) only [nI_add, nI_mulN, pk_sub, nI_clamp, Nat.reduceAdd, Nat.reduceMul, Nat.reduceSub, Nat.zero_add, Nat.add_zero]); exact t103_k (k := 1) (by omega) (by omega))) ?_
      refine Rq.bt (fun _ => b158_22) (rfl) ?_
      refine Rq.s (fun _ => b158_34) ?_
      try simp (disch := omega) only [nI_add, nI_mulN, pk_sub, nI_clamp, Nat.reduceAdd, Nat.reduceMul, Nat.reduceSub, Nat.zero_add, Nat.add_zero]
      refine Rq.e (b158_35) ?_
      exact OKm.x (k := 1) hs I rfl
  · rw [if_neg (fun z => hx z.1)]
    refine Rq.bt (fun _ => b158_0) (by (try simp (disch := omega) only [Int32.le_iff_toInt_le, Int32.lt_iff_toInt_lt, z_eq, z_nI, z_0, z_iI]); omega) ?_
    refine Rq.s (fun _ => b158_14) ?_
    try simp (disch := omega) only [nI_add, nI_mulN, pk_sub, nI_clamp, Nat.reduceAdd, Nat.reduceMul, Nat.reduceSub, Nat.zero_add, Nat.add_zero]
    refine Rq.s (fun _ => b158_19 (by (try simp (disch := omega) only [nI_add, nI_mulN, pk_sub, nI_clamp, Nat.reduceAdd, Nat.reduceMul, Nat.reduceSub, Nat.zero_add, Nat.add_zero]); exact t103_k (k := 1) (by omega) (by omega))) ?_
    refine Rq.bt (fun _ => b158_22) (rfl) ?_
    refine Rq.s (fun _ => b158_34) ?_
    try simp (disch := omega) only [nI_add, nI_mulN, pk_sub, nI_clamp, Nat.reduceAdd, Nat.reduceMul, Nat.reduceSub, Nat.zero_add, Nat.add_zero]
    refine Rq.e (b158_35) ?_
    exact OKm.x (k := 1) hs I rfl
theorem rSetting {sc : Nat × (Nat → Int32)} {d : Nat} {D : Nat → Nat → Int32} {G : Nat → Nat → Int64} {t : ST} {x : Int} (bx1 : -2147483648 ≤ x) (bx2 : x < 2147483648) (I : InvM D t) (hs : SV t) : Cq sc (d + 1) 162 [.ref 79, .int (iI x)] D G (OKm D (oSetting t x)) := by
  have hv := hs.1
  have h7 := hv.1
  have R := I.1
  have R1 := (InvM_t (x := nI 0) hs I).1
  have s98 := (rM I.1).1
  have w98 := (rM R1).1
  refine Cq.c (fun _ _ _ => c162) ?_
  unfold oSetting
  have h102 := m102 (sc := sc) (d := d) (D := D) (G := G) (z_iI bx1 bx2) (z_nI (show 0 < 2 ^ 31 by omega)) (z_nI (show 1 < 2 ^ 31 by omega)) (P := 0 ≤ x ∧ x < 2) (by omega)
  by_cases hx : 0 ≤ x ∧ x < 2
  · rw [if_pos hx] at h102 ⊢
    obtain ⟨x, rfl⟩ := arg_nat hx.1
    simp only [← i_nI, Int.toNat_natCast] at h102 ⊢
    have w100 : hx_up D 79 0 (nI 0) 80 (100 + x) = nI (zs (tV t) x) := by
      rcases (by omega : x = 0 ∨ x = 1) with c | c <;> subst c
      · exact (rM R1).2.2.2.2.2.2.1
      · exact (rM R1).2.2.2.2.2.2.2
    refine Rq.s (fun _ => b162_0 (by (try simp (disch := omega) only [nI_add, nI_mulN, pk_sub, nI_clamp, Nat.reduceAdd, Nat.reduceMul, Nat.reduceSub, Nat.zero_add, Nat.add_zero, w100]); exact h102)) ?_
    refine Rq.bf (fun _ => b162_7) (by decide) ?_
    refine Rq.s (fun _ => b162_10) ?_
    try simp (disch := omega) only [nI_add, nI_mulN, pk_sub, nI_clamp, Nat.reduceAdd, Nat.reduceMul, Nat.reduceSub, Nat.zero_add, Nat.add_zero, w100]
    refine Rq.s (fun _ => b162_15 (by (try simp (disch := omega) only [nI_add, nI_mulN, pk_sub, nI_clamp, Nat.reduceAdd, Nat.reduceMul, Nat.reduceSub, Nat.zero_add, Nat.add_zero, w100]); exact t103_0)) ?_
    refine Rq.bf (fun _ => b162_18) (by decide) ?_
    refine Rq.s (fun _ => b162_21 (by (try simp (disch := omega) only [nI_add, nI_mulN, pk_sub, nI_clamp, Nat.reduceAdd, Nat.reduceMul, Nat.reduceSub, Nat.zero_add, Nat.add_zero, w100]); exact nI_inbT (by omega) (by omega))) ?_
    try simp (disch := omega) only [nI_add, nI_mulN, pk_sub, nI_clamp, Nat.reduceAdd, Nat.reduceMul, Nat.reduceSub, Nat.zero_add, Nat.add_zero, w100]
    refine Rq.e (b162_34b) ?_
    exact OKm.w hs I rfl eqW.rf
  · rw [if_neg hx] at h102 ⊢
    refine Rq.s (fun _ => b162_0 (by (try simp (disch := omega) only [nI_add, nI_mulN, pk_sub, nI_clamp, Nat.reduceAdd, Nat.reduceMul, Nat.reduceSub, Nat.zero_add, Nat.add_zero]); exact h102)) ?_
    refine Rq.bt (fun _ => b162_7) (rfl) ?_
    refine Rq.s (fun _ => b162_14) ?_
    try simp (disch := omega) only [nI_add, nI_mulN, pk_sub, nI_clamp, Nat.reduceAdd, Nat.reduceMul, Nat.reduceSub, Nat.zero_add, Nat.add_zero]
    refine Rq.s (fun _ => b162_15 (by (try simp (disch := omega) only [nI_add, nI_mulN, pk_sub, nI_clamp, Nat.reduceAdd, Nat.reduceMul, Nat.reduceSub, Nat.zero_add, Nat.add_zero]); exact t103_k (k := 1) (by omega) (by omega))) ?_
    refine Rq.bt (fun _ => b162_18) (rfl) ?_
    refine Rq.s (fun _ => b162_33) ?_
    try simp (disch := omega) only [nI_add, nI_mulN, pk_sub, nI_clamp, Nat.reduceAdd, Nat.reduceMul, Nat.reduceSub, Nat.zero_add, Nat.add_zero]
    refine Rq.e (b162_34) ?_
    exact OKm.x (k := 1) hs I rfl
theorem hb99 {n : Nat} (h : n ≤ 7) : ∀ k, k < n → (nI k = (-1 : Int32) ↔ k = 99) := by
  intro k hk
  rw [z_eq, z_nI (by omega), z_m1]
  omega
theorem rBestBehind {sc : Nat × (Nat → Int32)} {d : Nat} {D : Nat → Nat → Int32} {G : Nat → Nat → Int64} {t : ST} {p : Int} (bp1 : -2147483648 ≤ p) (bp2 : p < 2147483648) (I : InvM D t) (hs : SV t) : Cq sc (d + 4) 164 [.ref 79, .int (iI p)] D G (OKm D (oBestBehind t p)) := by
  have hv := hs.1
  have h7 := hv.1
  have R := I.1
  have R1 := (InvM_t (x := nI 0) hs I).1
  have s98 := (rM I.1).1
  have w98 := (rM R1).1
  refine Cq.c (fun _ _ _ => c164) ?_
  unfold oBestBehind
  have h104 := m104 (sc := sc) (d := d + 2) (G := G) s98 (by omega) bp1 bp2
  by_cases hp : 0 ≤ p ∧ p < (zn (tV t) : Int)
  · rw [if_pos hp] at h104 ⊢
    obtain ⟨p, rfl⟩ := arg_nat hp.1
    simp only [← i_nI, Int.toNat_natCast] at h104 ⊢
    refine Rq.s (fun _ => b164_0 (by (try simp (disch := omega) only [nI_add, nI_mulN, pk_sub, nI_clamp, Nat.reduceAdd, Nat.reduceMul, Nat.reduceSub, Nat.zero_add, Nat.add_zero]); exact h104)) ?_
    refine Rq.bf (fun _ => b164_6) (by decide) ?_
    refine Rq.s (fun _ => b164_9) ?_
    try simp (disch := omega) only [nI_add, nI_mulN, pk_sub, nI_clamp, Nat.reduceAdd, Nat.reduceMul, Nat.reduceSub, Nat.zero_add, Nat.add_zero]
    refine Rq.s (fun _ => b164_14 (by (try simp (disch := omega) only [nI_add, nI_mulN, pk_sub, nI_clamp, Nat.reduceAdd, Nat.reduceMul, Nat.reduceSub, Nat.zero_add, Nat.add_zero]); exact t103_0)) ?_
    refine Rq.bf (fun _ => b164_17) (by decide) ?_
    refine Rq.s (fun _ => b164_20 (by (try simp (disch := omega) only [nI_add, nI_mulN, pk_sub, nI_clamp, Nat.reduceAdd, Nat.reduceMul, Nat.reduceSub, Nat.zero_add, Nat.add_zero]); exact m163 (d := d + 1) R1 hv (by omega) (hb99 h7))) ?_
    refine Rq.s (fun _ => b164_26) ?_
    refine Rq.e (b164_30b) ?_
    exact OKm.w hs I rfl eqW.rf
  · rw [if_neg hp] at h104 ⊢
    refine Rq.s (fun _ => b164_0 (by (try simp (disch := omega) only [nI_add, nI_mulN, pk_sub, nI_clamp, Nat.reduceAdd, Nat.reduceMul, Nat.reduceSub, Nat.zero_add, Nat.add_zero]); exact h104)) ?_
    refine Rq.bt (fun _ => b164_6) (rfl) ?_
    refine Rq.s (fun _ => b164_13) ?_
    try simp (disch := omega) only [nI_add, nI_mulN, pk_sub, nI_clamp, Nat.reduceAdd, Nat.reduceMul, Nat.reduceSub, Nat.zero_add, Nat.add_zero]
    refine Rq.s (fun _ => b164_14 (by (try simp (disch := omega) only [nI_add, nI_mulN, pk_sub, nI_clamp, Nat.reduceAdd, Nat.reduceMul, Nat.reduceSub, Nat.zero_add, Nat.add_zero]); exact t103_k (k := 1) (by omega) (by omega))) ?_
    refine Rq.bt (fun _ => b164_17) (rfl) ?_
    refine Rq.s (fun _ => b164_29) ?_
    try simp (disch := omega) only [nI_add, nI_mulN, pk_sub, nI_clamp, Nat.reduceAdd, Nat.reduceMul, Nat.reduceSub, Nat.zero_add, Nat.add_zero]
    refine Rq.e (b164_30) ?_
    exact OKm.x (k := 1) hs I rfl
theorem rSureness {sc : Nat × (Nat → Int32)} {d : Nat} {D : Nat → Nat → Int32} {G : Nat → Nat → Int64} {t : ST} {p : Int} (bp1 : -2147483648 ≤ p) (bp2 : p < 2147483648) (I : InvM D t) (hs : SV t) : Cq sc (d + 4) 166 [.ref 79, .int (iI p)] D G (OKm D (oSureness t p)) := by
  have hv := hs.1
  have h7 := hv.1
  have R := I.1
  have R1 := (InvM_t (x := nI 0) hs I).1
  have s98 := (rM I.1).1
  have w98 := (rM R1).1
  refine Cq.c (fun _ _ _ => c166) ?_
  unfold oSureness
  have h104 := m104 (sc := sc) (d := d + 2) (G := G) s98 (by omega) bp1 bp2
  by_cases hp : 0 ≤ p ∧ p < (zn (tV t) : Int)
  · rw [if_pos hp] at h104 ⊢
    obtain ⟨p, rfl⟩ := arg_nat hp.1
    simp only [← i_nI, Int.toNat_natCast] at h104 ⊢
    refine Rq.s (fun _ => b166_0 (by (try simp (disch := omega) only [nI_add, nI_mulN, pk_sub, nI_clamp, Nat.reduceAdd, Nat.reduceMul, Nat.reduceSub, Nat.zero_add, Nat.add_zero]); exact h104)) ?_
    refine Rq.bf (fun _ => b166_6) (by decide) ?_
    refine Rq.s (fun _ => b166_9) ?_
    try simp (disch := omega) only [nI_add, nI_mulN, pk_sub, nI_clamp, Nat.reduceAdd, Nat.reduceMul, Nat.reduceSub, Nat.zero_add, Nat.add_zero]
    refine Rq.s (fun _ => b166_14 (by (try simp (disch := omega) only [nI_add, nI_mulN, pk_sub, nI_clamp, Nat.reduceAdd, Nat.reduceMul, Nat.reduceSub, Nat.zero_add, Nat.add_zero]); exact t103_0)) ?_
    refine Rq.bf (fun _ => b166_17) (by decide) ?_
    refine Rq.s (fun _ => b166_20 (by (try simp (disch := omega) only [nI_add, nI_mulN, pk_sub, nI_clamp, Nat.reduceAdd, Nat.reduceMul, Nat.reduceSub, Nat.zero_add, Nat.add_zero]); exact m165 (d := d) R1 hv (by omega))) ?_
    refine Rq.s (fun _ => b166_25) ?_
    refine Rq.e (b166_29b) ?_
    exact OKm.w hs I rfl eqW.rf
  · rw [if_neg hp] at h104 ⊢
    refine Rq.s (fun _ => b166_0 (by (try simp (disch := omega) only [nI_add, nI_mulN, pk_sub, nI_clamp, Nat.reduceAdd, Nat.reduceMul, Nat.reduceSub, Nat.zero_add, Nat.add_zero]); exact h104)) ?_
    refine Rq.bt (fun _ => b166_6) (rfl) ?_
    refine Rq.s (fun _ => b166_13) ?_
    try simp (disch := omega) only [nI_add, nI_mulN, pk_sub, nI_clamp, Nat.reduceAdd, Nat.reduceMul, Nat.reduceSub, Nat.zero_add, Nat.add_zero]
    refine Rq.s (fun _ => b166_14 (by (try simp (disch := omega) only [nI_add, nI_mulN, pk_sub, nI_clamp, Nat.reduceAdd, Nat.reduceMul, Nat.reduceSub, Nat.zero_add, Nat.add_zero]); exact t103_k (k := 1) (by omega) (by omega))) ?_
    refine Rq.bt (fun _ => b166_17) (rfl) ?_
    refine Rq.s (fun _ => b166_28) ?_
    try simp (disch := omega) only [nI_add, nI_mulN, pk_sub, nI_clamp, Nat.reduceAdd, Nat.reduceMul, Nat.reduceSub, Nat.zero_add, Nat.add_zero]
    refine Rq.e (b166_29) ?_
    exact OKm.x (k := 1) hs I rfl
theorem rBestPlace {sc : Nat × (Nat → Int32)} {d : Nat} {D : Nat → Nat → Int32} {G : Nat → Nat → Int64} {t : ST} {p : Int} (bp1 : -2147483648 ≤ p) (bp2 : p < 2147483648) (I : InvM D t) (hs : SV t) : Cq sc (d + 4) 168 [.ref 79, .int (iI p)] D G (OKm D (oBestPlace t p)) := by
  have hv := hs.1
  have h7 := hv.1
  have R := I.1
  have R1 := (InvM_t (x := nI 0) hs I).1
  have s98 := (rM I.1).1
  have w98 := (rM R1).1
  refine Cq.c (fun _ _ _ => c168) ?_
  unfold oBestPlace
  have h104 := m104 (sc := sc) (d := d + 2) (G := G) s98 (by omega) bp1 bp2
  by_cases hp : 0 ≤ p ∧ p < (zn (tV t) : Int)
  · rw [if_pos hp] at h104 ⊢
    obtain ⟨p, rfl⟩ := arg_nat hp.1
    simp only [← i_nI, Int.toNat_natCast] at h104 ⊢
    obtain ⟨_, D4, hC4, rfl, e4⟩ := m167 (sc := sc) (d := d) (G := G) (p := p) R1 hv (by omega)
    refine Rq.s (fun _ => b168_0 (by (try simp (disch := omega) only [nI_add, nI_mulN, pk_sub, nI_clamp, Nat.reduceAdd, Nat.reduceMul, Nat.reduceSub, Nat.zero_add, Nat.add_zero]); exact h104)) ?_
    refine Rq.bf (fun _ => b168_6) (by decide) ?_
    refine Rq.s (fun _ => b168_9) ?_
    try simp (disch := omega) only [nI_add, nI_mulN, pk_sub, nI_clamp, Nat.reduceAdd, Nat.reduceMul, Nat.reduceSub, Nat.zero_add, Nat.add_zero]
    refine Rq.s (fun _ => b168_14 (by (try simp (disch := omega) only [nI_add, nI_mulN, pk_sub, nI_clamp, Nat.reduceAdd, Nat.reduceMul, Nat.reduceSub, Nat.zero_add, Nat.add_zero]); exact t103_0)) ?_
    refine Rq.bf (fun _ => b168_17) (by decide) ?_
    refine Rq.s (fun _ => b168_20 (by (try simp (disch := omega) only [nI_add, nI_mulN, pk_sub, nI_clamp, Nat.reduceAdd, Nat.reduceMul, Nat.reduceSub, Nat.zero_add, Nat.add_zero]); exact hC4)) ?_
    refine Rq.s (fun _ => b168_25) ?_
    refine Rq.e (b168_29b) ?_
    exact OKm.w hs I rfl e4
  · rw [if_neg hp] at h104 ⊢
    refine Rq.s (fun _ => b168_0 (by (try simp (disch := omega) only [nI_add, nI_mulN, pk_sub, nI_clamp, Nat.reduceAdd, Nat.reduceMul, Nat.reduceSub, Nat.zero_add, Nat.add_zero]); exact h104)) ?_
    refine Rq.bt (fun _ => b168_6) (rfl) ?_
    refine Rq.s (fun _ => b168_13) ?_
    try simp (disch := omega) only [nI_add, nI_mulN, pk_sub, nI_clamp, Nat.reduceAdd, Nat.reduceMul, Nat.reduceSub, Nat.zero_add, Nat.add_zero]
    refine Rq.s (fun _ => b168_14 (by (try simp (disch := omega) only [nI_add, nI_mulN, pk_sub, nI_clamp, Nat.reduceAdd, Nat.reduceMul, Nat.reduceSub, Nat.zero_add, Nat.add_zero]); exact t103_k (k := 1) (by omega) (by omega))) ?_
    refine Rq.bt (fun _ => b168_17) (rfl) ?_
    refine Rq.s (fun _ => b168_28) ?_
    try simp (disch := omega) only [nI_add, nI_mulN, pk_sub, nI_clamp, Nat.reduceAdd, Nat.reduceMul, Nat.reduceSub, Nat.zero_add, Nat.add_zero]
    refine Rq.e (b168_29) ?_
    exact OKm.x (k := 1) hs I rfl
theorem rIfOrdered {sc : Nat × (Nat → Int32)} {d : Nat} {D : Nat → Nat → Int32} {G : Nat → Nat → Int64} {t : ST} (I : InvM D t) (hs : SV t) : Cq sc (d + 6) 170 [.ref 79] D G (OKm D (oIfOrdered t)) := by
  have hv := hs.1
  have h7 := hv.1
  have R := I.1
  have R1 := (InvM_t (x := nI 0) hs I).1
  have s98 := (rM I.1).1
  have w98 := (rM R1).1
  obtain ⟨_, D4, hC4, rfl, e4⟩ := m169 (sc := sc) (d := d) (G := G) R1 hv
  refine Cq.c (fun _ _ _ => c170) ?_
  refine Rq.s (fun _ => b170_0 (by (try simp (disch := omega) only [nI_add, nI_mulN, pk_sub, nI_clamp, Nat.reduceAdd, Nat.reduceMul, Nat.reduceSub, Nat.zero_add, Nat.add_zero]); exact hC4)) ?_
  refine Rq.e (b170_9) ?_
  exact OKm.w hs I rfl e4
/-- a float, the code 0 -/
def OKf (D : Nat → Nat → Int32) (v : Value) (t : ST) : hx_RS → (Nat → Nat → Int32) → Prop := fun r D2 => r = .inl (some v) ∧ D2 79 0 = nI 0 ∧ InvM D2 t ∧ eqC D D2
theorem OKf.w {D D2 : Nat → Nat → Int32} {v : Value} {t : ST} (hs : SV t) (I : InvM D t) (e : eqW (hx_up D 79 0 (nI 0)) D2) : OKf D v t (.inl (some v)) D2 := by
  refine ⟨rfl, by rw [e.2.2 0 (by omega)]; exact hx_up_s _ _ _ _, InvM_w hs (InvM_t hs I) (fun a ha => e.1 a (by omega)) e.2.1 (fun j hj => e.2.2 j (by omega)), fun a ha => by rw [e.1 a (by omega)]; exact hx_up_ne (by omega)⟩
theorem rMeanShrink {sc : Nat × (Nat → Int32)} {d : Nat} {D : Nat → Nat → Int32} {G : Nat → Nat → Int64} {t : ST} (I : InvM D t) (hs : SV t) : Cq sc (d + 4) 172 [.ref 79] D G (OKf D (.float (zSh (tV t))) t) := by
  have hv := hs.1
  have h7 := hv.1
  have R := I.1
  have R1 := (InvM_t (x := nI 0) hs I).1
  have s98 := (rM I.1).1
  have w98 := (rM R1).1
  obtain ⟨_, D4, hC4, rfl, e4⟩ := m171 (sc := sc) (d := d) (G := G) R1 hv
  refine Cq.c (fun _ _ _ => c172) ?_
  refine Rq.s (fun _ => b172_0 (by (try simp (disch := omega) only [nI_add, nI_mulN, pk_sub, nI_clamp, Nat.reduceAdd, Nat.reduceMul, Nat.reduceSub, Nat.zero_add, Nat.add_zero]); exact hC4)) ?_
  refine Rq.e (b172_9) ?_
  exact OKf.w hs I (eqW.L e4)
theorem rMeanCost {sc : Nat × (Nat → Int32)} {d : Nat} {D : Nat → Nat → Int32} {G : Nat → Nat → Int64} {t : ST} (I : InvM D t) (hs : SV t) : Cq sc (d + 4) 174 [.ref 79] D G (OKf D (.double (zMc (tV t))) t) := by
  have hv := hs.1
  have h7 := hv.1
  have R := I.1
  have R1 := (InvM_t (x := nI 0) hs I).1
  have s98 := (rM I.1).1
  have w98 := (rM R1).1
  have hC4 := m173 (sc := sc) (d := d) (G := G) R1 hv
  refine Cq.c (fun _ _ _ => c174) ?_
  refine Rq.s (fun _ => b174_0 (by (try simp (disch := omega) only [nI_add, nI_mulN, pk_sub, nI_clamp, Nat.reduceAdd, Nat.reduceMul, Nat.reduceSub, Nat.zero_add, Nat.add_zero]); exact hC4)) ?_
  refine Rq.e (b174_9) ?_
  exact OKf.w hs I eqW.rf
theorem e85 {D D2 : Nat → Nat → Int32} (h : ∀ a, a ≠ 85 → D2 a = D a) : eqW D D2 := ⟨fun a ha => h a (by omega), fun i _ => by rw [h 80 (by omega)], fun j _ => by rw [h 79 (by omega)]⟩
theorem m160_0 {sc : Nat × (Nat → Int32)} {d : Nat} {D : Nat → Nat → Int32} {G : Nat → Nat → Int64} {t : ST} (I : InvM D t) (hs : SV t) : Cq sc (d + 6) 160 [.ref 79, .int (nI 0)] D G (Qw (zct t 0) D) := by
  have hv := hs.1
  have R := I.1
  have s98 := (rM I.1).1
  have s99 := (rM I.1).2.1
  have s4 := I.2.1
  refine Cq.c (fun _ _ _ => c160) ?_
  refine Rq.s (fun _ K => b160_0 (fun _ => K) (fun h => by exfalso; (try simp (disch := omega) only [Int32.le_iff_toInt_le, Int32.lt_iff_toInt_lt, z_eq, z_nI, z_0, z_m1, z_sub, z_1, z_2, z_3, z_4, z_5, z_6, z_7, z_8, nI_add, nI_mulN, pk_sub, nI_clamp, Nat.reduceAdd, Nat.reduceMul, Nat.reduceSub, Nat.zero_add, Nat.add_zero, s98] at h) <;> omega) (fun h => by exfalso; (try simp (disch := omega) only [Int32.le_iff_toInt_le, Int32.lt_iff_toInt_lt, z_eq, z_nI, z_0, z_m1, z_sub, z_1, z_2, z_3, z_4, z_5, z_6, z_7, z_8, nI_add, nI_mulN, pk_sub, nI_clamp, Nat.reduceAdd, Nat.reduceMul, Nat.reduceSub, Nat.zero_add, Nat.add_zero, s98] at h) <;> omega) (fun h => by exfalso; (try simp (disch := omega) only [Int32.le_iff_toInt_le, Int32.lt_iff_toInt_lt, z_eq, z_nI, z_0, z_m1, z_sub, z_1, z_2, z_3, z_4, z_5, z_6, z_7, z_8, nI_add, nI_mulN, pk_sub, nI_clamp, Nat.reduceAdd, Nat.reduceMul, Nat.reduceSub, Nat.zero_add, Nat.add_zero, s98] at h) <;> omega) (fun h => by exfalso; (try simp (disch := omega) only [Int32.le_iff_toInt_le, Int32.lt_iff_toInt_lt, z_eq, z_nI, z_0, z_m1, z_sub, z_1, z_2, z_3, z_4, z_5, z_6, z_7, z_8, nI_add, nI_mulN, pk_sub, nI_clamp, Nat.reduceAdd, Nat.reduceMul, Nat.reduceSub, Nat.zero_add, Nat.add_zero, s98] at h) <;> omega) (fun h => by exfalso; (try simp (disch := omega) only [Int32.le_iff_toInt_le, Int32.lt_iff_toInt_lt, z_eq, z_nI, z_0, z_m1, z_sub, z_1, z_2, z_3, z_4, z_5, z_6, z_7, z_8, nI_add, nI_mulN, pk_sub, nI_clamp, Nat.reduceAdd, Nat.reduceMul, Nat.reduceSub, Nat.zero_add, Nat.add_zero, s98] at h) <;> omega) (fun h => by exfalso; (try simp (disch := omega) only [Int32.le_iff_toInt_le, Int32.lt_iff_toInt_lt, z_eq, z_nI, z_0, z_m1, z_sub, z_1, z_2, z_3, z_4, z_5, z_6, z_7, z_8, nI_add, nI_mulN, pk_sub, nI_clamp, Nat.reduceAdd, Nat.reduceMul, Nat.reduceSub, Nat.zero_add, Nat.add_zero, s98] at h) <;> omega) (fun h => by exfalso; (try simp (disch := omega) only [Int32.le_iff_toInt_le, Int32.lt_iff_toInt_lt, z_eq, z_nI, z_0, z_m1, z_sub, z_1, z_2, z_3, z_4, z_5, z_6, z_7, z_8, nI_add, nI_mulN, pk_sub, nI_clamp, Nat.reduceAdd, Nat.reduceMul, Nat.reduceSub, Nat.zero_add, Nat.add_zero, s98] at h) <;> omega) (fun h => by exfalso; (try simp (disch := omega) only [Int32.le_iff_toInt_le, Int32.lt_iff_toInt_lt, z_eq, z_nI, z_0, z_m1, z_sub, z_1, z_2, z_3, z_4, z_5, z_6, z_7, z_8, nI_add, nI_mulN, pk_sub, nI_clamp, Nat.reduceAdd, Nat.reduceMul, Nat.reduceSub, Nat.zero_add, Nat.add_zero, s98] at h) <;> omega) (fun h => by exfalso; (try simp (disch := omega) only [Int32.le_iff_toInt_le, Int32.lt_iff_toInt_lt, z_eq, z_nI, z_0, z_m1, z_sub, z_1, z_2, z_3, z_4, z_5, z_6, z_7, z_8, nI_add, nI_mulN, pk_sub, nI_clamp, Nat.reduceAdd, Nat.reduceMul, Nat.reduceSub, Nat.zero_add, Nat.add_zero, s98] at h) <;> omega)) ?_
  refine Rq.e (b160_52 (by (try simp (disch := omega) only [nI_add, nI_mulN, pk_sub, nI_clamp, Nat.reduceAdd, Nat.reduceMul, Nat.reduceSub, Nat.zero_add, Nat.add_zero, s98]); exact nI_inbT (by omega) (by omega))) ?_
  try simp (disch := omega) only [nI_add, nI_mulN, pk_sub, nI_clamp, Nat.reduceAdd, Nat.reduceMul, Nat.reduceSub, Nat.zero_add, Nat.add_zero, s98]
  exact ⟨rfl, eqW.rf⟩
theorem m160_1 {sc : Nat × (Nat → Int32)} {d : Nat} {D : Nat → Nat → Int32} {G : Nat → Nat → Int64} {t : ST} (I : InvM D t) (hs : SV t) : Cq sc (d + 6) 160 [.ref 79, .int (nI 1)] D G (Qw (zct t 1) D) := by
  have hv := hs.1
  have R := I.1
  have s98 := (rM I.1).1
  have s99 := (rM I.1).2.1
  have s4 := I.2.1
  have hC4 := m159 (sc := sc) (d := d + 1) (G := G) (j := 0) R hv (by omega)
  rw [sum_w hv] at hC4
  refine Cq.c (fun _ _ _ => c160) ?_
  refine Rq.s (fun _ K => b160_0 (fun h => by exfalso; (try simp (disch := omega) only [Int32.le_iff_toInt_le, Int32.lt_iff_toInt_lt, z_eq, z_nI, z_0, z_m1, z_sub, z_1, z_2, z_3, z_4, z_5, z_6, z_7, z_8, nI_add, nI_mulN, pk_sub, nI_clamp, Nat.reduceAdd, Nat.reduceMul, Nat.reduceSub, Nat.zero_add, Nat.add_zero] at h) <;> omega) (fun _ => K) (fun h => by exfalso; (try simp (disch := omega) only [Int32.le_iff_toInt_le, Int32.lt_iff_toInt_lt, z_eq, z_nI, z_0, z_m1, z_sub, z_1, z_2, z_3, z_4, z_5, z_6, z_7, z_8, nI_add, nI_mulN, pk_sub, nI_clamp, Nat.reduceAdd, Nat.reduceMul, Nat.reduceSub, Nat.zero_add, Nat.add_zero] at h) <;> omega) (fun h => by exfalso; (try simp (disch := omega) only [Int32.le_iff_toInt_le, Int32.lt_iff_toInt_lt, z_eq, z_nI, z_0, z_m1, z_sub, z_1, z_2, z_3, z_4, z_5, z_6, z_7, z_8, nI_add, nI_mulN, pk_sub, nI_clamp, Nat.reduceAdd, Nat.reduceMul, Nat.reduceSub, Nat.zero_add, Nat.add_zero] at h) <;> omega) (fun h => by exfalso; (try simp (disch := omega) only [Int32.le_iff_toInt_le, Int32.lt_iff_toInt_lt, z_eq, z_nI, z_0, z_m1, z_sub, z_1, z_2, z_3, z_4, z_5, z_6, z_7, z_8, nI_add, nI_mulN, pk_sub, nI_clamp, Nat.reduceAdd, Nat.reduceMul, Nat.reduceSub, Nat.zero_add, Nat.add_zero] at h) <;> omega) (fun h => by exfalso; (try simp (disch := omega) only [Int32.le_iff_toInt_le, Int32.lt_iff_toInt_lt, z_eq, z_nI, z_0, z_m1, z_sub, z_1, z_2, z_3, z_4, z_5, z_6, z_7, z_8, nI_add, nI_mulN, pk_sub, nI_clamp, Nat.reduceAdd, Nat.reduceMul, Nat.reduceSub, Nat.zero_add, Nat.add_zero] at h) <;> omega) (fun h => by exfalso; (try simp (disch := omega) only [Int32.le_iff_toInt_le, Int32.lt_iff_toInt_lt, z_eq, z_nI, z_0, z_m1, z_sub, z_1, z_2, z_3, z_4, z_5, z_6, z_7, z_8, nI_add, nI_mulN, pk_sub, nI_clamp, Nat.reduceAdd, Nat.reduceMul, Nat.reduceSub, Nat.zero_add, Nat.add_zero] at h) <;> omega) (fun h => by exfalso; (try simp (disch := omega) only [Int32.le_iff_toInt_le, Int32.lt_iff_toInt_lt, z_eq, z_nI, z_0, z_m1, z_sub, z_1, z_2, z_3, z_4, z_5, z_6, z_7, z_8, nI_add, nI_mulN, pk_sub, nI_clamp, Nat.reduceAdd, Nat.reduceMul, Nat.reduceSub, Nat.zero_add, Nat.add_zero] at h) <;> omega) (fun h => by exfalso; (try simp (disch := omega) only [Int32.le_iff_toInt_le, Int32.lt_iff_toInt_lt, z_eq, z_nI, z_0, z_m1, z_sub, z_1, z_2, z_3, z_4, z_5, z_6, z_7, z_8, nI_add, nI_mulN, pk_sub, nI_clamp, Nat.reduceAdd, Nat.reduceMul, Nat.reduceSub, Nat.zero_add, Nat.add_zero] at h) <;> omega) (fun h => by exfalso; (try simp (disch := omega) only [Int32.le_iff_toInt_le, Int32.lt_iff_toInt_lt, z_eq, z_nI, z_0, z_m1, z_sub, z_1, z_2, z_3, z_4, z_5, z_6, z_7, z_8, nI_add, nI_mulN, pk_sub, nI_clamp, Nat.reduceAdd, Nat.reduceMul, Nat.reduceSub, Nat.zero_add, Nat.add_zero] at h) <;> omega)) ?_
  refine Rq.s (fun _ => b160_60 (by (try simp (disch := omega) only [nI_add, nI_mulN, pk_sub, nI_clamp, Nat.reduceAdd, Nat.reduceMul, Nat.reduceSub, Nat.zero_add, Nat.add_zero]); exact hC4)) ?_
  refine Rq.e (b160_65) ?_
  exact ⟨rfl, eqW.rf⟩
theorem m160_2 {sc : Nat × (Nat → Int32)} {d : Nat} {D : Nat → Nat → Int32} {G : Nat → Nat → Int64} {t : ST} (I : InvM D t) (hs : SV t) : Cq sc (d + 6) 160 [.ref 79, .int (nI 2)] D G (Qw (zct t 2) D) := by
  have hv := hs.1
  have R := I.1
  have s98 := (rM I.1).1
  have s99 := (rM I.1).2.1
  have s4 := I.2.1
  refine Cq.c (fun _ _ _ => c160) ?_
  refine Rq.s (fun _ K => b160_0 (fun h => by exfalso; (try simp (disch := omega) only [Int32.le_iff_toInt_le, Int32.lt_iff_toInt_lt, z_eq, z_nI, z_0, z_m1, z_sub, z_1, z_2, z_3, z_4, z_5, z_6, z_7, z_8, nI_add, nI_mulN, pk_sub, nI_clamp, Nat.reduceAdd, Nat.reduceMul, Nat.reduceSub, Nat.zero_add, Nat.add_zero] at h) <;> omega) (fun h => by exfalso; (try simp (disch := omega) only [Int32.le_iff_toInt_le, Int32.lt_iff_toInt_lt, z_eq, z_nI, z_0, z_m1, z_sub, z_1, z_2, z_3, z_4, z_5, z_6, z_7, z_8, nI_add, nI_mulN, pk_sub, nI_clamp, Nat.reduceAdd, Nat.reduceMul, Nat.reduceSub, Nat.zero_add, Nat.add_zero] at h) <;> omega) (fun _ => K) (fun h => by exfalso; (try simp (disch := omega) only [Int32.le_iff_toInt_le, Int32.lt_iff_toInt_lt, z_eq, z_nI, z_0, z_m1, z_sub, z_1, z_2, z_3, z_4, z_5, z_6, z_7, z_8, nI_add, nI_mulN, pk_sub, nI_clamp, Nat.reduceAdd, Nat.reduceMul, Nat.reduceSub, Nat.zero_add, Nat.add_zero] at h) <;> omega) (fun h => by exfalso; (try simp (disch := omega) only [Int32.le_iff_toInt_le, Int32.lt_iff_toInt_lt, z_eq, z_nI, z_0, z_m1, z_sub, z_1, z_2, z_3, z_4, z_5, z_6, z_7, z_8, nI_add, nI_mulN, pk_sub, nI_clamp, Nat.reduceAdd, Nat.reduceMul, Nat.reduceSub, Nat.zero_add, Nat.add_zero] at h) <;> omega) (fun h => by exfalso; (try simp (disch := omega) only [Int32.le_iff_toInt_le, Int32.lt_iff_toInt_lt, z_eq, z_nI, z_0, z_m1, z_sub, z_1, z_2, z_3, z_4, z_5, z_6, z_7, z_8, nI_add, nI_mulN, pk_sub, nI_clamp, Nat.reduceAdd, Nat.reduceMul, Nat.reduceSub, Nat.zero_add, Nat.add_zero] at h) <;> omega) (fun h => by exfalso; (try simp (disch := omega) only [Int32.le_iff_toInt_le, Int32.lt_iff_toInt_lt, z_eq, z_nI, z_0, z_m1, z_sub, z_1, z_2, z_3, z_4, z_5, z_6, z_7, z_8, nI_add, nI_mulN, pk_sub, nI_clamp, Nat.reduceAdd, Nat.reduceMul, Nat.reduceSub, Nat.zero_add, Nat.add_zero] at h) <;> omega) (fun h => by exfalso; (try simp (disch := omega) only [Int32.le_iff_toInt_le, Int32.lt_iff_toInt_lt, z_eq, z_nI, z_0, z_m1, z_sub, z_1, z_2, z_3, z_4, z_5, z_6, z_7, z_8, nI_add, nI_mulN, pk_sub, nI_clamp, Nat.reduceAdd, Nat.reduceMul, Nat.reduceSub, Nat.zero_add, Nat.add_zero] at h) <;> omega) (fun h => by exfalso; (try simp (disch := omega) only [Int32.le_iff_toInt_le, Int32.lt_iff_toInt_lt, z_eq, z_nI, z_0, z_m1, z_sub, z_1, z_2, z_3, z_4, z_5, z_6, z_7, z_8, nI_add, nI_mulN, pk_sub, nI_clamp, Nat.reduceAdd, Nat.reduceMul, Nat.reduceSub, Nat.zero_add, Nat.add_zero] at h) <;> omega) (fun h => by exfalso; (try simp (disch := omega) only [Int32.le_iff_toInt_le, Int32.lt_iff_toInt_lt, z_eq, z_nI, z_0, z_m1, z_sub, z_1, z_2, z_3, z_4, z_5, z_6, z_7, z_8, nI_add, nI_mulN, pk_sub, nI_clamp, Nat.reduceAdd, Nat.reduceMul, Nat.reduceSub, Nat.zero_add, Nat.add_zero] at h) <;> omega)) ?_
  refine Rq.s (fun _ => b160_66 (by (try simp (disch := omega) only [nI_add, nI_mulN, pk_sub, nI_clamp, Nat.reduceAdd, Nat.reduceMul, Nat.reduceSub, Nat.zero_add, Nat.add_zero]); exact m111 (d := d + 3) R hv)) ?_
  refine Rq.e (b160_70) ?_
  exact ⟨rfl, eqW.rf⟩
theorem m160_3 {sc : Nat × (Nat → Int32)} {d : Nat} {D : Nat → Nat → Int32} {G : Nat → Nat → Int64} {t : ST} (I : InvM D t) (hs : SV t) : Cq sc (d + 6) 160 [.ref 79, .int (nI 3)] D G (Qw (zct t 3) D) := by
  have hv := hs.1
  have R := I.1
  have s98 := (rM I.1).1
  have s99 := (rM I.1).2.1
  have s4 := I.2.1
  obtain ⟨_, D4, hC4, rfl, e3, e4⟩ := m114 (sc := sc) (d := d + 2) (G := G) s98 (rM R).2.2.2.1 hv
  refine Cq.c (fun _ _ _ => c160) ?_
  refine Rq.s (fun _ K => b160_0 (fun h => by exfalso; (try simp (disch := omega) only [Int32.le_iff_toInt_le, Int32.lt_iff_toInt_lt, z_eq, z_nI, z_0, z_m1, z_sub, z_1, z_2, z_3, z_4, z_5, z_6, z_7, z_8, nI_add, nI_mulN, pk_sub, nI_clamp, Nat.reduceAdd, Nat.reduceMul, Nat.reduceSub, Nat.zero_add, Nat.add_zero] at h) <;> omega) (fun h => by exfalso; (try simp (disch := omega) only [Int32.le_iff_toInt_le, Int32.lt_iff_toInt_lt, z_eq, z_nI, z_0, z_m1, z_sub, z_1, z_2, z_3, z_4, z_5, z_6, z_7, z_8, nI_add, nI_mulN, pk_sub, nI_clamp, Nat.reduceAdd, Nat.reduceMul, Nat.reduceSub, Nat.zero_add, Nat.add_zero] at h) <;> omega) (fun h => by exfalso; (try simp (disch := omega) only [Int32.le_iff_toInt_le, Int32.lt_iff_toInt_lt, z_eq, z_nI, z_0, z_m1, z_sub, z_1, z_2, z_3, z_4, z_5, z_6, z_7, z_8, nI_add, nI_mulN, pk_sub, nI_clamp, Nat.reduceAdd, Nat.reduceMul, Nat.reduceSub, Nat.zero_add, Nat.add_zero] at h) <;> omega) (fun _ => K) (fun h => by exfalso; (try simp (disch := omega) only [Int32.le_iff_toInt_le, Int32.lt_iff_toInt_lt, z_eq, z_nI, z_0, z_m1, z_sub, z_1, z_2, z_3, z_4, z_5, z_6, z_7, z_8, nI_add, nI_mulN, pk_sub, nI_clamp, Nat.reduceAdd, Nat.reduceMul, Nat.reduceSub, Nat.zero_add, Nat.add_zero] at h) <;> omega) (fun h => by exfalso; (try simp (disch := omega) only [Int32.le_iff_toInt_le, Int32.lt_iff_toInt_lt, z_eq, z_nI, z_0, z_m1, z_sub, z_1, z_2, z_3, z_4, z_5, z_6, z_7, z_8, nI_add, nI_mulN, pk_sub, nI_clamp, Nat.reduceAdd, Nat.reduceMul, Nat.reduceSub, Nat.zero_add, Nat.add_zero] at h) <;> omega) (fun h => by exfalso; (try simp (disch := omega) only [Int32.le_iff_toInt_le, Int32.lt_iff_toInt_lt, z_eq, z_nI, z_0, z_m1, z_sub, z_1, z_2, z_3, z_4, z_5, z_6, z_7, z_8, nI_add, nI_mulN, pk_sub, nI_clamp, Nat.reduceAdd, Nat.reduceMul, Nat.reduceSub, Nat.zero_add, Nat.add_zero] at h) <;> omega) (fun h => by exfalso; (try simp (disch := omega) only [Int32.le_iff_toInt_le, Int32.lt_iff_toInt_lt, z_eq, z_nI, z_0, z_m1, z_sub, z_1, z_2, z_3, z_4, z_5, z_6, z_7, z_8, nI_add, nI_mulN, pk_sub, nI_clamp, Nat.reduceAdd, Nat.reduceMul, Nat.reduceSub, Nat.zero_add, Nat.add_zero] at h) <;> omega) (fun h => by exfalso; (try simp (disch := omega) only [Int32.le_iff_toInt_le, Int32.lt_iff_toInt_lt, z_eq, z_nI, z_0, z_m1, z_sub, z_1, z_2, z_3, z_4, z_5, z_6, z_7, z_8, nI_add, nI_mulN, pk_sub, nI_clamp, Nat.reduceAdd, Nat.reduceMul, Nat.reduceSub, Nat.zero_add, Nat.add_zero] at h) <;> omega) (fun h => by exfalso; (try simp (disch := omega) only [Int32.le_iff_toInt_le, Int32.lt_iff_toInt_lt, z_eq, z_nI, z_0, z_m1, z_sub, z_1, z_2, z_3, z_4, z_5, z_6, z_7, z_8, nI_add, nI_mulN, pk_sub, nI_clamp, Nat.reduceAdd, Nat.reduceMul, Nat.reduceSub, Nat.zero_add, Nat.add_zero] at h) <;> omega)) ?_
  refine Rq.s (fun _ => b160_71 (by (try simp (disch := omega) only [nI_add, nI_mulN, pk_sub, nI_clamp, Nat.reduceAdd, Nat.reduceMul, Nat.reduceSub, Nat.zero_add, Nat.add_zero]); exact hC4)) ?_
  refine Rq.e (b160_75) ?_
  exact ⟨rfl, (e85 e4)⟩
theorem m160_4 {sc : Nat × (Nat → Int32)} {d : Nat} {D : Nat → Nat → Int32} {G : Nat → Nat → Int64} {t : ST} (I : InvM D t) (hs : SV t) : Cq sc (d + 6) 160 [.ref 79, .int (nI 4)] D G (Qw (zct t 4) D) := by
  have hv := hs.1
  have R := I.1
  have s98 := (rM I.1).1
  have s99 := (rM I.1).2.1
  have s4 := I.2.1
  obtain ⟨_, D4, hC4, rfl, e3, e4⟩ := m114 (sc := sc) (d := d + 2) (G := G) s98 (rM R).2.2.2.1 hv
  refine Cq.c (fun _ _ _ => c160) ?_
  refine Rq.s (fun _ K => b160_0 (fun h => by exfalso; (try simp (disch := omega) only [Int32.le_iff_toInt_le, Int32.lt_iff_toInt_lt, z_eq, z_nI, z_0, z_m1, z_sub, z_1, z_2, z_3, z_4, z_5, z_6, z_7, z_8, nI_add, nI_mulN, pk_sub, nI_clamp, Nat.reduceAdd, Nat.reduceMul, Nat.reduceSub, Nat.zero_add, Nat.add_zero] at h) <;> omega) (fun h => by exfalso; (try simp (disch := omega) only [Int32.le_iff_toInt_le, Int32.lt_iff_toInt_lt, z_eq, z_nI, z_0, z_m1, z_sub, z_1, z_2, z_3, z_4, z_5, z_6, z_7, z_8, nI_add, nI_mulN, pk_sub, nI_clamp, Nat.reduceAdd, Nat.reduceMul, Nat.reduceSub, Nat.zero_add, Nat.add_zero] at h) <;> omega) (fun h => by exfalso; (try simp (disch := omega) only [Int32.le_iff_toInt_le, Int32.lt_iff_toInt_lt, z_eq, z_nI, z_0, z_m1, z_sub, z_1, z_2, z_3, z_4, z_5, z_6, z_7, z_8, nI_add, nI_mulN, pk_sub, nI_clamp, Nat.reduceAdd, Nat.reduceMul, Nat.reduceSub, Nat.zero_add, Nat.add_zero] at h) <;> omega) (fun h => by exfalso; (try simp (disch := omega) only [Int32.le_iff_toInt_le, Int32.lt_iff_toInt_lt, z_eq, z_nI, z_0, z_m1, z_sub, z_1, z_2, z_3, z_4, z_5, z_6, z_7, z_8, nI_add, nI_mulN, pk_sub, nI_clamp, Nat.reduceAdd, Nat.reduceMul, Nat.reduceSub, Nat.zero_add, Nat.add_zero] at h) <;> omega) (fun _ => K) (fun h => by exfalso; (try simp (disch := omega) only [Int32.le_iff_toInt_le, Int32.lt_iff_toInt_lt, z_eq, z_nI, z_0, z_m1, z_sub, z_1, z_2, z_3, z_4, z_5, z_6, z_7, z_8, nI_add, nI_mulN, pk_sub, nI_clamp, Nat.reduceAdd, Nat.reduceMul, Nat.reduceSub, Nat.zero_add, Nat.add_zero] at h) <;> omega) (fun h => by exfalso; (try simp (disch := omega) only [Int32.le_iff_toInt_le, Int32.lt_iff_toInt_lt, z_eq, z_nI, z_0, z_m1, z_sub, z_1, z_2, z_3, z_4, z_5, z_6, z_7, z_8, nI_add, nI_mulN, pk_sub, nI_clamp, Nat.reduceAdd, Nat.reduceMul, Nat.reduceSub, Nat.zero_add, Nat.add_zero] at h) <;> omega) (fun h => by exfalso; (try simp (disch := omega) only [Int32.le_iff_toInt_le, Int32.lt_iff_toInt_lt, z_eq, z_nI, z_0, z_m1, z_sub, z_1, z_2, z_3, z_4, z_5, z_6, z_7, z_8, nI_add, nI_mulN, pk_sub, nI_clamp, Nat.reduceAdd, Nat.reduceMul, Nat.reduceSub, Nat.zero_add, Nat.add_zero] at h) <;> omega) (fun h => by exfalso; (try simp (disch := omega) only [Int32.le_iff_toInt_le, Int32.lt_iff_toInt_lt, z_eq, z_nI, z_0, z_m1, z_sub, z_1, z_2, z_3, z_4, z_5, z_6, z_7, z_8, nI_add, nI_mulN, pk_sub, nI_clamp, Nat.reduceAdd, Nat.reduceMul, Nat.reduceSub, Nat.zero_add, Nat.add_zero] at h) <;> omega) (fun h => by exfalso; (try simp (disch := omega) only [Int32.le_iff_toInt_le, Int32.lt_iff_toInt_lt, z_eq, z_nI, z_0, z_m1, z_sub, z_1, z_2, z_3, z_4, z_5, z_6, z_7, z_8, nI_add, nI_mulN, pk_sub, nI_clamp, Nat.reduceAdd, Nat.reduceMul, Nat.reduceSub, Nat.zero_add, Nat.add_zero] at h) <;> omega)) ?_
  refine Rq.s (fun _ => b160_71 (by (try simp (disch := omega) only [nI_add, nI_mulN, pk_sub, nI_clamp, Nat.reduceAdd, Nat.reduceMul, Nat.reduceSub, Nat.zero_add, Nat.add_zero]); exact hC4)) ?_
  refine Rq.e (b160_75) ?_
  exact ⟨rfl, (e85 e4)⟩
theorem m160_5 {sc : Nat × (Nat → Int32)} {d : Nat} {D : Nat → Nat → Int32} {G : Nat → Nat → Int64} {t : ST} (I : InvM D t) (hs : SV t) : Cq sc (d + 6) 160 [.ref 79, .int (nI 5)] D G (Qw (zct t 5) D) := by
  have hv := hs.1
  have R := I.1
  have s98 := (rM I.1).1
  have s99 := (rM I.1).2.1
  have s4 := I.2.1
  have hC4 := m159 (sc := sc) (d := d + 1) (G := G) (j := 11) R hv (by omega)
  rw [sum_h hv] at hC4
  refine Cq.c (fun _ _ _ => c160) ?_
  refine Rq.s (fun _ K => b160_0 (fun h => by exfalso; (try simp (disch := omega) only [Int32.le_iff_toInt_le, Int32.lt_iff_toInt_lt, z_eq, z_nI, z_0, z_m1, z_sub, z_1, z_2, z_3, z_4, z_5, z_6, z_7, z_8, nI_add, nI_mulN, pk_sub, nI_clamp, Nat.reduceAdd, Nat.reduceMul, Nat.reduceSub, Nat.zero_add, Nat.add_zero] at h) <;> omega) (fun h => by exfalso; (try simp (disch := omega) only [Int32.le_iff_toInt_le, Int32.lt_iff_toInt_lt, z_eq, z_nI, z_0, z_m1, z_sub, z_1, z_2, z_3, z_4, z_5, z_6, z_7, z_8, nI_add, nI_mulN, pk_sub, nI_clamp, Nat.reduceAdd, Nat.reduceMul, Nat.reduceSub, Nat.zero_add, Nat.add_zero] at h) <;> omega) (fun h => by exfalso; (try simp (disch := omega) only [Int32.le_iff_toInt_le, Int32.lt_iff_toInt_lt, z_eq, z_nI, z_0, z_m1, z_sub, z_1, z_2, z_3, z_4, z_5, z_6, z_7, z_8, nI_add, nI_mulN, pk_sub, nI_clamp, Nat.reduceAdd, Nat.reduceMul, Nat.reduceSub, Nat.zero_add, Nat.add_zero] at h) <;> omega) (fun h => by exfalso; (try simp (disch := omega) only [Int32.le_iff_toInt_le, Int32.lt_iff_toInt_lt, z_eq, z_nI, z_0, z_m1, z_sub, z_1, z_2, z_3, z_4, z_5, z_6, z_7, z_8, nI_add, nI_mulN, pk_sub, nI_clamp, Nat.reduceAdd, Nat.reduceMul, Nat.reduceSub, Nat.zero_add, Nat.add_zero] at h) <;> omega) (fun h => by exfalso; (try simp (disch := omega) only [Int32.le_iff_toInt_le, Int32.lt_iff_toInt_lt, z_eq, z_nI, z_0, z_m1, z_sub, z_1, z_2, z_3, z_4, z_5, z_6, z_7, z_8, nI_add, nI_mulN, pk_sub, nI_clamp, Nat.reduceAdd, Nat.reduceMul, Nat.reduceSub, Nat.zero_add, Nat.add_zero] at h) <;> omega) (fun _ => K) (fun h => by exfalso; (try simp (disch := omega) only [Int32.le_iff_toInt_le, Int32.lt_iff_toInt_lt, z_eq, z_nI, z_0, z_m1, z_sub, z_1, z_2, z_3, z_4, z_5, z_6, z_7, z_8, nI_add, nI_mulN, pk_sub, nI_clamp, Nat.reduceAdd, Nat.reduceMul, Nat.reduceSub, Nat.zero_add, Nat.add_zero] at h) <;> omega) (fun h => by exfalso; (try simp (disch := omega) only [Int32.le_iff_toInt_le, Int32.lt_iff_toInt_lt, z_eq, z_nI, z_0, z_m1, z_sub, z_1, z_2, z_3, z_4, z_5, z_6, z_7, z_8, nI_add, nI_mulN, pk_sub, nI_clamp, Nat.reduceAdd, Nat.reduceMul, Nat.reduceSub, Nat.zero_add, Nat.add_zero] at h) <;> omega) (fun h => by exfalso; (try simp (disch := omega) only [Int32.le_iff_toInt_le, Int32.lt_iff_toInt_lt, z_eq, z_nI, z_0, z_m1, z_sub, z_1, z_2, z_3, z_4, z_5, z_6, z_7, z_8, nI_add, nI_mulN, pk_sub, nI_clamp, Nat.reduceAdd, Nat.reduceMul, Nat.reduceSub, Nat.zero_add, Nat.add_zero] at h) <;> omega) (fun h => by exfalso; (try simp (disch := omega) only [Int32.le_iff_toInt_le, Int32.lt_iff_toInt_lt, z_eq, z_nI, z_0, z_m1, z_sub, z_1, z_2, z_3, z_4, z_5, z_6, z_7, z_8, nI_add, nI_mulN, pk_sub, nI_clamp, Nat.reduceAdd, Nat.reduceMul, Nat.reduceSub, Nat.zero_add, Nat.add_zero] at h) <;> omega)) ?_
  refine Rq.s (fun _ => b160_76 (by (try simp (disch := omega) only [nI_add, nI_mulN, pk_sub, nI_clamp, Nat.reduceAdd, Nat.reduceMul, Nat.reduceSub, Nat.zero_add, Nat.add_zero]); exact hC4)) ?_
  refine Rq.e (b160_82) ?_
  exact ⟨rfl, eqW.rf⟩
theorem m160_6 {sc : Nat × (Nat → Int32)} {d : Nat} {D : Nat → Nat → Int32} {G : Nat → Nat → Int64} {t : ST} (I : InvM D t) (hs : SV t) : Cq sc (d + 6) 160 [.ref 79, .int (nI 6)] D G (Qw (zct t 6) D) := by
  have hv := hs.1
  have R := I.1
  have s98 := (rM I.1).1
  have s99 := (rM I.1).2.1
  have s4 := I.2.1
  obtain ⟨_, D4, hC4, rfl, e4⟩ := m124 (sc := sc) (d := d + 2) (G := G) (j := 0) R hv (by omega)
  refine Cq.c (fun _ _ _ => c160) ?_
  refine Rq.s (fun _ K => b160_0 (fun h => by exfalso; (try simp (disch := omega) only [Int32.le_iff_toInt_le, Int32.lt_iff_toInt_lt, z_eq, z_nI, z_0, z_m1, z_sub, z_1, z_2, z_3, z_4, z_5, z_6, z_7, z_8, nI_add, nI_mulN, pk_sub, nI_clamp, Nat.reduceAdd, Nat.reduceMul, Nat.reduceSub, Nat.zero_add, Nat.add_zero] at h) <;> omega) (fun h => by exfalso; (try simp (disch := omega) only [Int32.le_iff_toInt_le, Int32.lt_iff_toInt_lt, z_eq, z_nI, z_0, z_m1, z_sub, z_1, z_2, z_3, z_4, z_5, z_6, z_7, z_8, nI_add, nI_mulN, pk_sub, nI_clamp, Nat.reduceAdd, Nat.reduceMul, Nat.reduceSub, Nat.zero_add, Nat.add_zero] at h) <;> omega) (fun h => by exfalso; (try simp (disch := omega) only [Int32.le_iff_toInt_le, Int32.lt_iff_toInt_lt, z_eq, z_nI, z_0, z_m1, z_sub, z_1, z_2, z_3, z_4, z_5, z_6, z_7, z_8, nI_add, nI_mulN, pk_sub, nI_clamp, Nat.reduceAdd, Nat.reduceMul, Nat.reduceSub, Nat.zero_add, Nat.add_zero] at h) <;> omega) (fun h => by exfalso; (try simp (disch := omega) only [Int32.le_iff_toInt_le, Int32.lt_iff_toInt_lt, z_eq, z_nI, z_0, z_m1, z_sub, z_1, z_2, z_3, z_4, z_5, z_6, z_7, z_8, nI_add, nI_mulN, pk_sub, nI_clamp, Nat.reduceAdd, Nat.reduceMul, Nat.reduceSub, Nat.zero_add, Nat.add_zero] at h) <;> omega) (fun h => by exfalso; (try simp (disch := omega) only [Int32.le_iff_toInt_le, Int32.lt_iff_toInt_lt, z_eq, z_nI, z_0, z_m1, z_sub, z_1, z_2, z_3, z_4, z_5, z_6, z_7, z_8, nI_add, nI_mulN, pk_sub, nI_clamp, Nat.reduceAdd, Nat.reduceMul, Nat.reduceSub, Nat.zero_add, Nat.add_zero] at h) <;> omega) (fun h => by exfalso; (try simp (disch := omega) only [Int32.le_iff_toInt_le, Int32.lt_iff_toInt_lt, z_eq, z_nI, z_0, z_m1, z_sub, z_1, z_2, z_3, z_4, z_5, z_6, z_7, z_8, nI_add, nI_mulN, pk_sub, nI_clamp, Nat.reduceAdd, Nat.reduceMul, Nat.reduceSub, Nat.zero_add, Nat.add_zero] at h) <;> omega) (fun _ => K) (fun h => by exfalso; (try simp (disch := omega) only [Int32.le_iff_toInt_le, Int32.lt_iff_toInt_lt, z_eq, z_nI, z_0, z_m1, z_sub, z_1, z_2, z_3, z_4, z_5, z_6, z_7, z_8, nI_add, nI_mulN, pk_sub, nI_clamp, Nat.reduceAdd, Nat.reduceMul, Nat.reduceSub, Nat.zero_add, Nat.add_zero] at h) <;> omega) (fun h => by exfalso; (try simp (disch := omega) only [Int32.le_iff_toInt_le, Int32.lt_iff_toInt_lt, z_eq, z_nI, z_0, z_m1, z_sub, z_1, z_2, z_3, z_4, z_5, z_6, z_7, z_8, nI_add, nI_mulN, pk_sub, nI_clamp, Nat.reduceAdd, Nat.reduceMul, Nat.reduceSub, Nat.zero_add, Nat.add_zero] at h) <;> omega) (fun h => by exfalso; (try simp (disch := omega) only [Int32.le_iff_toInt_le, Int32.lt_iff_toInt_lt, z_eq, z_nI, z_0, z_m1, z_sub, z_1, z_2, z_3, z_4, z_5, z_6, z_7, z_8, nI_add, nI_mulN, pk_sub, nI_clamp, Nat.reduceAdd, Nat.reduceMul, Nat.reduceSub, Nat.zero_add, Nat.add_zero] at h) <;> omega)) ?_
  refine Rq.s (fun _ => b160_83 (by (try simp (disch := omega) only [nI_add, nI_mulN, pk_sub, nI_clamp, Nat.reduceAdd, Nat.reduceMul, Nat.reduceSub, Nat.zero_add, Nat.add_zero]); exact hC4)) ?_
  refine Rq.e (b160_91) ?_
  exact ⟨rfl, eqW.L e4⟩
theorem m160_7 {sc : Nat × (Nat → Int32)} {d : Nat} {D : Nat → Nat → Int32} {G : Nat → Nat → Int64} {t : ST} (I : InvM D t) (hs : SV t) : Cq sc (d + 6) 160 [.ref 79, .int (nI 7)] D G (Qw (zct t 7) D) := by
  have hv := hs.1
  have R := I.1
  have s98 := (rM I.1).1
  have s99 := (rM I.1).2.1
  have s4 := I.2.1
  obtain ⟨_, D4, hC4, rfl, e4⟩ := m124 (sc := sc) (d := d + 2) (G := G) (j := 1) R hv (by omega)
  refine Cq.c (fun _ _ _ => c160) ?_
  refine Rq.s (fun _ K => b160_0 (fun h => by exfalso; (try simp (disch := omega) only [Int32.le_iff_toInt_le, Int32.lt_iff_toInt_lt, z_eq, z_nI, z_0, z_m1, z_sub, z_1, z_2, z_3, z_4, z_5, z_6, z_7, z_8, nI_add, nI_mulN, pk_sub, nI_clamp, Nat.reduceAdd, Nat.reduceMul, Nat.reduceSub, Nat.zero_add, Nat.add_zero] at h) <;> omega) (fun h => by exfalso; (try simp (disch := omega) only [Int32.le_iff_toInt_le, Int32.lt_iff_toInt_lt, z_eq, z_nI, z_0, z_m1, z_sub, z_1, z_2, z_3, z_4, z_5, z_6, z_7, z_8, nI_add, nI_mulN, pk_sub, nI_clamp, Nat.reduceAdd, Nat.reduceMul, Nat.reduceSub, Nat.zero_add, Nat.add_zero] at h) <;> omega) (fun h => by exfalso; (try simp (disch := omega) only [Int32.le_iff_toInt_le, Int32.lt_iff_toInt_lt, z_eq, z_nI, z_0, z_m1, z_sub, z_1, z_2, z_3, z_4, z_5, z_6, z_7, z_8, nI_add, nI_mulN, pk_sub, nI_clamp, Nat.reduceAdd, Nat.reduceMul, Nat.reduceSub, Nat.zero_add, Nat.add_zero] at h) <;> omega) (fun h => by exfalso; (try simp (disch := omega) only [Int32.le_iff_toInt_le, Int32.lt_iff_toInt_lt, z_eq, z_nI, z_0, z_m1, z_sub, z_1, z_2, z_3, z_4, z_5, z_6, z_7, z_8, nI_add, nI_mulN, pk_sub, nI_clamp, Nat.reduceAdd, Nat.reduceMul, Nat.reduceSub, Nat.zero_add, Nat.add_zero] at h) <;> omega) (fun h => by exfalso; (try simp (disch := omega) only [Int32.le_iff_toInt_le, Int32.lt_iff_toInt_lt, z_eq, z_nI, z_0, z_m1, z_sub, z_1, z_2, z_3, z_4, z_5, z_6, z_7, z_8, nI_add, nI_mulN, pk_sub, nI_clamp, Nat.reduceAdd, Nat.reduceMul, Nat.reduceSub, Nat.zero_add, Nat.add_zero] at h) <;> omega) (fun h => by exfalso; (try simp (disch := omega) only [Int32.le_iff_toInt_le, Int32.lt_iff_toInt_lt, z_eq, z_nI, z_0, z_m1, z_sub, z_1, z_2, z_3, z_4, z_5, z_6, z_7, z_8, nI_add, nI_mulN, pk_sub, nI_clamp, Nat.reduceAdd, Nat.reduceMul, Nat.reduceSub, Nat.zero_add, Nat.add_zero] at h) <;> omega) (fun h => by exfalso; (try simp (disch := omega) only [Int32.le_iff_toInt_le, Int32.lt_iff_toInt_lt, z_eq, z_nI, z_0, z_m1, z_sub, z_1, z_2, z_3, z_4, z_5, z_6, z_7, z_8, nI_add, nI_mulN, pk_sub, nI_clamp, Nat.reduceAdd, Nat.reduceMul, Nat.reduceSub, Nat.zero_add, Nat.add_zero] at h) <;> omega) (fun _ => K) (fun h => by exfalso; (try simp (disch := omega) only [Int32.le_iff_toInt_le, Int32.lt_iff_toInt_lt, z_eq, z_nI, z_0, z_m1, z_sub, z_1, z_2, z_3, z_4, z_5, z_6, z_7, z_8, nI_add, nI_mulN, pk_sub, nI_clamp, Nat.reduceAdd, Nat.reduceMul, Nat.reduceSub, Nat.zero_add, Nat.add_zero] at h) <;> omega) (fun h => by exfalso; (try simp (disch := omega) only [Int32.le_iff_toInt_le, Int32.lt_iff_toInt_lt, z_eq, z_nI, z_0, z_m1, z_sub, z_1, z_2, z_3, z_4, z_5, z_6, z_7, z_8, nI_add, nI_mulN, pk_sub, nI_clamp, Nat.reduceAdd, Nat.reduceMul, Nat.reduceSub, Nat.zero_add, Nat.add_zero] at h) <;> omega)) ?_
  refine Rq.s (fun _ => b160_83 (by (try simp (disch := omega) only [nI_add, nI_mulN, pk_sub, nI_clamp, Nat.reduceAdd, Nat.reduceMul, Nat.reduceSub, Nat.zero_add, Nat.add_zero]); exact hC4)) ?_
  refine Rq.e (b160_91) ?_
  exact ⟨rfl, eqW.L e4⟩
theorem m160_8 {sc : Nat × (Nat → Int32)} {d : Nat} {D : Nat → Nat → Int32} {G : Nat → Nat → Int64} {t : ST} (I : InvM D t) (hs : SV t) : Cq sc (d + 6) 160 [.ref 79, .int (nI 8)] D G (Qw (zct t 8) D) := by
  have hv := hs.1
  have R := I.1
  have s98 := (rM I.1).1
  have s99 := (rM I.1).2.1
  have s4 := I.2.1
  refine Cq.c (fun _ _ _ => c160) ?_
  refine Rq.s (fun _ K => b160_0 (fun h => by exfalso; (try simp (disch := omega) only [Int32.le_iff_toInt_le, Int32.lt_iff_toInt_lt, z_eq, z_nI, z_0, z_m1, z_sub, z_1, z_2, z_3, z_4, z_5, z_6, z_7, z_8, nI_add, nI_mulN, pk_sub, nI_clamp, Nat.reduceAdd, Nat.reduceMul, Nat.reduceSub, Nat.zero_add, Nat.add_zero, s99] at h) <;> omega) (fun h => by exfalso; (try simp (disch := omega) only [Int32.le_iff_toInt_le, Int32.lt_iff_toInt_lt, z_eq, z_nI, z_0, z_m1, z_sub, z_1, z_2, z_3, z_4, z_5, z_6, z_7, z_8, nI_add, nI_mulN, pk_sub, nI_clamp, Nat.reduceAdd, Nat.reduceMul, Nat.reduceSub, Nat.zero_add, Nat.add_zero, s99] at h) <;> omega) (fun h => by exfalso; (try simp (disch := omega) only [Int32.le_iff_toInt_le, Int32.lt_iff_toInt_lt, z_eq, z_nI, z_0, z_m1, z_sub, z_1, z_2, z_3, z_4, z_5, z_6, z_7, z_8, nI_add, nI_mulN, pk_sub, nI_clamp, Nat.reduceAdd, Nat.reduceMul, Nat.reduceSub, Nat.zero_add, Nat.add_zero, s99] at h) <;> omega) (fun h => by exfalso; (try simp (disch := omega) only [Int32.le_iff_toInt_le, Int32.lt_iff_toInt_lt, z_eq, z_nI, z_0, z_m1, z_sub, z_1, z_2, z_3, z_4, z_5, z_6, z_7, z_8, nI_add, nI_mulN, pk_sub, nI_clamp, Nat.reduceAdd, Nat.reduceMul, Nat.reduceSub, Nat.zero_add, Nat.add_zero, s99] at h) <;> omega) (fun h => by exfalso; (try simp (disch := omega) only [Int32.le_iff_toInt_le, Int32.lt_iff_toInt_lt, z_eq, z_nI, z_0, z_m1, z_sub, z_1, z_2, z_3, z_4, z_5, z_6, z_7, z_8, nI_add, nI_mulN, pk_sub, nI_clamp, Nat.reduceAdd, Nat.reduceMul, Nat.reduceSub, Nat.zero_add, Nat.add_zero, s99] at h) <;> omega) (fun h => by exfalso; (try simp (disch := omega) only [Int32.le_iff_toInt_le, Int32.lt_iff_toInt_lt, z_eq, z_nI, z_0, z_m1, z_sub, z_1, z_2, z_3, z_4, z_5, z_6, z_7, z_8, nI_add, nI_mulN, pk_sub, nI_clamp, Nat.reduceAdd, Nat.reduceMul, Nat.reduceSub, Nat.zero_add, Nat.add_zero, s99] at h) <;> omega) (fun h => by exfalso; (try simp (disch := omega) only [Int32.le_iff_toInt_le, Int32.lt_iff_toInt_lt, z_eq, z_nI, z_0, z_m1, z_sub, z_1, z_2, z_3, z_4, z_5, z_6, z_7, z_8, nI_add, nI_mulN, pk_sub, nI_clamp, Nat.reduceAdd, Nat.reduceMul, Nat.reduceSub, Nat.zero_add, Nat.add_zero, s99] at h) <;> omega) (fun h => by exfalso; (try simp (disch := omega) only [Int32.le_iff_toInt_le, Int32.lt_iff_toInt_lt, z_eq, z_nI, z_0, z_m1, z_sub, z_1, z_2, z_3, z_4, z_5, z_6, z_7, z_8, nI_add, nI_mulN, pk_sub, nI_clamp, Nat.reduceAdd, Nat.reduceMul, Nat.reduceSub, Nat.zero_add, Nat.add_zero, s99] at h) <;> omega) (fun _ => K) (fun h => by exfalso; (try simp (disch := omega) only [Int32.le_iff_toInt_le, Int32.lt_iff_toInt_lt, z_eq, z_nI, z_0, z_m1, z_sub, z_1, z_2, z_3, z_4, z_5, z_6, z_7, z_8, nI_add, nI_mulN, pk_sub, nI_clamp, Nat.reduceAdd, Nat.reduceMul, Nat.reduceSub, Nat.zero_add, Nat.add_zero, s99] at h) <;> omega)) ?_
  refine Rq.e (b160_92 (by (try simp (disch := omega) only [nI_add, nI_mulN, pk_sub, nI_clamp, Nat.reduceAdd, Nat.reduceMul, Nat.reduceSub, Nat.zero_add, Nat.add_zero, s99]); exact nI_inbT (by omega) (by omega))) ?_
  try simp (disch := omega) only [nI_add, nI_mulN, pk_sub, nI_clamp, Nat.reduceAdd, Nat.reduceMul, Nat.reduceSub, Nat.zero_add, Nat.add_zero, s99]
  exact ⟨rfl, eqW.rf⟩
theorem m160_9 {sc : Nat × (Nat → Int32)} {d : Nat} {D : Nat → Nat → Int32} {G : Nat → Nat → Int64} {t : ST} (I : InvM D t) (hs : SV t) : Cq sc (d + 6) 160 [.ref 79, .int (nI 9)] D G (Qw (zct t 9) D) := by
  have hv := hs.1
  have R := I.1
  have s98 := (rM I.1).1
  have s99 := (rM I.1).2.1
  have s4 := I.2.1
  refine Cq.c (fun _ _ _ => c160) ?_
  refine Rq.s (fun _ K => b160_0 (fun h => by exfalso; (try simp (disch := omega) only [Int32.le_iff_toInt_le, Int32.lt_iff_toInt_lt, z_eq, z_nI, z_0, z_m1, z_sub, z_1, z_2, z_3, z_4, z_5, z_6, z_7, z_8, nI_add, nI_mulN, pk_sub, nI_clamp, Nat.reduceAdd, Nat.reduceMul, Nat.reduceSub, Nat.zero_add, Nat.add_zero, s4] at h) <;> omega) (fun h => by exfalso; (try simp (disch := omega) only [Int32.le_iff_toInt_le, Int32.lt_iff_toInt_lt, z_eq, z_nI, z_0, z_m1, z_sub, z_1, z_2, z_3, z_4, z_5, z_6, z_7, z_8, nI_add, nI_mulN, pk_sub, nI_clamp, Nat.reduceAdd, Nat.reduceMul, Nat.reduceSub, Nat.zero_add, Nat.add_zero, s4] at h) <;> omega) (fun h => by exfalso; (try simp (disch := omega) only [Int32.le_iff_toInt_le, Int32.lt_iff_toInt_lt, z_eq, z_nI, z_0, z_m1, z_sub, z_1, z_2, z_3, z_4, z_5, z_6, z_7, z_8, nI_add, nI_mulN, pk_sub, nI_clamp, Nat.reduceAdd, Nat.reduceMul, Nat.reduceSub, Nat.zero_add, Nat.add_zero, s4] at h) <;> omega) (fun h => by exfalso; (try simp (disch := omega) only [Int32.le_iff_toInt_le, Int32.lt_iff_toInt_lt, z_eq, z_nI, z_0, z_m1, z_sub, z_1, z_2, z_3, z_4, z_5, z_6, z_7, z_8, nI_add, nI_mulN, pk_sub, nI_clamp, Nat.reduceAdd, Nat.reduceMul, Nat.reduceSub, Nat.zero_add, Nat.add_zero, s4] at h) <;> omega) (fun h => by exfalso; (try simp (disch := omega) only [Int32.le_iff_toInt_le, Int32.lt_iff_toInt_lt, z_eq, z_nI, z_0, z_m1, z_sub, z_1, z_2, z_3, z_4, z_5, z_6, z_7, z_8, nI_add, nI_mulN, pk_sub, nI_clamp, Nat.reduceAdd, Nat.reduceMul, Nat.reduceSub, Nat.zero_add, Nat.add_zero, s4] at h) <;> omega) (fun h => by exfalso; (try simp (disch := omega) only [Int32.le_iff_toInt_le, Int32.lt_iff_toInt_lt, z_eq, z_nI, z_0, z_m1, z_sub, z_1, z_2, z_3, z_4, z_5, z_6, z_7, z_8, nI_add, nI_mulN, pk_sub, nI_clamp, Nat.reduceAdd, Nat.reduceMul, Nat.reduceSub, Nat.zero_add, Nat.add_zero, s4] at h) <;> omega) (fun h => by exfalso; (try simp (disch := omega) only [Int32.le_iff_toInt_le, Int32.lt_iff_toInt_lt, z_eq, z_nI, z_0, z_m1, z_sub, z_1, z_2, z_3, z_4, z_5, z_6, z_7, z_8, nI_add, nI_mulN, pk_sub, nI_clamp, Nat.reduceAdd, Nat.reduceMul, Nat.reduceSub, Nat.zero_add, Nat.add_zero, s4] at h) <;> omega) (fun h => by exfalso; (try simp (disch := omega) only [Int32.le_iff_toInt_le, Int32.lt_iff_toInt_lt, z_eq, z_nI, z_0, z_m1, z_sub, z_1, z_2, z_3, z_4, z_5, z_6, z_7, z_8, nI_add, nI_mulN, pk_sub, nI_clamp, Nat.reduceAdd, Nat.reduceMul, Nat.reduceSub, Nat.zero_add, Nat.add_zero, s4] at h) <;> omega) (fun h => by exfalso; (try simp (disch := omega) only [Int32.le_iff_toInt_le, Int32.lt_iff_toInt_lt, z_eq, z_nI, z_0, z_m1, z_sub, z_1, z_2, z_3, z_4, z_5, z_6, z_7, z_8, nI_add, nI_mulN, pk_sub, nI_clamp, Nat.reduceAdd, Nat.reduceMul, Nat.reduceSub, Nat.zero_add, Nat.add_zero, s4] at h) <;> omega) (fun _ => K)) ?_
  refine Rq.e (b160_100) ?_
  try simp (disch := omega) only [nI_add, nI_mulN, pk_sub, nI_clamp, Nat.reduceAdd, Nat.reduceMul, Nat.reduceSub, Nat.zero_add, Nat.add_zero, s4]
  exact ⟨rfl, eqW.rf⟩
theorem m160 {sc : Nat × (Nat → Int32)} {d : Nat} {D : Nat → Nat → Int32} {G : Nat → Nat → Int64} {t : ST} {j : Nat} (I : InvM D t) (hs : SV t) (hj : j ≤ 9) : Cq sc (d + 6) 160 [.ref 79, .int (nI j)] D G (Qw (zct t j) D) := by
  rcases (by omega : j = 0 ∨ j = 1 ∨ j = 2 ∨ j = 3 ∨ j = 4 ∨ j = 5 ∨ j = 6 ∨ j = 7 ∨ j = 8 ∨ j = 9) with c | c | c | c | c | c | c | c | c | c <;> subst c
  · exact m160_0 I hs
  · exact m160_1 I hs
  · exact m160_2 I hs
  · exact m160_3 I hs
  · exact m160_4 I hs
  · exact m160_5 I hs
  · exact m160_6 I hs
  · exact m160_7 I hs
  · exact m160_8 I hs
  · exact m160_9 I hs
theorem rCount {sc : Nat × (Nat → Int32)} {d : Nat} {D : Nat → Nat → Int32} {G : Nat → Nat → Int64} {t : ST} {x : Int} (bx1 : -2147483648 ≤ x) (bx2 : x < 2147483648) (I : InvM D t) (hs : SV t) : Cq sc (d + 7) 161 [.ref 79, .int (iI x)] D G (OKm D (oCount t x)) := by
  have hv := hs.1
  have h7 := hv.1
  have R := I.1
  have R1 := (InvM_t (x := nI 0) hs I).1
  have s98 := (rM I.1).1
  have w98 := (rM R1).1
  refine Cq.c (fun _ _ _ => c161) ?_
  unfold oCount
  have h102 := m102 (sc := sc) (d := d + 6) (D := D) (G := G) (z_iI bx1 bx2) (z_nI (show 0 < 2 ^ 31 by omega)) (z_nI (show 9 < 2 ^ 31 by omega)) (P := 0 ≤ x ∧ x ≤ 9) (by omega)
  by_cases hx : 0 ≤ x ∧ x ≤ 9
  · rw [if_pos hx] at h102 ⊢
    obtain ⟨x, rfl⟩ := arg_nat hx.1
    simp only [← i_nI, Int.toNat_natCast] at h102 ⊢
    obtain ⟨_, D4, hC4, rfl, e4⟩ := m160 (sc := sc) (d := d) (G := G) (j := x) (InvM_t (x := nI 0) hs I) hs (by omega)
    refine Rq.s (fun _ => b161_0 (by (try simp (disch := omega) only [nI_add, nI_mulN, pk_sub, nI_clamp, Nat.reduceAdd, Nat.reduceMul, Nat.reduceSub, Nat.zero_add, Nat.add_zero]); exact h102)) ?_
    refine Rq.bf (fun _ => b161_8) (by decide) ?_
    refine Rq.s (fun _ => b161_11) ?_
    try simp (disch := omega) only [nI_add, nI_mulN, pk_sub, nI_clamp, Nat.reduceAdd, Nat.reduceMul, Nat.reduceSub, Nat.zero_add, Nat.add_zero]
    refine Rq.s (fun _ => b161_16 (by (try simp (disch := omega) only [nI_add, nI_mulN, pk_sub, nI_clamp, Nat.reduceAdd, Nat.reduceMul, Nat.reduceSub, Nat.zero_add, Nat.add_zero]); exact t103_0)) ?_
    refine Rq.bf (fun _ => b161_19) (by decide) ?_
    refine Rq.s (fun _ => b161_22 (by (try simp (disch := omega) only [nI_add, nI_mulN, pk_sub, nI_clamp, Nat.reduceAdd, Nat.reduceMul, Nat.reduceSub, Nat.zero_add, Nat.add_zero]); exact hC4)) ?_
    refine Rq.s (fun _ => b161_27) ?_
    refine Rq.e (b161_31b) ?_
    exact OKm.w hs I rfl e4
  · rw [if_neg hx] at h102 ⊢
    refine Rq.s (fun _ => b161_0 (by (try simp (disch := omega) only [nI_add, nI_mulN, pk_sub, nI_clamp, Nat.reduceAdd, Nat.reduceMul, Nat.reduceSub, Nat.zero_add, Nat.add_zero]); exact h102)) ?_
    refine Rq.bt (fun _ => b161_8) (rfl) ?_
    refine Rq.s (fun _ => b161_15) ?_
    try simp (disch := omega) only [nI_add, nI_mulN, pk_sub, nI_clamp, Nat.reduceAdd, Nat.reduceMul, Nat.reduceSub, Nat.zero_add, Nat.add_zero]
    refine Rq.s (fun _ => b161_16 (by (try simp (disch := omega) only [nI_add, nI_mulN, pk_sub, nI_clamp, Nat.reduceAdd, Nat.reduceMul, Nat.reduceSub, Nat.zero_add, Nat.add_zero]); exact t103_k (k := 1) (by omega) (by omega))) ?_
    refine Rq.bt (fun _ => b161_19) (rfl) ?_
    refine Rq.s (fun _ => b161_30) ?_
    try simp (disch := omega) only [nI_add, nI_mulN, pk_sub, nI_clamp, Nat.reduceAdd, Nat.reduceMul, Nat.reduceSub, Nat.zero_add, Nat.add_zero]
    refine Rq.e (b161_31) ?_
    exact OKm.x (k := 1) hs I rfl
