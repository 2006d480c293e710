/-! ===== the reference: its state, and what it tells ===== -/
def zk2 (K : Nat → Option ZV) : Nat := (if (K 0).isSome = true then 1 else 0) + 2 * (if (K 1).isSome = true then 1 else 0)
def InvM (D : Nat → Nat → Int32) (t : ST) : Prop := RepM D 80 0 (tV t) ∧ D 79 4 = nI (tS t).length ∧ (∀ j X, hx_nth (tS t) j = some X → RepM D 82 (102 * j) X) ∧ D 79 6 = nI (zk2 (tK t)) ∧ (∀ k X, k < 2 → tK t k = some X → RepM D 83 (102 * k) X) ∧ D 79 8 = nI (tn t) ∧ ∀ i, i < tn t → D 84 i = nI (tb t i)
/-- the class's cells are as they were -/
def eqC (D D2 : Nat → Nat → Int32) : Prop := ∀ a, a ≤ 78 → D2 a = D a
/-- the reference's call ends as told -/
def OKm (D : Nat → Nat → Int32) (u : OUT) : hx_RS → (Nat → Nat → Int32) → Prop := fun r D2 => r = .inl (some (.int u.2.1)) ∧ D2 79 0 = nI u.1 ∧ InvM D2 u.2.2 ∧ eqC D D2
theorem hx_nth_mem {α : Type} {l : List α} {j : Nat} {x : α} (h : hx_nth l j = some x) : x ∈ l := by
  rw [hx_nth_eq] at h
  exact List.mem_of_getElem? h
theorem InvM_w {D D2 : Nat → Nat → Int32} {t : ST} (hs : SV t) (I : InvM D t) (e1 : ∀ a, a = 82 ∨ a = 83 ∨ a = 84 → D2 a = D a) (e2 : ∀ i, i < 102 → D2 80 i = D 80 i) (e3 : ∀ j, j = 4 ∨ j = 6 ∨ j = 8 → D2 79 j = D 79 j) : InvM D2 t := by
  obtain ⟨i1, i2, i3, i4, i5, i6, i7⟩ := I
  exact ⟨RepM_k hs.1 (fun i hi => by rw [Nat.zero_add]; exact e2 i hi) i1, by rw [e3 4 (by omega)]; exact i2, fun j X h => RepM_k (hs.2.2.1 X (hx_nth_mem h)) (fun i _ => by rw [e1 82 (by omega)]) (i3 j X h), by rw [e3 6 (by omega)]; exact i4, fun k X h1 h2 => RepM_k (hs.2.2.2.1 k X h2) (fun i _ => by rw [e1 83 (by omega)]) (i5 k X h1 h2), by rw [e3 8 (by omega)]; exact i6, fun i hi => by rw [e1 84 (by omega)]; exact i7 i hi⟩
theorem InvM_t {D : Nat → Nat → Int32} {t : ST} {x : Int32} (hs : SV t) (I : InvM D t) : InvM (hx_up D 79 0 x) t := InvM_w hs I (fun a ha => hx_up_ne (by omega)) (fun i _ => by rw [hx_up_ne (by omega)]) (fun j hj => hx_up_in _ _ _ (by omega))
theorem OKm.x {D : Nat → Nat → Int32} {u : OUT} {t : ST} {k : Nat} (hs : SV t) (I : InvM D t) (h : u = (k, 0, t)) : OKm D u (.inl (some (.int (nI 0)))) (hx_up D 79 0 (nI k)) := by
  subst h
  exact ⟨rfl, hx_up_s _ _ _ _, InvM_t hs I, fun a ha => hx_up_ne (by omega)⟩
theorem OKm.w {D D2 : Nat → Nat → Int32} {u : OUT} {t : ST} {v : Int32} (hs : SV t) (I : InvM D t) (h : u = (0, v, t)) (e : eqW (hx_up D 79 0 (nI 0)) D2) : OKm D u (.inl (some (.int v))) D2 := by
  subst h
  refine ⟨rfl, by rw [e.2.2 0 (by omega)]; exact hx_up_s _ _ _ _, InvM_w hs (InvM_t hs I) (fun a ha => e.1 a (by omega)) e.2.1 (fun j hj => e.2.2 j (by omega)), fun a ha => by rw [e.1 a (by omega)]; exact hx_up_ne (by omega)⟩
theorem OKm.v {D D2 : Nat → Nat → Int32} {u : OUT} {t : ST} {v : Int32} (h : u = (0, v, t)) (h0 : D2 79 0 = nI 0) (I : InvM D2 t) (e : eqC D D2) : OKm D u (.inl (some (.int v))) D2 := by
  subst h
  exact ⟨rfl, h0, I, e⟩
theorem t103_0 {sc : Nat × (Nat → Int32)} {d : Nat} {D : Nat → Nat → Int32} {G : Nat → Nat → Int64} : Cl sc d 103 [.ref 79, .int (nI 0)] (hx_S0, D, G) (.inl (some (.int (nI 1)))) (hx_S0, hx_up D 79 0 (nI 0), G) := by
  obtain ⟨r, D2, h, rfl, rfl⟩ := m103 (sc := sc) (d := d) (D := D) (G := G) (k := 0) (by omega)
  exact h
theorem t103_k {sc : Nat × (Nat → Int32)} {d : Nat} {D : Nat → Nat → Int32} {G : Nat → Nat → Int64} {k : Nat} (h1 : 1 ≤ k) (h2 : k < 100) : Cl sc d 103 [.ref 79, .int (nI k)] (hx_S0, D, G) (.inl (some (.int (nI 0)))) (hx_S0, hx_up D 79 0 (nI k), G) := by
  obtain ⟨r, D2, h, rfl, rfl⟩ := m103 (sc := sc) (d := d) (D := D) (G := G) (k := k) h2
  rw [if_neg (by omega)] at h
  exact h
theorem rPieceOf {sc : Nat × (Nat → Int32)} {d : Nat} {D : Nat → Nat → Int32} {G : Nat → Nat → Int64} {t : ST} {p : Int} {x : Int} (bp1 : -2147483648 ≤ p) (bp2 : p < 2147483648) (bx1 : -2147483648 ≤ x) (bx2 : x < 2147483648) (I : InvM D t) (hs : SV t) : Cq sc (d + 4) 153 [.ref 79, .int (iI p), .int (iI x)] D G (OKm D (oPieceOf t p x)) := by
  have hv := hs.1
  have h7 := hv.1
  have R := I.1
  have R1 := (InvM_t (x := nI 0) hs I).1
  have s98 := (rM I.1).1
  have w98 := (rM R1).1
  refine Cq.c (fun _ _ _ => c153) ?_
  unfold oPieceOf
  have h104 := m104 (sc := sc) (d := d + 2) (G := G) s98 (by omega) bp1 bp2
  by_cases hp : 0 ≤ p ∧ p < (zn (tV t) : Int)
  · rw [if_pos hp] at h104 ⊢
    have h102 := m102 (sc := sc) (d := d + 3) (D := D) (G := G) (z_iI bx1 bx2) (z_nI (show 0 < 2 ^ 31 by omega)) (z_nI (show 13 < 2 ^ 31 by omega)) (P := 0 ≤ x ∧ x ≤ 13) (by omega)
    obtain ⟨p, rfl⟩ := arg_nat hp.1
    by_cases hx : 0 ≤ x ∧ x ≤ 13
    · rw [if_pos hx] at h102 ⊢
      obtain ⟨x, rfl⟩ := arg_nat hx.1
      simp only [← i_nI, Int.toNat_natCast] at h104 h102 ⊢
      refine Rq.s (fun _ => b153_0 (by (try simp (disch := omega) only [nI_add, nI_mulN, pk_sub, nI_clamp, Nat.reduceAdd, Nat.reduceMul, Nat.reduceSub, Nat.zero_add, Nat.add_zero]); exact h104)) ?_
      refine Rq.bt (fun _ => b153_6) (by decide) ?_
      refine Rq.s (fun _ => b153_13 (by (try simp (disch := omega) only [nI_add, nI_mulN, pk_sub, nI_clamp, Nat.reduceAdd, Nat.reduceMul, Nat.reduceSub, Nat.zero_add, Nat.add_zero]); exact h102)) ?_
      refine Rq.bf (fun _ => b153_20) (by decide) ?_
      refine Rq.s (fun _ => b153_23) ?_
      try simp (disch := omega) only [nI_add, nI_mulN, pk_sub, nI_clamp, Nat.reduceAdd, Nat.reduceMul, Nat.reduceSub, Nat.zero_add, Nat.add_zero]
      refine Rq.s (fun _ => b153_28 (by (try simp (disch := omega) only [nI_add, nI_mulN, pk_sub, nI_clamp, Nat.reduceAdd, Nat.reduceMul, Nat.reduceSub, Nat.zero_add, Nat.add_zero]); exact t103_0)) ?_
      refine Rq.bf (fun _ => b153_31) (by decide) ?_
      refine Rq.s (fun _ => b153_34 (by (try simp (disch := omega) only [nI_add, nI_mulN, pk_sub, nI_clamp, Nat.reduceAdd, Nat.reduceMul, Nat.reduceSub, Nat.zero_add, Nat.add_zero]); exact m152 (d := d) R1 hv (by omega) (by omega))) ?_
      refine Rq.s (fun _ => b153_40) ?_
      refine Rq.e (b153_44b) ?_
      exact OKm.w hs I rfl eqW.rf
    · rw [if_neg hx] at h102 ⊢
      simp only [← i_nI, Int.toNat_natCast] at h104 ⊢
      refine Rq.s (fun _ => b153_0 (by (try simp (disch := omega) only [nI_add, nI_mulN, pk_sub, nI_clamp, Nat.reduceAdd, Nat.reduceMul, Nat.reduceSub, Nat.zero_add, Nat.add_zero]); exact h104)) ?_
      refine Rq.bt (fun _ => b153_6) (by decide) ?_
      refine Rq.s (fun _ => b153_13 (by (try simp (disch := omega) only [nI_add, nI_mulN, pk_sub, nI_clamp, Nat.reduceAdd, Nat.reduceMul, Nat.reduceSub, Nat.zero_add, Nat.add_zero]); exact h102)) ?_
      refine Rq.bt (fun _ => b153_20) (rfl) ?_
      refine Rq.s (fun _ => b153_27) ?_
      try simp (disch := omega) only [nI_add, nI_mulN, pk_sub, nI_clamp, Nat.reduceAdd, Nat.reduceMul, Nat.reduceSub, Nat.zero_add, Nat.add_zero]
      refine Rq.s (fun _ => b153_28 (by (try simp (disch := omega) only [nI_add, nI_mulN, pk_sub, nI_clamp, Nat.reduceAdd, Nat.reduceMul, Nat.reduceSub, Nat.zero_add, Nat.add_zero]); exact t103_k (k := 2) (by omega) (by omega))) ?_
      refine Rq.bt (fun _ => b153_31) (rfl) ?_
      refine Rq.s (fun _ => b153_43) ?_
      try simp (disch := omega) only [nI_add, nI_mulN, pk_sub, nI_clamp, Nat.reduceAdd, Nat.reduceMul, Nat.reduceSub, Nat.zero_add, Nat.add_zero]
      refine Rq.e (b153_44) ?_
      exact OKm.x (k := 2) hs I rfl
  · rw [if_neg hp] at h104 ⊢
    refine Rq.s (fun _ => b153_0 (by (try simp (disch := omega) only [nI_add, nI_mulN, pk_sub, nI_clamp, Nat.reduceAdd, Nat.reduceMul, Nat.reduceSub, Nat.zero_add, Nat.add_zero]); exact h104)) ?_
    refine Rq.bf (fun _ => b153_6) (fun z => z rfl) ?_
    refine Rq.s (fun _ => b153_9) ?_
    try simp (disch := omega) only [nI_add, nI_mulN, pk_sub, nI_clamp, Nat.reduceAdd, Nat.reduceMul, Nat.reduceSub, Nat.zero_add, Nat.add_zero]
    refine Rq.s (fun _ => b153_28 (by (try simp (disch := omega) only [nI_add, nI_mulN, pk_sub, nI_clamp, Nat.reduceAdd, Nat.reduceMul, Nat.reduceSub, Nat.zero_add, Nat.add_zero]); exact t103_k (k := 1) (by omega) (by omega))) ?_
    refine Rq.bt (fun _ => b153_31) (rfl) ?_
    refine Rq.s (fun _ => b153_43) ?_
    try simp (disch := omega) only [nI_add, nI_mulN, pk_sub, nI_clamp, Nat.reduceAdd, Nat.reduceMul, Nat.reduceSub, Nat.zero_add, Nat.add_zero]
    refine Rq.e (b153_44) ?_
    exact OKm.x (k := 1) hs I rfl
