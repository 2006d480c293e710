/-! ===== the reference: fibre, set, move, order, append, clearBuffer, keep, goBack, undo ===== -/
theorem rFibre {sc : Nat × (Nat → Int32)} {d : Nat} {D : Nat → Nat → Int32} {G : Nat → Nat → Int64} {t : ST} {p : Int} {s : Int} {h : Int} (bp1 : -2147483648 ≤ p) (bp2 : p < 2147483648) (bs1 : -2147483648 ≤ s) (bs2 : s < 2147483648) (bh1 : -2147483648 ≤ h) (bh2 : h < 2147483648) (I : InvM D t) (hs : SV t) : Cq sc (d + 2) 129 [.ref 79, .int (iI p), .int (iI s), .int (iI h)] D G (OKm D (oFibre t p s h)) := by
  have hv := hs.1
  have h7 := hv.1
  have R := I.1
  have R1 := (InvM_t (x := nI 0) hs I).1
  have s98 := (rM I.1).1
  have w98 := (rM R1).1
  have L : ∀ Q, Rq sc (d + 2) 129 (24, [some (.ref 79), some (.int (iI p)), some (.int (iI s)), some (.int (iI h)), none], [.int (nI (if (0 ≤ s ∧ s ≤ 1) ∧ 0 ≤ h ∧ h ≤ 9 then 1 else 0))], (hx_S0, D, G), 0) G Q → Rq sc (d + 2) 129 (0, [some (.ref 79), some (.int (iI p)), some (.int (iI s)), some (.int (iI h)), none], [], (hx_S0, D, G), 0) G Q := by
    intro Q K
    have ha1 := m102 (sc := sc) (d := d + 1) (D := D) (G := G) (z_iI bs1 bs2) (z_nI (show 0 < 2 ^ 31 by omega)) (z_nI (show 1 < 2 ^ 31 by omega)) (P := 0 ≤ s ∧ s ≤ 1) (by omega)
    have ha2 := m102 (sc := sc) (d := d + 1) (D := D) (G := G) (z_iI bh1 bh2) (z_nI (show 0 < 2 ^ 31 by omega)) (z_nI (show 9 < 2 ^ 31 by omega)) (P := 0 ≤ h ∧ h ≤ 9) (by omega)
    by_cases c1 : 0 ≤ s ∧ s ≤ 1
    · rw [if_pos c1] at ha1
      by_cases c2 : 0 ≤ h ∧ h ≤ 9
      · rw [if_pos c2] at ha2
        rw [if_pos ⟨c1, c2⟩] at K
        refine Rq.s (fun _ => b129_0 (by (try simp (disch := omega) only [nI_add, nI_mulN, pk_sub, nI_clamp, Nat.reduceAdd, Nat.reduceMul, Nat.reduceSub, Nat.zero_add, Nat.add_zero]); exact ha1)) ?_
        refine Rq.bf (fun _ => b129_6) (by decide) ?_
        refine Rq.s (fun _ => b129_9 (by (try simp (disch := omega) only [nI_add, nI_mulN, pk_sub, nI_clamp, Nat.reduceAdd, Nat.reduceMul, Nat.reduceSub, Nat.zero_add, Nat.add_zero]); exact ha2)) ?_
        refine Rq.bf (fun _ => b129_16) (by decide) ?_
        refine Rq.s (fun _ => b129_19) ?_
        try simp (disch := omega) only [nI_add, nI_mulN, pk_sub, nI_clamp, Nat.reduceAdd, Nat.reduceMul, Nat.reduceSub, Nat.zero_add, Nat.add_zero]
        exact K
      · rw [if_neg c2] at ha2
        rw [if_neg (fun z => c2 z.2)] at K
        refine Rq.s (fun _ => b129_0 (by (try simp (disch := omega) only [nI_add, nI_mulN, pk_sub, nI_clamp, Nat.reduceAdd, Nat.reduceMul, Nat.reduceSub, Nat.zero_add, Nat.add_zero]); exact ha1)) ?_
        refine Rq.bf (fun _ => b129_6) (by decide) ?_
        refine Rq.s (fun _ => b129_9 (by (try simp (disch := omega) only [nI_add, nI_mulN, pk_sub, nI_clamp, Nat.reduceAdd, Nat.reduceMul, Nat.reduceSub, Nat.zero_add, Nat.add_zero]); exact ha2)) ?_
        refine Rq.bt (fun _ => b129_16) (rfl) ?_
        refine Rq.s (fun _ => b129_23) ?_
        try simp (disch := omega) only [nI_add, nI_mulN, pk_sub, nI_clamp, Nat.reduceAdd, Nat.reduceMul, Nat.reduceSub, Nat.zero_add, Nat.add_zero]
        exact K
    · rw [if_neg c1] at ha1
      rw [if_neg (fun z => c1 z.1)] at K
      refine Rq.s (fun _ => b129_0 (by (try simp (disch := omega) only [nI_add, nI_mulN, pk_sub, nI_clamp, Nat.reduceAdd, Nat.reduceMul, Nat.reduceSub, Nat.zero_add, Nat.add_zero]); exact ha1)) ?_
      refine Rq.bt (fun _ => b129_6) (rfl) ?_
      refine Rq.s (fun _ => b129_23) ?_
      try simp (disch := omega) only [nI_add, nI_mulN, pk_sub, nI_clamp, Nat.reduceAdd, Nat.reduceMul, Nat.reduceSub, Nat.zero_add, Nat.add_zero]
      exact K
  refine Cq.c (fun _ _ _ => c129) (L _ ?_)
  unfold oFibre
  have h104 := m104 (sc := sc) (d := d) (G := G) s98 (by omega) bp1 bp2
  by_cases hp : 0 ≤ p ∧ p < (zn (tV t) : Int)
  · rw [if_pos hp] at h104 ⊢
    obtain ⟨p, rfl⟩ := arg_nat hp.1
    have hpn : p < zn (tV t) := by omega
    simp only [← i_nI, Int.toNat_natCast] at h104 ⊢
    by_cases ha : (0 ≤ s ∧ s ≤ 1) ∧ 0 ≤ h ∧ h ≤ 9
    · rw [if_pos ha, if_pos ha]
      obtain ⟨s, rfl⟩ := arg_nat ha.1.1
      obtain ⟨h, rfl⟩ := arg_nat ha.2.1
      simp only [← i_nI, Int.toNat_natCast]
      rcases (by omega : s = 0 ∨ s = 1) with c | c <;> subst c
      · have hold : D 80 (13 * p + 5) = nI (ze (tV t) p 4) := (rM R).2.2.2.1 p 4 hpn (by omega)
        obtain ⟨_, D5, hC5, rfl, D4, I4, rfl, k4, f4⟩ := m127 (sc := sc) (d := d) (G := G) (z := 13 * p + 5) (x := h) (InvM_t (x := nI 0) hs I) hs (by omega)
        refine Rq.s (fun _ => b129_24 (by (try simp (disch := omega) only [nI_add, nI_mulN, pk_sub, nI_clamp, Nat.reduceAdd, Nat.reduceMul, Nat.reduceSub, Nat.zero_add, Nat.add_zero]); exact h104)) ?_
        refine Rq.bt (fun _ => b129_32) (by decide) ?_
        refine Rq.bf (fun _ => b129_39) (by decide) ?_
        refine Rq.s (fun _ => b129_44) ?_
        try simp (disch := omega) only [nI_add, nI_mulN, pk_sub, nI_clamp, Nat.reduceAdd, Nat.reduceMul, Nat.reduceSub, Nat.zero_add, Nat.add_zero]
        refine Rq.s (fun _ => b129_49 (by (try simp (disch := omega) only [nI_add, nI_mulN, pk_sub, nI_clamp, Nat.reduceAdd, Nat.reduceMul, Nat.reduceSub, Nat.zero_add, Nat.add_zero]); exact t103_0)) ?_
        refine Rq.bf (fun _ => b129_52) (by decide) ?_
        refine Rq.bf (fun _ => b129_55) (fun z => z rfl) ?_
        refine Rq.s (fun _ => b129_61) ?_
        try simp (disch := omega) only [nI_add, nI_mulN, pk_sub, nI_clamp, Nat.reduceAdd, Nat.reduceMul, Nat.reduceSub, Nat.zero_add, Nat.add_zero]
        refine Rq.s (fun _ => b129_67b (by (try simp (disch := omega) only [nI_add, nI_mulN, pk_sub, nI_clamp, Nat.reduceAdd, Nat.reduceMul, Nat.reduceSub, Nat.zero_add, Nat.add_zero]); exact m105)) ?_
        refine Rq.s (fun _ => b129_72b (by (try simp (disch := omega) only [nI_add, nI_mulN, pk_sub, nI_clamp, Nat.reduceAdd, Nat.reduceMul, Nat.reduceSub, Nat.zero_add, Nat.add_zero]); exact hC5)) ?_
        refine Rq.s (fun _ => b129_76b) ?_
        refine Rq.e (b129_80c) ?_
        exact OKm.v (by rw [hx_up_ne (by omega), hold]; first | done | rfl) (by rw [hx_up_ne (by omega), f4 0 (by omega)]; exact hx_up_s _ _ _ _) (InvM_set (SV_zsv hs) I4 (RepM_edge (j := 4) I4.1 hv hpn (by omega)) (fun a ha => by rw [hx_up_ne (by omega)]) (fun j hj => by rw [hx_up_ne (by omega)])) (fun a ha => by rw [hx_up_ne (by omega), k4 a (by omega) (by omega), hx_up_ne (by omega)])
      · have hold : D 80 (13 * p + 10) = nI (ze (tV t) p 9) := (rM R).2.2.2.1 p 9 hpn (by omega)
        obtain ⟨_, D5, hC5, rfl, D4, I4, rfl, k4, f4⟩ := m127 (sc := sc) (d := d) (G := G) (z := 13 * p + 10) (x := h) (InvM_t (x := nI 0) hs I) hs (by omega)
        refine Rq.s (fun _ => b129_24 (by (try simp (disch := omega) only [nI_add, nI_mulN, pk_sub, nI_clamp, Nat.reduceAdd, Nat.reduceMul, Nat.reduceSub, Nat.zero_add, Nat.add_zero]); exact h104)) ?_
        refine Rq.bt (fun _ => b129_32) (by decide) ?_
        refine Rq.bf (fun _ => b129_39) (by decide) ?_
        refine Rq.s (fun _ => b129_44) ?_
        try simp (disch := omega) only [nI_add, nI_mulN, pk_sub, nI_clamp, Nat.reduceAdd, Nat.reduceMul, Nat.reduceSub, Nat.zero_add, Nat.add_zero]
        refine Rq.s (fun _ => b129_49 (by (try simp (disch := omega) only [nI_add, nI_mulN, pk_sub, nI_clamp, Nat.reduceAdd, Nat.reduceMul, Nat.reduceSub, Nat.zero_add, Nat.add_zero]); exact t103_0)) ?_
        refine Rq.bf (fun _ => b129_52) (by decide) ?_
        refine Rq.bt (fun _ => b129_55) (by decide) ?_
        refine Rq.s (fun _ => b129_65) ?_
        try simp (disch := omega) only [nI_add, nI_mulN, pk_sub, nI_clamp, Nat.reduceAdd, Nat.reduceMul, Nat.reduceSub, Nat.zero_add, Nat.add_zero]
        refine Rq.s (fun _ => b129_67 (by (try simp (disch := omega) only [nI_add, nI_mulN, pk_sub, nI_clamp, Nat.reduceAdd, Nat.reduceMul, Nat.reduceSub, Nat.zero_add, Nat.add_zero]); exact m105)) ?_
        refine Rq.s (fun _ => b129_72 (by (try simp (disch := omega) only [nI_add, nI_mulN, pk_sub, nI_clamp, Nat.reduceAdd, Nat.reduceMul, Nat.reduceSub, Nat.zero_add, Nat.add_zero]); exact hC5)) ?_
        refine Rq.s (fun _ => b129_76) ?_
        refine Rq.e (b129_80c) ?_
        exact OKm.v (by rw [hx_up_ne (by omega), hold]; first | done | rfl) (by rw [hx_up_ne (by omega), f4 0 (by omega)]; exact hx_up_s _ _ _ _) (InvM_set (SV_zsv hs) I4 (RepM_edge (j := 9) I4.1 hv hpn (by omega)) (fun a ha => by rw [hx_up_ne (by omega)]) (fun j hj => by rw [hx_up_ne (by omega)])) (fun a ha => by rw [hx_up_ne (by omega), k4 a (by omega) (by omega), hx_up_ne (by omega)])
    · rw [if_neg ha, if_neg ha]
      refine Rq.s (fun _ => b129_24 (by (try simp (disch := omega) only [nI_add, nI_mulN, pk_sub, nI_clamp, Nat.reduceAdd, Nat.reduceMul, Nat.reduceSub, Nat.zero_add, Nat.add_zero]); exact h104)) ?_
      refine Rq.bt (fun _ => b129_32) (by decide) ?_
      refine Rq.bt (fun _ => b129_39) (rfl) ?_
      refine Rq.s (fun _ => b129_48) ?_
      try simp (disch := omega) only [nI_add, nI_mulN, pk_sub, nI_clamp, Nat.reduceAdd, Nat.reduceMul, Nat.reduceSub, Nat.zero_add, Nat.add_zero]
      refine Rq.s (fun _ => b129_49b (by (try simp (disch := omega) only [nI_add, nI_mulN, pk_sub, nI_clamp, Nat.reduceAdd, Nat.reduceMul, Nat.reduceSub, Nat.zero_add, Nat.add_zero]); exact t103_k (k := 2) (by omega) (by omega))) ?_
      refine Rq.bt (fun _ => b129_52b) (rfl) ?_
      refine Rq.s (fun _ => b129_79b) ?_
      try simp (disch := omega) only [nI_add, nI_mulN, pk_sub, nI_clamp, Nat.reduceAdd, Nat.reduceMul, Nat.reduceSub, Nat.zero_add, Nat.add_zero]
      refine Rq.e (b129_80b) ?_
      exact OKm.x (k := 2) hs I rfl
  · rw [if_neg hp] at h104 ⊢
    refine Rq.s (fun _ => b129_24 (by (try simp (disch := omega) only [nI_add, nI_mulN, pk_sub, nI_clamp, Nat.reduceAdd, Nat.reduceMul, Nat.reduceSub, Nat.zero_add, Nat.add_zero]); exact h104)) ?_
    refine Rq.bf (fun _ => b129_32) (fun z => z rfl) ?_
    refine Rq.s (fun _ => b129_35) ?_
    try simp (disch := omega) only [nI_add, nI_mulN, pk_sub, nI_clamp, Nat.reduceAdd, Nat.reduceMul, Nat.reduceSub, Nat.zero_add, Nat.add_zero]
    refine Rq.s (fun _ => b129_49 (by (try simp (disch := omega) only [nI_add, nI_mulN, pk_sub, nI_clamp, Nat.reduceAdd, Nat.reduceMul, Nat.reduceSub, Nat.zero_add, Nat.add_zero]); exact t103_k (k := 1) (by omega) (by omega))) ?_
    refine Rq.bt (fun _ => b129_52) (rfl) ?_
    refine Rq.s (fun _ => b129_79) ?_
    try simp (disch := omega) only [nI_add, nI_mulN, pk_sub, nI_clamp, Nat.reduceAdd, Nat.reduceMul, Nat.reduceSub, Nat.zero_add, Nat.add_zero]
    refine Rq.e (b129_80) ?_
    exact OKm.x (k := 1) hs I rfl
theorem rSet {sc : Nat × (Nat → Int32)} {d : Nat} {D : Nat → Nat → Int32} {G : Nat → Nat → Int64} {t : ST} {k : Int} {x : Int} (bk1 : -2147483648 ≤ k) (bk2 : k < 2147483648) (bx1 : -2147483648 ≤ x) (bx2 : x < 2147483648) (I : InvM D t) (hs : SV t) : Cq sc (d + 2) 136 [.ref 79, .int (iI k), .int (iI x)] D G (OKm D (oSet t k x)) := by
  have hv := hs.1
  have h7 := hv.1
  have R := I.1
  have R1 := (InvM_t (x := nI 0) hs I).1
  have s98 := (rM I.1).1
  have w98 := (rM R1).1
  refine Cq.c (fun _ _ _ => c136) ?_
  unfold oSet
  have hk := m102 (sc := sc) (d := d + 1) (D := D) (G := G) (z_iI bk1 bk2) (z_nI (show 0 < 2 ^ 31 by omega)) (z_nI (show 1 < 2 ^ 31 by omega)) (P := 0 ≤ k ∧ k < 2) (by omega)
  have hx := m102 (sc := sc) (d := d + 1) (D := D) (G := G) (z_iI bx1 bx2) (z_nI (show 0 < 2 ^ 31 by omega)) (z_nI (show 9 < 2 ^ 31 by omega)) (P := 0 ≤ x ∧ x ≤ 9) (by omega)
  by_cases hp : 0 ≤ k ∧ k < 2
  · rw [if_pos hp] at hk ⊢
    obtain ⟨k, rfl⟩ := arg_nat hp.1
    simp only [← i_nI, Int.toNat_natCast] at hk ⊢
    by_cases h9 : 0 ≤ x ∧ x ≤ 9
    · rw [if_pos h9] at hx ⊢
      obtain ⟨x, rfl⟩ := arg_nat h9.1
      simp only [← i_nI, Int.toNat_natCast] at hx ⊢
      have hold : D 80 (100 + k) = nI (zs (tV t) k) := by
        rcases (by omega : k = 0 ∨ k = 1) with c | c <;> subst c
        · exact (rM R).2.2.2.2.2.2.1
        · exact (rM R).2.2.2.2.2.2.2
      obtain ⟨_, D5, hC5, rfl, D4, I4, rfl, k4, f4⟩ := m127 (sc := sc) (d := d) (G := G) (z := 100 + k) (x := x) (InvM_t (x := nI 0) hs I) hs (by omega)
      refine Rq.s (fun _ => b136_0 (by (try simp (disch := omega) only [nI_add, nI_mulN, pk_sub, nI_clamp, Nat.reduceAdd, Nat.reduceMul, Nat.reduceSub, Nat.zero_add, Nat.add_zero]); exact hk)) ?_
      refine Rq.bt (fun _ => b136_7) (by decide) ?_
      refine Rq.s (fun _ => b136_14 (by (try simp (disch := omega) only [nI_add, nI_mulN, pk_sub, nI_clamp, Nat.reduceAdd, Nat.reduceMul, Nat.reduceSub, Nat.zero_add, Nat.add_zero]); exact hx)) ?_
      refine Rq.bf (fun _ => b136_21) (by decide) ?_
      refine Rq.s (fun _ => b136_24) ?_
      try simp (disch := omega) only [nI_add, nI_mulN, pk_sub, nI_clamp, Nat.reduceAdd, Nat.reduceMul, Nat.reduceSub, Nat.zero_add, Nat.add_zero]
      refine Rq.s (fun _ => b136_29 (by (try simp (disch := omega) only [nI_add, nI_mulN, pk_sub, nI_clamp, Nat.reduceAdd, Nat.reduceMul, Nat.reduceSub, Nat.zero_add, Nat.add_zero]); exact t103_0)) ?_
      refine Rq.bf (fun _ => b136_32) (by decide) ?_
      refine Rq.s (fun _ => b136_35 (by (try simp (disch := omega) only [nI_add, nI_mulN, pk_sub, nI_clamp, Nat.reduceAdd, Nat.reduceMul, Nat.reduceSub, Nat.zero_add, Nat.add_zero]); exact hC5)) ?_
      refine Rq.s (fun _ => b136_44) ?_
      refine Rq.e (b136_48b) ?_
      exact OKm.v (by rw [hx_up_ne (by omega), hold]; first | done | rfl) (by rw [hx_up_ne (by omega), f4 0 (by omega)]; exact hx_up_s _ _ _ _) (InvM_set (SV_zsv hs) I4 (RepM_setg I4.1 hv (by omega)) (fun a ha => by rw [hx_up_ne (by omega)]) (fun j hj => by rw [hx_up_ne (by omega)])) (fun a ha => by rw [hx_up_ne (by omega), k4 a (by omega) (by omega), hx_up_ne (by omega)])
    · rw [if_neg h9] at hx ⊢
      refine Rq.s (fun _ => b136_0 (by (try simp (disch := omega) only [nI_add, nI_mulN, pk_sub, nI_clamp, Nat.reduceAdd, Nat.reduceMul, Nat.reduceSub, Nat.zero_add, Nat.add_zero]); exact hk)) ?_
      refine Rq.bt (fun _ => b136_7) (by decide) ?_
      refine Rq.s (fun _ => b136_14 (by (try simp (disch := omega) only [nI_add, nI_mulN, pk_sub, nI_clamp, Nat.reduceAdd, Nat.reduceMul, Nat.reduceSub, Nat.zero_add, Nat.add_zero]); exact hx)) ?_
      refine Rq.bt (fun _ => b136_21) (rfl) ?_
      refine Rq.s (fun _ => b136_28) ?_
      try simp (disch := omega) only [nI_add, nI_mulN, pk_sub, nI_clamp, Nat.reduceAdd, Nat.reduceMul, Nat.reduceSub, Nat.zero_add, Nat.add_zero]
      refine Rq.s (fun _ => b136_29 (by (try simp (disch := omega) only [nI_add, nI_mulN, pk_sub, nI_clamp, Nat.reduceAdd, Nat.reduceMul, Nat.reduceSub, Nat.zero_add, Nat.add_zero]); exact t103_k (k := 2) (by omega) (by omega))) ?_
      refine Rq.bt (fun _ => b136_32) (rfl) ?_
      refine Rq.s (fun _ => b136_47) ?_
      try simp (disch := omega) only [nI_add, nI_mulN, pk_sub, nI_clamp, Nat.reduceAdd, Nat.reduceMul, Nat.reduceSub, Nat.zero_add, Nat.add_zero]
      refine Rq.e (b136_48) ?_
      exact OKm.x (k := 2) hs I rfl
  · rw [if_neg hp] at hk ⊢
    refine Rq.s (fun _ => b136_0 (by (try simp (disch := omega) only [nI_add, nI_mulN, pk_sub, nI_clamp, Nat.reduceAdd, Nat.reduceMul, Nat.reduceSub, Nat.zero_add, Nat.add_zero]); exact hk)) ?_
    refine Rq.bf (fun _ => b136_7) (fun z => z rfl) ?_
    refine Rq.s (fun _ => b136_10) ?_
    try simp (disch := omega) only [nI_add, nI_mulN, pk_sub, nI_clamp, Nat.reduceAdd, Nat.reduceMul, Nat.reduceSub, Nat.zero_add, Nat.add_zero]
    refine Rq.s (fun _ => b136_29 (by (try simp (disch := omega) only [nI_add, nI_mulN, pk_sub, nI_clamp, Nat.reduceAdd, Nat.reduceMul, Nat.reduceSub, Nat.zero_add, Nat.add_zero]); exact t103_k (k := 1) (by omega) (by omega))) ?_
    refine Rq.bt (fun _ => b136_32) (rfl) ?_
    refine Rq.s (fun _ => b136_47) ?_
    try simp (disch := omega) only [nI_add, nI_mulN, pk_sub, nI_clamp, Nat.reduceAdd, Nat.reduceMul, Nat.reduceSub, Nat.zero_add, Nat.add_zero]
    refine Rq.e (b136_48) ?_
    exact OKm.x (k := 1) hs I rfl
theorem RepM_m {D : Nat → Nat → Int32} {V : ZV} {m : Nat} (R : RepM D 80 0 V) (hv : Valid V) : RepM (hx_up D 80 99 (nI m)) 80 0 (zn V, m, zw V, ze V, zh V, zr V, zs V) := by
  obtain ⟨r98, r99, rw, re, rh, rr, r0, r1⟩ := rM R
  have h7 := hv.1
  exact RepM_i (by rw [hx_up_in _ _ _ (by omega)]; exact r98) (by rw [hx_up_s]) (fun q hq => by have hq2 : q < zn V := hq; rw [hx_up_in _ _ _ (by omega)]; exact rw q hq) (fun q i hq hi => by have hq2 : q < zn V := hq; rw [hx_up_in _ _ _ (by omega)]; exact re q i hq hi) (fun q hq => by have hq2 : q < zn V := hq; rw [hx_up_in _ _ _ (by omega), hx_up_in _ _ _ (by omega)]; exact rh q hq) (fun i hi => by have hi2 : i < zn V := hi; rw [hx_up_in _ _ _ (by omega)]; exact rr i hi) (by rw [hx_up_in _ _ _ (by omega)]; exact r0) (by rw [hx_up_in _ _ _ (by omega)]; exact r1)
theorem rMove {sc : Nat × (Nat → Int32)} {d : Nat} {D : Nat → Nat → Int32} {G : Nat → Nat → Int64} {t : ST} {p : Int} {x : Int} (bp1 : -2147483648 ≤ p) (bp2 : p < 2147483648) (bx1 : -2147483648 ≤ x) (bx2 : x < 2147483648) (I : InvM D t) (hs : SV t) : Cq sc (d + 3) 134 [.ref 79, .int (iI p), .int (iI x)] D G (OKm D (oMove t p x)) := by
  have hv := hs.1
  have h7 := hv.1
  have R := I.1
  have R1 := (InvM_t (x := nI 0) hs I).1
  have s98 := (rM I.1).1
  have w98 := (rM R1).1
  refine Cq.c (fun _ _ _ => c134) ?_
  unfold oMove
  have h104 := m104 (sc := sc) (d := d + 1) (G := G) s98 (by omega) bp1 bp2
  by_cases hp : 0 ≤ p ∧ p < (zn (tV t) : Int)
  · rw [if_pos hp] at h104 ⊢
    have h102 := m102 (sc := sc) (d := d + 2) (D := D) (G := G) (z_iI bx1 bx2) (z_nI (show 0 < 2 ^ 31 by omega)) (z_nI (n := zn (tV t) - 1) (by omega)) (P := 0 ≤ x ∧ x < (zn (tV t) : Int)) (by omega)
    obtain ⟨p, rfl⟩ := arg_nat hp.1
    simp only [← i_nI, Int.toNat_natCast] at h104 ⊢
    by_cases hx : 0 ≤ x ∧ x < (zn (tV t) : Int)
    · rw [if_pos hx] at h102 ⊢
      obtain ⟨x, rfl⟩ := arg_nat hx.1
      simp only [← i_nI, Int.toNat_natCast] at h102 ⊢
      have hp2 : p < zn (tV t) := by omega
      have hx2 : x < zn (tV t) := by omega
      obtain ⟨_, D4, hC4, rfl, I4, k4, f4⟩ := m106 (sc := sc) (d := d + 2) (G := G) hs (InvM_t (x := nI 0) hs I)
      obtain ⟨_, D5, hC5, rfl, c1, c2, c3⟩ := m117 (sc := sc) (d := d + 1) (G := G) (p := p) (pl := x) I4.1 hv hp2 hx2
      have w99 : D5 80 99 = nI (zm (tV t)) := by rw [c2 99 (by omega)]; exact (rM I4.1).2.1
      have V6 : Valid (opMov (tV t) p x) := Valid_row hv (fun i hi => zmv_lt hv hp2 hx2 hi) (fun i j hi hj e => zmv_inj hv hp2 hx2 hi hj e)
      have R5 := RepM_row I4.1 hv c1 c2
      have R6 : RepM (hx_up D5 80 99 (nI (zm (tV t) + 1))) 80 0 (opMov (tV t) p x) := RepM_m R5 (Valid_row hv (m := zm (tV t)) (fun i hi => zmv_lt hv hp2 hx2 hi) (fun i j hi hj e => zmv_inj hv hp2 hx2 hi hj e))
      have h111 := m111 (sc := sc) (d := d) (G := G) R6 V6
      refine Rq.s (fun _ => b134_0 (by (try simp (disch := omega) only [nI_add, nI_mulN, pk_sub, nI_clamp, Nat.reduceAdd, Nat.reduceMul, Nat.reduceSub, Nat.zero_add, Nat.add_zero, s98, w99]); exact h104)) ?_
      refine Rq.bt (fun _ => b134_6) (by decide) ?_
      refine Rq.s (fun _ => b134_13 (by (try simp (disch := omega) only [nI_add, nI_mulN, pk_sub, nI_clamp, Nat.reduceAdd, Nat.reduceMul, Nat.reduceSub, Nat.zero_add, Nat.add_zero, s98, w99]); exact nI_inbT (by omega) (by omega)) (by (try simp (disch := omega) only [nI_add, nI_mulN, pk_sub, nI_clamp, Nat.reduceAdd, Nat.reduceMul, Nat.reduceSub, Nat.zero_add, Nat.add_zero, s98, w99]); exact h102)) ?_
      refine Rq.bf (fun _ => b134_27) (by decide) ?_
      refine Rq.s (fun _ => b134_30) ?_
      try simp (disch := omega) only [nI_add, nI_mulN, pk_sub, nI_clamp, Nat.reduceAdd, Nat.reduceMul, Nat.reduceSub, Nat.zero_add, Nat.add_zero, s98, w99]
      refine Rq.s (fun _ => b134_35 (by (try simp (disch := omega) only [nI_add, nI_mulN, pk_sub, nI_clamp, Nat.reduceAdd, Nat.reduceMul, Nat.reduceSub, Nat.zero_add, Nat.add_zero, s98, w99]); exact t103_0)) ?_
      refine Rq.bt (fun _ => b134_38) (by decide) ?_
      refine Rq.s (fun _ => b134_43 (by (try simp (disch := omega) only [nI_add, nI_mulN, pk_sub, nI_clamp, Nat.reduceAdd, Nat.reduceMul, Nat.reduceSub, Nat.zero_add, Nat.add_zero, s98, w99]); exact hC4)) ?_
      refine Rq.s (fun _ => b134_47 (by (try simp (disch := omega) only [nI_add, nI_mulN, pk_sub, nI_clamp, Nat.reduceAdd, Nat.reduceMul, Nat.reduceSub, Nat.zero_add, Nat.add_zero, s98, w99]); exact hC5)) ?_
      refine Rq.s (fun _ => b134_53 (by (try simp (disch := omega) only [nI_add, nI_mulN, pk_sub, nI_clamp, Nat.reduceAdd, Nat.reduceMul, Nat.reduceSub, Nat.zero_add, Nat.add_zero, s98, w99]); exact nI_inbT (by omega) (by omega)) (by (try simp (disch := omega) only [nI_add, nI_mulN, pk_sub, nI_clamp, Nat.reduceAdd, Nat.reduceMul, Nat.reduceSub, Nat.zero_add, Nat.add_zero, s98, w99]); exact nI_inbT (by omega) (by omega)) (by (try simp (disch := omega) only [nI_add, nI_mulN, pk_sub, nI_clamp, Nat.reduceAdd, Nat.reduceMul, Nat.reduceSub, Nat.zero_add, Nat.add_zero, s98, w99]); exact h111)) ?_
      refine Rq.e (b134_68) ?_
      exact OKm.v (by rw [show zcost (opMov (tV t) p x) (zr (opMov (tV t) p x)) = zcost (tV t) (zmv (tV t) p x) from zJs_ext (V := opMov (tV t) p x) (V2 := tV t) rfl _ _]) (by rw [hx_up_ne (by omega), c3 79 (by omega), f4 0 (by omega)]; exact hx_up_s _ _ _ _) (InvM_set (SV_zsv hs) I4 R6 (fun a ha => by rw [hx_up_ne (by omega), c3 a (by omega)]) (fun j hj => by rw [hx_up_ne (by omega), c3 79 (by omega)])) (fun a ha => by rw [hx_up_ne (by omega), c3 a (by omega), k4 a (by omega) (by omega), hx_up_ne (by omega)])
    · rw [if_neg hx] at h102 ⊢
      refine Rq.s (fun _ => b134_0 (by (try simp (disch := omega) only [nI_add, nI_mulN, pk_sub, nI_clamp, Nat.reduceAdd, Nat.reduceMul, Nat.reduceSub, Nat.zero_add, Nat.add_zero, s98]); exact h104)) ?_
      refine Rq.bt (fun _ => b134_6) (by decide) ?_
      refine Rq.s (fun _ => b134_13 (by (try simp (disch := omega) only [nI_add, nI_mulN, pk_sub, nI_clamp, Nat.reduceAdd, Nat.reduceMul, Nat.reduceSub, Nat.zero_add, Nat.add_zero, s98]); exact nI_inbT (by omega) (by omega)) (by (try simp (disch := omega) only [nI_add, nI_mulN, pk_sub, nI_clamp, Nat.reduceAdd, Nat.reduceMul, Nat.reduceSub, Nat.zero_add, Nat.add_zero, s98]); exact h102)) ?_
      refine Rq.bt (fun _ => b134_27) (rfl) ?_
      refine Rq.s (fun _ => b134_34) ?_
      try simp (disch := omega) only [nI_add, nI_mulN, pk_sub, nI_clamp, Nat.reduceAdd, Nat.reduceMul, Nat.reduceSub, Nat.zero_add, Nat.add_zero, s98]
      refine Rq.s (fun _ => b134_35 (by (try simp (disch := omega) only [nI_add, nI_mulN, pk_sub, nI_clamp, Nat.reduceAdd, Nat.reduceMul, Nat.reduceSub, Nat.zero_add, Nat.add_zero, s98]); exact t103_k (k := 2) (by omega) (by omega))) ?_
      refine Rq.bf (fun _ => b134_38) (fun z => z rfl) ?_
      refine Rq.e (b134_41) ?_
      exact OKm.x (k := 2) hs I rfl
  · rw [if_neg hp] at h104 ⊢
    refine Rq.s (fun _ => b134_0 (by (try simp (disch := omega) only [nI_add, nI_mulN, pk_sub, nI_clamp, Nat.reduceAdd, Nat.reduceMul, Nat.reduceSub, Nat.zero_add, Nat.add_zero]); exact h104)) ?_
    refine Rq.bf (fun _ => b134_6) (fun z => z rfl) ?_
    refine Rq.s (fun _ => b134_9) ?_
    try simp (disch := omega) only [nI_add, nI_mulN, pk_sub, nI_clamp, Nat.reduceAdd, Nat.reduceMul, Nat.reduceSub, Nat.zero_add, Nat.add_zero]
    refine Rq.s (fun _ => b134_35 (by (try simp (disch := omega) only [nI_add, nI_mulN, pk_sub, nI_clamp, Nat.reduceAdd, Nat.reduceMul, Nat.reduceSub, Nat.zero_add, Nat.add_zero]); exact t103_k (k := 1) (by omega) (by omega))) ?_
    refine Rq.bf (fun _ => b134_38) (fun z => z rfl) ?_
    refine Rq.e (b134_41) ?_
    exact OKm.x (k := 1) hs I rfl
theorem rOrder {sc : Nat × (Nat → Int32)} {d : Nat} {D : Nat → Nat → Int32} {G : Nat → Nat → Int64} {t : ST} (I : InvM D t) (hs : SV t) : Cq sc (d + 5) 135 [.ref 79] D G (OKm D (oOrder t)) := by
  have hv := hs.1
  have h7 := hv.1
  have R := I.1
  have R1 := (InvM_t (x := nI 0) hs I).1
  have s98 := (rM I.1).1
  have w98 := (rM R1).1
  obtain ⟨_, D4, hC4, rfl, I4, k4, f4⟩ := m106 (sc := sc) (d := d + 4) (G := G) hs (InvM_t (x := nI 0) hs I)
  obtain ⟨_, D5, hC5, rfl, c1, c2, c3⟩ := m116 (sc := sc) (d := d) (G := G) (rM I4.1).1 (rM I4.1).2.2.2.1 hv
  have w99 : D5 80 99 = nI (zm (tV t)) := by rw [c2 99 (by omega)]; exact (rM I4.1).2.1
  have V6 : Valid (opOrd (tV t)) := Valid_row hv (fun i hi => (zbr_ok hv hi).2.1) (fun i j hi hj e => zbr_inj hv hi hj e)
  have R5 := RepM_row I4.1 hv c1 c2
  have R6 : RepM (hx_up D5 80 99 (nI (zm (tV t) + 1))) 80 0 (opOrd (tV t)) := RepM_m R5 (Valid_row hv (m := zm (tV t)) (fun i hi => (zbr_ok hv hi).2.1) (fun i j hi hj e => zbr_inj hv hi hj e))
  have h111 := m111 (sc := sc) (d := d + 2) (G := G) R6 V6
  have e9 : zcost (opOrd (tV t)) (zr (opOrd (tV t))) = zleast (tV t) := by
    show zJs (opOrd (tV t)) (zr (opOrd (tV t))) 1 (zn (opOrd (tV t)) - 1) = zleast (tV t)
    rw [zJs_ext (V := opOrd (tV t)) (V2 := tV t) rfl]
    exact zleast_eq hv
  rw [e9] at h111
  refine Cq.c (fun _ _ _ => c135) ?_
  refine Rq.s (fun _ => b135_0 (by (try simp (disch := omega) only [nI_add, nI_mulN, pk_sub, nI_clamp, Nat.reduceAdd, Nat.reduceMul, Nat.reduceSub, Nat.zero_add, Nat.add_zero, w99]); exact hC4)) ?_
  refine Rq.s (fun _ => b135_9 (by (try simp (disch := omega) only [nI_add, nI_mulN, pk_sub, nI_clamp, Nat.reduceAdd, Nat.reduceMul, Nat.reduceSub, Nat.zero_add, Nat.add_zero, w99]); exact hC5)) ?_
  refine Rq.s (fun _ => b135_13 (by (try simp (disch := omega) only [nI_add, nI_mulN, pk_sub, nI_clamp, Nat.reduceAdd, Nat.reduceMul, Nat.reduceSub, Nat.zero_add, Nat.add_zero, w99]); exact nI_inbT (by omega) (by omega)) (by (try simp (disch := omega) only [nI_add, nI_mulN, pk_sub, nI_clamp, Nat.reduceAdd, Nat.reduceMul, Nat.reduceSub, Nat.zero_add, Nat.add_zero, w99]); exact nI_inbT (by omega) (by omega)) (by (try simp (disch := omega) only [nI_add, nI_mulN, pk_sub, nI_clamp, Nat.reduceAdd, Nat.reduceMul, Nat.reduceSub, Nat.zero_add, Nat.add_zero, w99]); exact h111)) ?_
  refine Rq.e (b135_28) ?_
  exact OKm.v rfl (by rw [hx_up_ne (by omega), c3 79 (by omega) (by omega), f4 0 (by omega)]; exact hx_up_s _ _ _ _) (InvM_set (SV_zsv hs) I4 R6 (fun a ha => by rw [hx_up_ne (by omega), c3 a (by omega) (by omega)]) (fun j hj => by rw [hx_up_ne (by omega), c3 79 (by omega) (by omega)])) (fun a ha => by rw [hx_up_ne (by omega), c3 a (by omega) (by omega), k4 a (by omega) (by omega), hx_up_ne (by omega)])
theorem rAppend {sc : Nat × (Nat → Int32)} {d : Nat} {D : Nat → Nat → Int32} {G : Nat → Nat → Int64} {t : ST} {x : Int} (bx1 : -2147483648 ≤ x) (bx2 : x < 2147483648) (I : InvM D t) (hs : SV t) : Cq sc (d + 1) 137 [.ref 79, .int (iI x)] D G (OKm D (oAppend t x)) := by
  have hv := hs.1
  have h7 := hv.1
  have R := I.1
  have R1 := (InvM_t (x := nI 0) hs I).1
  have s98 := (rM I.1).1
  have w98 := (rM R1).1
  have s8 := I.2.2.2.2.2.1
  have w8 : hx_up D 79 0 (nI 0) 79 8 = nI (tn t) := by rw [hx_up_in _ _ _ (by omega)]; exact s8
  have h60 := hs.2.2.2.2.1
  refine Cq.c (fun _ _ _ => c137) ?_
  unfold oAppend
  have h102 := m102 (sc := sc) (d := d) (D := D) (G := G) (z_iI bx1 bx2) (z_nI (show 33 < 2 ^ 31 by omega)) (z_nI (show 126 < 2 ^ 31 by omega)) (P := 33 ≤ x ∧ x ≤ 126) (by omega)
  by_cases hx : 33 ≤ x ∧ x ≤ 126
  · rw [if_pos hx] at h102 ⊢
    obtain ⟨x, rfl⟩ := arg_nat (show 0 ≤ x by omega)
    simp only [← i_nI, Int.toNat_natCast] at h102 ⊢
    by_cases hn : tn t = 60
    · rw [if_pos hn]
      refine Rq.s (fun _ => b137_0 (by (try simp (disch := omega) only [nI_add, nI_mulN, pk_sub, nI_clamp, Nat.reduceAdd, Nat.reduceMul, Nat.reduceSub, Nat.zero_add, Nat.add_zero]); exact h102)) ?_
      refine Rq.bt (fun _ => b137_9) (by decide) ?_
      refine Rq.bf (fun _ => b137_16) (by rw [s8, hn]; exact fun z => z rfl) ?_
      refine Rq.s (fun _ => b137_25) ?_
      try simp (disch := omega) only [nI_add, nI_mulN, pk_sub, nI_clamp, Nat.reduceAdd, Nat.reduceMul, Nat.reduceSub, Nat.zero_add, Nat.add_zero]
      refine Rq.s (fun _ => b137_30 (by (try simp (disch := omega) only [nI_add, nI_mulN, pk_sub, nI_clamp, Nat.reduceAdd, Nat.reduceMul, Nat.reduceSub, Nat.zero_add, Nat.add_zero]); exact t103_k (k := 2) (by omega) (by omega))) ?_
      refine Rq.bf (fun _ => b137_33) (fun z => z rfl) ?_
      refine Rq.e (b137_36) ?_
      exact OKm.x (k := 2) hs I rfl
    · rw [if_neg hn]
      refine Rq.s (fun _ => b137_0 (by (try simp (disch := omega) only [nI_add, nI_mulN, pk_sub, nI_clamp, Nat.reduceAdd, Nat.reduceMul, Nat.reduceSub, Nat.zero_add, Nat.add_zero, w8]); exact h102)) ?_
      refine Rq.bt (fun _ => b137_9) (by decide) ?_
      refine Rq.bt (fun _ => b137_16) (by rw [s8]; simp (disch := omega) only [z_eq, z_nI]; omega) ?_
      refine Rq.s (fun _ => b137_29) ?_
      try simp (disch := omega) only [nI_add, nI_mulN, pk_sub, nI_clamp, Nat.reduceAdd, Nat.reduceMul, Nat.reduceSub, Nat.zero_add, Nat.add_zero, w8]
      refine Rq.s (fun _ => b137_30 (by (try simp (disch := omega) only [nI_add, nI_mulN, pk_sub, nI_clamp, Nat.reduceAdd, Nat.reduceMul, Nat.reduceSub, Nat.zero_add, Nat.add_zero, w8]); exact t103_0)) ?_
      refine Rq.bt (fun _ => b137_33) (by decide) ?_
      refine Rq.s (fun _ => b137_38 (by (try simp (disch := omega) only [nI_add, nI_mulN, pk_sub, nI_clamp, Nat.reduceAdd, Nat.reduceMul, Nat.reduceSub, Nat.zero_add, Nat.add_zero, w8]); exact nI_inbT (by omega) (by omega))) ?_
      try simp (disch := omega) only [nI_add, nI_mulN, pk_sub, nI_clamp, Nat.reduceAdd, Nat.reduceMul, Nat.reduceSub, Nat.zero_add, Nat.add_zero, w8]
      refine Rq.e (b137_58) ?_
      try simp (disch := omega) only [nI_add, nI_mulN, pk_sub, nI_clamp, Nat.reduceAdd, Nat.reduceMul, Nat.reduceSub, Nat.zero_add, Nat.add_zero, w8]
      refine OKm.v (t := (tV t, tS t, tK t, tn t + 1, gup (tb t) (tn t) x)) (by rw [hx_up_s]) (by rw [hx_up_in _ _ _ (by omega), hx_up_ne (by omega)]; exact hx_up_s _ _ _ _) ?_ (fun a ha => by rw [hx_up_ne (by omega), hx_up_ne (by omega), hx_up_ne (by omega)])
      obtain ⟨i1, i2, i3, i4, i5, i6, i7⟩ := InvM_t (x := nI 0) hs I
      refine ⟨RepM_k hs.1 (fun i _ => by rw [hx_up_ne (by omega), hx_up_ne (by omega)]) i1, by rw [hx_up_in _ _ _ (by omega), hx_up_ne (by omega)]; exact i2, fun j X h => RepM_k (hs.2.2.1 X (hx_nth_mem h)) (fun i _ => by rw [hx_up_ne (by omega), hx_up_ne (by omega)]) (i3 j X h), by rw [hx_up_in _ _ _ (by omega), hx_up_ne (by omega)]; exact i4, fun k X h1 h2 => RepM_k (hs.2.2.2.1 k X h2) (fun i _ => by rw [hx_up_ne (by omega), hx_up_ne (by omega)]) (i5 k X h1 h2), hx_up_s _ _ _ _, fun i hi => ?_⟩
      have hi2 : i < tn t + 1 := hi
      rw [hx_up_ne (by omega)]
      show _ = nI (gup (tb t) (tn t) x i)
      by_cases c : i = tn t
      · rw [c, gup_s, hx_up_s]
      · rw [gup_n _ _ c, hx_up_in _ _ _ c]
        exact i7 i (by omega)
  · rw [if_neg hx] at h102 ⊢
    refine Rq.s (fun _ => b137_0 (by (try simp (disch := omega) only [nI_add, nI_mulN, pk_sub, nI_clamp, Nat.reduceAdd, Nat.reduceMul, Nat.reduceSub, Nat.zero_add, Nat.add_zero]); exact h102)) ?_
    refine Rq.bf (fun _ => b137_9) (fun z => z rfl) ?_
    refine Rq.s (fun _ => b137_12) ?_
    try simp (disch := omega) only [nI_add, nI_mulN, pk_sub, nI_clamp, Nat.reduceAdd, Nat.reduceMul, Nat.reduceSub, Nat.zero_add, Nat.add_zero]
    refine Rq.s (fun _ => b137_30 (by (try simp (disch := omega) only [nI_add, nI_mulN, pk_sub, nI_clamp, Nat.reduceAdd, Nat.reduceMul, Nat.reduceSub, Nat.zero_add, Nat.add_zero]); exact t103_k (k := 1) (by omega) (by omega))) ?_
    refine Rq.bf (fun _ => b137_33) (fun z => z rfl) ?_
    refine Rq.e (b137_36) ?_
    exact OKm.x (k := 1) hs I rfl
theorem rClear {sc : Nat × (Nat → Int32)} {d : Nat} {D : Nat → Nat → Int32} {G : Nat → Nat → Int64} {t : ST} (I : InvM D t) (hs : SV t) : Cq sc d 138 [.ref 79] D G (OKm D (oClear t)) := by
  have s8 := I.2.2.2.2.2.1
  refine Cq.c (fun _ _ _ => c138) ?_
  refine Rq.e (b138_0) ?_
  rw [s8]
  refine OKm.v (t := (tV t, tS t, tK t, 0, tb t)) rfl (by rw [hx_up_in _ _ _ (by omega)]; exact hx_up_s _ _ _ _) ?_ (fun a ha => by rw [hx_up_ne (by omega), hx_up_ne (by omega)])
  obtain ⟨i1, i2, i3, i4, i5, i6, i7⟩ := InvM_t (x := nI 0) hs I
  exact ⟨RepM_k hs.1 (fun i _ => by rw [hx_up_ne (by omega)]) i1, by rw [hx_up_in _ _ _ (by omega)]; exact i2, fun j X h => RepM_k (hs.2.2.1 X (hx_nth_mem h)) (fun i _ => by rw [hx_up_ne (by omega)]) (i3 j X h), by rw [hx_up_in _ _ _ (by omega)]; exact i4, fun k X h1 h2 => RepM_k (hs.2.2.2.1 k X h2) (fun i _ => by rw [hx_up_ne (by omega)]) (i5 k X h1 h2), hx_up_s _ _ _ _, fun i hi => absurd hi (Nat.not_lt_zero _)⟩
