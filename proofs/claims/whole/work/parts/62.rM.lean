/-! ===== the reference reads a piece ===== -/
def PQ (D : Nat → Nat → Int32) (k n : Nat) (r : Bool) (q : RS) : Prop := qp q = 1 ∧ qe q = n ∧ qr q = r ∧ qb q = k ∧ qh q = [] ∧ D 88 0 = nI (qw q) ∧ ∀ j, j < n → D 88 (1 + j) = nI (qd q j)
def PE (D : Nat → Nat → Int32) (len : Nat) (b : Nat → Nat) (k n : Nat) (r : Bool) : Prop := (∃ s q, s ≤ len ∧ PF D s ∧ aSt b s = some q ∧ PQ D k n r q) ∨ PB D len b
def fE (q : RS) (c : Nat) : RS := (qb q, qp q, qw q, qe q + 1, qr q, qx q, qh q, fup (qd q) (qe q) (zdg c).toNat)
theorem zdg_d {c : Nat} (h : 48 ≤ c ∧ c ≤ 57) : zdg c = (c : Int) - 48 := by
  unfold zdg
  rw [if_pos h]
theorem zdg_n {c : Nat} (h : ¬ (48 ≤ c ∧ c ≤ 57)) : zdg c = -1 := by
  unfold zdg
  rw [if_neg h]
theorem wh1 {q : RS} (h : qp q = 0 ∨ qp q = 1) : qwhole q = false := by
  unfold qwhole
  rw [decide_eq_false (by omega), decide_eq_false (by omega)]
  rfl
theorem aT_dig {q : RS} {n hi : Nat} (c : Nat) (h1 : qp q = 1) (h2 : qe q = n) (h3 : n < 10) (h4 : n = 5 → qr q = true) (hh : hi = if n % 5 = 4 then 57 else 53) : (48 ≤ c ∧ c ≤ hi → aT q c = some (fE q c)) ∧ (¬ (48 ≤ c ∧ c ≤ hi) → aT q c = none) := by
  have e : aT q c = if zdg c = -1 ∨ (if qe q % 5 = 4 then 9 else 5) < zdg c then none else some (fE q c) := by
    unfold aT
    rw [if_neg (by omega), if_pos h1]
    unfold aE
    rw [if_neg (fun z => by rw [h4 (by omega)] at z; cases z.2), if_neg (by omega)]
    rfl
  rw [e, h2]
  by_cases hd : 48 ≤ c ∧ c ≤ 57
  · rw [zdg_d hd]
    by_cases c5 : n % 5 = 4
    · rw [if_pos c5] at hh
      refine ⟨fun h => ?_, fun h => ?_⟩
      · rw [if_neg]; rw [if_pos c5]; omega
      · rw [if_pos]; rw [if_pos c5]; omega
    · rw [if_neg c5] at hh
      refine ⟨fun h => ?_, fun h => ?_⟩
      · rw [if_neg]; rw [if_neg c5]; omega
      · rw [if_pos]; rw [if_neg c5]; omega
  · rw [zdg_n hd, if_pos (Or.inl rfl)]
    refine ⟨fun h => ?_, fun _ => rfl⟩
    by_cases c5 : n % 5 = 4
    · rw [if_pos c5] at hh; omega
    · rw [if_neg c5] at hh; omega
theorem mdig {sc : Nat × (Nat → Int32)} {d : Nat} {D : Nat → Nat → Int32} {G : Nat → Nat → Int64} {len : Nat} {b : Nat → Nat} {k n hi : Nat} {r : Bool} (B : BM D len b) (hn : n < 10) (h5 : n = 5 → r = true) (hh : hi = if n % 5 = 4 then 57 else 53) (h : PE D len b k n r) : Cq sc (d + 2) 140 [.ref 79, .int (nI 48), .int (nI hi)] D G (fun r' D2 => eqP D D2 ∧ ∃ v, r' = .inl (some (.int (nI v))) ∧ PE (hx_up D2 88 (1 + n) (nI v)) len b k (n + 1) r) := by
  have hi2 : hi ≤ 57 := by
    rw [hh]
    split <;> omega
  obtain ⟨r1, D2, hC, e1, e2, v, rfl, h2⟩ := m140 (sc := sc) (d := d) (G := G) (P := fun _ q => PQ D k n r q) (f := fE) (lo := 48) (hi := hi) B (by omega) (by omega) (fun s q hP => ⟨wh1 (Or.inr hP.1), fun _ => aT_dig (b s) hP.1 hP.2.1 hn (fun z => by rw [hP.2.2.1]; exact h5 z) hh⟩) h
  refine ⟨_, D2, hC, e1, v, rfl, ?_⟩
  rcases h2 with ⟨s, q, hs, hF, hc, ⟨k1, k2, k3, k4, k5, k6, k7⟩, ha, hv⟩ | h2
  · refine Or.inl ⟨s + 1, _, by omega, ⟨by rw [hx_up_ne (by omega)]; exact hF.1, by rw [hx_up_ne (by omega)]; exact hF.2⟩, ha, k1, by show qe q + 1 = _; omega, k3, k4, k5, by rw [hx_up_in _ _ _ (by omega), e2]; exact k6, fun j hj => ?_⟩
    show _ = nI (fup (qd q) (qe q) (zdg (b s)).toNat j)
    unfold fup
    by_cases c : j = n
    · rw [if_pos (by omega), c, hx_up_s, hv, zdg_d (by omega)]
      congr 1
      omega
    · rw [if_neg (by omega), hx_up_in _ _ _ (by omega), e2]
      exact k7 j (by omega)
  · exact Or.inr (PB_k h2 (hx_up_ne (by omega)))
theorem m143 {sc : Nat × (Nat → Int32)} {d : Nat} {D : Nat → Nat → Int32} {G : Nat → Nat → Int64} {len : Nat} {b : Nat → Nat} {k n : Nat} {r : Bool} (B : BM D len b) (hn : n = 0 ∨ n = 5) (h5 : n = 5 → r = true) (h : PE D len b k n r) : Cq sc (d + 3) 143 [.ref 79, .int (nI (1 + n))] D G (fun r' D2 => r' = .inl none ∧ eqP D D2 ∧ PE D2 len b k (n + 5) r) := by
  have L : ∀ m i D3, 4 - i = m → i ≤ 4 → eqP D D3 → PE D3 len b k (n + i) r → Rq sc (d + 3) 143 (2, [some (.ref 79), some (.int (nI (1 + n))), some (.int (nI i))], [], (hx_S0, D3, G), 0) G (fun r' D2 => r' = .inl none ∧ eqP D D2 ∧ PE D2 len b k (n + 5) r) := by
    intro m
    induction m using Nat.strongRecOn with
    | _ m ih =>
    intro i D3 hm hi hI hP
    refine Rq.b (fun _ => b143_2) (fun h2 => ?_) (fun h2 => ?_)
    · try simp (disch := omega) only [Int32.le_iff_toInt_le, Int32.lt_iff_toInt_lt, z_eq, z_nI, z_0, z_m1, z_sub, nI_add, nI_mulN, pk_sub, nI_clamp, Nat.reduceAdd, Nat.reduceMul, Nat.reduceSub, Nat.zero_add, Nat.add_zero] at h2
      all_goals (try (exfalso; omega))
      all_goals
        obtain ⟨_, D5, hC5, e5, v, rfl, h6⟩ := mdig (sc := sc) (d := d) (G := G) (k := k) (n := n + i) (hi := 57) (r := r) (hI.B B) (by omega) (fun z => h5 (by omega)) (by rw [if_pos (by omega)]) hP
        refine Rq.s (fun _ => b143_29 hC5) ?_
        try simp (disch := omega) only [nI_add, nI_mulN, pk_sub, nI_clamp, Nat.reduceAdd, Nat.reduceMul, Nat.reduceSub, Nat.zero_add, Nat.add_zero]
        refine Rq.e (b143_44 (by (try simp (disch := omega) only [nI_add, nI_mulN, pk_sub, nI_clamp, Nat.reduceAdd, Nat.reduceMul, Nat.reduceSub, Nat.zero_add, Nat.add_zero]); exact nI_inbT (by omega) (by omega))) ?_
        try simp (disch := omega) only [nI_add, nI_mulN, pk_sub, nI_clamp, Nat.reduceAdd, Nat.reduceMul, Nat.reduceSub, Nat.zero_add, Nat.add_zero]
        exact ⟨trivial, (hI.tr e5).u88, by rw [show 1 + n + 4 = 1 + (n + i) by omega, show n + 5 = n + i + 1 by omega]; exact h6⟩
    · try simp (disch := omega) only [Int32.le_iff_toInt_le, Int32.lt_iff_toInt_lt, z_eq, z_nI, z_0, z_m1, z_sub, nI_add, nI_mulN, pk_sub, nI_clamp, Nat.reduceAdd, Nat.reduceMul, Nat.reduceSub, Nat.zero_add, Nat.add_zero] at h2
      all_goals (try (exfalso; omega))
      all_goals
        obtain ⟨_, D5, hC5, e5, v, rfl, h6⟩ := mdig (sc := sc) (d := d) (G := G) (k := k) (n := n + i) (hi := 53) (r := r) (hI.B B) (by omega) (fun z => h5 (by omega)) (by rw [if_neg (by omega)]) hP
        refine Rq.s (fun _ => b143_7 hC5) ?_
        try simp (disch := omega) only [nI_add, nI_mulN, pk_sub, nI_clamp, Nat.reduceAdd, Nat.reduceMul, Nat.reduceSub, Nat.zero_add, Nat.add_zero]
        refine Rq.s (fun _ => b143_22 (by (try simp (disch := omega) only [nI_add, nI_mulN, pk_sub, nI_clamp, Nat.reduceAdd, Nat.reduceMul, Nat.reduceSub, Nat.zero_add, Nat.add_zero]); exact nI_inbT (by omega) (by omega))) ?_
        try simp (disch := omega) only [nI_add, nI_mulN, pk_sub, nI_clamp, Nat.reduceAdd, Nat.reduceMul, Nat.reduceSub, Nat.zero_add, Nat.add_zero]
        exact ih _ (by omega) (i + 1) _ rfl (by omega) ((hI.tr e5).u88) (by rw [show 1 + n + i = 1 + (n + i) by omega]; exact h6)
  refine Cq.c (fun _ _ _ => c143) ?_
  refine Rq.s (fun _ => b143_0) ?_
  try simp (disch := omega) only [nI_add, nI_mulN, pk_sub, nI_clamp, Nat.reduceAdd, Nat.reduceMul, Nat.reduceSub, Nat.zero_add, Nat.add_zero]
  exact L _ 0 D rfl (by omega) eqP.rf h
def qB (k : Nat) (dd : Nat → Nat) : RS := (k, 0, 0, 0, false, -1, [], dd)
/-- at the beginning of a piece -/
def PS (D : Nat → Nat → Int32) (len : Nat) (b : Nat → Nat) (k : Nat) : Prop := (∃ s dd, s ≤ len ∧ PF D s ∧ aSt b s = some (qB k dd)) ∨ PB D len b
/-- behind the width -/
def PWq (D : Nat → Nat → Int32) (len : Nat) (b : Nat → Nat) (k s : Nat) (q : RS) : Prop := qp q = 0 ∧ qe q = 0 ∧ qr q = false ∧ qb q = k ∧ qh q = [] ∧ 0 < qw q ∧ D 88 0 = nI (qw q) ∧ (s < len → b s ≠ 91 → aT q (b s) = none)
def PW (D : Nat → Nat → Int32) (len : Nat) (b : Nat → Nat) (k : Nat) : Prop := (∃ s q, s ≤ len ∧ PF D s ∧ aSt b s = some q ∧ PWq D len b k s q) ∨ PB D len b
theorem aT_w0 {q : RS} {c : Nat} (h : qp q = 0) : aT q c = aW q c := by
  unfold aT
  rw [if_pos h]
theorem aW_dig {q : RS} {c : Nat} (h0 : qp q = 0) (hc : 48 ≤ c ∧ c ≤ 57) (h1 : 1 ≤ qw q * 10 + (c - 48)) (h2 : qw q * 10 + (c - 48) ≤ 60) : aT q c = some (qb q, qp q, qw q * 10 + (c - 48), qe q, qr q, qx q, qh q, qd q) := by
  rw [aT_w0 h0]
  unfold aW
  rw [if_neg (by omega), zdg_d hc, if_neg (by omega), show ((qw q : Int) * 10 + ((c : Int) - 48)).toNat = qw q * 10 + (c - 48) by omega]
theorem aW_no {q : RS} {c : Nat} (h0 : qp q = 0) (h9 : c ≠ 91) (h : ¬ ((48 ≤ c ∧ c ≤ 57) ∧ 1 ≤ qw q * 10 + (c - 48) ∧ qw q * 10 + (c - 48) ≤ 60)) : aT q c = none := by
  rw [aT_w0 h0]
  unfold aW
  rw [if_neg h9, if_pos]
  by_cases hc : 48 ≤ c ∧ c ≤ 57
  · rw [zdg_d hc]
    omega
  · exact Or.inl (zdg_n hc)
theorem aW_91 {q : RS} (h0 : qp q = 0) : aT q 91 = if 0 < qw q then some (qb q, 1, qw q, qe q, qr q, qx q, qh q, qd q) else none := by
  rw [aT_w0 h0]
  unfold aW
  rw [if_pos rfl]
theorem mwid {sc : Nat × (Nat → Int32)} {d : Nat} {D : Nat → Nat → Int32} {G : Nat → Nat → Int64} {len : Nat} {b : Nat → Nat} {k : Nat} (B : BM D len b) (h : PS D len b k) : Cq sc (d + 2) 142 [.ref 79, .int (nI 1), .int (nI 60)] D G (fun r D2 => eqP D D2 ∧ ∃ z, r = .inl (some (.int z)) ∧ PW (hx_up D2 88 0 z) len b k) := by
  have b1 := B.2.1
  rcases h with ⟨s, dd, hs, hF, ha⟩ | ⟨e, he, hB, p0, p1⟩
  · obtain ⟨r, D2, hC, e1, e2, z, rfl, h3⟩ := m142 (sc := sc) (d := d) (G := G) (lo := 1) (hi := 60) B hF hs (by omega) (by omega)
    refine ⟨_, D2, hC, e1, z, rfl, ?_⟩
    have h0 : qp (qB k dd) = 0 := rfl
    have hw0 : qw (qB k dd) = 0 := rfl
    rcases h3 with ⟨v, rfl, v1, v2, hl, hd, h4⟩ | ⟨f1, f2, hno⟩ | ⟨f1, f2, hl, hd, hb, hr, hx⟩
    · have hd' : 48 ≤ b s ∧ b s ≤ 57 := hd
      rcases h4 with ⟨rfl, hF2, hx⟩ | ⟨h5, hl2, hd2, rfl, hF2⟩
      · have a1 : aSt b (s + 1) = some (k, 0, b s - 48, 0, false, -1, [], dd) := by
          rw [aSt_s ha, aW_dig h0 hd (by rw [hw0]; omega) (by rw [hw0]; omega), hw0, Nat.zero_mul, Nat.zero_add]
          rfl
        refine Or.inl ⟨s + 1, _, by omega, ⟨by rw [hx_up_ne (by omega)]; exact hF2.1, by rw [hx_up_ne (by omega)]; exact hF2.2⟩, a1, rfl, rfl, rfl, rfl, rfl, by show 0 < b s - 48; omega, hx_up_s _ _ _ _, fun hl2 h9 => aW_no rfl h9 (fun z => hx ⟨by omega, hl2, z.1, ?_, ?_⟩)⟩
        · have z2 : 1 ≤ (b s - 48) * 10 + (b (s + 1) - 48) := z.2.1
          omega
        · have z2 : (b s - 48) * 10 + (b (s + 1) - 48) ≤ 60 := z.2.2
          omega
      · have hd2' : 48 ≤ b (s + 1) ∧ b (s + 1) ≤ 57 := hd2
        have a1 : aSt b (s + 1) = some (k, 0, b s - 48, 0, false, -1, [], dd) := by
          rw [aSt_s ha, aW_dig h0 hd (by rw [hw0]; omega) (by rw [hw0]; omega), hw0, Nat.zero_mul, Nat.zero_add]
          rfl
        have a2 : aSt b (s + 2) = some (k, 0, 10 * (b s - 48) + (b (s + 1) - 48), 0, false, -1, [], dd) := by
          rw [aSt_s a1, aW_dig rfl hd2 (by show 1 ≤ (b s - 48) * 10 + (b (s + 1) - 48); omega) (by show (b s - 48) * 10 + (b (s + 1) - 48) ≤ 60; omega)]
          show some (k, 0, (b s - 48) * 10 + (b (s + 1) - 48), 0, false, (-1 : Int), ([] : List Nat), dd) = _
          rw [Nat.mul_comm]
        refine Or.inl ⟨s + 2, _, by omega, ⟨by rw [hx_up_ne (by omega)]; exact hF2.1, by rw [hx_up_ne (by omega)]; exact hF2.2⟩, a2, rfl, rfl, rfl, rfl, rfl, by show 0 < 10 * (b s - 48) + (b (s + 1) - 48); omega, hx_up_s _ _ _ _, fun hl2 h9 => aW_no rfl h9 (fun z => ?_)⟩
        have z2 : (10 * (b s - 48) + (b (s + 1) - 48)) * 10 + (b (s + 2) - 48) ≤ 60 := z.2.2
        omega
    · refine Or.inr ⟨s, hs, ?_, by rw [hx_up_ne (by omega)]; exact f1, by rw [hx_up_ne (by omega)]; exact f2⟩
      by_cases hl : s < len
      · refine Or.inl ⟨hl, _, ha, ?_⟩
        by_cases h91 : b s = 91
        · rw [h91, aW_91 h0, if_neg (by rw [hw0]; omega)]
        · refine aW_no h0 h91 (fun z => hno ⟨hl, z.1, Or.inl ?_⟩)
          rw [hw0] at z
          omega
      · exact Or.inr ⟨by omega, _, ha, wh1 (Or.inl rfl)⟩
    · exfalso
      rcases hb with hb | hb
      · exact hr hb
      · omega
  · obtain ⟨r, D2, hC, e1, e2, z, rfl, f1, f2⟩ := m142B (sc := sc) (d := d) (G := G) (x := nI 1) (y := nI 60) (show e < 100 by omega) p0 p1
    exact ⟨_, D2, hC, e1, z, rfl, Or.inr ⟨e, he, hB, by rw [hx_up_ne (by omega)]; exact f1, by rw [hx_up_ne (by omega)]; exact f2⟩⟩
/-- the signs -/
theorem msig {sc : Nat × (Nat → Int32)} {d : Nat} {D : Nat → Nat → Int32} {G : Nat → Nat → Int64} {len : Nat} {b : Nat → Nat} {x : Nat} {P : Nat → RS → Prop} {f : RS → RS} {R : (Nat → Nat → Int32) → Prop} (B : BM D len b) (hx : x < 200) (hq : ∀ s q, P s q → qwhole q = false ∧ (s < len → (b s = x → aT q (b s) = some (f q)) ∧ (b s ≠ x → aT q (b s) = none))) (h : (∃ s q, s ≤ len ∧ PF D s ∧ aSt b s = some q ∧ P s q) ∨ PB D len b) (hR : ∀ D2 s q, D2 88 = D 88 → s < len → P s q → PF D2 (s + 1) → aSt b (s + 1) = some (f q) → R D2) (hB : ∀ D2, PB D2 len b → R D2) : Cq sc (d + 2) 140 [.ref 79, .int (nI x), .int (nI x)] D G (fun r D2 => (∃ z, r = .inl (some (.int z))) ∧ eqP D D2 ∧ R D2) := by
  obtain ⟨r1, D2, hC, e1, e2, v, rfl, h2⟩ := m140 (sc := sc) (d := d) (G := G) (P := P) (f := fun q _ => f q) (lo := x) (hi := x) B (by omega) (by omega) (fun s q hP => ⟨(hq s q hP).1, fun hl => ⟨fun h => ((hq s q hP).2 hl).1 (by omega), fun h => ((hq s q hP).2 hl).2 (by omega)⟩⟩) h
  refine ⟨_, D2, hC, ⟨_, rfl⟩, e1, ?_⟩
  rcases h2 with ⟨s, q, hs, hF, hc, hP, ha, hv⟩ | h2
  · exact hR D2 s q e2 hs hP hF ha
  · exact hB D2 h2
theorem m91s {sc : Nat × (Nat → Int32)} {d : Nat} {D : Nat → Nat → Int32} {G : Nat → Nat → Int64} {len : Nat} {b : Nat → Nat} {k : Nat} (B : BM D len b) (h : PW D len b k) : Cq sc (d + 2) 140 [.ref 79, .int (nI 91), .int (nI 91)] D G (fun r D2 => (∃ z, r = .inl (some (.int z))) ∧ eqP D D2 ∧ PE D2 len b k 0 false) := by
  refine msig (P := PWq D len b k) (f := fun q => (qb q, 1, qw q, qe q, qr q, qx q, qh q, qd q)) B (by omega) (fun s q hP => ⟨wh1 (Or.inl hP.1), fun hl => ⟨fun h => ?_, fun h => hP.2.2.2.2.2.2.2 hl h⟩⟩) h (fun D2 s q e8 hs hP hF ha => Or.inl ⟨s + 1, _, by omega, hF, ha, rfl, hP.2.1, hP.2.2.1, hP.2.2.2.1, hP.2.2.2.2.1, by rw [e8]; exact hP.2.2.2.2.2.2.1, fun j hj => absurd hj (Nat.not_lt_zero _)⟩) (fun D2 h => Or.inr h)
  rw [h, aW_91 hP.1, if_pos hP.2.2.2.2.2.1]
theorem aE_t {q : RS} {c : Nat} (h : qp q = 1) : aT q c = aE q c := by
  unfold aT
  rw [if_neg (by omega), if_pos h]
theorem m124s {sc : Nat × (Nat → Int32)} {d : Nat} {D : Nat → Nat → Int32} {G : Nat → Nat → Int64} {len : Nat} {b : Nat → Nat} {k : Nat} (B : BM D len b) (h : PE D len b k 5 false) : Cq sc (d + 2) 140 [.ref 79, .int (nI 124), .int (nI 124)] D G (fun r D2 => (∃ z, r = .inl (some (.int z))) ∧ eqP D D2 ∧ PE D2 len b k 5 true) := by
  refine msig (P := fun _ q => PQ D k 5 false q) (f := fun q => (qb q, qp q, qw q, qe q, true, qx q, qh q, qd q)) B (by omega) (fun s q hP => ⟨wh1 (Or.inr hP.1), fun hl => ?_⟩) h (fun D2 s q e8 hs hP hF ha => Or.inl ⟨s + 1, _, by omega, hF, ha, hP.1, hP.2.1, rfl, hP.2.2.2.1, hP.2.2.2.2.1, by rw [e8]; exact hP.2.2.2.2.2.1, fun j hj => by rw [e8]; exact hP.2.2.2.2.2.2 j hj⟩) (fun D2 h => Or.inr h)
  rw [aE_t hP.1]
  unfold aE
  rw [if_pos ⟨hP.2.1, hP.2.2.1⟩]
  exact ⟨fun h => if_pos h, fun h => if_neg h⟩
/-- behind the edges, and each hole -/
def PHq (D : Nat → Nat → Int32) (len : Nat) (b : Nat → Nat) (k s : Nat) (q : RS) : Prop := qb q = k ∧ qwhole q = true ∧ D 88 0 = nI (qw q) ∧ (∀ j, j < 10 → D 88 (1 + j) = nI (qd q j)) ∧ (s < len → b s ≠ 59 → b s ≠ 46 → aT q (b s) = none)
theorem m93s {sc : Nat × (Nat → Int32)} {d : Nat} {D : Nat → Nat → Int32} {G : Nat → Nat → Int64} {len : Nat} {b : Nat → Nat} {k : Nat} (B : BM D len b) (h : PE D len b k 10 true) : Cq sc (d + 2) 140 [.ref 79, .int (nI 93), .int (nI 93)] D G (fun r D2 => (∃ z, r = .inl (some (.int z))) ∧ eqP D D2 ∧ ((∃ s q, s ≤ len ∧ PF D2 s ∧ aSt b s = some q ∧ qp q = 2 ∧ qh q = [] ∧ PHq D2 len b k s q) ∨ PB D2 len b)) := by
  refine msig (P := fun _ q => PQ D k 10 true q) (f := fun q => (qb q, 2, qw q, qe q, qr q, qx q, qh q, qd q)) B (by omega) (fun s q hP => ⟨wh1 (Or.inr hP.1), fun hl => ?_⟩) h (fun D2 s q e8 hs hP hF ha => Or.inl ⟨s + 1, _, by omega, hF, ha, rfl, hP.2.2.2.2.1, hP.2.2.2.1, rfl, by rw [e8]; exact hP.2.2.2.2.2.1, fun j hj => by rw [e8]; exact hP.2.2.2.2.2.2 j hj, fun hl h59 h46 => ?_⟩) (fun D2 h => Or.inr h)
  · rw [aE_t hP.1]
    unfold aE
    rw [if_neg (fun z => by rw [hP.2.2.1] at z; cases z.2), if_pos (Nat.le_of_eq hP.2.1.symm)]
    exact ⟨fun h => if_pos h, fun h => if_neg h⟩
  · show aN _ _ = none
    unfold aN
    rw [if_neg h59, if_neg (fun z => h46 z.1)]
