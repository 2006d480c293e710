/-! ===== the reference reads a text ===== -/
def BM (D : Nat → Nat → Int32) (len : Nat) (b : Nat → Nat) : Prop := D 79 8 = nI len ∧ len ≤ 60 ∧ (∀ i, i < len → D 84 i = nI (b i)) ∧ ∀ i, i < len → b i < 200
/-- only the spot, the error's mark, the piece read have changed -/
def eqP (D D2 : Nat → Nat → Int32) : Prop := (∀ a, a ≠ 79 → a ≠ 88 → D2 a = D a) ∧ ∀ j, j ≠ 13 → j ≠ 14 → D2 79 j = D 79 j
theorem eqP.rf {D : Nat → Nat → Int32} : eqP D D := ⟨fun _ _ _ => rfl, fun _ _ _ => rfl⟩
theorem eqP.tr {D D2 D3 : Nat → Nat → Int32} (h : eqP D D2) (h2 : eqP D2 D3) : eqP D D3 := ⟨fun a a1 a2 => by rw [h2.1 a a1 a2, h.1 a a1 a2], fun j j1 j2 => by rw [h2.2 j j1 j2, h.2 j j1 j2]⟩
theorem eqP.u79 {D D2 : Nat → Nat → Int32} (h : eqP D D2) {k : Nat} {x : Int32} (hk : k = 13 ∨ k = 14) : eqP D (hx_up D2 79 k x) := ⟨fun a a1 a2 => by rw [hx_up_ne (by omega)]; exact h.1 a a1 a2, fun j j1 j2 => by rw [hx_up_in _ _ _ (by omega)]; exact h.2 j j1 j2⟩
theorem eqP.u88 {D D2 : Nat → Nat → Int32} (h : eqP D D2) {k : Nat} {x : Int32} : eqP D (hx_up D2 88 k x) := ⟨fun a a1 a2 => by rw [hx_up_ne (by omega)]; exact h.1 a a1 a2, fun j j1 j2 => by rw [hx_up_ne (by omega)]; exact h.2 j j1 j2⟩
theorem eqP.B {D D2 : Nat → Nat → Int32} {len : Nat} {b : Nat → Nat} (h : eqP D D2) (B : BM D len b) : BM D2 len b := ⟨by rw [h.2 8 (by omega) (by omega)]; exact B.1, B.2.1, fun i hi => by rw [h.1 84 (by omega) (by omega)]; exact B.2.2.1 i hi, B.2.2.2⟩
def PF (D : Nat → Nat → Int32) (s : Nat) : Prop := D 79 13 = nI s ∧ D 79 14 = nI 0
/-- reading stops there -/
def Bad (b : Nat → Nat) (len e : Nat) : Prop := (e < len ∧ ∃ q, aSt b e = some q ∧ aT q (b e) = none) ∨ (e = len ∧ ∃ q, aSt b e = some q ∧ qwhole q = false)
def PB (D : Nat → Nat → Int32) (len : Nat) (b : Nat → Nat) : Prop := ∃ e, e ≤ len ∧ Bad b len e ∧ D 79 13 = nI e ∧ D 79 14 = nI 1
theorem m139F {sc : Nat × (Nat → Int32)} {d : Nat} {D : Nat → Nat → Int32} {G : Nat → Nat → Int64} {len : Nat} {b : Nat → Nat} {s lo hi : Nat} (B : BM D len b) (h : PF D s) (hs : s < len) (h1 : lo < 200) (h2 : hi < 200) : Cl sc (d + 1) 139 [.ref 79, .int (nI lo), .int (nI hi)] (hx_S0, D, G) (.inl (some (.int (nI (if lo ≤ b s ∧ b s ≤ hi then 1 else 0))))) (hx_S0, D, G) := by
  obtain ⟨b0, b1, b2, b3⟩ := B
  obtain ⟨p0, p1⟩ := h
  have b2s := b2 s hs
  have b3s := b3 s hs
  have h102 := m102 (sc := sc) (d := d) (D := D) (G := G) (z_nI (n := b s) (by omega)) (z_nI (n := lo) (by omega)) (z_nI (n := hi) (by omega)) (P := lo ≤ b s ∧ b s ≤ hi) (by omega)
  refine Cq.p ?_
  by_cases c : lo ≤ b s ∧ b s ≤ hi
  · rw [if_pos c] at h102 ⊢
    refine Cq.c (fun _ _ _ => c139) ?_
    refine Rq.bf (fun _ => b139_0) (by rw [p1]; exact fun z => z rfl) ?_
    refine Rq.bf (fun _ => b139_7) (by rw [p0, b0]; simp (disch := omega) only [Int32.le_iff_toInt_le, z_nI]; omega) ?_
    refine Rq.s (fun _ => b139_18 (by (try simp (disch := omega) only [nI_add, nI_mulN, pk_sub, nI_clamp, Nat.reduceAdd, Nat.reduceMul, Nat.reduceSub, Nat.zero_add, Nat.add_zero, p0, p1, b0, b2s]); exact nI_inbT (by omega) (by omega)) (by (try simp (disch := omega) only [nI_add, nI_mulN, pk_sub, nI_clamp, Nat.reduceAdd, Nat.reduceMul, Nat.reduceSub, Nat.zero_add, Nat.add_zero, p0, p1, b0, b2s]); exact h102)) ?_
    refine Rq.bf (fun _ => b139_32) (by decide) ?_
    refine Rq.s (fun _ => b139_35) ?_
    try simp (disch := omega) only [nI_add, nI_mulN, pk_sub, nI_clamp, Nat.reduceAdd, Nat.reduceMul, Nat.reduceSub, Nat.zero_add, Nat.add_zero, p0, p1, b0, b2s]
    refine Rq.e (b139_40b (by first | exact Or.inl rfl | exact Or.inr rfl | (split <;> first | exact Or.inl rfl | exact Or.inr rfl))) ?_
    exact Qp.i rfl
  · rw [if_neg c] at h102 ⊢
    refine Cq.c (fun _ _ _ => c139) ?_
    refine Rq.bf (fun _ => b139_0) (by rw [p1]; exact fun z => z rfl) ?_
    refine Rq.bf (fun _ => b139_7) (by rw [p0, b0]; simp (disch := omega) only [Int32.le_iff_toInt_le, z_nI]; omega) ?_
    refine Rq.s (fun _ => b139_18 (by (try simp (disch := omega) only [nI_add, nI_mulN, pk_sub, nI_clamp, Nat.reduceAdd, Nat.reduceMul, Nat.reduceSub, Nat.zero_add, Nat.add_zero, p0, p1, b0, b2s]); exact nI_inbT (by omega) (by omega)) (by (try simp (disch := omega) only [nI_add, nI_mulN, pk_sub, nI_clamp, Nat.reduceAdd, Nat.reduceMul, Nat.reduceSub, Nat.zero_add, Nat.add_zero, p0, p1, b0, b2s]); exact h102)) ?_
    refine Rq.bt (fun _ => b139_32) (rfl) ?_
    refine Rq.s (fun _ => b139_39) ?_
    try simp (disch := omega) only [nI_add, nI_mulN, pk_sub, nI_clamp, Nat.reduceAdd, Nat.reduceMul, Nat.reduceSub, Nat.zero_add, Nat.add_zero, p0, p1, b0, b2s]
    refine Rq.e (b139_40 (by first | exact Or.inl rfl | exact Or.inr rfl | (split <;> first | exact Or.inl rfl | exact Or.inr rfl))) ?_
    exact Qp.i rfl
theorem m139E {sc : Nat × (Nat → Int32)} {d : Nat} {D : Nat → Nat → Int32} {G : Nat → Nat → Int64} {len : Nat} {b : Nat → Nat} {lo hi : Nat} (B : BM D len b) (h : PF D len) : Cl sc (d + 1) 139 [.ref 79, .int (nI lo), .int (nI hi)] (hx_S0, D, G) (.inl (some (.int (nI 0)))) (hx_S0, D, G) := by
  obtain ⟨b0, b1, b2, b3⟩ := B
  obtain ⟨p0, p1⟩ := h
  refine Cq.p ?_
  refine Cq.c (fun _ _ _ => c139) ?_
  refine Rq.bf (fun _ => b139_0) (by rw [p1]; exact fun z => z rfl) ?_
  refine Rq.bt (fun _ => b139_7) (by rw [p0, b0]; simp (disch := omega) only [Int32.le_iff_toInt_le, z_nI]; omega) ?_
  refine Rq.s (fun _ => b139_39) ?_
  try simp (disch := omega) only [nI_add, nI_mulN, pk_sub, nI_clamp, Nat.reduceAdd, Nat.reduceMul, Nat.reduceSub, Nat.zero_add, Nat.add_zero, p0, p1, b0]
  refine Rq.e (b139_40 (by first | exact Or.inl rfl | exact Or.inr rfl | (split <;> first | exact Or.inl rfl | exact Or.inr rfl))) ?_
  exact Qp.i rfl
theorem m139B {sc : Nat × (Nat → Int32)} {d : Nat} {D : Nat → Nat → Int32} {G : Nat → Nat → Int64} {x y : Int32} (p1 : D 79 14 = nI 1) : Cl sc (d + 1) 139 [.ref 79, .int x, .int y] (hx_S0, D, G) (.inl (some (.int (nI 0)))) (hx_S0, D, G) := by
  refine Cq.p ?_
  refine Cq.c (fun _ _ _ => c139) ?_
  refine Rq.bt (fun _ => b139_0) (by rw [p1]; decide) ?_
  refine Rq.s (fun _ => b139_39) ?_
  try simp (disch := omega) only [nI_add, nI_mulN, pk_sub, nI_clamp, Nat.reduceAdd, Nat.reduceMul, Nat.reduceSub, Nat.zero_add, Nat.add_zero]
  refine Rq.e (b139_40 (by first | exact Or.inl rfl | exact Or.inr rfl | (split <;> first | exact Or.inl rfl | exact Or.inr rfl))) ?_
  exact Qp.i rfl
theorem m140T {sc : Nat × (Nat → Int32)} {d : Nat} {D : Nat → Nat → Int32} {G : Nat → Nat → Int64} {len : Nat} {b : Nat → Nat} {s lo hi : Nat} (B : BM D len b) (h : PF D s) (hs : s < len) (h1 : lo < 200) (h2 : hi < 200) (c : lo ≤ b s ∧ b s ≤ hi) : Cq sc (d + 2) 140 [.ref 79, .int (nI lo), .int (nI hi)] D G (fun r D2 => r = .inl (some (.int (nI (b s - lo)))) ∧ D2 = hx_up (hx_up D 79 13 (nI (s + 1))) 79 14 (nI 0)) := by
  have h139 := m139F (sc := sc) (d := d) (G := G) B h hs h1 h2
  rw [if_pos c] at h139
  obtain ⟨b0, b1, b2, b3⟩ := B
  obtain ⟨p0, p1⟩ := h
  have b2s := b2 s hs
  have b3s := b3 s hs
  have w14 : hx_up D 79 13 (nI (s + 1)) 79 14 = nI 0 := by rw [hx_up_in _ _ _ (by omega)]; exact p1
  refine Cq.c (fun _ _ _ => c140) ?_
  refine Rq.s (fun _ => b140_0 (by (try simp (disch := omega) only [nI_add, nI_mulN, pk_sub, nI_clamp, Nat.reduceAdd, Nat.reduceMul, Nat.reduceSub, Nat.zero_add, Nat.add_zero, p0, b2s, w14]); exact h139)) ?_
  refine Rq.bf (fun _ => b140_6) (by decide) ?_
  refine Rq.s (fun _ => b140_11 (by (try simp (disch := omega) only [nI_add, nI_mulN, pk_sub, nI_clamp, Nat.reduceAdd, Nat.reduceMul, Nat.reduceSub, Nat.zero_add, Nat.add_zero, p0, b2s, w14]); exact nI_inbT (by omega) (by omega))) ?_
  try simp (disch := omega) only [nI_add, nI_mulN, pk_sub, nI_clamp, Nat.reduceAdd, Nat.reduceMul, Nat.reduceSub, Nat.zero_add, Nat.add_zero, p0, b2s, w14]
  refine Rq.bf (fun _ => b140_26b) (by decide) ?_
  try simp (disch := omega) only [nI_add, nI_mulN, pk_sub, nI_clamp, Nat.reduceAdd, Nat.reduceMul, Nat.reduceSub, Nat.zero_add, Nat.add_zero, p0, b2s, w14]
  refine Rq.s (fun _ => b140_37) ?_
  try simp (disch := omega) only [nI_add, nI_mulN, pk_sub, nI_clamp, Nat.reduceAdd, Nat.reduceMul, Nat.reduceSub, Nat.zero_add, Nat.add_zero, p0, b2s, w14]
  refine Rq.bf (fun _ => b140_42) (by rw [p1]; exact fun z => z rfl) ?_
  try simp (disch := omega) only [nI_add, nI_mulN, pk_sub, nI_clamp, Nat.reduceAdd, Nat.reduceMul, Nat.reduceSub, Nat.zero_add, Nat.add_zero, p0, b2s, w14]
  refine Rq.bt (fun _ => b140_54) (by decide) ?_
  refine Rq.s (fun _ => b140_62) ?_
  try simp (disch := omega) only [nI_add, nI_mulN, pk_sub, nI_clamp, Nat.reduceAdd, Nat.reduceMul, Nat.reduceSub, Nat.zero_add, Nat.add_zero, p0, b2s, w14]
  refine Rq.e (b140_63b (by decide)) ?_
  exact ⟨rfl, rfl⟩
theorem m140N {sc : Nat × (Nat → Int32)} {d : Nat} {D : Nat → Nat → Int32} {G : Nat → Nat → Int64} {len : Nat} {b : Nat → Nat} {s lo hi : Nat} (B : BM D len b) (h : PF D s) (hs : s ≤ len) (h1 : lo < 200) (h2 : hi < 200) (c : ¬ (s < len ∧ lo ≤ b s ∧ b s ≤ hi)) : Cq sc (d + 2) 140 [.ref 79, .int (nI lo), .int (nI hi)] D G (fun r D2 => r = .inl (some (.int (nI 0))) ∧ D2 = hx_up (hx_up D 79 13 (nI s)) 79 14 (nI 1)) := by
  have h139 : Cl sc (d + 1) 139 [.ref 79, .int (nI lo), .int (nI hi)] (hx_S0, D, G) (.inl (some (.int (nI 0)))) (hx_S0, D, G) := by
    by_cases hl : s < len
    · have h139 := m139F (sc := sc) (d := d) (G := G) B h hl h1 h2
      rw [if_neg (fun z => c ⟨hl, z⟩)] at h139
      exact h139
    · rw [show s = len by omega] at h
      exact m139E B h
  obtain ⟨b0, b1, b2, b3⟩ := B
  obtain ⟨p0, p1⟩ := h
  have w14 : hx_up D 79 13 (nI s) 79 14 = nI 0 := by rw [hx_up_in _ _ _ (by omega)]; exact p1
  refine Cq.c (fun _ _ _ => c140) ?_
  refine Rq.s (fun _ => b140_0 (by (try simp (disch := omega) only [nI_add, nI_mulN, pk_sub, nI_clamp, Nat.reduceAdd, Nat.reduceMul, Nat.reduceSub, Nat.zero_add, Nat.add_zero, p0, w14]); exact h139)) ?_
  refine Rq.bt (fun _ => b140_6) (rfl) ?_
  refine Rq.s (fun _ => b140_25) ?_
  try simp (disch := omega) only [nI_add, nI_mulN, pk_sub, nI_clamp, Nat.reduceAdd, Nat.reduceMul, Nat.reduceSub, Nat.zero_add, Nat.add_zero, p0, w14]
  refine Rq.bt (fun _ => b140_26) (rfl) ?_
  try simp (disch := omega) only [nI_add, nI_mulN, pk_sub, nI_clamp, Nat.reduceAdd, Nat.reduceMul, Nat.reduceSub, Nat.zero_add, Nat.add_zero, p0, w14]
  refine Rq.s (fun _ => b140_41) ?_
  try simp (disch := omega) only [nI_add, nI_mulN, pk_sub, nI_clamp, Nat.reduceAdd, Nat.reduceMul, Nat.reduceSub, Nat.zero_add, Nat.add_zero, p0, w14]
  refine Rq.bf (fun _ => b140_42) (by rw [p1]; exact fun z => z rfl) ?_
  try simp (disch := omega) only [nI_add, nI_mulN, pk_sub, nI_clamp, Nat.reduceAdd, Nat.reduceMul, Nat.reduceSub, Nat.zero_add, Nat.add_zero, p0, w14]
  refine Rq.bf (fun _ => b140_54) (fun z => z rfl) ?_
  refine Rq.s (fun _ => b140_58) ?_
  try simp (disch := omega) only [nI_add, nI_mulN, pk_sub, nI_clamp, Nat.reduceAdd, Nat.reduceMul, Nat.reduceSub, Nat.zero_add, Nat.add_zero, p0, w14]
  refine Rq.e (b140_63 (by decide)) ?_
  exact ⟨rfl, rfl⟩
theorem m140B {sc : Nat × (Nat → Int32)} {d : Nat} {D : Nat → Nat → Int32} {G : Nat → Nat → Int64} {e : Nat} {x y : Int32} (he : e < 100) (p0 : D 79 13 = nI e) (p1 : D 79 14 = nI 1) : Cq sc (d + 2) 140 [.ref 79, .int x, .int y] D G (fun r D2 => r = .inl (some (.int (nI 0))) ∧ D2 = hx_up (hx_up D 79 13 (nI e)) 79 14 (nI 1)) := by
  have w14 : hx_up D 79 13 (nI e) 79 14 = nI 1 := by rw [hx_up_in _ _ _ (by omega)]; exact p1
  refine Cq.c (fun _ _ _ => c140) ?_
  refine Rq.s (fun _ => b140_0 (by (try simp (disch := omega) only [nI_add, nI_mulN, pk_sub, nI_clamp, Nat.reduceAdd, Nat.reduceMul, Nat.reduceSub, Nat.zero_add, Nat.add_zero, p0, w14]); exact m139B p1)) ?_
  refine Rq.bt (fun _ => b140_6) (rfl) ?_
  refine Rq.s (fun _ => b140_25) ?_
  try simp (disch := omega) only [nI_add, nI_mulN, pk_sub, nI_clamp, Nat.reduceAdd, Nat.reduceMul, Nat.reduceSub, Nat.zero_add, Nat.add_zero, p0, w14]
  refine Rq.bt (fun _ => b140_26) (rfl) ?_
  try simp (disch := omega) only [nI_add, nI_mulN, pk_sub, nI_clamp, Nat.reduceAdd, Nat.reduceMul, Nat.reduceSub, Nat.zero_add, Nat.add_zero, p0, w14]
  refine Rq.s (fun _ => b140_41) ?_
  try simp (disch := omega) only [nI_add, nI_mulN, pk_sub, nI_clamp, Nat.reduceAdd, Nat.reduceMul, Nat.reduceSub, Nat.zero_add, Nat.add_zero, p0, w14]
  refine Rq.bt (fun _ => b140_42) (by rw [p1]; decide) ?_
  try simp (disch := omega) only [nI_add, nI_mulN, pk_sub, nI_clamp, Nat.reduceAdd, Nat.reduceMul, Nat.reduceSub, Nat.zero_add, Nat.add_zero, p0, w14]
  refine Rq.s (fun _ => b140_58) ?_
  try simp (disch := omega) only [nI_add, nI_mulN, pk_sub, nI_clamp, Nat.reduceAdd, Nat.reduceMul, Nat.reduceSub, Nat.zero_add, Nat.add_zero, p0, w14]
  refine Rq.e (b140_63 (by decide)) ?_
  exact ⟨rfl, rfl⟩
theorem PB_up {D : Nat → Nat → Int32} {len e : Nat} {b : Nat → Nat} (he : e ≤ len) (h : Bad b len e) : PB (hx_up (hx_up D 79 13 (nI e)) 79 14 (nI 1)) len b := ⟨e, he, h, by rw [hx_up_in _ _ _ (by omega), hx_up_s], hx_up_s _ _ _ _⟩
theorem PF_up {D : Nat → Nat → Int32} {s : Nat} : PF (hx_up (hx_up D 79 13 (nI s)) 79 14 (nI 0)) s := ⟨by rw [hx_up_in _ _ _ (by omega), hx_up_s], hx_up_s _ _ _ _⟩
theorem PB_k {D D2 : Nat → Nat → Int32} {len : Nat} {b : Nat → Nat} (h : PB D len b) (e : D2 79 = D 79) : PB D2 len b := by
  obtain ⟨x, h1, h2, h3, h4⟩ := h
  exact ⟨x, h1, h2, by rw [e]; exact h3, by rw [e]; exact h4⟩
/-- takes: in a state q that takes just what is asked -/
theorem m140 {sc : Nat × (Nat → Int32)} {d : Nat} {D : Nat → Nat → Int32} {G : Nat → Nat → Int64} {len : Nat} {b : Nat → Nat} {lo hi : Nat} {P : Nat → RS → Prop} {f : RS → Nat → RS} (B : BM D len b) (h1 : lo < 200) (h2 : hi < 200) (hq : ∀ s q, P s q → qwhole q = false ∧ (s < len → (lo ≤ b s ∧ b s ≤ hi → aT q (b s) = some (f q (b s))) ∧ (¬ (lo ≤ b s ∧ b s ≤ hi) → aT q (b s) = none))) (h : (∃ s q, s ≤ len ∧ PF D s ∧ aSt b s = some q ∧ P s q) ∨ PB D len b) : Cq sc (d + 2) 140 [.ref 79, .int (nI lo), .int (nI hi)] D G (fun r D2 => eqP D D2 ∧ D2 88 = D 88 ∧ ∃ v, r = .inl (some (.int (nI v))) ∧ ((∃ s q, s < len ∧ PF D2 (s + 1) ∧ (lo ≤ b s ∧ b s ≤ hi) ∧ P s q ∧ aSt b (s + 1) = some (f q (b s)) ∧ v = b s - lo) ∨ PB D2 len b)) := by
  have b1 := B.2.1
  rcases h with ⟨s, q, hs, hF, ha, hP⟩ | ⟨e, he, hB, p0, p1⟩
  · obtain ⟨q1, q23⟩ := hq s q hP
    by_cases c : s < len ∧ lo ≤ b s ∧ b s ≤ hi
    · obtain ⟨r, D2, hC, rfl, rfl⟩ := m140T (sc := sc) (d := d) (G := G) B hF c.1 h1 h2 c.2
      exact ⟨_, _, hC, (eqP.rf.u79 (Or.inl rfl)).u79 (Or.inr rfl), by rw [hx_up_ne (by omega), hx_up_ne (by omega)], _, rfl, Or.inl ⟨s, q, c.1, PF_up, c.2, hP, by rw [aSt_s ha]; exact (q23 c.1).1 c.2, rfl⟩⟩
    · obtain ⟨r, D2, hC, rfl, rfl⟩ := m140N (sc := sc) (d := d) (G := G) B hF hs h1 h2 c
      refine ⟨_, _, hC, (eqP.rf.u79 (Or.inl rfl)).u79 (Or.inr rfl), by rw [hx_up_ne (by omega), hx_up_ne (by omega)], _, rfl, Or.inr (PB_up hs ?_)⟩
      by_cases hl : s < len
      · exact Or.inl ⟨hl, q, ha, (q23 hl).2 (fun z => c ⟨hl, z⟩)⟩
      · exact Or.inr ⟨by omega, q, ha, q1⟩
  · obtain ⟨r, D2, hC, rfl, rfl⟩ := m140B (sc := sc) (d := d) (G := G) (x := nI lo) (y := nI hi) (e := e) (by omega) p0 p1
    exact ⟨_, _, hC, (eqP.rf.u79 (Or.inl rfl)).u79 (Or.inr rfl), by rw [hx_up_ne (by omega), hx_up_ne (by omega)], _, rfl, Or.inr (PB_up he hB)⟩
abbrev BG (lo hi v : Nat) : Prop := (lo ≤ v ∧ v ≤ hi) ∨ (0 < v ∧ 10 * v ≤ hi ∧ lo ≤ 10 * v + 9)
abbrev DG (c : Nat) : Prop := 48 ≤ c ∧ c ≤ 57
theorem m141 {sc : Nat × (Nat → Int32)} {d : Nat} {D : Nat → Nat → Int32} {G : Nat → Nat → Int64} {lo hi v : Nat} (h1 : lo < 100) (h2 : hi < 100) (h3 : v < 10) : Cl sc (d + 1) 141 [.int (nI v), .int (nI lo), .int (nI hi)] (hx_S0, D, G) (.inl (some (.int (nI (if BG lo hi v then 1 else 0))))) (hx_S0, D, G) := by
  have h102 := m102 (sc := sc) (d := d) (D := D) (G := G) (z_nI (n := v) (by omega)) (z_nI (n := lo) (by omega)) (z_nI (n := hi) (by omega)) (P := lo ≤ v ∧ v ≤ hi) (by omega)
  refine Cq.p ?_
  by_cases c : lo ≤ v ∧ v ≤ hi
  · rw [if_pos c] at h102
    rw [if_pos (Or.inl c)]
    refine Cq.c (fun _ _ _ => c141) ?_
    refine Rq.s (fun _ => b141_0 (by (try simp (disch := omega) only [nI_add, nI_mulN, pk_sub, nI_clamp, Nat.reduceAdd, Nat.reduceMul, Nat.reduceSub, Nat.zero_add, Nat.add_zero]); exact h102)) ?_
    refine Rq.bt (fun _ => b141_6) (by decide) ?_
    refine Rq.s (fun _ => b141_32) ?_
    try simp (disch := omega) only [nI_add, nI_mulN, pk_sub, nI_clamp, Nat.reduceAdd, Nat.reduceMul, Nat.reduceSub, Nat.zero_add, Nat.add_zero]
    refine Rq.e (b141_37 (by first | exact Or.inl rfl | exact Or.inr rfl | (split <;> first | exact Or.inl rfl | exact Or.inr rfl))) ?_
    exact Qp.i rfl
  · rw [if_neg c] at h102
    by_cases c2 : 0 < v ∧ 10 * v ≤ hi ∧ lo ≤ 10 * v + 9
    · rw [if_pos (Or.inr c2)]
      refine Cq.c (fun _ _ _ => c141) ?_
      refine Rq.s (fun _ => b141_0 (by (try simp (disch := omega) only [nI_add, nI_mulN, pk_sub, nI_clamp, Nat.reduceAdd, Nat.reduceMul, Nat.reduceSub, Nat.zero_add, Nat.add_zero]); exact h102)) ?_
      refine Rq.bf (fun _ => b141_6) (fun z => z rfl) ?_
      refine Rq.b (fun _ => b141_9) (fun h9 => ?_) (fun h9 => ?_)
      · try simp (disch := omega) only [Int32.le_iff_toInt_le, Int32.lt_iff_toInt_lt, z_eq, z_nI, z_0, z_m1, z_sub, nI_add, nI_mulN, pk_sub, nI_clamp, Nat.reduceAdd, Nat.reduceMul, Nat.reduceSub, Nat.zero_add, Nat.add_zero] at h9
        all_goals (try (exfalso; omega))
        all_goals
          refine Rq.s (fun _ => b141_36) ?_
          try simp (disch := omega) only [nI_add, nI_mulN, pk_sub, nI_clamp, Nat.reduceAdd, Nat.reduceMul, Nat.reduceSub, Nat.zero_add, Nat.add_zero]
          refine Rq.e (b141_37b (by first | exact Or.inl rfl | exact Or.inr rfl | (split <;> first | exact Or.inl rfl | exact Or.inr rfl))) ?_
          exfalso; omega
      · try simp (disch := omega) only [Int32.le_iff_toInt_le, Int32.lt_iff_toInt_lt, z_eq, z_nI, z_0, z_m1, z_sub, nI_add, nI_mulN, pk_sub, nI_clamp, Nat.reduceAdd, Nat.reduceMul, Nat.reduceSub, Nat.zero_add, Nat.add_zero] at h9
        all_goals (try (exfalso; omega))
        all_goals
          refine Rq.b (fun _ => b141_13) (fun h13 => ?_) (fun h13 => ?_)
          · try simp (disch := omega) only [Int32.le_iff_toInt_le, Int32.lt_iff_toInt_lt, z_eq, z_nI, z_0, z_m1, z_sub, nI_add, nI_mulN, pk_sub, nI_clamp, Nat.reduceAdd, Nat.reduceMul, Nat.reduceSub, Nat.zero_add, Nat.add_zero] at h13
            all_goals (try (exfalso; omega))
            all_goals
              refine Rq.s (fun _ => b141_36) ?_
              try simp (disch := omega) only [nI_add, nI_mulN, pk_sub, nI_clamp, Nat.reduceAdd, Nat.reduceMul, Nat.reduceSub, Nat.zero_add, Nat.add_zero]
              refine Rq.e (b141_37b (by first | exact Or.inl rfl | exact Or.inr rfl | (split <;> first | exact Or.inl rfl | exact Or.inr rfl))) ?_
              exfalso; omega
          · try simp (disch := omega) only [Int32.le_iff_toInt_le, Int32.lt_iff_toInt_lt, z_eq, z_nI, z_0, z_m1, z_sub, nI_add, nI_mulN, pk_sub, nI_clamp, Nat.reduceAdd, Nat.reduceMul, Nat.reduceSub, Nat.zero_add, Nat.add_zero] at h13
            all_goals (try (exfalso; omega))
            all_goals
              refine Rq.b (fun _ => b141_21) (fun h21 => ?_) (fun h21 => ?_)
              · try simp (disch := omega) only [Int32.le_iff_toInt_le, Int32.lt_iff_toInt_lt, z_eq, z_nI, z_0, z_m1, z_sub, nI_add, nI_mulN, pk_sub, nI_clamp, Nat.reduceAdd, Nat.reduceMul, Nat.reduceSub, Nat.zero_add, Nat.add_zero] at h21
                all_goals (try (exfalso; omega))
                all_goals
                  refine Rq.s (fun _ => b141_36) ?_
                  try simp (disch := omega) only [nI_add, nI_mulN, pk_sub, nI_clamp, Nat.reduceAdd, Nat.reduceMul, Nat.reduceSub, Nat.zero_add, Nat.add_zero]
                  refine Rq.e (b141_37b (by first | exact Or.inl rfl | exact Or.inr rfl | (split <;> first | exact Or.inl rfl | exact Or.inr rfl))) ?_
                  exfalso; omega
              · try simp (disch := omega) only [Int32.le_iff_toInt_le, Int32.lt_iff_toInt_lt, z_eq, z_nI, z_0, z_m1, z_sub, nI_add, nI_mulN, pk_sub, nI_clamp, Nat.reduceAdd, Nat.reduceMul, Nat.reduceSub, Nat.zero_add, Nat.add_zero] at h21
                all_goals (try (exfalso; omega))
                all_goals
                  refine Rq.s (fun _ => b141_32) ?_
                  try simp (disch := omega) only [nI_add, nI_mulN, pk_sub, nI_clamp, Nat.reduceAdd, Nat.reduceMul, Nat.reduceSub, Nat.zero_add, Nat.add_zero]
                  refine Rq.e (b141_37 (by first | exact Or.inl rfl | exact Or.inr rfl | (split <;> first | exact Or.inl rfl | exact Or.inr rfl))) ?_
                  exact Qp.i rfl
    · rw [if_neg (fun z => by
        rcases z with z | z
        · exact c z
        · exact c2 z)]
      refine Cq.c (fun _ _ _ => c141) ?_
      refine Rq.s (fun _ => b141_0 (by (try simp (disch := omega) only [nI_add, nI_mulN, pk_sub, nI_clamp, Nat.reduceAdd, Nat.reduceMul, Nat.reduceSub, Nat.zero_add, Nat.add_zero]); exact h102)) ?_
      refine Rq.bf (fun _ => b141_6) (fun z => z rfl) ?_
      refine Rq.b (fun _ => b141_9) (fun h9 => ?_) (fun h9 => ?_)
      · try simp (disch := omega) only [Int32.le_iff_toInt_le, Int32.lt_iff_toInt_lt, z_eq, z_nI, z_0, z_m1, z_sub, nI_add, nI_mulN, pk_sub, nI_clamp, Nat.reduceAdd, Nat.reduceMul, Nat.reduceSub, Nat.zero_add, Nat.add_zero] at h9
        all_goals (try (exfalso; omega))
        all_goals
          refine Rq.s (fun _ => b141_36) ?_
          try simp (disch := omega) only [nI_add, nI_mulN, pk_sub, nI_clamp, Nat.reduceAdd, Nat.reduceMul, Nat.reduceSub, Nat.zero_add, Nat.add_zero]
          refine Rq.e (b141_37b (by first | exact Or.inl rfl | exact Or.inr rfl | (split <;> first | exact Or.inl rfl | exact Or.inr rfl))) ?_
          exact Qp.i rfl
      · try simp (disch := omega) only [Int32.le_iff_toInt_le, Int32.lt_iff_toInt_lt, z_eq, z_nI, z_0, z_m1, z_sub, nI_add, nI_mulN, pk_sub, nI_clamp, Nat.reduceAdd, Nat.reduceMul, Nat.reduceSub, Nat.zero_add, Nat.add_zero] at h9
        all_goals (try (exfalso; omega))
        all_goals
          refine Rq.b (fun _ => b141_13) (fun h13 => ?_) (fun h13 => ?_)
          · try simp (disch := omega) only [Int32.le_iff_toInt_le, Int32.lt_iff_toInt_lt, z_eq, z_nI, z_0, z_m1, z_sub, nI_add, nI_mulN, pk_sub, nI_clamp, Nat.reduceAdd, Nat.reduceMul, Nat.reduceSub, Nat.zero_add, Nat.add_zero] at h13
            all_goals (try (exfalso; omega))
            all_goals
              refine Rq.s (fun _ => b141_36) ?_
              try simp (disch := omega) only [nI_add, nI_mulN, pk_sub, nI_clamp, Nat.reduceAdd, Nat.reduceMul, Nat.reduceSub, Nat.zero_add, Nat.add_zero]
              refine Rq.e (b141_37b (by first | exact Or.inl rfl | exact Or.inr rfl | (split <;> first | exact Or.inl rfl | exact Or.inr rfl))) ?_
              exact Qp.i rfl
          · try simp (disch := omega) only [Int32.le_iff_toInt_le, Int32.lt_iff_toInt_lt, z_eq, z_nI, z_0, z_m1, z_sub, nI_add, nI_mulN, pk_sub, nI_clamp, Nat.reduceAdd, Nat.reduceMul, Nat.reduceSub, Nat.zero_add, Nat.add_zero] at h13
            all_goals (try (exfalso; omega))
            all_goals
              refine Rq.b (fun _ => b141_21) (fun h21 => ?_) (fun h21 => ?_)
              · try simp (disch := omega) only [Int32.le_iff_toInt_le, Int32.lt_iff_toInt_lt, z_eq, z_nI, z_0, z_m1, z_sub, nI_add, nI_mulN, pk_sub, nI_clamp, Nat.reduceAdd, Nat.reduceMul, Nat.reduceSub, Nat.zero_add, Nat.add_zero] at h21
                all_goals (try (exfalso; omega))
                all_goals
                  refine Rq.s (fun _ => b141_36) ?_
                  try simp (disch := omega) only [nI_add, nI_mulN, pk_sub, nI_clamp, Nat.reduceAdd, Nat.reduceMul, Nat.reduceSub, Nat.zero_add, Nat.add_zero]
                  refine Rq.e (b141_37b (by first | exact Or.inl rfl | exact Or.inr rfl | (split <;> first | exact Or.inl rfl | exact Or.inr rfl))) ?_
                  exact Qp.i rfl
              · try simp (disch := omega) only [Int32.le_iff_toInt_le, Int32.lt_iff_toInt_lt, z_eq, z_nI, z_0, z_m1, z_sub, nI_add, nI_mulN, pk_sub, nI_clamp, Nat.reduceAdd, Nat.reduceMul, Nat.reduceSub, Nat.zero_add, Nat.add_zero] at h21
                all_goals (try (exfalso; omega))
                all_goals
                  refine Rq.s (fun _ => b141_32) ?_
                  try simp (disch := omega) only [nI_add, nI_mulN, pk_sub, nI_clamp, Nat.reduceAdd, Nat.reduceMul, Nat.reduceSub, Nat.zero_add, Nat.add_zero]
                  refine Rq.e (b141_37 (by first | exact Or.inl rfl | exact Or.inr rfl | (split <;> first | exact Or.inl rfl | exact Or.inr rfl))) ?_
                  exfalso; omega
theorem m142 {sc : Nat × (Nat → Int32)} {d : Nat} {D : Nat → Nat → Int32} {G : Nat → Nat → Int64} {len : Nat} {b : Nat → Nat} {s lo hi : Nat} (B : BM D len b) (h : PF D s) (hs : s ≤ len) (h1 : lo < 100) (h2 : hi < 100) : Cq sc (d + 2) 142 [.ref 79, .int (nI lo), .int (nI hi)] D G (fun r D2 => eqP D D2 ∧ D2 88 = D 88 ∧ ∃ z, r = .inl (some (.int z)) ∧ ((∃ v, z = nI v ∧ lo ≤ v ∧ v ≤ hi ∧ s < len ∧ DG (b s) ∧ ((v = b s - 48 ∧ PF D2 (s + 1) ∧ ¬ (0 < v ∧ s + 1 < len ∧ DG (b (s + 1)) ∧ lo ≤ 10 * v + (b (s + 1) - 48) ∧ 10 * v + (b (s + 1) - 48) ≤ hi)) ∨ (0 < b s - 48 ∧ s + 1 < len ∧ DG (b (s + 1)) ∧ v = 10 * (b s - 48) + (b (s + 1) - 48) ∧ PF D2 (s + 2)))) ∨ (D2 79 13 = nI s ∧ D2 79 14 = nI 1 ∧ ¬ (s < len ∧ DG (b s) ∧ BG lo hi (b s - 48))) ∨ (D2 79 13 = nI (s + 1) ∧ D2 79 14 = nI 1 ∧ s < len ∧ DG (b s) ∧ BG lo hi (b s - 48) ∧ ¬ (lo ≤ b s - 48 ∧ b s - 48 ≤ hi) ∧ ¬ (0 < b s - 48 ∧ s + 1 < len ∧ DG (b (s + 1)) ∧ lo ≤ 10 * (b s - 48) + (b (s + 1) - 48) ∧ 10 * (b s - 48) + (b (s + 1) - 48) ≤ hi)))) := by
  have p0 := h.1
  have p1 := h.2
  have b1 := B.2.1
  by_cases hd0 : s < len ∧ DG (b s)
  · obtain ⟨hl, hd⟩ := hd0
    have hd' : 48 ≤ b s ∧ b s ≤ 57 := hd
    have b2s := B.2.2.1 s hl
    have h139 := m139F (sc := sc) (d := d) (G := G) (lo := 48) (hi := 57) B h hl (by omega) (by omega)
    rw [if_pos hd] at h139
    have h141 := m141 (sc := sc) (d := d) (D := D) (G := G) (v := b s - 48) h1 h2 (by omega)
    by_cases hb : BG lo hi (b s - 48)
    · rw [if_pos hb] at h141
      have hb' := hb
      have E1 : eqP D (hx_up (hx_up D 79 14 (nI 0)) 79 13 (nI (s + 1))) := (eqP.rf.u79 (Or.inr rfl)).u79 (Or.inl rfl)
      have F1 : PF (hx_up (hx_up D 79 14 (nI 0)) 79 13 (nI (s + 1))) (s + 1) := ⟨(by simp (disch := omega) only [hx_up_s, hx_up_in]), (by simp (disch := omega) only [hx_up_s, hx_up_in])⟩
      have B1 := E1.B B
      have hr102 := m102 (sc := sc) (d := d + 1) (D := hx_up (hx_up D 79 14 (nI 0)) 79 13 (nI (s + 1))) (G := G) (z_nI (n := b s - 48) (by omega)) (z_nI (n := lo) (by omega)) (z_nI (n := hi) (by omega)) (P := lo ≤ b s - 48 ∧ b s - 48 ≤ hi) (by omega)
      by_cases hx : 0 < b s - 48 ∧ s + 1 < len ∧ DG (b (s + 1)) ∧ lo ≤ 10 * (b s - 48) + (b (s + 1) - 48) ∧ 10 * (b s - 48) + (b (s + 1) - 48) ≤ hi
      · have h139b := m139F (sc := sc) (d := d) (G := G) (lo := 48) (hi := 57) B1 F1 hx.2.1 (by omega) (by omega)
        rw [if_pos hx.2.2.1] at h139b
        have b2t := B.2.2.1 (s + 1) hx.2.1
        have hd2 : 48 ≤ b (s + 1) ∧ b (s + 1) ≤ 57 := hx.2.2.1
        have hx102 : ∀ D3, Cl sc (d + 1) 102 [.int (nI (10 * (b s - 48) + b (s + 1) - 48)), .int (nI lo), .int (nI hi)] (hx_S0, D3, G) (.inl (some (.int (nI 1)))) (hx_S0, D3, G) := fun D3 => by
          have := m102 (sc := sc) (d := d + 1) (D := D3) (G := G) (z_nI (n := 10 * (b s - 48) + b (s + 1) - 48) (by omega)) (z_nI (n := lo) (by omega)) (z_nI (n := hi) (by omega)) (P := lo ≤ 10 * (b s - 48) + b (s + 1) - 48 ∧ 10 * (b s - 48) + b (s + 1) - 48 ≤ hi) (by omega)
          rw [if_pos (by omega)] at this
          exact this
        have ex : 10 * (b s - 48) + b (s + 1) - 48 = 10 * (b s - 48) + (b (s + 1) - 48) := by omega
        refine Cq.c (fun _ _ _ => c142) ?_
        refine Rq.s (fun _ => b142_0 (by (try simp (disch := omega) only [nI_add, nI_mulN, pk_sub, nI_clamp, Nat.reduceAdd, Nat.reduceMul, Nat.reduceSub, Nat.zero_add, Nat.add_zero, hx_up_s, hx_up_in, hx_up_ne, p0, b2s, b2t]); exact h139)) ?_
        refine Rq.bf (fun _ => b142_8) (by decide) ?_
        refine Rq.s (fun _ => b142_11 (by (try simp (disch := omega) only [nI_add, nI_mulN, pk_sub, nI_clamp, Nat.reduceAdd, Nat.reduceMul, Nat.reduceSub, Nat.zero_add, Nat.add_zero, hx_up_s, hx_up_in, hx_up_ne, p0, b2s, b2t]); exact nI_inbT (by omega) (by omega))) ?_
        try simp (disch := omega) only [nI_add, nI_mulN, pk_sub, nI_clamp, Nat.reduceAdd, Nat.reduceMul, Nat.reduceSub, Nat.zero_add, Nat.add_zero, hx_up_s, hx_up_in, hx_up_ne, p0, b2s, b2t]
        refine Rq.bf (fun _ => b142_27) (by first | (rw [p1]; exact fun z => z rfl) | (simp (disch := omega) only [hx_up_s, hx_up_in, p1]; exact fun z => z rfl)) ?_
        refine Rq.bf (fun _ => b142_36) (by simp (disch := omega) only [z_eq, z_nI, z_m1, Int32.le_iff_toInt_le, z_0]; omega) ?_
        refine Rq.s (fun _ => b142_41 (by (try simp (disch := omega) only [nI_add, nI_mulN, pk_sub, nI_clamp, Nat.reduceAdd, Nat.reduceMul, Nat.reduceSub, Nat.zero_add, Nat.add_zero, hx_up_s, hx_up_in, hx_up_ne, p0, b2s, b2t]); exact h141)) ?_
        refine Rq.bt (fun _ => b142_47) (by decide) ?_
        refine Rq.s (fun _ => b142_54) ?_
        try simp (disch := omega) only [nI_add, nI_mulN, pk_sub, nI_clamp, Nat.reduceAdd, Nat.reduceMul, Nat.reduceSub, Nat.zero_add, Nat.add_zero, hx_up_s, hx_up_in, hx_up_ne, p0, b2s, b2t]
        refine Rq.b (fun _ => b142_55 (by decide)) (fun h55 => ?_) (fun h55 => ?_)
        · try simp (disch := omega) only [Int32.le_iff_toInt_le, Int32.lt_iff_toInt_lt, z_eq, z_nI, z_0, z_m1, z_sub, nI_add, nI_mulN, pk_sub, nI_clamp, Nat.reduceAdd, Nat.reduceMul, Nat.reduceSub, Nat.zero_add, Nat.add_zero, hx_up_s, hx_up_in, hx_up_ne, p0, b2s, b2t] at h55
          all_goals (try (exfalso; omega))
          all_goals (try simp (disch := omega) only [nI_add, nI_mulN, pk_sub, nI_clamp, Nat.reduceAdd, Nat.reduceMul, Nat.reduceSub, Nat.zero_add, Nat.add_zero, hx_up_s, hx_up_in, hx_up_ne, p0, b2s, b2t])
          all_goals
            refine Rq.s (fun _ => b142_74) ?_
            try simp (disch := omega) only [nI_add, nI_mulN, pk_sub, nI_clamp, Nat.reduceAdd, Nat.reduceMul, Nat.reduceSub, Nat.zero_add, Nat.add_zero, hx_up_s, hx_up_in, hx_up_ne, p0, b2s, b2t]
            refine Rq.bf (fun _ => b142_75) (by simp (disch := omega) only [z_eq, z_nI, z_m1, Int32.le_iff_toInt_le, z_0]; omega) ?_
            try simp (disch := omega) only [nI_add, nI_mulN, pk_sub, nI_clamp, Nat.reduceAdd, Nat.reduceMul, Nat.reduceSub, Nat.zero_add, Nat.add_zero, hx_up_s, hx_up_in, hx_up_ne, p0, b2s, b2t]
            refine Rq.s (fun _ => b142_83 (by (try simp (disch := omega) only [nI_add, nI_mulN, pk_sub, nI_clamp, Nat.reduceAdd, Nat.reduceMul, Nat.reduceSub, Nat.zero_add, Nat.add_zero, hx_up_s, hx_up_in, hx_up_ne, p0, b2s, b2t]); exact h139b)) ?_
            refine Rq.bf (fun _ => b142_91) (by decide) ?_
            refine Rq.s (fun _ => b142_94 (by (try simp (disch := omega) only [nI_add, nI_mulN, pk_sub, nI_clamp, Nat.reduceAdd, Nat.reduceMul, Nat.reduceSub, Nat.zero_add, Nat.add_zero, hx_up_s, hx_up_in, hx_up_ne, p0, b2s, b2t]); exact nI_inbT (by omega) (by omega)) (by (try simp (disch := omega) only [nI_add, nI_mulN, pk_sub, nI_clamp, Nat.reduceAdd, Nat.reduceMul, Nat.reduceSub, Nat.zero_add, Nat.add_zero, hx_up_s, hx_up_in, hx_up_ne, p0, b2s, b2t]); exact hx102 _)) ?_
            refine Rq.bf (fun _ => b142_116) (by decide) ?_
            refine Rq.s (fun _ => b142_119 (by (try simp (disch := omega) only [nI_add, nI_mulN, pk_sub, nI_clamp, Nat.reduceAdd, Nat.reduceMul, Nat.reduceSub, Nat.zero_add, Nat.add_zero, hx_up_s, hx_up_in, hx_up_ne, p0, b2s, b2t]); exact nI_inbT (by omega) (by omega))) ?_
            try simp (disch := omega) only [nI_add, nI_mulN, pk_sub, nI_clamp, Nat.reduceAdd, Nat.reduceMul, Nat.reduceSub, Nat.zero_add, Nat.add_zero, hx_up_s, hx_up_in, hx_up_ne, p0, b2s, b2t]
            refine Rq.s (fun _ => b142_137) ?_
            try simp (disch := omega) only [nI_add, nI_mulN, pk_sub, nI_clamp, Nat.reduceAdd, Nat.reduceMul, Nat.reduceSub, Nat.zero_add, Nat.add_zero, hx_up_s, hx_up_in, hx_up_ne, p0, b2s, b2t]
            refine Rq.bf (fun _ => b142_147) (by first | (rw [p1]; exact fun z => z rfl) | (simp (disch := omega) only [hx_up_s, hx_up_in, p1]; exact fun z => z rfl)) ?_
            refine Rq.s (fun _ => b142_155 (by (try simp (disch := omega) only [nI_add, nI_mulN, pk_sub, nI_clamp, Nat.reduceAdd, Nat.reduceMul, Nat.reduceSub, Nat.zero_add, Nat.add_zero, hx_up_s, hx_up_in, hx_up_ne, p0, b2s, b2t]); exact hx102 _)) ?_
            refine Rq.bt (fun _ => b142_161) (by decide) ?_
            refine Rq.s (fun _ => b142_168) ?_
            try simp (disch := omega) only [nI_add, nI_mulN, pk_sub, nI_clamp, Nat.reduceAdd, Nat.reduceMul, Nat.reduceSub, Nat.zero_add, Nat.add_zero, hx_up_s, hx_up_in, hx_up_ne, p0, b2s, b2t]
            refine Rq.e (b142_169b (by decide)) ?_
            try simp (disch := omega) only [nI_add, nI_mulN, pk_sub, nI_clamp, Nat.reduceAdd, Nat.reduceMul, Nat.reduceSub, Nat.zero_add, Nat.add_zero, hx_up_s, hx_up_in, hx_up_ne, p0, b2s, b2t]
            rw [ex]
            exact ⟨(by repeat (first | exact eqP.rf | refine eqP.u79 ?_ (by omega))), (by simp (disch := omega) only [hx_up_ne]), _, rfl, Or.inl ⟨10 * (b s - 48) + (b (s + 1) - 48), rfl, hx.2.2.2.1, hx.2.2.2.2, hl, hd, Or.inr ⟨hx.1, hx.2.1, hx.2.2.1, rfl, ⟨(by simp (disch := omega) only [hx_up_s, hx_up_in]), (by simp (disch := omega) only [hx_up_s, hx_up_in])⟩⟩⟩⟩
        · try simp (disch := omega) only [Int32.le_iff_toInt_le, Int32.lt_iff_toInt_lt, z_eq, z_nI, z_0, z_m1, z_sub, nI_add, nI_mulN, pk_sub, nI_clamp, Nat.reduceAdd, Nat.reduceMul, Nat.reduceSub, Nat.zero_add, Nat.add_zero, hx_up_s, hx_up_in, hx_up_ne, p0, b2s, b2t] at h55
          all_goals (try (exfalso; omega))
          all_goals (try simp (disch := omega) only [nI_add, nI_mulN, pk_sub, nI_clamp, Nat.reduceAdd, Nat.reduceMul, Nat.reduceSub, Nat.zero_add, Nat.add_zero, hx_up_s, hx_up_in, hx_up_ne, p0, b2s, b2t])
          all_goals
            refine Rq.s (fun _ => b142_70) ?_
            try simp (disch := omega) only [nI_add, nI_mulN, pk_sub, nI_clamp, Nat.reduceAdd, Nat.reduceMul, Nat.reduceSub, Nat.zero_add, Nat.add_zero, hx_up_s, hx_up_in, hx_up_ne, p0, b2s, b2t]
            refine Rq.bf (fun _ => b142_75) (by simp (disch := omega) only [z_eq, z_nI, z_m1, Int32.le_iff_toInt_le, z_0]; omega) ?_
            try simp (disch := omega) only [nI_add, nI_mulN, pk_sub, nI_clamp, Nat.reduceAdd, Nat.reduceMul, Nat.reduceSub, Nat.zero_add, Nat.add_zero, hx_up_s, hx_up_in, hx_up_ne, p0, b2s, b2t]
            refine Rq.s (fun _ => b142_83 (by (try simp (disch := omega) only [nI_add, nI_mulN, pk_sub, nI_clamp, Nat.reduceAdd, Nat.reduceMul, Nat.reduceSub, Nat.zero_add, Nat.add_zero, hx_up_s, hx_up_in, hx_up_ne, p0, b2s, b2t]); exact h139b)) ?_
            refine Rq.bf (fun _ => b142_91) (by decide) ?_
            refine Rq.s (fun _ => b142_94 (by (try simp (disch := omega) only [nI_add, nI_mulN, pk_sub, nI_clamp, Nat.reduceAdd, Nat.reduceMul, Nat.reduceSub, Nat.zero_add, Nat.add_zero, hx_up_s, hx_up_in, hx_up_ne, p0, b2s, b2t]); exact nI_inbT (by omega) (by omega)) (by (try simp (disch := omega) only [nI_add, nI_mulN, pk_sub, nI_clamp, Nat.reduceAdd, Nat.reduceMul, Nat.reduceSub, Nat.zero_add, Nat.add_zero, hx_up_s, hx_up_in, hx_up_ne, p0, b2s, b2t]); exact hx102 _)) ?_
            refine Rq.bf (fun _ => b142_116) (by decide) ?_
            refine Rq.s (fun _ => b142_119 (by (try simp (disch := omega) only [nI_add, nI_mulN, pk_sub, nI_clamp, Nat.reduceAdd, Nat.reduceMul, Nat.reduceSub, Nat.zero_add, Nat.add_zero, hx_up_s, hx_up_in, hx_up_ne, p0, b2s, b2t]); exact nI_inbT (by omega) (by omega))) ?_
            try simp (disch := omega) only [nI_add, nI_mulN, pk_sub, nI_clamp, Nat.reduceAdd, Nat.reduceMul, Nat.reduceSub, Nat.zero_add, Nat.add_zero, hx_up_s, hx_up_in, hx_up_ne, p0, b2s, b2t]
            refine Rq.s (fun _ => b142_137) ?_
            try simp (disch := omega) only [nI_add, nI_mulN, pk_sub, nI_clamp, Nat.reduceAdd, Nat.reduceMul, Nat.reduceSub, Nat.zero_add, Nat.add_zero, hx_up_s, hx_up_in, hx_up_ne, p0, b2s, b2t]
            refine Rq.bf (fun _ => b142_147) (by first | (rw [p1]; exact fun z => z rfl) | (simp (disch := omega) only [hx_up_s, hx_up_in, p1]; exact fun z => z rfl)) ?_
            refine Rq.s (fun _ => b142_155 (by (try simp (disch := omega) only [nI_add, nI_mulN, pk_sub, nI_clamp, Nat.reduceAdd, Nat.reduceMul, Nat.reduceSub, Nat.zero_add, Nat.add_zero, hx_up_s, hx_up_in, hx_up_ne, p0, b2s, b2t]); exact hx102 _)) ?_
            refine Rq.bt (fun _ => b142_161) (by decide) ?_
            refine Rq.s (fun _ => b142_168) ?_
            try simp (disch := omega) only [nI_add, nI_mulN, pk_sub, nI_clamp, Nat.reduceAdd, Nat.reduceMul, Nat.reduceSub, Nat.zero_add, Nat.add_zero, hx_up_s, hx_up_in, hx_up_ne, p0, b2s, b2t]
            refine Rq.e (b142_169b (by decide)) ?_
            try simp (disch := omega) only [nI_add, nI_mulN, pk_sub, nI_clamp, Nat.reduceAdd, Nat.reduceMul, Nat.reduceSub, Nat.zero_add, Nat.add_zero, hx_up_s, hx_up_in, hx_up_ne, p0, b2s, b2t]
            rw [ex]
            exact ⟨(by repeat (first | exact eqP.rf | refine eqP.u79 ?_ (by omega))), (by simp (disch := omega) only [hx_up_ne]), _, rfl, Or.inl ⟨10 * (b s - 48) + (b (s + 1) - 48), rfl, hx.2.2.2.1, hx.2.2.2.2, hl, hd, Or.inr ⟨hx.1, hx.2.1, hx.2.2.1, rfl, ⟨(by simp (disch := omega) only [hx_up_s, hx_up_in]), (by simp (disch := omega) only [hx_up_s, hx_up_in])⟩⟩⟩⟩
      · by_cases hr : lo ≤ b s - 48 ∧ b s - 48 ≤ hi
        · rw [if_pos hr] at hr102
          by_cases h0 : b s - 48 = 0
          · have h0' : nI (b s - 48) ≤ 0 := by rw [h0]; decide
            refine Cq.c (fun _ _ _ => c142) ?_
            refine Rq.s (fun _ => b142_0 (by (try simp (disch := omega) only [nI_add, nI_mulN, pk_sub, nI_clamp, Nat.reduceAdd, Nat.reduceMul, Nat.reduceSub, Nat.zero_add, Nat.add_zero, hx_up_s, hx_up_in, hx_up_ne, p0, b2s]); exact h139)) ?_
            refine Rq.bf (fun _ => b142_8) (by decide) ?_
            refine Rq.s (fun _ => b142_11 (by (try simp (disch := omega) only [nI_add, nI_mulN, pk_sub, nI_clamp, Nat.reduceAdd, Nat.reduceMul, Nat.reduceSub, Nat.zero_add, Nat.add_zero, hx_up_s, hx_up_in, hx_up_ne, p0, b2s]); exact nI_inbT (by omega) (by omega))) ?_
            try simp (disch := omega) only [nI_add, nI_mulN, pk_sub, nI_clamp, Nat.reduceAdd, Nat.reduceMul, Nat.reduceSub, Nat.zero_add, Nat.add_zero, hx_up_s, hx_up_in, hx_up_ne, p0, b2s]
            refine Rq.bf (fun _ => b142_27) (by first | (rw [p1]; exact fun z => z rfl) | (simp (disch := omega) only [hx_up_s, hx_up_in, p1]; exact fun z => z rfl)) ?_
            refine Rq.bf (fun _ => b142_36) (by simp (disch := omega) only [z_eq, z_nI, z_m1, Int32.le_iff_toInt_le, z_0]; omega) ?_
            refine Rq.s (fun _ => b142_41 (by (try simp (disch := omega) only [nI_add, nI_mulN, pk_sub, nI_clamp, Nat.reduceAdd, Nat.reduceMul, Nat.reduceSub, Nat.zero_add, Nat.add_zero, hx_up_s, hx_up_in, hx_up_ne, p0, b2s]); exact h141)) ?_
            refine Rq.bt (fun _ => b142_47) (by decide) ?_
            refine Rq.s (fun _ => b142_54) ?_
            try simp (disch := omega) only [nI_add, nI_mulN, pk_sub, nI_clamp, Nat.reduceAdd, Nat.reduceMul, Nat.reduceSub, Nat.zero_add, Nat.add_zero, hx_up_s, hx_up_in, hx_up_ne, p0, b2s]
            refine Rq.b (fun _ => b142_55 (by decide)) (fun h55 => ?_) (fun h55 => ?_)
            · try simp (disch := omega) only [Int32.le_iff_toInt_le, Int32.lt_iff_toInt_lt, z_eq, z_nI, z_0, z_m1, z_sub, nI_add, nI_mulN, pk_sub, nI_clamp, Nat.reduceAdd, Nat.reduceMul, Nat.reduceSub, Nat.zero_add, Nat.add_zero, hx_up_s, hx_up_in, hx_up_ne, p0, b2s] at h55
              all_goals (try (exfalso; omega))
              all_goals (try simp (disch := omega) only [nI_add, nI_mulN, pk_sub, nI_clamp, Nat.reduceAdd, Nat.reduceMul, Nat.reduceSub, Nat.zero_add, Nat.add_zero, hx_up_s, hx_up_in, hx_up_ne, p0, b2s])
              all_goals
                refine Rq.s (fun _ => b142_74) ?_
                try simp (disch := omega) only [nI_add, nI_mulN, pk_sub, nI_clamp, Nat.reduceAdd, Nat.reduceMul, Nat.reduceSub, Nat.zero_add, Nat.add_zero, hx_up_s, hx_up_in, hx_up_ne, p0, b2s]
                refine Rq.bt (fun _ => b142_75) (h0') ?_
                try simp (disch := omega) only [nI_add, nI_mulN, pk_sub, nI_clamp, Nat.reduceAdd, Nat.reduceMul, Nat.reduceSub, Nat.zero_add, Nat.add_zero, hx_up_s, hx_up_in, hx_up_ne, p0, b2s]
                refine Rq.bf (fun _ => b142_147) (by first | (rw [p1]; exact fun z => z rfl) | (simp (disch := omega) only [hx_up_s, hx_up_in, p1]; exact fun z => z rfl)) ?_
                refine Rq.s (fun _ => b142_155 (by (try simp (disch := omega) only [nI_add, nI_mulN, pk_sub, nI_clamp, Nat.reduceAdd, Nat.reduceMul, Nat.reduceSub, Nat.zero_add, Nat.add_zero, hx_up_s, hx_up_in, hx_up_ne, p0, b2s]); exact hr102)) ?_
                refine Rq.bt (fun _ => b142_161) (by decide) ?_
                refine Rq.s (fun _ => b142_168) ?_
                try simp (disch := omega) only [nI_add, nI_mulN, pk_sub, nI_clamp, Nat.reduceAdd, Nat.reduceMul, Nat.reduceSub, Nat.zero_add, Nat.add_zero, hx_up_s, hx_up_in, hx_up_ne, p0, b2s]
                refine Rq.e (b142_169b (by decide)) ?_
                exact ⟨(by repeat (first | exact eqP.rf | refine eqP.u79 ?_ (by omega))), (by simp (disch := omega) only [hx_up_ne]), _, rfl, Or.inl ⟨b s - 48, rfl, hr.1, hr.2, hl, hd, Or.inl ⟨rfl, ⟨(by simp (disch := omega) only [hx_up_s, hx_up_in]), (by simp (disch := omega) only [hx_up_s, hx_up_in])⟩, hx⟩⟩⟩
            · try simp (disch := omega) only [Int32.le_iff_toInt_le, Int32.lt_iff_toInt_lt, z_eq, z_nI, z_0, z_m1, z_sub, nI_add, nI_mulN, pk_sub, nI_clamp, Nat.reduceAdd, Nat.reduceMul, Nat.reduceSub, Nat.zero_add, Nat.add_zero, hx_up_s, hx_up_in, hx_up_ne, p0, b2s] at h55
              all_goals (try (exfalso; omega))
              all_goals (try simp (disch := omega) only [nI_add, nI_mulN, pk_sub, nI_clamp, Nat.reduceAdd, Nat.reduceMul, Nat.reduceSub, Nat.zero_add, Nat.add_zero, hx_up_s, hx_up_in, hx_up_ne, p0, b2s])
              all_goals
                refine Rq.s (fun _ => b142_70) ?_
                try simp (disch := omega) only [nI_add, nI_mulN, pk_sub, nI_clamp, Nat.reduceAdd, Nat.reduceMul, Nat.reduceSub, Nat.zero_add, Nat.add_zero, hx_up_s, hx_up_in, hx_up_ne, p0, b2s]
                refine Rq.bt (fun _ => b142_75) (h0') ?_
                try simp (disch := omega) only [nI_add, nI_mulN, pk_sub, nI_clamp, Nat.reduceAdd, Nat.reduceMul, Nat.reduceSub, Nat.zero_add, Nat.add_zero, hx_up_s, hx_up_in, hx_up_ne, p0, b2s]
                refine Rq.bf (fun _ => b142_147) (by first | (rw [p1]; exact fun z => z rfl) | (simp (disch := omega) only [hx_up_s, hx_up_in, p1]; exact fun z => z rfl)) ?_
                refine Rq.s (fun _ => b142_155 (by (try simp (disch := omega) only [nI_add, nI_mulN, pk_sub, nI_clamp, Nat.reduceAdd, Nat.reduceMul, Nat.reduceSub, Nat.zero_add, Nat.add_zero, hx_up_s, hx_up_in, hx_up_ne, p0, b2s]); exact hr102)) ?_
                refine Rq.bt (fun _ => b142_161) (by decide) ?_
                refine Rq.s (fun _ => b142_168) ?_
                try simp (disch := omega) only [nI_add, nI_mulN, pk_sub, nI_clamp, Nat.reduceAdd, Nat.reduceMul, Nat.reduceSub, Nat.zero_add, Nat.add_zero, hx_up_s, hx_up_in, hx_up_ne, p0, b2s]
                refine Rq.e (b142_169b (by decide)) ?_
                exact ⟨(by repeat (first | exact eqP.rf | refine eqP.u79 ?_ (by omega))), (by simp (disch := omega) only [hx_up_ne]), _, rfl, Or.inl ⟨b s - 48, rfl, hr.1, hr.2, hl, hd, Or.inl ⟨rfl, ⟨(by simp (disch := omega) only [hx_up_s, hx_up_in]), (by simp (disch := omega) only [hx_up_s, hx_up_in])⟩, hx⟩⟩⟩
          · have h0' : ¬ nI (b s - 48) ≤ 0 := by simp (disch := omega) only [z_eq, z_nI, z_m1, Int32.le_iff_toInt_le, z_0]; omega
            by_cases hc : s + 1 < len ∧ DG (b (s + 1))
            · have h139b := m139F (sc := sc) (d := d) (G := G) (lo := 48) (hi := 57) B1 F1 hc.1 (by omega) (by omega)
              rw [if_pos hc.2] at h139b
              have b2t := B.2.2.1 (s + 1) hc.1
              have hd2 : 48 ≤ b (s + 1) ∧ b (s + 1) ≤ 57 := hc.2
              have hx102 : ∀ D3, Cl sc (d + 1) 102 [.int (nI (10 * (b s - 48) + b (s + 1) - 48)), .int (nI lo), .int (nI hi)] (hx_S0, D3, G) (.inl (some (.int (nI 0)))) (hx_S0, D3, G) := fun D3 => by
                have h9 := m102 (sc := sc) (d := d + 1) (D := D3) (G := G) (z_nI (n := 10 * (b s - 48) + b (s + 1) - 48) (by omega)) (z_nI (n := lo) (by omega)) (z_nI (n := hi) (by omega)) (P := lo ≤ 10 * (b s - 48) + b (s + 1) - 48 ∧ 10 * (b s - 48) + b (s + 1) - 48 ≤ hi) (by omega)
                rw [if_neg (fun z => hx ⟨by omega, hc.1, hc.2, by omega, by omega⟩)] at h9
                exact h9
              refine Cq.c (fun _ _ _ => c142) ?_
              refine Rq.s (fun _ => b142_0 (by (try simp (disch := omega) only [nI_add, nI_mulN, pk_sub, nI_clamp, Nat.reduceAdd, Nat.reduceMul, Nat.reduceSub, Nat.zero_add, Nat.add_zero, hx_up_s, hx_up_in, hx_up_ne, p0, b2s, b2t]); exact h139)) ?_
              refine Rq.bf (fun _ => b142_8) (by decide) ?_
              refine Rq.s (fun _ => b142_11 (by (try simp (disch := omega) only [nI_add, nI_mulN, pk_sub, nI_clamp, Nat.reduceAdd, Nat.reduceMul, Nat.reduceSub, Nat.zero_add, Nat.add_zero, hx_up_s, hx_up_in, hx_up_ne, p0, b2s, b2t]); exact nI_inbT (by omega) (by omega))) ?_
              try simp (disch := omega) only [nI_add, nI_mulN, pk_sub, nI_clamp, Nat.reduceAdd, Nat.reduceMul, Nat.reduceSub, Nat.zero_add, Nat.add_zero, hx_up_s, hx_up_in, hx_up_ne, p0, b2s, b2t]
              refine Rq.bf (fun _ => b142_27) (by first | (rw [p1]; exact fun z => z rfl) | (simp (disch := omega) only [hx_up_s, hx_up_in, p1]; exact fun z => z rfl)) ?_
              refine Rq.bf (fun _ => b142_36) (by simp (disch := omega) only [z_eq, z_nI, z_m1, Int32.le_iff_toInt_le, z_0]; omega) ?_
              refine Rq.s (fun _ => b142_41 (by (try simp (disch := omega) only [nI_add, nI_mulN, pk_sub, nI_clamp, Nat.reduceAdd, Nat.reduceMul, Nat.reduceSub, Nat.zero_add, Nat.add_zero, hx_up_s, hx_up_in, hx_up_ne, p0, b2s, b2t]); exact h141)) ?_
              refine Rq.bt (fun _ => b142_47) (by decide) ?_
              refine Rq.s (fun _ => b142_54) ?_
              try simp (disch := omega) only [nI_add, nI_mulN, pk_sub, nI_clamp, Nat.reduceAdd, Nat.reduceMul, Nat.reduceSub, Nat.zero_add, Nat.add_zero, hx_up_s, hx_up_in, hx_up_ne, p0, b2s, b2t]
              refine Rq.b (fun _ => b142_55 (by decide)) (fun h55 => ?_) (fun h55 => ?_)
              · try simp (disch := omega) only [Int32.le_iff_toInt_le, Int32.lt_iff_toInt_lt, z_eq, z_nI, z_0, z_m1, z_sub, nI_add, nI_mulN, pk_sub, nI_clamp, Nat.reduceAdd, Nat.reduceMul, Nat.reduceSub, Nat.zero_add, Nat.add_zero, hx_up_s, hx_up_in, hx_up_ne, p0, b2s, b2t] at h55
                all_goals (try (exfalso; omega))
                all_goals (try simp (disch := omega) only [nI_add, nI_mulN, pk_sub, nI_clamp, Nat.reduceAdd, Nat.reduceMul, Nat.reduceSub, Nat.zero_add, Nat.add_zero, hx_up_s, hx_up_in, hx_up_ne, p0, b2s, b2t])
                all_goals
                  refine Rq.s (fun _ => b142_74) ?_
                  try simp (disch := omega) only [nI_add, nI_mulN, pk_sub, nI_clamp, Nat.reduceAdd, Nat.reduceMul, Nat.reduceSub, Nat.zero_add, Nat.add_zero, hx_up_s, hx_up_in, hx_up_ne, p0, b2s, b2t]
                  refine Rq.bf (fun _ => b142_75) (h0') ?_
                  try simp (disch := omega) only [nI_add, nI_mulN, pk_sub, nI_clamp, Nat.reduceAdd, Nat.reduceMul, Nat.reduceSub, Nat.zero_add, Nat.add_zero, hx_up_s, hx_up_in, hx_up_ne, p0, b2s, b2t]
                  refine Rq.s (fun _ => b142_83 (by (try simp (disch := omega) only [nI_add, nI_mulN, pk_sub, nI_clamp, Nat.reduceAdd, Nat.reduceMul, Nat.reduceSub, Nat.zero_add, Nat.add_zero, hx_up_s, hx_up_in, hx_up_ne, p0, b2s, b2t]); exact h139b)) ?_
                  refine Rq.bf (fun _ => b142_91) (by decide) ?_
                  refine Rq.s (fun _ => b142_94 (by (try simp (disch := omega) only [nI_add, nI_mulN, pk_sub, nI_clamp, Nat.reduceAdd, Nat.reduceMul, Nat.reduceSub, Nat.zero_add, Nat.add_zero, hx_up_s, hx_up_in, hx_up_ne, p0, b2s, b2t]); exact nI_inbT (by omega) (by omega)) (by (try simp (disch := omega) only [nI_add, nI_mulN, pk_sub, nI_clamp, Nat.reduceAdd, Nat.reduceMul, Nat.reduceSub, Nat.zero_add, Nat.add_zero, hx_up_s, hx_up_in, hx_up_ne, p0, b2s, b2t]); exact hx102 _)) ?_
                  refine Rq.bt (fun _ => b142_116) (rfl) ?_
                  refine Rq.bf (fun _ => b142_147) (by first | (rw [p1]; exact fun z => z rfl) | (simp (disch := omega) only [hx_up_s, hx_up_in, p1]; exact fun z => z rfl)) ?_
                  refine Rq.s (fun _ => b142_155 (by (try simp (disch := omega) only [nI_add, nI_mulN, pk_sub, nI_clamp, Nat.reduceAdd, Nat.reduceMul, Nat.reduceSub, Nat.zero_add, Nat.add_zero, hx_up_s, hx_up_in, hx_up_ne, p0, b2s, b2t]); exact hr102)) ?_
                  refine Rq.bt (fun _ => b142_161) (by decide) ?_
                  refine Rq.s (fun _ => b142_168) ?_
                  try simp (disch := omega) only [nI_add, nI_mulN, pk_sub, nI_clamp, Nat.reduceAdd, Nat.reduceMul, Nat.reduceSub, Nat.zero_add, Nat.add_zero, hx_up_s, hx_up_in, hx_up_ne, p0, b2s, b2t]
                  refine Rq.e (b142_169b (by decide)) ?_
                  exact ⟨(by repeat (first | exact eqP.rf | refine eqP.u79 ?_ (by omega))), (by simp (disch := omega) only [hx_up_ne]), _, rfl, Or.inl ⟨b s - 48, rfl, hr.1, hr.2, hl, hd, Or.inl ⟨rfl, ⟨(by simp (disch := omega) only [hx_up_s, hx_up_in]), (by simp (disch := omega) only [hx_up_s, hx_up_in])⟩, hx⟩⟩⟩
              · try simp (disch := omega) only [Int32.le_iff_toInt_le, Int32.lt_iff_toInt_lt, z_eq, z_nI, z_0, z_m1, z_sub, nI_add, nI_mulN, pk_sub, nI_clamp, Nat.reduceAdd, Nat.reduceMul, Nat.reduceSub, Nat.zero_add, Nat.add_zero, hx_up_s, hx_up_in, hx_up_ne, p0, b2s, b2t] at h55
                all_goals (try (exfalso; omega))
                all_goals (try simp (disch := omega) only [nI_add, nI_mulN, pk_sub, nI_clamp, Nat.reduceAdd, Nat.reduceMul, Nat.reduceSub, Nat.zero_add, Nat.add_zero, hx_up_s, hx_up_in, hx_up_ne, p0, b2s, b2t])
                all_goals
                  refine Rq.s (fun _ => b142_70) ?_
                  try simp (disch := omega) only [nI_add, nI_mulN, pk_sub, nI_clamp, Nat.reduceAdd, Nat.reduceMul, Nat.reduceSub, Nat.zero_add, Nat.add_zero, hx_up_s, hx_up_in, hx_up_ne, p0, b2s, b2t]
                  refine Rq.bf (fun _ => b142_75) (h0') ?_
                  try simp (disch := omega) only [nI_add, nI_mulN, pk_sub, nI_clamp, Nat.reduceAdd, Nat.reduceMul, Nat.reduceSub, Nat.zero_add, Nat.add_zero, hx_up_s, hx_up_in, hx_up_ne, p0, b2s, b2t]
                  refine Rq.s (fun _ => b142_83 (by (try simp (disch := omega) only [nI_add, nI_mulN, pk_sub, nI_clamp, Nat.reduceAdd, Nat.reduceMul, Nat.reduceSub, Nat.zero_add, Nat.add_zero, hx_up_s, hx_up_in, hx_up_ne, p0, b2s, b2t]); exact h139b)) ?_
                  refine Rq.bf (fun _ => b142_91) (by decide) ?_
                  refine Rq.s (fun _ => b142_94 (by (try simp (disch := omega) only [nI_add, nI_mulN, pk_sub, nI_clamp, Nat.reduceAdd, Nat.reduceMul, Nat.reduceSub, Nat.zero_add, Nat.add_zero, hx_up_s, hx_up_in, hx_up_ne, p0, b2s, b2t]); exact nI_inbT (by omega) (by omega)) (by (try simp (disch := omega) only [nI_add, nI_mulN, pk_sub, nI_clamp, Nat.reduceAdd, Nat.reduceMul, Nat.reduceSub, Nat.zero_add, Nat.add_zero, hx_up_s, hx_up_in, hx_up_ne, p0, b2s, b2t]); exact hx102 _)) ?_
                  refine Rq.bt (fun _ => b142_116) (rfl) ?_
                  refine Rq.bf (fun _ => b142_147) (by first | (rw [p1]; exact fun z => z rfl) | (simp (disch := omega) only [hx_up_s, hx_up_in, p1]; exact fun z => z rfl)) ?_
                  refine Rq.s (fun _ => b142_155 (by (try simp (disch := omega) only [nI_add, nI_mulN, pk_sub, nI_clamp, Nat.reduceAdd, Nat.reduceMul, Nat.reduceSub, Nat.zero_add, Nat.add_zero, hx_up_s, hx_up_in, hx_up_ne, p0, b2s, b2t]); exact hr102)) ?_
                  refine Rq.bt (fun _ => b142_161) (by decide) ?_
                  refine Rq.s (fun _ => b142_168) ?_
                  try simp (disch := omega) only [nI_add, nI_mulN, pk_sub, nI_clamp, Nat.reduceAdd, Nat.reduceMul, Nat.reduceSub, Nat.zero_add, Nat.add_zero, hx_up_s, hx_up_in, hx_up_ne, p0, b2s, b2t]
                  refine Rq.e (b142_169b (by decide)) ?_
                  exact ⟨(by repeat (first | exact eqP.rf | refine eqP.u79 ?_ (by omega))), (by simp (disch := omega) only [hx_up_ne]), _, rfl, Or.inl ⟨b s - 48, rfl, hr.1, hr.2, hl, hd, Or.inl ⟨rfl, ⟨(by simp (disch := omega) only [hx_up_s, hx_up_in]), (by simp (disch := omega) only [hx_up_s, hx_up_in])⟩, hx⟩⟩⟩
            · have h139b : Cl sc (d + 1) 139 [.ref 79, .int (nI 48), .int (nI 57)] (hx_S0, hx_up (hx_up D 79 14 (nI 0)) 79 13 (nI (s + 1)), G) (.inl (some (.int (nI 0)))) (hx_S0, hx_up (hx_up D 79 14 (nI 0)) 79 13 (nI (s + 1)), G) := by
                by_cases hl2 : s + 1 < len
                · have h9 := m139F (sc := sc) (d := d) (G := G) (lo := 48) (hi := 57) B1 F1 hl2 (by omega) (by omega)
                  rw [if_neg (fun z => hc ⟨hl2, z⟩)] at h9
                  exact h9
                · have e9 : s + 1 = len := by omega
                  rw [e9] at F1 B1 ⊢
                  exact m139E B1 F1
              refine Cq.c (fun _ _ _ => c142) ?_
              refine Rq.s (fun _ => b142_0 (by (try simp (disch := omega) only [nI_add, nI_mulN, pk_sub, nI_clamp, Nat.reduceAdd, Nat.reduceMul, Nat.reduceSub, Nat.zero_add, Nat.add_zero, hx_up_s, hx_up_in, hx_up_ne, p0, b2s]); exact h139)) ?_
              refine Rq.bf (fun _ => b142_8) (by decide) ?_
              refine Rq.s (fun _ => b142_11 (by (try simp (disch := omega) only [nI_add, nI_mulN, pk_sub, nI_clamp, Nat.reduceAdd, Nat.reduceMul, Nat.reduceSub, Nat.zero_add, Nat.add_zero, hx_up_s, hx_up_in, hx_up_ne, p0, b2s]); exact nI_inbT (by omega) (by omega))) ?_
              try simp (disch := omega) only [nI_add, nI_mulN, pk_sub, nI_clamp, Nat.reduceAdd, Nat.reduceMul, Nat.reduceSub, Nat.zero_add, Nat.add_zero, hx_up_s, hx_up_in, hx_up_ne, p0, b2s]
              refine Rq.bf (fun _ => b142_27) (by first | (rw [p1]; exact fun z => z rfl) | (simp (disch := omega) only [hx_up_s, hx_up_in, p1]; exact fun z => z rfl)) ?_
              refine Rq.bf (fun _ => b142_36) (by simp (disch := omega) only [z_eq, z_nI, z_m1, Int32.le_iff_toInt_le, z_0]; omega) ?_
              refine Rq.s (fun _ => b142_41 (by (try simp (disch := omega) only [nI_add, nI_mulN, pk_sub, nI_clamp, Nat.reduceAdd, Nat.reduceMul, Nat.reduceSub, Nat.zero_add, Nat.add_zero, hx_up_s, hx_up_in, hx_up_ne, p0, b2s]); exact h141)) ?_
              refine Rq.bt (fun _ => b142_47) (by decide) ?_
              refine Rq.s (fun _ => b142_54) ?_
              try simp (disch := omega) only [nI_add, nI_mulN, pk_sub, nI_clamp, Nat.reduceAdd, Nat.reduceMul, Nat.reduceSub, Nat.zero_add, Nat.add_zero, hx_up_s, hx_up_in, hx_up_ne, p0, b2s]
              refine Rq.b (fun _ => b142_55 (by decide)) (fun h55 => ?_) (fun h55 => ?_)
              · try simp (disch := omega) only [Int32.le_iff_toInt_le, Int32.lt_iff_toInt_lt, z_eq, z_nI, z_0, z_m1, z_sub, nI_add, nI_mulN, pk_sub, nI_clamp, Nat.reduceAdd, Nat.reduceMul, Nat.reduceSub, Nat.zero_add, Nat.add_zero, hx_up_s, hx_up_in, hx_up_ne, p0, b2s] at h55
                all_goals (try (exfalso; omega))
                all_goals (try simp (disch := omega) only [nI_add, nI_mulN, pk_sub, nI_clamp, Nat.reduceAdd, Nat.reduceMul, Nat.reduceSub, Nat.zero_add, Nat.add_zero, hx_up_s, hx_up_in, hx_up_ne, p0, b2s])
                all_goals
                  refine Rq.s (fun _ => b142_74) ?_
                  try simp (disch := omega) only [nI_add, nI_mulN, pk_sub, nI_clamp, Nat.reduceAdd, Nat.reduceMul, Nat.reduceSub, Nat.zero_add, Nat.add_zero, hx_up_s, hx_up_in, hx_up_ne, p0, b2s]
                  refine Rq.bf (fun _ => b142_75) (h0') ?_
                  try simp (disch := omega) only [nI_add, nI_mulN, pk_sub, nI_clamp, Nat.reduceAdd, Nat.reduceMul, Nat.reduceSub, Nat.zero_add, Nat.add_zero, hx_up_s, hx_up_in, hx_up_ne, p0, b2s]
                  refine Rq.s (fun _ => b142_83 (by (try simp (disch := omega) only [nI_add, nI_mulN, pk_sub, nI_clamp, Nat.reduceAdd, Nat.reduceMul, Nat.reduceSub, Nat.zero_add, Nat.add_zero, hx_up_s, hx_up_in, hx_up_ne, p0, b2s]); exact h139b)) ?_
                  refine Rq.bt (fun _ => b142_91) (rfl) ?_
                  refine Rq.bf (fun _ => b142_147) (by first | (rw [p1]; exact fun z => z rfl) | (simp (disch := omega) only [hx_up_s, hx_up_in, p1]; exact fun z => z rfl)) ?_
                  refine Rq.s (fun _ => b142_155 (by (try simp (disch := omega) only [nI_add, nI_mulN, pk_sub, nI_clamp, Nat.reduceAdd, Nat.reduceMul, Nat.reduceSub, Nat.zero_add, Nat.add_zero, hx_up_s, hx_up_in, hx_up_ne, p0, b2s]); exact hr102)) ?_
                  refine Rq.bt (fun _ => b142_161) (by decide) ?_
                  refine Rq.s (fun _ => b142_168) ?_
                  try simp (disch := omega) only [nI_add, nI_mulN, pk_sub, nI_clamp, Nat.reduceAdd, Nat.reduceMul, Nat.reduceSub, Nat.zero_add, Nat.add_zero, hx_up_s, hx_up_in, hx_up_ne, p0, b2s]
                  refine Rq.e (b142_169b (by decide)) ?_
                  exact ⟨(by repeat (first | exact eqP.rf | refine eqP.u79 ?_ (by omega))), (by simp (disch := omega) only [hx_up_ne]), _, rfl, Or.inl ⟨b s - 48, rfl, hr.1, hr.2, hl, hd, Or.inl ⟨rfl, ⟨(by simp (disch := omega) only [hx_up_s, hx_up_in]), (by simp (disch := omega) only [hx_up_s, hx_up_in])⟩, hx⟩⟩⟩
              · try simp (disch := omega) only [Int32.le_iff_toInt_le, Int32.lt_iff_toInt_lt, z_eq, z_nI, z_0, z_m1, z_sub, nI_add, nI_mulN, pk_sub, nI_clamp, Nat.reduceAdd, Nat.reduceMul, Nat.reduceSub, Nat.zero_add, Nat.add_zero, hx_up_s, hx_up_in, hx_up_ne, p0, b2s] at h55
                all_goals (try (exfalso; omega))
                all_goals (try simp (disch := omega) only [nI_add, nI_mulN, pk_sub, nI_clamp, Nat.reduceAdd, Nat.reduceMul, Nat.reduceSub, Nat.zero_add, Nat.add_zero, hx_up_s, hx_up_in, hx_up_ne, p0, b2s])
                all_goals
                  refine Rq.s (fun _ => b142_70) ?_
                  try simp (disch := omega) only [nI_add, nI_mulN, pk_sub, nI_clamp, Nat.reduceAdd, Nat.reduceMul, Nat.reduceSub, Nat.zero_add, Nat.add_zero, hx_up_s, hx_up_in, hx_up_ne, p0, b2s]
                  refine Rq.bf (fun _ => b142_75) (h0') ?_
                  try simp (disch := omega) only [nI_add, nI_mulN, pk_sub, nI_clamp, Nat.reduceAdd, Nat.reduceMul, Nat.reduceSub, Nat.zero_add, Nat.add_zero, hx_up_s, hx_up_in, hx_up_ne, p0, b2s]
                  refine Rq.s (fun _ => b142_83 (by (try simp (disch := omega) only [nI_add, nI_mulN, pk_sub, nI_clamp, Nat.reduceAdd, Nat.reduceMul, Nat.reduceSub, Nat.zero_add, Nat.add_zero, hx_up_s, hx_up_in, hx_up_ne, p0, b2s]); exact h139b)) ?_
                  refine Rq.bt (fun _ => b142_91) (rfl) ?_
                  refine Rq.bf (fun _ => b142_147) (by first | (rw [p1]; exact fun z => z rfl) | (simp (disch := omega) only [hx_up_s, hx_up_in, p1]; exact fun z => z rfl)) ?_
                  refine Rq.s (fun _ => b142_155 (by (try simp (disch := omega) only [nI_add, nI_mulN, pk_sub, nI_clamp, Nat.reduceAdd, Nat.reduceMul, Nat.reduceSub, Nat.zero_add, Nat.add_zero, hx_up_s, hx_up_in, hx_up_ne, p0, b2s]); exact hr102)) ?_
                  refine Rq.bt (fun _ => b142_161) (by decide) ?_
                  refine Rq.s (fun _ => b142_168) ?_
                  try simp (disch := omega) only [nI_add, nI_mulN, pk_sub, nI_clamp, Nat.reduceAdd, Nat.reduceMul, Nat.reduceSub, Nat.zero_add, Nat.add_zero, hx_up_s, hx_up_in, hx_up_ne, p0, b2s]
                  refine Rq.e (b142_169b (by decide)) ?_
                  exact ⟨(by repeat (first | exact eqP.rf | refine eqP.u79 ?_ (by omega))), (by simp (disch := omega) only [hx_up_ne]), _, rfl, Or.inl ⟨b s - 48, rfl, hr.1, hr.2, hl, hd, Or.inl ⟨rfl, ⟨(by simp (disch := omega) only [hx_up_s, hx_up_in]), (by simp (disch := omega) only [hx_up_s, hx_up_in])⟩, hx⟩⟩⟩
        · rw [if_neg hr] at hr102
          by_cases h0 : b s - 48 = 0
          · have h0' : nI (b s - 48) ≤ 0 := by rw [h0]; decide
            refine Cq.c (fun _ _ _ => c142) ?_
            refine Rq.s (fun _ => b142_0 (by (try simp (disch := omega) only [nI_add, nI_mulN, pk_sub, nI_clamp, Nat.reduceAdd, Nat.reduceMul, Nat.reduceSub, Nat.zero_add, Nat.add_zero, hx_up_s, hx_up_in, hx_up_ne, p0, b2s]); exact h139)) ?_
            refine Rq.bf (fun _ => b142_8) (by decide) ?_
            refine Rq.s (fun _ => b142_11 (by (try simp (disch := omega) only [nI_add, nI_mulN, pk_sub, nI_clamp, Nat.reduceAdd, Nat.reduceMul, Nat.reduceSub, Nat.zero_add, Nat.add_zero, hx_up_s, hx_up_in, hx_up_ne, p0, b2s]); exact nI_inbT (by omega) (by omega))) ?_
            try simp (disch := omega) only [nI_add, nI_mulN, pk_sub, nI_clamp, Nat.reduceAdd, Nat.reduceMul, Nat.reduceSub, Nat.zero_add, Nat.add_zero, hx_up_s, hx_up_in, hx_up_ne, p0, b2s]
            refine Rq.bf (fun _ => b142_27) (by first | (rw [p1]; exact fun z => z rfl) | (simp (disch := omega) only [hx_up_s, hx_up_in, p1]; exact fun z => z rfl)) ?_
            refine Rq.bf (fun _ => b142_36) (by simp (disch := omega) only [z_eq, z_nI, z_m1, Int32.le_iff_toInt_le, z_0]; omega) ?_
            refine Rq.s (fun _ => b142_41 (by (try simp (disch := omega) only [nI_add, nI_mulN, pk_sub, nI_clamp, Nat.reduceAdd, Nat.reduceMul, Nat.reduceSub, Nat.zero_add, Nat.add_zero, hx_up_s, hx_up_in, hx_up_ne, p0, b2s]); exact h141)) ?_
            refine Rq.bt (fun _ => b142_47) (by decide) ?_
            refine Rq.s (fun _ => b142_54) ?_
            try simp (disch := omega) only [nI_add, nI_mulN, pk_sub, nI_clamp, Nat.reduceAdd, Nat.reduceMul, Nat.reduceSub, Nat.zero_add, Nat.add_zero, hx_up_s, hx_up_in, hx_up_ne, p0, b2s]
            refine Rq.b (fun _ => b142_55 (by decide)) (fun h55 => ?_) (fun h55 => ?_)
            · try simp (disch := omega) only [Int32.le_iff_toInt_le, Int32.lt_iff_toInt_lt, z_eq, z_nI, z_0, z_m1, z_sub, nI_add, nI_mulN, pk_sub, nI_clamp, Nat.reduceAdd, Nat.reduceMul, Nat.reduceSub, Nat.zero_add, Nat.add_zero, hx_up_s, hx_up_in, hx_up_ne, p0, b2s] at h55
              all_goals (try (exfalso; omega))
              all_goals (try simp (disch := omega) only [nI_add, nI_mulN, pk_sub, nI_clamp, Nat.reduceAdd, Nat.reduceMul, Nat.reduceSub, Nat.zero_add, Nat.add_zero, hx_up_s, hx_up_in, hx_up_ne, p0, b2s])
              all_goals
                refine Rq.s (fun _ => b142_74) ?_
                try simp (disch := omega) only [nI_add, nI_mulN, pk_sub, nI_clamp, Nat.reduceAdd, Nat.reduceMul, Nat.reduceSub, Nat.zero_add, Nat.add_zero, hx_up_s, hx_up_in, hx_up_ne, p0, b2s]
                refine Rq.bt (fun _ => b142_75) (h0') ?_
                try simp (disch := omega) only [nI_add, nI_mulN, pk_sub, nI_clamp, Nat.reduceAdd, Nat.reduceMul, Nat.reduceSub, Nat.zero_add, Nat.add_zero, hx_up_s, hx_up_in, hx_up_ne, p0, b2s]
                refine Rq.bf (fun _ => b142_147) (by first | (rw [p1]; exact fun z => z rfl) | (simp (disch := omega) only [hx_up_s, hx_up_in, p1]; exact fun z => z rfl)) ?_
                refine Rq.s (fun _ => b142_155 (by (try simp (disch := omega) only [nI_add, nI_mulN, pk_sub, nI_clamp, Nat.reduceAdd, Nat.reduceMul, Nat.reduceSub, Nat.zero_add, Nat.add_zero, hx_up_s, hx_up_in, hx_up_ne, p0, b2s]); exact hr102)) ?_
                refine Rq.bf (fun _ => b142_161) (fun z => z rfl) ?_
                refine Rq.s (fun _ => b142_164) ?_
                try simp (disch := omega) only [nI_add, nI_mulN, pk_sub, nI_clamp, Nat.reduceAdd, Nat.reduceMul, Nat.reduceSub, Nat.zero_add, Nat.add_zero, hx_up_s, hx_up_in, hx_up_ne, p0, b2s]
                refine Rq.e (b142_169 (by decide)) ?_
                exact ⟨(by repeat (first | exact eqP.rf | refine eqP.u79 ?_ (by omega))), (by simp (disch := omega) only [hx_up_ne]), _, rfl, Or.inr (Or.inr ⟨(by simp (disch := omega) only [hx_up_s, hx_up_in]), (by simp (disch := omega) only [hx_up_s, hx_up_in]), hl, hd, hb, hr, hx⟩)⟩
            · try simp (disch := omega) only [Int32.le_iff_toInt_le, Int32.lt_iff_toInt_lt, z_eq, z_nI, z_0, z_m1, z_sub, nI_add, nI_mulN, pk_sub, nI_clamp, Nat.reduceAdd, Nat.reduceMul, Nat.reduceSub, Nat.zero_add, Nat.add_zero, hx_up_s, hx_up_in, hx_up_ne, p0, b2s] at h55
              all_goals (try (exfalso; omega))
              all_goals (try simp (disch := omega) only [nI_add, nI_mulN, pk_sub, nI_clamp, Nat.reduceAdd, Nat.reduceMul, Nat.reduceSub, Nat.zero_add, Nat.add_zero, hx_up_s, hx_up_in, hx_up_ne, p0, b2s])
              all_goals
                refine Rq.s (fun _ => b142_70) ?_
                try simp (disch := omega) only [nI_add, nI_mulN, pk_sub, nI_clamp, Nat.reduceAdd, Nat.reduceMul, Nat.reduceSub, Nat.zero_add, Nat.add_zero, hx_up_s, hx_up_in, hx_up_ne, p0, b2s]
                refine Rq.bt (fun _ => b142_75) (h0') ?_
                try simp (disch := omega) only [nI_add, nI_mulN, pk_sub, nI_clamp, Nat.reduceAdd, Nat.reduceMul, Nat.reduceSub, Nat.zero_add, Nat.add_zero, hx_up_s, hx_up_in, hx_up_ne, p0, b2s]
                refine Rq.bf (fun _ => b142_147) (by first | (rw [p1]; exact fun z => z rfl) | (simp (disch := omega) only [hx_up_s, hx_up_in, p1]; exact fun z => z rfl)) ?_
                refine Rq.s (fun _ => b142_155 (by (try simp (disch := omega) only [nI_add, nI_mulN, pk_sub, nI_clamp, Nat.reduceAdd, Nat.reduceMul, Nat.reduceSub, Nat.zero_add, Nat.add_zero, hx_up_s, hx_up_in, hx_up_ne, p0, b2s]); exact hr102)) ?_
                refine Rq.bf (fun _ => b142_161) (fun z => z rfl) ?_
                refine Rq.s (fun _ => b142_164) ?_
                try simp (disch := omega) only [nI_add, nI_mulN, pk_sub, nI_clamp, Nat.reduceAdd, Nat.reduceMul, Nat.reduceSub, Nat.zero_add, Nat.add_zero, hx_up_s, hx_up_in, hx_up_ne, p0, b2s]
                refine Rq.e (b142_169 (by decide)) ?_
                exact ⟨(by repeat (first | exact eqP.rf | refine eqP.u79 ?_ (by omega))), (by simp (disch := omega) only [hx_up_ne]), _, rfl, Or.inr (Or.inr ⟨(by simp (disch := omega) only [hx_up_s, hx_up_in]), (by simp (disch := omega) only [hx_up_s, hx_up_in]), hl, hd, hb, hr, hx⟩)⟩
          · have h0' : ¬ nI (b s - 48) ≤ 0 := by simp (disch := omega) only [z_eq, z_nI, z_m1, Int32.le_iff_toInt_le, z_0]; omega
            by_cases hc : s + 1 < len ∧ DG (b (s + 1))
            · have h139b := m139F (sc := sc) (d := d) (G := G) (lo := 48) (hi := 57) B1 F1 hc.1 (by omega) (by omega)
              rw [if_pos hc.2] at h139b
              have b2t := B.2.2.1 (s + 1) hc.1
              have hd2 : 48 ≤ b (s + 1) ∧ b (s + 1) ≤ 57 := hc.2
              have hx102 : ∀ D3, Cl sc (d + 1) 102 [.int (nI (10 * (b s - 48) + b (s + 1) - 48)), .int (nI lo), .int (nI hi)] (hx_S0, D3, G) (.inl (some (.int (nI 0)))) (hx_S0, D3, G) := fun D3 => by
                have h9 := m102 (sc := sc) (d := d + 1) (D := D3) (G := G) (z_nI (n := 10 * (b s - 48) + b (s + 1) - 48) (by omega)) (z_nI (n := lo) (by omega)) (z_nI (n := hi) (by omega)) (P := lo ≤ 10 * (b s - 48) + b (s + 1) - 48 ∧ 10 * (b s - 48) + b (s + 1) - 48 ≤ hi) (by omega)
                rw [if_neg (fun z => hx ⟨by omega, hc.1, hc.2, by omega, by omega⟩)] at h9
                exact h9
              refine Cq.c (fun _ _ _ => c142) ?_
              refine Rq.s (fun _ => b142_0 (by (try simp (disch := omega) only [nI_add, nI_mulN, pk_sub, nI_clamp, Nat.reduceAdd, Nat.reduceMul, Nat.reduceSub, Nat.zero_add, Nat.add_zero, hx_up_s, hx_up_in, hx_up_ne, p0, b2s, b2t]); exact h139)) ?_
              refine Rq.bf (fun _ => b142_8) (by decide) ?_
              refine Rq.s (fun _ => b142_11 (by (try simp (disch := omega) only [nI_add, nI_mulN, pk_sub, nI_clamp, Nat.reduceAdd, Nat.reduceMul, Nat.reduceSub, Nat.zero_add, Nat.add_zero, hx_up_s, hx_up_in, hx_up_ne, p0, b2s, b2t]); exact nI_inbT (by omega) (by omega))) ?_
              try simp (disch := omega) only [nI_add, nI_mulN, pk_sub, nI_clamp, Nat.reduceAdd, Nat.reduceMul, Nat.reduceSub, Nat.zero_add, Nat.add_zero, hx_up_s, hx_up_in, hx_up_ne, p0, b2s, b2t]
              refine Rq.bf (fun _ => b142_27) (by first | (rw [p1]; exact fun z => z rfl) | (simp (disch := omega) only [hx_up_s, hx_up_in, p1]; exact fun z => z rfl)) ?_
              refine Rq.bf (fun _ => b142_36) (by simp (disch := omega) only [z_eq, z_nI, z_m1, Int32.le_iff_toInt_le, z_0]; omega) ?_
              refine Rq.s (fun _ => b142_41 (by (try simp (disch := omega) only [nI_add, nI_mulN, pk_sub, nI_clamp, Nat.reduceAdd, Nat.reduceMul, Nat.reduceSub, Nat.zero_add, Nat.add_zero, hx_up_s, hx_up_in, hx_up_ne, p0, b2s, b2t]); exact h141)) ?_
              refine Rq.bt (fun _ => b142_47) (by decide) ?_
              refine Rq.s (fun _ => b142_54) ?_
              try simp (disch := omega) only [nI_add, nI_mulN, pk_sub, nI_clamp, Nat.reduceAdd, Nat.reduceMul, Nat.reduceSub, Nat.zero_add, Nat.add_zero, hx_up_s, hx_up_in, hx_up_ne, p0, b2s, b2t]
              refine Rq.b (fun _ => b142_55 (by decide)) (fun h55 => ?_) (fun h55 => ?_)
              · try simp (disch := omega) only [Int32.le_iff_toInt_le, Int32.lt_iff_toInt_lt, z_eq, z_nI, z_0, z_m1, z_sub, nI_add, nI_mulN, pk_sub, nI_clamp, Nat.reduceAdd, Nat.reduceMul, Nat.reduceSub, Nat.zero_add, Nat.add_zero, hx_up_s, hx_up_in, hx_up_ne, p0, b2s, b2t] at h55
                all_goals (try (exfalso; omega))
                all_goals (try simp (disch := omega) only [nI_add, nI_mulN, pk_sub, nI_clamp, Nat.reduceAdd, Nat.reduceMul, Nat.reduceSub, Nat.zero_add, Nat.add_zero, hx_up_s, hx_up_in, hx_up_ne, p0, b2s, b2t])
                all_goals
                  refine Rq.s (fun _ => b142_74) ?_
                  try simp (disch := omega) only [nI_add, nI_mulN, pk_sub, nI_clamp, Nat.reduceAdd, Nat.reduceMul, Nat.reduceSub, Nat.zero_add, Nat.add_zero, hx_up_s, hx_up_in, hx_up_ne, p0, b2s, b2t]
                  refine Rq.bf (fun _ => b142_75) (h0') ?_
                  try simp (disch := omega) only [nI_add, nI_mulN, pk_sub, nI_clamp, Nat.reduceAdd, Nat.reduceMul, Nat.reduceSub, Nat.zero_add, Nat.add_zero, hx_up_s, hx_up_in, hx_up_ne, p0, b2s, b2t]
                  refine Rq.s (fun _ => b142_83 (by (try simp (disch := omega) only [nI_add, nI_mulN, pk_sub, nI_clamp, Nat.reduceAdd, Nat.reduceMul, Nat.reduceSub, Nat.zero_add, Nat.add_zero, hx_up_s, hx_up_in, hx_up_ne, p0, b2s, b2t]); exact h139b)) ?_
                  refine Rq.bf (fun _ => b142_91) (by decide) ?_
                  refine Rq.s (fun _ => b142_94 (by (try simp (disch := omega) only [nI_add, nI_mulN, pk_sub, nI_clamp, Nat.reduceAdd, Nat.reduceMul, Nat.reduceSub, Nat.zero_add, Nat.add_zero, hx_up_s, hx_up_in, hx_up_ne, p0, b2s, b2t]); exact nI_inbT (by omega) (by omega)) (by (try simp (disch := omega) only [nI_add, nI_mulN, pk_sub, nI_clamp, Nat.reduceAdd, Nat.reduceMul, Nat.reduceSub, Nat.zero_add, Nat.add_zero, hx_up_s, hx_up_in, hx_up_ne, p0, b2s, b2t]); exact hx102 _)) ?_
                  refine Rq.bt (fun _ => b142_116) (rfl) ?_
                  refine Rq.bf (fun _ => b142_147) (by first | (rw [p1]; exact fun z => z rfl) | (simp (disch := omega) only [hx_up_s, hx_up_in, p1]; exact fun z => z rfl)) ?_
                  refine Rq.s (fun _ => b142_155 (by (try simp (disch := omega) only [nI_add, nI_mulN, pk_sub, nI_clamp, Nat.reduceAdd, Nat.reduceMul, Nat.reduceSub, Nat.zero_add, Nat.add_zero, hx_up_s, hx_up_in, hx_up_ne, p0, b2s, b2t]); exact hr102)) ?_
                  refine Rq.bf (fun _ => b142_161) (fun z => z rfl) ?_
                  refine Rq.s (fun _ => b142_164) ?_
                  try simp (disch := omega) only [nI_add, nI_mulN, pk_sub, nI_clamp, Nat.reduceAdd, Nat.reduceMul, Nat.reduceSub, Nat.zero_add, Nat.add_zero, hx_up_s, hx_up_in, hx_up_ne, p0, b2s, b2t]
                  refine Rq.e (b142_169 (by decide)) ?_
                  exact ⟨(by repeat (first | exact eqP.rf | refine eqP.u79 ?_ (by omega))), (by simp (disch := omega) only [hx_up_ne]), _, rfl, Or.inr (Or.inr ⟨(by simp (disch := omega) only [hx_up_s, hx_up_in]), (by simp (disch := omega) only [hx_up_s, hx_up_in]), hl, hd, hb, hr, hx⟩)⟩
              · try simp (disch := omega) only [Int32.le_iff_toInt_le, Int32.lt_iff_toInt_lt, z_eq, z_nI, z_0, z_m1, z_sub, nI_add, nI_mulN, pk_sub, nI_clamp, Nat.reduceAdd, Nat.reduceMul, Nat.reduceSub, Nat.zero_add, Nat.add_zero, hx_up_s, hx_up_in, hx_up_ne, p0, b2s, b2t] at h55
                all_goals (try (exfalso; omega))
                all_goals (try simp (disch := omega) only [nI_add, nI_mulN, pk_sub, nI_clamp, Nat.reduceAdd, Nat.reduceMul, Nat.reduceSub, Nat.zero_add, Nat.add_zero, hx_up_s, hx_up_in, hx_up_ne, p0, b2s, b2t])
                all_goals
                  refine Rq.s (fun _ => b142_70) ?_
                  try simp (disch := omega) only [nI_add, nI_mulN, pk_sub, nI_clamp, Nat.reduceAdd, Nat.reduceMul, Nat.reduceSub, Nat.zero_add, Nat.add_zero, hx_up_s, hx_up_in, hx_up_ne, p0, b2s, b2t]
                  refine Rq.bf (fun _ => b142_75) (h0') ?_
                  try simp (disch := omega) only [nI_add, nI_mulN, pk_sub, nI_clamp, Nat.reduceAdd, Nat.reduceMul, Nat.reduceSub, Nat.zero_add, Nat.add_zero, hx_up_s, hx_up_in, hx_up_ne, p0, b2s, b2t]
                  refine Rq.s (fun _ => b142_83 (by (try simp (disch := omega) only [nI_add, nI_mulN, pk_sub, nI_clamp, Nat.reduceAdd, Nat.reduceMul, Nat.reduceSub, Nat.zero_add, Nat.add_zero, hx_up_s, hx_up_in, hx_up_ne, p0, b2s, b2t]); exact h139b)) ?_
                  refine Rq.bf (fun _ => b142_91) (by decide) ?_
                  refine Rq.s (fun _ => b142_94 (by (try simp (disch := omega) only [nI_add, nI_mulN, pk_sub, nI_clamp, Nat.reduceAdd, Nat.reduceMul, Nat.reduceSub, Nat.zero_add, Nat.add_zero, hx_up_s, hx_up_in, hx_up_ne, p0, b2s, b2t]); exact nI_inbT (by omega) (by omega)) (by (try simp (disch := omega) only [nI_add, nI_mulN, pk_sub, nI_clamp, Nat.reduceAdd, Nat.reduceMul, Nat.reduceSub, Nat.zero_add, Nat.add_zero, hx_up_s, hx_up_in, hx_up_ne, p0, b2s, b2t]); exact hx102 _)) ?_
                  refine Rq.bt (fun _ => b142_116) (rfl) ?_
                  refine Rq.bf (fun _ => b142_147) (by first | (rw [p1]; exact fun z => z rfl) | (simp (disch := omega) only [hx_up_s, hx_up_in, p1]; exact fun z => z rfl)) ?_
                  refine Rq.s (fun _ => b142_155 (by (try simp (disch := omega) only [nI_add, nI_mulN, pk_sub, nI_clamp, Nat.reduceAdd, Nat.reduceMul, Nat.reduceSub, Nat.zero_add, Nat.add_zero, hx_up_s, hx_up_in, hx_up_ne, p0, b2s, b2t]); exact hr102)) ?_
                  refine Rq.bf (fun _ => b142_161) (fun z => z rfl) ?_
                  refine Rq.s (fun _ => b142_164) ?_
                  try simp (disch := omega) only [nI_add, nI_mulN, pk_sub, nI_clamp, Nat.reduceAdd, Nat.reduceMul, Nat.reduceSub, Nat.zero_add, Nat.add_zero, hx_up_s, hx_up_in, hx_up_ne, p0, b2s, b2t]
                  refine Rq.e (b142_169 (by decide)) ?_
                  exact ⟨(by repeat (first | exact eqP.rf | refine eqP.u79 ?_ (by omega))), (by simp (disch := omega) only [hx_up_ne]), _, rfl, Or.inr (Or.inr ⟨(by simp (disch := omega) only [hx_up_s, hx_up_in]), (by simp (disch := omega) only [hx_up_s, hx_up_in]), hl, hd, hb, hr, hx⟩)⟩
            · have h139b : Cl sc (d + 1) 139 [.ref 79, .int (nI 48), .int (nI 57)] (hx_S0, hx_up (hx_up D 79 14 (nI 0)) 79 13 (nI (s + 1)), G) (.inl (some (.int (nI 0)))) (hx_S0, hx_up (hx_up D 79 14 (nI 0)) 79 13 (nI (s + 1)), G) := by
                by_cases hl2 : s + 1 < len
                · have h9 := m139F (sc := sc) (d := d) (G := G) (lo := 48) (hi := 57) B1 F1 hl2 (by omega) (by omega)
                  rw [if_neg (fun z => hc ⟨hl2, z⟩)] at h9
                  exact h9
                · have e9 : s + 1 = len := by omega
                  rw [e9] at F1 B1 ⊢
                  exact m139E B1 F1
              refine Cq.c (fun _ _ _ => c142) ?_
              refine Rq.s (fun _ => b142_0 (by (try simp (disch := omega) only [nI_add, nI_mulN, pk_sub, nI_clamp, Nat.reduceAdd, Nat.reduceMul, Nat.reduceSub, Nat.zero_add, Nat.add_zero, hx_up_s, hx_up_in, hx_up_ne, p0, b2s]); exact h139)) ?_
              refine Rq.bf (fun _ => b142_8) (by decide) ?_
              refine Rq.s (fun _ => b142_11 (by (try simp (disch := omega) only [nI_add, nI_mulN, pk_sub, nI_clamp, Nat.reduceAdd, Nat.reduceMul, Nat.reduceSub, Nat.zero_add, Nat.add_zero, hx_up_s, hx_up_in, hx_up_ne, p0, b2s]); exact nI_inbT (by omega) (by omega))) ?_
              try simp (disch := omega) only [nI_add, nI_mulN, pk_sub, nI_clamp, Nat.reduceAdd, Nat.reduceMul, Nat.reduceSub, Nat.zero_add, Nat.add_zero, hx_up_s, hx_up_in, hx_up_ne, p0, b2s]
              refine Rq.bf (fun _ => b142_27) (by first | (rw [p1]; exact fun z => z rfl) | (simp (disch := omega) only [hx_up_s, hx_up_in, p1]; exact fun z => z rfl)) ?_
              refine Rq.bf (fun _ => b142_36) (by simp (disch := omega) only [z_eq, z_nI, z_m1, Int32.le_iff_toInt_le, z_0]; omega) ?_
              refine Rq.s (fun _ => b142_41 (by (try simp (disch := omega) only [nI_add, nI_mulN, pk_sub, nI_clamp, Nat.reduceAdd, Nat.reduceMul, Nat.reduceSub, Nat.zero_add, Nat.add_zero, hx_up_s, hx_up_in, hx_up_ne, p0, b2s]); exact h141)) ?_
              refine Rq.bt (fun _ => b142_47) (by decide) ?_
              refine Rq.s (fun _ => b142_54) ?_
              try simp (disch := omega) only [nI_add, nI_mulN, pk_sub, nI_clamp, Nat.reduceAdd, Nat.reduceMul, Nat.reduceSub, Nat.zero_add, Nat.add_zero, hx_up_s, hx_up_in, hx_up_ne, p0, b2s]
              refine Rq.b (fun _ => b142_55 (by decide)) (fun h55 => ?_) (fun h55 => ?_)
              · try simp (disch := omega) only [Int32.le_iff_toInt_le, Int32.lt_iff_toInt_lt, z_eq, z_nI, z_0, z_m1, z_sub, nI_add, nI_mulN, pk_sub, nI_clamp, Nat.reduceAdd, Nat.reduceMul, Nat.reduceSub, Nat.zero_add, Nat.add_zero, hx_up_s, hx_up_in, hx_up_ne, p0, b2s] at h55
                all_goals (try (exfalso; omega))
                all_goals (try simp (disch := omega) only [nI_add, nI_mulN, pk_sub, nI_clamp, Nat.reduceAdd, Nat.reduceMul, Nat.reduceSub, Nat.zero_add, Nat.add_zero, hx_up_s, hx_up_in, hx_up_ne, p0, b2s])
                all_goals
                  refine Rq.s (fun _ => b142_74) ?_
                  try simp (disch := omega) only [nI_add, nI_mulN, pk_sub, nI_clamp, Nat.reduceAdd, Nat.reduceMul, Nat.reduceSub, Nat.zero_add, Nat.add_zero, hx_up_s, hx_up_in, hx_up_ne, p0, b2s]
                  refine Rq.bf (fun _ => b142_75) (h0') ?_
                  try simp (disch := omega) only [nI_add, nI_mulN, pk_sub, nI_clamp, Nat.reduceAdd, Nat.reduceMul, Nat.reduceSub, Nat.zero_add, Nat.add_zero, hx_up_s, hx_up_in, hx_up_ne, p0, b2s]
                  refine Rq.s (fun _ => b142_83 (by (try simp (disch := omega) only [nI_add, nI_mulN, pk_sub, nI_clamp, Nat.reduceAdd, Nat.reduceMul, Nat.reduceSub, Nat.zero_add, Nat.add_zero, hx_up_s, hx_up_in, hx_up_ne, p0, b2s]); exact h139b)) ?_
                  refine Rq.bt (fun _ => b142_91) (rfl) ?_
                  refine Rq.bf (fun _ => b142_147) (by first | (rw [p1]; exact fun z => z rfl) | (simp (disch := omega) only [hx_up_s, hx_up_in, p1]; exact fun z => z rfl)) ?_
                  refine Rq.s (fun _ => b142_155 (by (try simp (disch := omega) only [nI_add, nI_mulN, pk_sub, nI_clamp, Nat.reduceAdd, Nat.reduceMul, Nat.reduceSub, Nat.zero_add, Nat.add_zero, hx_up_s, hx_up_in, hx_up_ne, p0, b2s]); exact hr102)) ?_
                  refine Rq.bf (fun _ => b142_161) (fun z => z rfl) ?_
                  refine Rq.s (fun _ => b142_164) ?_
                  try simp (disch := omega) only [nI_add, nI_mulN, pk_sub, nI_clamp, Nat.reduceAdd, Nat.reduceMul, Nat.reduceSub, Nat.zero_add, Nat.add_zero, hx_up_s, hx_up_in, hx_up_ne, p0, b2s]
                  refine Rq.e (b142_169 (by decide)) ?_
                  exact ⟨(by repeat (first | exact eqP.rf | refine eqP.u79 ?_ (by omega))), (by simp (disch := omega) only [hx_up_ne]), _, rfl, Or.inr (Or.inr ⟨(by simp (disch := omega) only [hx_up_s, hx_up_in]), (by simp (disch := omega) only [hx_up_s, hx_up_in]), hl, hd, hb, hr, hx⟩)⟩
              · try simp (disch := omega) only [Int32.le_iff_toInt_le, Int32.lt_iff_toInt_lt, z_eq, z_nI, z_0, z_m1, z_sub, nI_add, nI_mulN, pk_sub, nI_clamp, Nat.reduceAdd, Nat.reduceMul, Nat.reduceSub, Nat.zero_add, Nat.add_zero, hx_up_s, hx_up_in, hx_up_ne, p0, b2s] at h55
                all_goals (try (exfalso; omega))
                all_goals (try simp (disch := omega) only [nI_add, nI_mulN, pk_sub, nI_clamp, Nat.reduceAdd, Nat.reduceMul, Nat.reduceSub, Nat.zero_add, Nat.add_zero, hx_up_s, hx_up_in, hx_up_ne, p0, b2s])
                all_goals
                  refine Rq.s (fun _ => b142_70) ?_
                  try simp (disch := omega) only [nI_add, nI_mulN, pk_sub, nI_clamp, Nat.reduceAdd, Nat.reduceMul, Nat.reduceSub, Nat.zero_add, Nat.add_zero, hx_up_s, hx_up_in, hx_up_ne, p0, b2s]
                  refine Rq.bf (fun _ => b142_75) (h0') ?_
                  try simp (disch := omega) only [nI_add, nI_mulN, pk_sub, nI_clamp, Nat.reduceAdd, Nat.reduceMul, Nat.reduceSub, Nat.zero_add, Nat.add_zero, hx_up_s, hx_up_in, hx_up_ne, p0, b2s]
                  refine Rq.s (fun _ => b142_83 (by (try simp (disch := omega) only [nI_add, nI_mulN, pk_sub, nI_clamp, Nat.reduceAdd, Nat.reduceMul, Nat.reduceSub, Nat.zero_add, Nat.add_zero, hx_up_s, hx_up_in, hx_up_ne, p0, b2s]); exact h139b)) ?_
                  refine Rq.bt (fun _ => b142_91) (rfl) ?_
                  refine Rq.bf (fun _ => b142_147) (by first | (rw [p1]; exact fun z => z rfl) | (simp (disch := omega) only [hx_up_s, hx_up_in, p1]; exact fun z => z rfl)) ?_
                  refine Rq.s (fun _ => b142_155 (by (try simp (disch := omega) only [nI_add, nI_mulN, pk_sub, nI_clamp, Nat.reduceAdd, Nat.reduceMul, Nat.reduceSub, Nat.zero_add, Nat.add_zero, hx_up_s, hx_up_in, hx_up_ne, p0, b2s]); exact hr102)) ?_
                  refine Rq.bf (fun _ => b142_161) (fun z => z rfl) ?_
                  refine Rq.s (fun _ => b142_164) ?_
                  try simp (disch := omega) only [nI_add, nI_mulN, pk_sub, nI_clamp, Nat.reduceAdd, Nat.reduceMul, Nat.reduceSub, Nat.zero_add, Nat.add_zero, hx_up_s, hx_up_in, hx_up_ne, p0, b2s]
                  refine Rq.e (b142_169 (by decide)) ?_
                  exact ⟨(by repeat (first | exact eqP.rf | refine eqP.u79 ?_ (by omega))), (by simp (disch := omega) only [hx_up_ne]), _, rfl, Or.inr (Or.inr ⟨(by simp (disch := omega) only [hx_up_s, hx_up_in]), (by simp (disch := omega) only [hx_up_s, hx_up_in]), hl, hd, hb, hr, hx⟩)⟩
    · rw [if_neg hb] at h141
      have hno : ¬ (s < len ∧ DG (b s) ∧ BG lo hi (b s - 48)) := fun z => hb z.2.2
      by_cases h0 : b s - 48 = 0
      · have h0' : nI (b s - 48) ≤ 0 := by rw [h0]; decide
        refine Cq.c (fun _ _ _ => c142) ?_
        refine Rq.s (fun _ => b142_0 (by (try simp (disch := omega) only [nI_add, nI_mulN, pk_sub, nI_clamp, Nat.reduceAdd, Nat.reduceMul, Nat.reduceSub, Nat.zero_add, Nat.add_zero, hx_up_s, hx_up_in, hx_up_ne, p0, b2s]); exact h139)) ?_
        refine Rq.bf (fun _ => b142_8) (by decide) ?_
        refine Rq.s (fun _ => b142_11 (by (try simp (disch := omega) only [nI_add, nI_mulN, pk_sub, nI_clamp, Nat.reduceAdd, Nat.reduceMul, Nat.reduceSub, Nat.zero_add, Nat.add_zero, hx_up_s, hx_up_in, hx_up_ne, p0, b2s]); exact nI_inbT (by omega) (by omega))) ?_
        try simp (disch := omega) only [nI_add, nI_mulN, pk_sub, nI_clamp, Nat.reduceAdd, Nat.reduceMul, Nat.reduceSub, Nat.zero_add, Nat.add_zero, hx_up_s, hx_up_in, hx_up_ne, p0, b2s]
        refine Rq.bf (fun _ => b142_27) (by first | (rw [p1]; exact fun z => z rfl) | (simp (disch := omega) only [hx_up_s, hx_up_in, p1]; exact fun z => z rfl)) ?_
        refine Rq.bf (fun _ => b142_36) (by simp (disch := omega) only [z_eq, z_nI, z_m1, Int32.le_iff_toInt_le, z_0]; omega) ?_
        refine Rq.s (fun _ => b142_41 (by (try simp (disch := omega) only [nI_add, nI_mulN, pk_sub, nI_clamp, Nat.reduceAdd, Nat.reduceMul, Nat.reduceSub, Nat.zero_add, Nat.add_zero, hx_up_s, hx_up_in, hx_up_ne, p0, b2s]); exact h141)) ?_
        refine Rq.bf (fun _ => b142_47) (fun z => z rfl) ?_
        refine Rq.s (fun _ => b142_50) ?_
        try simp (disch := omega) only [nI_add, nI_mulN, pk_sub, nI_clamp, Nat.reduceAdd, Nat.reduceMul, Nat.reduceSub, Nat.zero_add, Nat.add_zero, hx_up_s, hx_up_in, hx_up_ne, p0, b2s]
        refine Rq.b (fun _ => b142_55 (by decide)) (fun h55 => ?_) (fun h55 => ?_)
        · try simp (disch := omega) only [Int32.le_iff_toInt_le, Int32.lt_iff_toInt_lt, z_eq, z_nI, z_0, z_m1, z_sub, nI_add, nI_mulN, pk_sub, nI_clamp, Nat.reduceAdd, Nat.reduceMul, Nat.reduceSub, Nat.zero_add, Nat.add_zero, hx_up_s, hx_up_in, hx_up_ne, p0, b2s] at h55
          all_goals (try (exfalso; omega))
          all_goals (try simp (disch := omega) only [nI_add, nI_mulN, pk_sub, nI_clamp, Nat.reduceAdd, Nat.reduceMul, Nat.reduceSub, Nat.zero_add, Nat.add_zero, hx_up_s, hx_up_in, hx_up_ne, p0, b2s])
          all_goals
            refine Rq.s (fun _ => b142_74) ?_
            try simp (disch := omega) only [nI_add, nI_mulN, pk_sub, nI_clamp, Nat.reduceAdd, Nat.reduceMul, Nat.reduceSub, Nat.zero_add, Nat.add_zero, hx_up_s, hx_up_in, hx_up_ne, p0, b2s]
            refine Rq.bt (fun _ => b142_75) (h0') ?_
            try simp (disch := omega) only [nI_add, nI_mulN, pk_sub, nI_clamp, Nat.reduceAdd, Nat.reduceMul, Nat.reduceSub, Nat.zero_add, Nat.add_zero, hx_up_s, hx_up_in, hx_up_ne, p0, b2s]
            refine Rq.bt (fun _ => b142_147) (by first | (rw [p1]; decide) | (simp (disch := omega) only [hx_up_s, hx_up_in]; decide)) ?_
            refine Rq.s (fun _ => b142_164) ?_
            try simp (disch := omega) only [nI_add, nI_mulN, pk_sub, nI_clamp, Nat.reduceAdd, Nat.reduceMul, Nat.reduceSub, Nat.zero_add, Nat.add_zero, hx_up_s, hx_up_in, hx_up_ne, p0, b2s]
            refine Rq.e (b142_169 (by decide)) ?_
            exact ⟨(by repeat (first | exact eqP.rf | refine eqP.u79 ?_ (by omega))), (by simp (disch := omega) only [hx_up_ne]), _, rfl, Or.inr (Or.inl ⟨(by simp (disch := omega) only [hx_up_s, hx_up_in]), (by simp (disch := omega) only [hx_up_s, hx_up_in]), hno⟩)⟩
        · try simp (disch := omega) only [Int32.le_iff_toInt_le, Int32.lt_iff_toInt_lt, z_eq, z_nI, z_0, z_m1, z_sub, nI_add, nI_mulN, pk_sub, nI_clamp, Nat.reduceAdd, Nat.reduceMul, Nat.reduceSub, Nat.zero_add, Nat.add_zero, hx_up_s, hx_up_in, hx_up_ne, p0, b2s] at h55
          all_goals (try (exfalso; omega))
          all_goals (try simp (disch := omega) only [nI_add, nI_mulN, pk_sub, nI_clamp, Nat.reduceAdd, Nat.reduceMul, Nat.reduceSub, Nat.zero_add, Nat.add_zero, hx_up_s, hx_up_in, hx_up_ne, p0, b2s])
          all_goals
            refine Rq.s (fun _ => b142_70) ?_
            try simp (disch := omega) only [nI_add, nI_mulN, pk_sub, nI_clamp, Nat.reduceAdd, Nat.reduceMul, Nat.reduceSub, Nat.zero_add, Nat.add_zero, hx_up_s, hx_up_in, hx_up_ne, p0, b2s]
            refine Rq.bt (fun _ => b142_75) (h0') ?_
            try simp (disch := omega) only [nI_add, nI_mulN, pk_sub, nI_clamp, Nat.reduceAdd, Nat.reduceMul, Nat.reduceSub, Nat.zero_add, Nat.add_zero, hx_up_s, hx_up_in, hx_up_ne, p0, b2s]
            refine Rq.bt (fun _ => b142_147) (by first | (rw [p1]; decide) | (simp (disch := omega) only [hx_up_s, hx_up_in]; decide)) ?_
            refine Rq.s (fun _ => b142_164) ?_
            try simp (disch := omega) only [nI_add, nI_mulN, pk_sub, nI_clamp, Nat.reduceAdd, Nat.reduceMul, Nat.reduceSub, Nat.zero_add, Nat.add_zero, hx_up_s, hx_up_in, hx_up_ne, p0, b2s]
            refine Rq.e (b142_169 (by decide)) ?_
            exact ⟨(by repeat (first | exact eqP.rf | refine eqP.u79 ?_ (by omega))), (by simp (disch := omega) only [hx_up_ne]), _, rfl, Or.inr (Or.inl ⟨(by simp (disch := omega) only [hx_up_s, hx_up_in]), (by simp (disch := omega) only [hx_up_s, hx_up_in]), hno⟩)⟩
      · have h0' : ¬ nI (b s - 48) ≤ 0 := by simp (disch := omega) only [z_eq, z_nI, z_m1, Int32.le_iff_toInt_le, z_0]; omega
        refine Cq.c (fun _ _ _ => c142) ?_
        refine Rq.s (fun _ => b142_0 (by (try simp (disch := omega) only [nI_add, nI_mulN, pk_sub, nI_clamp, Nat.reduceAdd, Nat.reduceMul, Nat.reduceSub, Nat.zero_add, Nat.add_zero, hx_up_s, hx_up_in, hx_up_ne, p0, b2s]); exact h139)) ?_
        refine Rq.bf (fun _ => b142_8) (by decide) ?_
        refine Rq.s (fun _ => b142_11 (by (try simp (disch := omega) only [nI_add, nI_mulN, pk_sub, nI_clamp, Nat.reduceAdd, Nat.reduceMul, Nat.reduceSub, Nat.zero_add, Nat.add_zero, hx_up_s, hx_up_in, hx_up_ne, p0, b2s]); exact nI_inbT (by omega) (by omega))) ?_
        try simp (disch := omega) only [nI_add, nI_mulN, pk_sub, nI_clamp, Nat.reduceAdd, Nat.reduceMul, Nat.reduceSub, Nat.zero_add, Nat.add_zero, hx_up_s, hx_up_in, hx_up_ne, p0, b2s]
        refine Rq.bf (fun _ => b142_27) (by first | (rw [p1]; exact fun z => z rfl) | (simp (disch := omega) only [hx_up_s, hx_up_in, p1]; exact fun z => z rfl)) ?_
        refine Rq.bf (fun _ => b142_36) (by simp (disch := omega) only [z_eq, z_nI, z_m1, Int32.le_iff_toInt_le, z_0]; omega) ?_
        refine Rq.s (fun _ => b142_41 (by (try simp (disch := omega) only [nI_add, nI_mulN, pk_sub, nI_clamp, Nat.reduceAdd, Nat.reduceMul, Nat.reduceSub, Nat.zero_add, Nat.add_zero, hx_up_s, hx_up_in, hx_up_ne, p0, b2s]); exact h141)) ?_
        refine Rq.bf (fun _ => b142_47) (fun z => z rfl) ?_
        refine Rq.s (fun _ => b142_50) ?_
        try simp (disch := omega) only [nI_add, nI_mulN, pk_sub, nI_clamp, Nat.reduceAdd, Nat.reduceMul, Nat.reduceSub, Nat.zero_add, Nat.add_zero, hx_up_s, hx_up_in, hx_up_ne, p0, b2s]
        refine Rq.b (fun _ => b142_55 (by decide)) (fun h55 => ?_) (fun h55 => ?_)
        · try simp (disch := omega) only [Int32.le_iff_toInt_le, Int32.lt_iff_toInt_lt, z_eq, z_nI, z_0, z_m1, z_sub, nI_add, nI_mulN, pk_sub, nI_clamp, Nat.reduceAdd, Nat.reduceMul, Nat.reduceSub, Nat.zero_add, Nat.add_zero, hx_up_s, hx_up_in, hx_up_ne, p0, b2s] at h55
          all_goals (try (exfalso; omega))
          all_goals (try simp (disch := omega) only [nI_add, nI_mulN, pk_sub, nI_clamp, Nat.reduceAdd, Nat.reduceMul, Nat.reduceSub, Nat.zero_add, Nat.add_zero, hx_up_s, hx_up_in, hx_up_ne, p0, b2s])
          all_goals
            refine Rq.s (fun _ => b142_74) ?_
            try simp (disch := omega) only [nI_add, nI_mulN, pk_sub, nI_clamp, Nat.reduceAdd, Nat.reduceMul, Nat.reduceSub, Nat.zero_add, Nat.add_zero, hx_up_s, hx_up_in, hx_up_ne, p0, b2s]
            refine Rq.bf (fun _ => b142_75) (h0') ?_
            try simp (disch := omega) only [nI_add, nI_mulN, pk_sub, nI_clamp, Nat.reduceAdd, Nat.reduceMul, Nat.reduceSub, Nat.zero_add, Nat.add_zero, hx_up_s, hx_up_in, hx_up_ne, p0, b2s]
            refine Rq.s (fun _ => b142_83 (by (try simp (disch := omega) only [nI_add, nI_mulN, pk_sub, nI_clamp, Nat.reduceAdd, Nat.reduceMul, Nat.reduceSub, Nat.zero_add, Nat.add_zero, hx_up_s, hx_up_in, hx_up_ne, p0, b2s]); exact m139B (by simp (disch := omega) only [hx_up_s, hx_up_in]))) ?_
            refine Rq.bt (fun _ => b142_91) (rfl) ?_
            refine Rq.bt (fun _ => b142_147) (by first | (rw [p1]; decide) | (simp (disch := omega) only [hx_up_s, hx_up_in]; decide)) ?_
            refine Rq.s (fun _ => b142_164) ?_
            try simp (disch := omega) only [nI_add, nI_mulN, pk_sub, nI_clamp, Nat.reduceAdd, Nat.reduceMul, Nat.reduceSub, Nat.zero_add, Nat.add_zero, hx_up_s, hx_up_in, hx_up_ne, p0, b2s]
            refine Rq.e (b142_169 (by decide)) ?_
            exact ⟨(by repeat (first | exact eqP.rf | refine eqP.u79 ?_ (by omega))), (by simp (disch := omega) only [hx_up_ne]), _, rfl, Or.inr (Or.inl ⟨(by simp (disch := omega) only [hx_up_s, hx_up_in]), (by simp (disch := omega) only [hx_up_s, hx_up_in]), hno⟩)⟩
        · try simp (disch := omega) only [Int32.le_iff_toInt_le, Int32.lt_iff_toInt_lt, z_eq, z_nI, z_0, z_m1, z_sub, nI_add, nI_mulN, pk_sub, nI_clamp, Nat.reduceAdd, Nat.reduceMul, Nat.reduceSub, Nat.zero_add, Nat.add_zero, hx_up_s, hx_up_in, hx_up_ne, p0, b2s] at h55
          all_goals (try (exfalso; omega))
          all_goals (try simp (disch := omega) only [nI_add, nI_mulN, pk_sub, nI_clamp, Nat.reduceAdd, Nat.reduceMul, Nat.reduceSub, Nat.zero_add, Nat.add_zero, hx_up_s, hx_up_in, hx_up_ne, p0, b2s])
          all_goals
            refine Rq.s (fun _ => b142_70) ?_
            try simp (disch := omega) only [nI_add, nI_mulN, pk_sub, nI_clamp, Nat.reduceAdd, Nat.reduceMul, Nat.reduceSub, Nat.zero_add, Nat.add_zero, hx_up_s, hx_up_in, hx_up_ne, p0, b2s]
            refine Rq.bf (fun _ => b142_75) (h0') ?_
            try simp (disch := omega) only [nI_add, nI_mulN, pk_sub, nI_clamp, Nat.reduceAdd, Nat.reduceMul, Nat.reduceSub, Nat.zero_add, Nat.add_zero, hx_up_s, hx_up_in, hx_up_ne, p0, b2s]
            refine Rq.s (fun _ => b142_83 (by (try simp (disch := omega) only [nI_add, nI_mulN, pk_sub, nI_clamp, Nat.reduceAdd, Nat.reduceMul, Nat.reduceSub, Nat.zero_add, Nat.add_zero, hx_up_s, hx_up_in, hx_up_ne, p0, b2s]); exact m139B (by simp (disch := omega) only [hx_up_s, hx_up_in]))) ?_
            refine Rq.bt (fun _ => b142_91) (rfl) ?_
            refine Rq.bt (fun _ => b142_147) (by first | (rw [p1]; decide) | (simp (disch := omega) only [hx_up_s, hx_up_in]; decide)) ?_
            refine Rq.s (fun _ => b142_164) ?_
            try simp (disch := omega) only [nI_add, nI_mulN, pk_sub, nI_clamp, Nat.reduceAdd, Nat.reduceMul, Nat.reduceSub, Nat.zero_add, Nat.add_zero, hx_up_s, hx_up_in, hx_up_ne, p0, b2s]
            refine Rq.e (b142_169 (by decide)) ?_
            exact ⟨(by repeat (first | exact eqP.rf | refine eqP.u79 ?_ (by omega))), (by simp (disch := omega) only [hx_up_ne]), _, rfl, Or.inr (Or.inl ⟨(by simp (disch := omega) only [hx_up_s, hx_up_in]), (by simp (disch := omega) only [hx_up_s, hx_up_in]), hno⟩)⟩
  · have hno : ¬ (s < len ∧ DG (b s) ∧ BG lo hi (b s - 48)) := fun z => hd0 ⟨z.1, z.2.1⟩
    have h139 : Cl sc (d + 1) 139 [.ref 79, .int (nI 48), .int (nI 57)] (hx_S0, D, G) (.inl (some (.int (nI 0)))) (hx_S0, D, G) := by
      by_cases hl : s < len
      · have h139 := m139F (sc := sc) (d := d) (G := G) (lo := 48) (hi := 57) B h hl (by omega) (by omega)
        rw [if_neg (fun z => hd0 ⟨hl, z⟩)] at h139
        exact h139
      · rw [show s = len by omega] at h
        exact m139E B h
    refine Cq.c (fun _ _ _ => c142) ?_
    refine Rq.s (fun _ => b142_0 (by (try simp (disch := omega) only [nI_add, nI_mulN, pk_sub, nI_clamp, Nat.reduceAdd, Nat.reduceMul, Nat.reduceSub, Nat.zero_add, Nat.add_zero, hx_up_s, hx_up_in, hx_up_ne, p0]); exact h139)) ?_
    refine Rq.bt (fun _ => b142_8) (rfl) ?_
    refine Rq.s (fun _ => b142_26) ?_
    try simp (disch := omega) only [nI_add, nI_mulN, pk_sub, nI_clamp, Nat.reduceAdd, Nat.reduceMul, Nat.reduceSub, Nat.zero_add, Nat.add_zero, hx_up_s, hx_up_in, hx_up_ne, p0]
    refine Rq.bf (fun _ => b142_27) (by first | (rw [p1]; exact fun z => z rfl) | (simp (disch := omega) only [hx_up_s, hx_up_in, p1]; exact fun z => z rfl)) ?_
    refine Rq.bt (fun _ => b142_36) (rfl) ?_
    refine Rq.s (fun _ => b142_50) ?_
    try simp (disch := omega) only [nI_add, nI_mulN, pk_sub, nI_clamp, Nat.reduceAdd, Nat.reduceMul, Nat.reduceSub, Nat.zero_add, Nat.add_zero, hx_up_s, hx_up_in, hx_up_ne, p0]
    refine Rq.b (fun _ => b142_55 (by decide)) (fun h55 => ?_) (fun h55 => ?_)
    · try simp (disch := omega) only [Int32.le_iff_toInt_le, Int32.lt_iff_toInt_lt, z_eq, z_nI, z_0, z_m1, z_sub, nI_add, nI_mulN, pk_sub, nI_clamp, Nat.reduceAdd, Nat.reduceMul, Nat.reduceSub, Nat.zero_add, Nat.add_zero, hx_up_s, hx_up_in, hx_up_ne, p0] at h55
      all_goals (try (exfalso; omega))
      all_goals (try simp (disch := omega) only [nI_add, nI_mulN, pk_sub, nI_clamp, Nat.reduceAdd, Nat.reduceMul, Nat.reduceSub, Nat.zero_add, Nat.add_zero, hx_up_s, hx_up_in, hx_up_ne, p0])
      all_goals
        refine Rq.s (fun _ => b142_74) ?_
        try simp (disch := omega) only [nI_add, nI_mulN, pk_sub, nI_clamp, Nat.reduceAdd, Nat.reduceMul, Nat.reduceSub, Nat.zero_add, Nat.add_zero, hx_up_s, hx_up_in, hx_up_ne, p0]
        refine Rq.bt (fun _ => b142_75) (by decide) ?_
        try simp (disch := omega) only [nI_add, nI_mulN, pk_sub, nI_clamp, Nat.reduceAdd, Nat.reduceMul, Nat.reduceSub, Nat.zero_add, Nat.add_zero, hx_up_s, hx_up_in, hx_up_ne, p0]
        refine Rq.bt (fun _ => b142_147) (by first | (rw [p1]; decide) | (simp (disch := omega) only [hx_up_s, hx_up_in]; decide)) ?_
        refine Rq.s (fun _ => b142_164) ?_
        try simp (disch := omega) only [nI_add, nI_mulN, pk_sub, nI_clamp, Nat.reduceAdd, Nat.reduceMul, Nat.reduceSub, Nat.zero_add, Nat.add_zero, hx_up_s, hx_up_in, hx_up_ne, p0]
        refine Rq.e (b142_169 (by decide)) ?_
        exact ⟨(by repeat (first | exact eqP.rf | refine eqP.u79 ?_ (by omega))), (by simp (disch := omega) only [hx_up_ne]), _, rfl, Or.inr (Or.inl ⟨(by simp (disch := omega) only [hx_up_s, hx_up_in]), (by simp (disch := omega) only [hx_up_s, hx_up_in]), hno⟩)⟩
    · try simp (disch := omega) only [Int32.le_iff_toInt_le, Int32.lt_iff_toInt_lt, z_eq, z_nI, z_0, z_m1, z_sub, nI_add, nI_mulN, pk_sub, nI_clamp, Nat.reduceAdd, Nat.reduceMul, Nat.reduceSub, Nat.zero_add, Nat.add_zero, hx_up_s, hx_up_in, hx_up_ne, p0] at h55
      all_goals (try (exfalso; omega))
      all_goals (try simp (disch := omega) only [nI_add, nI_mulN, pk_sub, nI_clamp, Nat.reduceAdd, Nat.reduceMul, Nat.reduceSub, Nat.zero_add, Nat.add_zero, hx_up_s, hx_up_in, hx_up_ne, p0])
      all_goals
        refine Rq.s (fun _ => b142_70) ?_
        try simp (disch := omega) only [nI_add, nI_mulN, pk_sub, nI_clamp, Nat.reduceAdd, Nat.reduceMul, Nat.reduceSub, Nat.zero_add, Nat.add_zero, hx_up_s, hx_up_in, hx_up_ne, p0]
        refine Rq.bt (fun _ => b142_75) (by decide) ?_
        try simp (disch := omega) only [nI_add, nI_mulN, pk_sub, nI_clamp, Nat.reduceAdd, Nat.reduceMul, Nat.reduceSub, Nat.zero_add, Nat.add_zero, hx_up_s, hx_up_in, hx_up_ne, p0]
        refine Rq.bt (fun _ => b142_147) (by first | (rw [p1]; decide) | (simp (disch := omega) only [hx_up_s, hx_up_in]; decide)) ?_
        refine Rq.s (fun _ => b142_164) ?_
        try simp (disch := omega) only [nI_add, nI_mulN, pk_sub, nI_clamp, Nat.reduceAdd, Nat.reduceMul, Nat.reduceSub, Nat.zero_add, Nat.add_zero, hx_up_s, hx_up_in, hx_up_ne, p0]
        refine Rq.e (b142_169 (by decide)) ?_
        exact ⟨(by repeat (first | exact eqP.rf | refine eqP.u79 ?_ (by omega))), (by simp (disch := omega) only [hx_up_ne]), _, rfl, Or.inr (Or.inl ⟨(by simp (disch := omega) only [hx_up_s, hx_up_in]), (by simp (disch := omega) only [hx_up_s, hx_up_in]), hno⟩)⟩
theorem m142B {sc : Nat × (Nat → Int32)} {d : Nat} {D : Nat → Nat → Int32} {G : Nat → Nat → Int64} {e : Nat} {x y : Int32} (he : e < 100) (p0 : D 79 13 = nI e) (p1 : D 79 14 = nI 1) : Cq sc (d + 2) 142 [.ref 79, .int x, .int y] D G (fun r D2 => eqP D D2 ∧ D2 88 = D 88 ∧ ∃ z, r = .inl (some (.int z)) ∧ D2 79 13 = nI e ∧ D2 79 14 = nI 1) := by
  refine Cq.c (fun _ _ _ => c142) ?_
  refine Rq.s (fun _ => b142_0 (by (try simp (disch := omega) only [nI_add, nI_mulN, pk_sub, nI_clamp, Nat.reduceAdd, Nat.reduceMul, Nat.reduceSub, Nat.zero_add, Nat.add_zero, hx_up_s, hx_up_in, hx_up_ne, p0]); exact m139B p1)) ?_
  refine Rq.bt (fun _ => b142_8) (rfl) ?_
  refine Rq.s (fun _ => b142_26) ?_
  try simp (disch := omega) only [nI_add, nI_mulN, pk_sub, nI_clamp, Nat.reduceAdd, Nat.reduceMul, Nat.reduceSub, Nat.zero_add, Nat.add_zero, hx_up_s, hx_up_in, hx_up_ne, p0]
  refine Rq.bt (fun _ => b142_27) (by first | (rw [p1]; decide) | (simp (disch := omega) only [hx_up_s, hx_up_in]; decide)) ?_
  refine Rq.s (fun _ => b142_50) ?_
  try simp (disch := omega) only [nI_add, nI_mulN, pk_sub, nI_clamp, Nat.reduceAdd, Nat.reduceMul, Nat.reduceSub, Nat.zero_add, Nat.add_zero, hx_up_s, hx_up_in, hx_up_ne, p0]
  refine Rq.b (fun _ => b142_55 (by decide)) (fun h55 => ?_) (fun h55 => ?_)
  · try simp (disch := omega) only [Int32.le_iff_toInt_le, Int32.lt_iff_toInt_lt, z_eq, z_nI, z_0, z_m1, z_sub, nI_add, nI_mulN, pk_sub, nI_clamp, Nat.reduceAdd, Nat.reduceMul, Nat.reduceSub, Nat.zero_add, Nat.add_zero, hx_up_s, hx_up_in, hx_up_ne, p0] at h55
    all_goals (try (exfalso; omega))
    all_goals (try simp (disch := omega) only [nI_add, nI_mulN, pk_sub, nI_clamp, Nat.reduceAdd, Nat.reduceMul, Nat.reduceSub, Nat.zero_add, Nat.add_zero, hx_up_s, hx_up_in, hx_up_ne, p0])
    all_goals
      refine Rq.s (fun _ => b142_74) ?_
      try simp (disch := omega) only [nI_add, nI_mulN, pk_sub, nI_clamp, Nat.reduceAdd, Nat.reduceMul, Nat.reduceSub, Nat.zero_add, Nat.add_zero, hx_up_s, hx_up_in, hx_up_ne, p0]
      refine Rq.bt (fun _ => b142_75) (by decide) ?_
      try simp (disch := omega) only [nI_add, nI_mulN, pk_sub, nI_clamp, Nat.reduceAdd, Nat.reduceMul, Nat.reduceSub, Nat.zero_add, Nat.add_zero, hx_up_s, hx_up_in, hx_up_ne, p0]
      refine Rq.bt (fun _ => b142_147) (by first | (rw [p1]; decide) | (simp (disch := omega) only [hx_up_s, hx_up_in]; decide)) ?_
      refine Rq.s (fun _ => b142_164) ?_
      try simp (disch := omega) only [nI_add, nI_mulN, pk_sub, nI_clamp, Nat.reduceAdd, Nat.reduceMul, Nat.reduceSub, Nat.zero_add, Nat.add_zero, hx_up_s, hx_up_in, hx_up_ne, p0]
      refine Rq.e (b142_169 (by decide)) ?_
      exact ⟨(by repeat (first | exact eqP.rf | refine eqP.u79 ?_ (by omega))), (by simp (disch := omega) only [hx_up_ne]), _, rfl, (by simp (disch := omega) only [hx_up_s, hx_up_in]), (by simp (disch := omega) only [hx_up_s, hx_up_in])⟩
  · try simp (disch := omega) only [Int32.le_iff_toInt_le, Int32.lt_iff_toInt_lt, z_eq, z_nI, z_0, z_m1, z_sub, nI_add, nI_mulN, pk_sub, nI_clamp, Nat.reduceAdd, Nat.reduceMul, Nat.reduceSub, Nat.zero_add, Nat.add_zero, hx_up_s, hx_up_in, hx_up_ne, p0] at h55
    all_goals (try (exfalso; omega))
    all_goals (try simp (disch := omega) only [nI_add, nI_mulN, pk_sub, nI_clamp, Nat.reduceAdd, Nat.reduceMul, Nat.reduceSub, Nat.zero_add, Nat.add_zero, hx_up_s, hx_up_in, hx_up_ne, p0])
    all_goals
      refine Rq.s (fun _ => b142_70) ?_
      try simp (disch := omega) only [nI_add, nI_mulN, pk_sub, nI_clamp, Nat.reduceAdd, Nat.reduceMul, Nat.reduceSub, Nat.zero_add, Nat.add_zero, hx_up_s, hx_up_in, hx_up_ne, p0]
      refine Rq.bt (fun _ => b142_75) (by decide) ?_
      try simp (disch := omega) only [nI_add, nI_mulN, pk_sub, nI_clamp, Nat.reduceAdd, Nat.reduceMul, Nat.reduceSub, Nat.zero_add, Nat.add_zero, hx_up_s, hx_up_in, hx_up_ne, p0]
      refine Rq.bt (fun _ => b142_147) (by first | (rw [p1]; decide) | (simp (disch := omega) only [hx_up_s, hx_up_in]; decide)) ?_
      refine Rq.s (fun _ => b142_164) ?_
      try simp (disch := omega) only [nI_add, nI_mulN, pk_sub, nI_clamp, Nat.reduceAdd, Nat.reduceMul, Nat.reduceSub, Nat.zero_add, Nat.add_zero, hx_up_s, hx_up_in, hx_up_ne, p0]
      refine Rq.e (b142_169 (by decide)) ?_
      exact ⟨(by repeat (first | exact eqP.rf | refine eqP.u79 ?_ (by omega))), (by simp (disch := omega) only [hx_up_ne]), _, rfl, (by simp (disch := omega) only [hx_up_s, hx_up_in]), (by simp (disch := omega) only [hx_up_s, hx_up_in])⟩
