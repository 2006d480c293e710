/-! ===== the reference reads a text ===== -/
def BM (D : Nat → Nat → Int32) (len : Nat) (b : Nat → Nat) : Prop := D 79 8 = nI len ∧ len ≤ 60 ∧ (∀ i, i < len → D 84 i = nI (b i)) ∧ ∀ i, i < len → b i < 200
/-- only the spot, the error's mark, the piece read have changed -/
def eqP (D D2 : Nat → Nat → Int32) : Prop := (∀ a, a ≠ 79 → a ≠ 88 → D2 a = D a) ∧ ∀ j, j ≠ 13 → j ≠ 14 → D2 79 j = D 79 j
theorem eqP.rf {D : Nat → Nat → Int32} : eqP D D := ⟨fun _ _ _ => rfl, fun _ _ _ => rfl⟩
theorem eqP.tr {D D2 D3 : Nat → Nat → Int32} (h : eqP D D2) (h2 : eqP D2 D3) : eqP D D3 := ⟨fun a a1 a2 => by rw [h2.1 a a1 a2, h.1 a a1 a2], fun j j1 j2 => by rw [h2.2 j j1 j2, h.2 j j1 j2]⟩
theorem eqP.u79 {D D2 : Nat → Nat → Int32} (h : eqP D D2) {k : Nat} {x : Int32} (hk : k = 13 ∨ k = 14) : eqP D (hx_up D2 79 k x) := ⟨fun a a1 a2 => by rw [hx_up_ne (by omega)]; exact h.1 a a1 a2, fun j j1 j2 => by rw [hx_up_in _ _ _ (by omega)]; exact h.2 j j1 j2⟩
theorem eqP.u88 {D D2 : Nat → Nat → Int32} (h : eqP D D2) {k : Nat} {x : Int32} : eqP D (hx_up D2 88 k x) := ⟨fun a a1 a2 => by rw [hx_up_ne (by omega)]; exact h.1 a a1 a2, fun j j1 j2 => by rw [hx_up_ne (by omega)]; exact h.2 j j1 j2⟩
theorem eqP.B {D D2 : Nat → Nat → Int32} {len : Nat} {b : Nat → Nat} (h : eqP D D2) (B : BM D len b) : BM D2 len b := ⟨by rw [h.2 8 (by omega) (by omega)]; exact B.1, B.2.1, fun i hi => by rw [h.1 84 (by omega) (by omega)]; exact B.2.2.1 i hi, B.2.2.2⟩
def PF (D : Nat → Nat → Int32) (s : Nat) : Prop := D 79 13 = nI s ∧ D 79 14 = nI 0
/-- reading stops there -/
def Bad (b : Nat → Nat) (len e : Nat) : Prop := (e < len ∧ ∃ q, aSt b e = some q ∧ aT q (b e) = none) ∨ (e = len ∧ ∃ q, aSt b e = some q ∧ qwhole q = false)
def PB (D : Nat → Nat → Int32) (len : Nat) (b : Nat → Nat) : Prop := ∃ e, e ≤ len ∧ Bad b len e ∧ D 79 13 = nI e ∧ D 79 14 = nI 1
theorem m139F {sc : Nat × (Nat → Int32)} {d : Nat} {D : Nat → Nat → Int32} {G : Nat → Nat → Int64} {len : Nat} {b : Nat → Nat} {s lo hi : Nat} (B : BM D len b) (h : PF D s) (hs : s < len) (h1 : lo < 200) (h2 : hi < 200) : Cl sc (d + 1) 139 [.ref 79, .int (nI lo), .int (nI hi)] (hx_S0, D, G) (.inl (some (.int (nI (if lo ≤ b s ∧ b s ≤ hi then 1 else 0))))) (hx_S0, D, G) := by
  obtain ⟨b0, b1, b2, b3⟩ := B
  obtain ⟨p0, p1⟩ := h
  have b2s := b2 s hs
  have b3s := b3 s hs
  have h102 := m102 (sc := sc) (d := d) (D := D) (G := G) (z_nI (n := b s) (by omega)) (z_nI (n := lo) (by omega)) (z_nI (n := hi) (by omega)) (P := lo ≤ b s ∧ b s ≤ hi) (by omega)
  refine Cq.p ?_
  by_cases c : lo ≤ b s ∧ b s ≤ hi
  · rw [if_pos c] at h102 ⊢
    refine Cq.c (fun _ _ _ => c139) ?_
    refine Rq.bf (fun _ => b139_0) (by rw [p1]; exact fun z => z rfl) ?_
    refine Rq.bf (fun _ => b139_7) (by rw [p0, b0]; simp (disch := omega) only [Int32.le_iff_toInt_le, z_nI]; omega) ?_
    refine Rq.s (fun _ => b139_18 (by (try simp (disch := omega) only [nI_add, nI_mulN, pk_sub, nI_clamp, Nat.reduceAdd, Nat.reduceMul, Nat.reduceSub, Nat.zero_add, Nat.add_zero, p0, p1, b0, b2s]); exact nI_inbT (by omega) (by omega)) (by (try simp (disch := omega) only [nI_add, nI_mulN, pk_sub, nI_clamp, Nat.reduceAdd, Nat.reduceMul, Nat.reduceSub, Nat.zero_add, Nat.add_zero, p0, p1, b0, b2s]); exact h102)) ?_
    refine Rq.bf (fun _ => b139_32) (by decide) ?_
    refine Rq.s (fun _ => b139_35) ?_
    try simp (disch := omega) only [nI_add, nI_mulN, pk_sub, nI_clamp, Nat.reduceAdd, Nat.reduceMul, Nat.reduceSub, Nat.zero_add, Nat.add_zero, p0, p1, b0, b2s]
    refine Rq.e (b139_40b (by first | exact Or.inl rfl | exact Or.inr rfl | (split <;> first | exact Or.inl rfl | exact Or.inr rfl))) ?_
    exact Qp.i rfl
  · rw [if_neg c] at h102 ⊢
    refine Cq.c (fun _ _ _ => c139) ?_
    refine Rq.bf (fun _ => b139_0) (by rw [p1]; exact fun z => z rfl) ?_
    refine Rq.bf (fun _ => b139_7) (by rw [p0, b0]; simp (disch := omega) only [Int32.le_iff_toInt_le, z_nI]; omega) ?_
    refine Rq.s (fun _ => b139_18 (by (try simp (disch := omega) only [nI_add, nI_mulN, pk_sub, nI_clamp, Nat.reduceAdd, Nat.reduceMul, Nat.reduceSub, Nat.zero_add, Nat.add_zero, p0, p1, b0, b2s]); exact nI_inbT (by omega) (by omega)) (by (try simp (disch := omega) only [nI_add, nI_mulN, pk_sub, nI_clamp, Nat.reduceAdd, Nat.reduceMul, Nat.reduceSub, Nat.zero_add, Nat.add_zero, p0, p1, b0, b2s]); exact h102)) ?_
    refine Rq.bt (fun _ => b139_32) (rfl) ?_
    refine Rq.s (fun _ => b139_39) ?_
    try simp (disch := omega) only [nI_add, nI_mulN, pk_sub, nI_clamp, Nat.reduceAdd, Nat.reduceMul, Nat.reduceSub, Nat.zero_add, Nat.add_zero, p0, p1, b0, b2s]
    refine Rq.e (b139_40 (by first | exact Or.inl rfl | exact Or.inr rfl | (split <;> first | exact Or.inl rfl | exact Or.inr rfl))) ?_
    exact Qp.i rfl
theorem m139E {sc : Nat × (Nat → Int32)} {d : Nat} {D : Nat → Nat → Int32} {G : Nat → Nat → Int64} {len : Nat} {b : Nat → Nat} {lo hi : Nat} (B : BM D len b) (h : PF D len) : Cl sc (d + 1) 139 [.ref 79, .int (nI lo), .int (nI hi)] (hx_S0, D, G) (.inl (some (.int (nI 0)))) (hx_S0, D, G) := by
  obtain ⟨b0, b1, b2, b3⟩ := B
  obtain ⟨p0, p1⟩ := h
  refine Cq.p ?_
  refine Cq.c (fun _ _ _ => c139) ?_
  refine Rq.bf (fun _ => b139_0) (by rw [p1]; exact fun z => z rfl) ?_
  refine Rq.bt (fun _ => b139_7) (by rw [p0, b0]; simp (disch := omega) only [Int32.le_iff_toInt_le, z_nI]; omega) ?_
  refine Rq.s (fun _ => b139_39) ?_
  try simp (disch := omega) only [nI_add, nI_mulN, pk_sub, nI_clamp, Nat.reduceAdd, Nat.reduceMul, Nat.reduceSub, Nat.zero_add, Nat.add_zero, p0, p1, b0]
  refine Rq.e (b139_40 (by first | exact Or.inl rfl | exact Or.inr rfl | (split <;> first | exact Or.inl rfl | exact Or.inr rfl))) ?_
  exact Qp.i rfl
theorem m139B {sc : Nat × (Nat → Int32)} {d : Nat} {D : Nat → Nat → Int32} {G : Nat → Nat → Int64} {x y : Int32} (p1 : D 79 14 = nI 1) : Cl sc (d + 1) 139 [.ref 79, .int x, .int y] (hx_S0, D, G) (.inl (some (.int (nI 0)))) (hx_S0, D, G) := by
  refine Cq.p ?_
  refine Cq.c (fun _ _ _ => c139) ?_
  refine Rq.bt (fun _ => b139_0) (by rw [p1]; decide) ?_
  refine Rq.s (fun _ => b139_39) ?_
  try simp (disch := omega) only [nI_add, nI_mulN, pk_sub, nI_clamp, Nat.reduceAdd, Nat.reduceMul, Nat.reduceSub, Nat.zero_add, Nat.add_zero]
  refine Rq.e (b139_40 (by first | exact Or.inl rfl | exact Or.inr rfl | (split <;> first | exact Or.inl rfl | exact Or.inr rfl))) ?_
  exact Qp.i rfl
theorem m140T {sc : Nat × (Nat → Int32)} {d : Nat} {D : Nat → Nat → Int32} {G : Nat → Nat → Int64} {len : Nat} {b : Nat → Nat} {s lo hi : Nat} (B : BM D len b) (h : PF D s) (hs : s < len) (h1 : lo < 200) (h2 : hi < 200) (c : lo ≤ b s ∧ b s ≤ hi) : Cq sc (d + 2) 140 [.ref 79, .int (nI lo), .int (nI hi)] D G (fun r D2 => r = .inl (some (.int (nI (b s - lo)))) ∧ D2 = hx_up (hx_up D 79 13 (nI (s + 1))) 79 14 (nI 0)) := by
  have h139 := m139F (sc := sc) (d := d) (G := G) B h hs h1 h2
  rw [if_pos c] at h139
  obtain ⟨b0, b1, b2, b3⟩ := B
  obtain ⟨p0, p1⟩ := h
  have b2s := b2 s hs
  have b3s := b3 s hs
  have w14 : hx_up D 79 13 (nI (s + 1)) 79 14 = nI 0 := by rw [hx_up_in _ _ _ (by omega)]; exact p1
  refine Cq.c (fun _ _ _ => c140) ?_
  refine Rq.s (fun _ => b140_0 (by (try simp (disch := omega) only [nI_add, nI_mulN, pk_sub, nI_clamp, Nat.reduceAdd, Nat.reduceMul, Nat.reduceSub, Nat.zero_add, Nat.add_zero, p0, b2s, w14]); exact h139)) ?_
  refine Rq.bf (fun _ => b140_6) (by decide) ?_
  refine Rq.s (fun _ => b140_11 (by (try simp (disch := omega) only [nI_add, nI_mulN, pk_sub, nI_clamp, Nat.reduceAdd, Nat.reduceMul, Nat.reduceSub, Nat.zero_add, Nat.add_zero, p0, b2s, w14]); exact nI_inbT (by omega) (by omega))) ?_
  try simp (disch := omega) only [nI_add, nI_mulN, pk_sub, nI_clamp, Nat.reduceAdd, Nat.reduceMul, Nat.reduceSub, Nat.zero_add, Nat.add_zero, p0, b2s, w14]
  refine Rq.bf (fun _ => b140_26b) (by decide) ?_
  try simp (disch := omega) only [nI_add, nI_mulN, pk_sub, nI_clamp, Nat.reduceAdd, Nat.reduceMul, Nat.reduceSub, Nat.zero_add, Nat.add_zero, p0, b2s, w14]
  refine Rq.s (fun _ => b140_37) ?_
  try simp (disch := omega) only [nI_add, nI_mulN, pk_sub, nI_clamp, Nat.reduceAdd, Nat.reduceMul, Nat.reduceSub, Nat.zero_add, Nat.add_zero, p0, b2s, w14]
  refine Rq.bf (fun _ => b140_42) (by rw [p1]; exact fun z => z rfl) ?_
  try simp (disch := omega) only [nI_add, nI_mulN, pk_sub, nI_clamp, Nat.reduceAdd, Nat.reduceMul, Nat.reduceSub, Nat.zero_add, Nat.add_zero, p0, b2s, w14]
  refine Rq.bt (fun _ => b140_54) (by decide) ?_
  refine Rq.s (fun _ => b140_62) ?_
  try simp (disch := omega) only [nI_add, nI_mulN, pk_sub, nI_clamp, Nat.reduceAdd, Nat.reduceMul, Nat.reduceSub, Nat.zero_add, Nat.add_zero, p0, b2s, w14]
  refine Rq.e (b140_63b (by decide)) ?_
  exact ⟨rfl, rfl⟩
theorem m140N {sc : Nat × (Nat → Int32)} {d : Nat} {D : Nat → Nat → Int32} {G : Nat → Nat → Int64} {len : Nat} {b : Nat → Nat} {s lo hi : Nat} (B : BM D len b) (h : PF D s) (hs : s ≤ len) (h1 : lo < 200) (h2 : hi < 200) (c : ¬ (s < len ∧ lo ≤ b s ∧ b s ≤ hi)) : Cq sc (d + 2) 140 [.ref 79, .int (nI lo), .int (nI hi)] D G (fun r D2 => r = .inl (some (.int (nI 0))) ∧ D2 = hx_up (hx_up D 79 13 (nI s)) 79 14 (nI 1)) := by
  have h139 : Cl sc (d + 1) 139 [.ref 79, .int (nI lo), .int (nI hi)] (hx_S0, D, G) (.inl (some (.int (nI 0)))) (hx_S0, D, G) := by
    by_cases hl : s < len
    · have h139 := m139F (sc := sc) (d := d) (G := G) B h hl h1 h2
      rw [if_neg (fun z => c ⟨hl, z⟩)] at h139
      exact h139
    · rw [show s = len by omega] at h
      exact m139E B h
  obtain ⟨b0, b1, b2, b3⟩ := B
  obtain ⟨p0, p1⟩ := h
  have w14 : hx_up D 79 13 (nI s) 79 14 = nI 0 := by rw [hx_up_in _ _ _ (by omega)]; exact p1
  refine Cq.c (fun _ _ _ => c140) ?_
  refine Rq.s (fun _ => b140_0 (by (try simp (disch := omega) only [nI_add, nI_mulN, pk_sub, nI_clamp, Nat.reduceAdd, Nat.reduceMul, Nat.reduceSub, Nat.zero_add, Nat.add_zero, p0, w14]); exact h139)) ?_
  refine Rq.bt (fun _ => b140_6) (rfl) ?_
  refine Rq.s (fun _ => b140_25) ?_
  try simp (disch := omega) only [nI_add, nI_mulN, pk_sub, nI_clamp, Nat.reduceAdd, Nat.reduceMul, Nat.reduceSub, Nat.zero_add, Nat.add_zero, p0, w14]
  refine Rq.bt (fun _ => b140_26) (rfl) ?_
  try simp (disch := omega) only [nI_add, nI_mulN, pk_sub, nI_clamp, Nat.reduceAdd, Nat.reduceMul, Nat.reduceSub, Nat.zero_add, Nat.add_zero, p0, w14]
  refine Rq.s (fun _ => b140_41) ?_
  try simp (disch := omega) only [nI_add, nI_mulN, pk_sub, nI_clamp, Nat.reduceAdd, Nat.reduceMul, Nat.reduceSub, Nat.zero_add, Nat.add_zero, p0, w14]
  refine Rq.bf (fun _ => b140_42) (by rw [p1]; exact fun z => z rfl) ?_
  try simp (disch := omega) only [nI_add, nI_mulN, pk_sub, nI_clamp, Nat.reduceAdd, Nat.reduceMul, Nat.reduceSub, Nat.zero_add, Nat.add_zero, p0, w14]
  refine Rq.bf (fun _ => b140_54) (fun z => z rfl) ?_
  refine Rq.s (fun _ => b140_58) ?_
  try simp (disch := omega) only [nI_add, nI_mulN, pk_sub, nI_clamp, Nat.reduceAdd, Nat.reduceMul, Nat.reduceSub, Nat.zero_add, Nat.add_zero, p0, w14]
  refine Rq.e (b140_63 (by decide)) ?_
  exact ⟨rfl, rfl⟩
theorem m140B {sc : Nat × (Nat → Int32)} {d : Nat} {D : Nat → Nat → Int32} {G : Nat → Nat → Int64} {e : Nat} {x y : Int32} (he : e < 100) (p0 : D 79 13 = nI e) (p1 : D 79 14 = nI 1) : Cq sc (d + 2) 140 [.ref 79, .int x, .int y] D G (fun r D2 => r = .inl (some (.int (nI 0))) ∧ D2 = hx_up (hx_up D 79 13 (nI e)) 79 14 (nI 1)) := by
  have w14 : hx_up D 79 13 (nI e) 79 14 = nI 1 := by rw [hx_up_in _ _ _ (by omega)]; exact p1
  refine Cq.c (fun _ _ _ => c140) ?_
  refine Rq.s (fun _ => b140_0 (by (try simp (disch := omega) only [nI_add, nI_mulN, pk_sub, nI_clamp, Nat.reduceAdd, Nat.reduceMul, Nat.reduceSub, Nat.zero_add, Nat.add_zero, p0, w14]); exact m139B p1)) ?_
  refine Rq.bt (fun _ => b140_6) (rfl) ?_
  refine Rq.s (fun _ => b140_25) ?_
  try simp (disch := omega) only [nI_add, nI_mulN, pk_sub, nI_clamp, Nat.reduceAdd, Nat.reduceMul, Nat.reduceSub, Nat.zero_add, Nat.add_zero, p0, w14]
  refine Rq.bt (fun _ => b140_26) (rfl) ?_
  try simp (disch := omega) only [nI_add, nI_mulN, pk_sub, nI_clamp, Nat.reduceAdd, Nat.reduceMul, Nat.reduceSub, Nat.zero_add, Nat.add_zero, p0, w14]
  refine Rq.s (fun _ => b140_41) ?_
  try simp (disch := omega) only [nI_add, nI_mulN, pk_sub, nI_clamp, Nat.reduceAdd, Nat.reduceMul, Nat.reduceSub, Nat.zero_add, Nat.add_zero, p0, w14]
  refine Rq.bt (fun _ => b140_42) (by rw [p1]; decide) ?_
  try simp (disch := omega) only [nI_add, nI_mulN, pk_sub, nI_clamp, Nat.reduceAdd, Nat.reduceMul, Nat.reduceSub, Nat.zero_add, Nat.add_zero, p0, w14]
  refine Rq.s (fun _ => b140_58) ?_
  try simp (disch := omega) only [nI_add, nI_mulN, pk_sub, nI_clamp, Nat.reduceAdd, Nat.reduceMul, Nat.reduceSub, Nat.zero_add, Nat.add_zero, p0, w14]
  refine Rq.e (b140_63 (by decide)) ?_
  exact ⟨rfl, rfl⟩
theorem PB_up {D : Nat → Nat → Int32} {len e : Nat} {b : Nat → Nat} (he : e ≤ len) (h : Bad b len e) : PB (hx_up (hx_up D 79 13 (nI e)) 79 14 (nI 1)) len b := ⟨e, he, h, by rw [hx_up_in _ _ _ (by omega), hx_up_s], hx_up_s _ _ _ _⟩
theorem PF_up {D : Nat → Nat → Int32} {s : Nat} : PF (hx_up (hx_up D 79 13 (nI s)) 79 14 (nI 0)) s := ⟨by rw [hx_up_in _ _ _ (by omega), hx_up_s], hx_up_s _ _ _ _⟩
theorem PB_k {D D2 : Nat → Nat → Int32} {len : Nat} {b : Nat → Nat} (h : PB D len b) (e : D2 79 = D 79) : PB D2 len b := by
  obtain ⟨x, h1, h2, h3, h4⟩ := h
  exact ⟨x, h1, h2, by rw [e]; exact h3, by rw [e]; exact h4⟩
/-- takes: in a state q that takes just what is asked -/
theorem m140 {sc : Nat × (Nat → Int32)} {d : Nat} {D : Nat → Nat → Int32} {G : Nat → Nat → Int64} {len : Nat} {b : Nat → Nat} {lo hi : Nat} {P : RS → Prop} {f : RS → Nat → RS} (B : BM D len b) (h1 : lo < 200) (h2 : hi < 200) (hq : ∀ q, P q → qwhole q = false ∧ (∀ c, lo ≤ c ∧ c ≤ hi → aT q c = some (f q c)) ∧ ∀ c, ¬ (lo ≤ c ∧ c ≤ hi) → aT q c = none) (h : (∃ s q, s ≤ len ∧ PF D s ∧ aSt b s = some q ∧ P q) ∨ PB D len b) : Cq sc (d + 2) 140 [.ref 79, .int (nI lo), .int (nI hi)] D G (fun r D2 => eqP D D2 ∧ D2 88 = D 88 ∧ ∃ v, r = .inl (some (.int (nI v))) ∧ ((∃ s q c, s ≤ len ∧ PF D2 s ∧ lo ≤ c ∧ c ≤ hi ∧ P q ∧ aSt b s = some (f q c) ∧ v = c - lo) ∨ PB D2 len b)) := by
  have b1 := B.2.1
  rcases h with ⟨s, q, hs, hF, ha, hP⟩ | ⟨e, he, hB, p0, p1⟩
  · obtain ⟨q1, q2, q3⟩ := hq q hP
    by_cases c : s < len ∧ lo ≤ b s ∧ b s ≤ hi
    · obtain ⟨r, D2, hC, rfl, rfl⟩ := m140T (sc := sc) (d := d) (G := G) B hF c.1 h1 h2 c.2
      exact ⟨_, _, hC, (eqP.rf.u79 (Or.inl rfl)).u79 (Or.inr rfl), by rw [hx_up_ne (by omega), hx_up_ne (by omega)], _, rfl, Or.inl ⟨s + 1, q, b s, by omega, PF_up, c.2.1, c.2.2, hP, by rw [aSt_s ha]; exact q2 _ c.2, rfl⟩⟩
    · obtain ⟨r, D2, hC, rfl, rfl⟩ := m140N (sc := sc) (d := d) (G := G) B hF hs h1 h2 c
      refine ⟨_, _, hC, (eqP.rf.u79 (Or.inl rfl)).u79 (Or.inr rfl), by rw [hx_up_ne (by omega), hx_up_ne (by omega)], _, rfl, Or.inr (PB_up hs ?_)⟩
      by_cases hl : s < len
      · exact Or.inl ⟨hl, q, ha, q3 _ (fun z => c ⟨hl, z⟩)⟩
      · exact Or.inr ⟨by omega, q, ha, q1⟩
  · obtain ⟨r, D2, hC, rfl, rfl⟩ := m140B (sc := sc) (d := d) (G := G) (x := nI lo) (y := nI hi) (e := e) (by omega) p0 p1
    exact ⟨_, _, hC, (eqP.rf.u79 (Or.inl rfl)).u79 (Or.inr rfl), by rw [hx_up_ne (by omega), hx_up_ne (by omega)], _, rfl, Or.inr (PB_up he hB)⟩
