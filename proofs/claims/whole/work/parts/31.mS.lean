/-! ===== plain numbers of a scroll ===== -/
def zS (g : Nat → Nat) : Nat → Nat
  | 0 => 0
  | k + 1 => zS g k + g k
def zpo (r : Nat → Nat) (p : Nat) : Nat → Nat → Nat
  | 0, i => i
  | m + 1, i => if r i = p then i else zpo r p m (i + 1)
/-- where a piece stands in the row -/
abbrev zq (V : ZV) (p : Nat) : Nat := zpo (zr V) p (zn V) 0
theorem zpig : ∀ (n : Nat) (f : Nat → Nat), (∀ i, i < n → f i < n) → (∀ i j, i < n → j < n → f i = f j → i = j) → ∀ p, p < n → ∃ i, i < n ∧ f i = p
  | 0, _, _, _, p, hp => absurd hp (Nat.not_lt_zero p)
  | n + 1, f, hf, hj, p, hp => by
    by_cases ha : f n = p
    · exact ⟨n, by omega, ha⟩
    · have han := hf n (by omega)
      have g1 : ∀ i, i < n → (if f i = n then f n else f i) < n := by
        intro i hi
        have h1 := hf i (by omega)
        split
        · rename_i e
          have : f n ≠ n := fun z => absurd (hj i n (by omega) (by omega) (by omega)) (by omega)
          omega
        · omega
      have g2 : ∀ i j, i < n → j < n → (if f i = n then f n else f i) = (if f j = n then f n else f j) → i = j := by
        intro i j hi hk e
        split at e <;> split at e
        · exact hj i j (by omega) (by omega) (by omega)
        · exact absurd (hj n j (by omega) (by omega) e) (by omega)
        · exact absurd (hj i n (by omega) (by omega) e) (by omega)
        · exact hj i j (by omega) (by omega) e
      have ih := zpig n (fun i => if f i = n then f n else f i) g1 g2
      by_cases hpn : p = n
      · obtain ⟨i, hi, e⟩ := ih (f n) (by omega)
        split at e
        · rename_i e2
          exact ⟨i, by omega, by omega⟩
        · exact absurd (hj i n (by omega) (by omega) e) (by omega)
      · obtain ⟨i, hi, e⟩ := ih p (by omega)
        split at e
        · exact absurd e ha
        · exact ⟨i, by omega, e⟩
theorem zpo_spec {r : Nat → Nat} {p : Nat} : ∀ m i, (∃ j, i ≤ j ∧ j < i + m ∧ r j = p) → i ≤ zpo r p m i ∧ zpo r p m i < i + m ∧ r (zpo r p m i) = p ∧ ∀ j, i ≤ j → j < zpo r p m i → r j ≠ p
  | 0, i, ⟨j, h1, h2, _⟩ => by omega
  | m + 1, i, ⟨j, h1, h2, h3⟩ => by
    unfold zpo
    by_cases h : r i = p
    · rw [if_pos h]
      exact ⟨by omega, by omega, h, fun j a b => by omega⟩
    · rw [if_neg h]
      have hj : j ≠ i := fun z => h (z ▸ h3)
      obtain ⟨a, b, c, e⟩ := zpo_spec (r := r) (p := p) m (i + 1) ⟨j, by omega, by omega, h3⟩
      refine ⟨by omega, by omega, c, fun k k1 k2 => ?_⟩
      by_cases hk : k = i
      · exact hk ▸ h
      · exact e k (by omega) k2
theorem zq_spec {V : ZV} {p : Nat} (hv : Valid V) (hp : p < zn V) : zq V p < zn V ∧ zr V (zq V p) = p ∧ ∀ j, j < zq V p → zr V j ≠ p := by
  obtain ⟨h7, vw, ve, vh, vE, vr, vj, vs0, vs1⟩ := id hv
  obtain ⟨i, hi, e⟩ := zpig (zn V) (zr V) vr vj p hp
  obtain ⟨a, b, c, f⟩ := zpo_spec (r := zr V) (p := p) (zn V) 0 ⟨i, by omega, by omega, e⟩
  exact ⟨by show zpo (zr V) p (zn V) 0 < zn V; omega, c, fun j hj => f j (by omega) hj⟩
theorem zq_of {V : ZV} {i : Nat} (hv : Valid V) (hi : i < zn V) : zq V (zr V i) = i := by
  obtain ⟨h7, vw, ve, vh, vE, vr, vj, vs0, vs1⟩ := id hv
  obtain ⟨a, b, c⟩ := zq_spec hv (vr i hi)
  exact vj _ _ a hi b
/-- the sum over a row is the sum over the pieces -/
theorem zS_ext {f g : Nat → Nat} : ∀ k, (∀ i, i < k → f i = g i) → zS f k = zS g k
  | 0, _ => rfl
  | k + 1, h => by
    unfold zS
    rw [zS_ext k (fun i hi => h i (by omega)), h k (by omega)]
theorem zS_one {f g : Nat → Nat} : ∀ k i, i < k → (∀ j, j < k → j ≠ i → f j = g j) → zS f k + g i = zS g k + f i
  | 0, _, h, _ => absurd h (Nat.not_lt_zero _)
  | k + 1, i, hi, h => by
    unfold zS
    by_cases e : i = k
    · subst e
      rw [zS_ext i (fun j hj => h j (by omega) (by omega))]
      omega
    · have := zS_one k i (by omega) (fun j hj hn => h j (by omega) hn)
      have := h k (by omega) (by omega)
      omega
theorem zS_perm (g : Nat → Nat) : ∀ (n : Nat) (f : Nat → Nat), (∀ i, i < n → f i < n) → (∀ i j, i < n → j < n → f i = f j → i = j) → zS (fun i => g (f i)) n = zS g n
  | 0, _, _, _ => rfl
  | n + 1, f, hf, hj => by
    have han := hf n (by omega)
    have g1 : ∀ i, i < n → (if f i = n then f n else f i) < n := by
      intro i hi
      have h1 := hf i (by omega)
      split
      · rename_i e
        have : f n ≠ n := fun z => absurd (hj i n (by omega) (by omega) (by omega)) (by omega)
        omega
      · omega
    have g2 : ∀ i j, i < n → j < n → (if f i = n then f n else f i) = (if f j = n then f n else f j) → i = j := by
      intro i j hi hk e
      split at e <;> split at e
      · exact hj i j (by omega) (by omega) (by omega)
      · exact absurd (hj n j (by omega) (by omega) e) (by omega)
      · exact absurd (hj i n (by omega) (by omega) e) (by omega)
      · exact hj i j (by omega) (by omega) e
    have ih := zS_perm g n (fun i => if f i = n then f n else f i) g1 g2
    unfold zS
    by_cases e : f n = n
    · rw [← ih, e]
      congr 1
      refine zS_ext n (fun i hi => ?_)
      have : f i ≠ n := fun z => absurd (hj i n (by omega) (by omega) (by omega)) (by omega)
      rw [if_neg this]
    · obtain ⟨i, hi, ei⟩ := zpig (n + 1) f hf hj n (by omega)
      have hin : i ≠ n := fun z => e (z ▸ ei)
      have h1 := zS_one (f := fun i => g (f i)) (g := fun i => g (if f i = n then f n else f i)) n i (by omega) (fun j hj2 hne => by
        have : f j ≠ n := fun z => hne (hj j i (by omega) (by omega) (by omega))
        rw [if_neg this])
      rw [if_pos ei, ei] at h1
      omega
/-! ===== the class's scroll, opened ===== -/
theorem rC {D : Nat → Nat → Int32} {V : ZV} (R : RepC D 1 V) : D 1 0 = nI (zn V) ∧ D 1 1 = nI (zm V) ∧ (∀ p, p < zn V → D 2 p = nI (zw V p)) ∧ (∀ p j, p < zn V → j < 10 → D 3 (p * 10 + j) = nI (ze V p j)) ∧ (∀ p, p < zn V → D 4 p = nI (zE V p).length) ∧ (∀ p i x, p < zn V → hx_nth (zE V p) i = some x → D 5 (p * 4 + i) = nI x) ∧ (∀ i, i < zn V → D 6 i = nI (zr V i)) ∧ D 7 0 = nI (zs V 0) ∧ D 7 1 = nI (zs V 1) := R
theorem zE_mem {V : ZV} {p x : Nat} : x ∈ zE V p ↔ x < 60 ∧ zh V p x = true := by
  unfold zE
  rw [List.mem_filter, List.mem_range]
theorem zE_nth {V : ZV} {p i x : Nat} (h : hx_nth (zE V p) i = some x) : x < 60 ∧ zh V p x = true := by
  rw [hx_nth_eq] at h
  exact zE_mem.mp (List.mem_of_getElem? h)
theorem zE_at {V : ZV} {p i : Nat} (h : i < (zE V p).length) : ∃ x, hx_nth (zE V p) i = some x := ⟨_, by rw [hx_nth_eq]; exact List.getElem?_eq_getElem h⟩
/-! ===== the class's looks at a scroll ===== -/
theorem m39 {sc : Nat × (Nat → Int32)} {d : Nat} {D : Nat → Nat → Int32} {G : Nat → Nat → Int64} {V : ZV} {p x : Nat} (R : RepC D 1 V) (hv : Valid V) (hp : p < zn V) (hx : x < 60) : Cl sc d 39 [.ref 1, .int (nI p), .int (nI x)] (hx_S0, D, G) (.inl (some (.int (nI (if zh V p x = true then 1 else 0))))) (hx_S0, D, G) := by
  obtain ⟨r0, r1, rw, re, rc, rh, rr, rs0, rs1⟩ := rC R
  obtain ⟨h7, vw, ve, vh, vE, vr, vj, vs0, vs1⟩ := id hv
  have rcp := rc p hp
  have vEp := vE p hp
  have L : ∀ m i, (zE V p).length - i = m → i ≤ (zE V p).length → (∀ j, j < i → hx_nth (zE V p) j ≠ some x) → Rq sc d 39 (2, [some (.ref 1), some (.int (nI p)), some (.int (nI x)), some (.int (nI i))], [], (hx_S0, D, G), 0) G (Qp (nI (if zh V p x = true then 1 else 0)) D) := by
    intro m
    induction m using Nat.strongRecOn with
    | _ m ih =>
    intro i hm hi hn
    refine Rq.b (fun _ => b39_2 (by (try simp (disch := omega) only [nI_add, nI_mulN, pk_sub, nI_clamp, Nat.reduceAdd, Nat.reduceMul, Nat.reduceSub, Nat.zero_add, Nat.add_zero, r0, rcp]); exact nI_inbT (by omega) (by omega))) (fun h2 => ?_) (fun h2 => ?_)
    · try simp (disch := omega) only [Int32.le_iff_toInt_le, Int32.lt_iff_toInt_lt, z_eq, z_nI, z_0, z_m1, z_sub, nI_add, nI_mulN, pk_sub, nI_clamp, Nat.reduceAdd, Nat.reduceMul, Nat.reduceSub, Nat.zero_add, Nat.add_zero, r0, rcp] at h2
      all_goals (try (exfalso; omega))
      all_goals
        refine Rq.e (b39_34) ?_
        refine Qp.i ?_
        rw [if_neg]
        intro z
        obtain ⟨j, hj⟩ := List.getElem?_of_mem (zE_mem.mpr ⟨hx, z⟩)
        rw [← hx_nth_eq] at hj
        by_cases e : j < i
        · exact hn j e hj
        · rw [hx_nth_eq] at hj
          have := (List.getElem?_eq_some_iff.mp hj).1
          omega
    · try simp (disch := omega) only [Int32.le_iff_toInt_le, Int32.lt_iff_toInt_lt, z_eq, z_nI, z_0, z_m1, z_sub, nI_add, nI_mulN, pk_sub, nI_clamp, Nat.reduceAdd, Nat.reduceMul, Nat.reduceSub, Nat.zero_add, Nat.add_zero, r0, rcp] at h2
      all_goals (try (exfalso; omega))
      all_goals
        obtain ⟨y, ey⟩ := zE_at (V := V) (p := p) (i := i) (by omega)
        have rhi := rh p i y hp ey
        have y60 := (zE_nth ey).1
        refine Rq.b (fun _ => b39_12 (by (try simp (disch := omega) only [nI_add, nI_mulN, pk_sub, nI_clamp, Nat.reduceAdd, Nat.reduceMul, Nat.reduceSub, Nat.zero_add, Nat.add_zero, r0, rcp, rhi]); exact nI_inbT (by omega) (by omega))) (fun h12 => ?_) (fun h12 => ?_)
        · try simp (disch := omega) only [Int32.le_iff_toInt_le, Int32.lt_iff_toInt_lt, z_eq, z_nI, z_0, z_m1, z_sub, nI_add, nI_mulN, pk_sub, nI_clamp, Nat.reduceAdd, Nat.reduceMul, Nat.reduceSub, Nat.zero_add, Nat.add_zero, r0, rcp, rhi] at h12
          all_goals (try (exfalso; omega))
          all_goals
            refine Rq.s (fun _ => b39_28) ?_
            try simp (disch := omega) only [nI_add, nI_mulN, pk_sub, nI_clamp, Nat.reduceAdd, Nat.reduceMul, Nat.reduceSub, Nat.zero_add, Nat.add_zero, r0, rcp, rhi]
            exact ih _ (by omega) (i + 1) rfl (by omega) (fun j hj => by by_cases e : j = i; (subst e; rw [ey]; intro z; cases z; omega); exact hn j (by omega))
        · try simp (disch := omega) only [Int32.le_iff_toInt_le, Int32.lt_iff_toInt_lt, z_eq, z_nI, z_0, z_m1, z_sub, nI_add, nI_mulN, pk_sub, nI_clamp, Nat.reduceAdd, Nat.reduceMul, Nat.reduceSub, Nat.zero_add, Nat.add_zero, r0, rcp, rhi] at h12
          all_goals (try (exfalso; omega))
          all_goals
            refine Rq.e (b39_26) ?_
            refine Qp.i ?_
            have e : y = x := by omega
            subst e
            rw [if_pos (zE_nth ey).2]
  refine Cq.p ?_
  refine Cq.c (fun _ _ _ => c39) ?_
  refine Rq.s (fun _ => b39_0) ?_
  try simp (disch := omega) only [nI_add, nI_mulN, pk_sub, nI_clamp, Nat.reduceAdd, Nat.reduceMul, Nat.reduceSub, Nat.zero_add, Nat.add_zero]
  exact L _ 0 rfl (by omega) (fun j hj => absurd hj (by omega))
theorem m43 {sc : Nat × (Nat → Int32)} {d : Nat} {D : Nat → Nat → Int32} {G : Nat → Nat → Int64} {V : ZV} {p : Nat} (R : RepC D 1 V) (hv : Valid V) (hp : p < zn V) : Cl sc d 43 [.ref 1, .int (nI p)] (hx_S0, D, G) (.inl (some (.int (nI (zq V p))))) (hx_S0, D, G) := by
  obtain ⟨r0, r1, rw, re, rc, rh, rr, rs0, rs1⟩ := rC R
  obtain ⟨h7, vw, ve, vh, vE, vr, vj, vs0, vs1⟩ := id hv
  obtain ⟨q1, q2, q3⟩ := zq_spec hv hp
  have L : ∀ m i, zq V p - i = m → i ≤ zq V p → Rq sc d 43 (2, [some (.ref 1), some (.int (nI p)), some (.int (nI i))], [], (hx_S0, D, G), 0) G (Qp (nI (zq V p)) D) := by
    intro m
    induction m using Nat.strongRecOn with
    | _ m ih =>
    intro i hm hi
    refine Rq.b (fun _ => b43_2) (fun h2 => ?_) (fun h2 => ?_)
    · try simp (disch := omega) only [Int32.le_iff_toInt_le, Int32.lt_iff_toInt_lt, z_eq, z_nI, z_0, z_m1, z_sub, nI_add, nI_mulN, pk_sub, nI_clamp, Nat.reduceAdd, Nat.reduceMul, Nat.reduceSub, Nat.zero_add, Nat.add_zero, r0] at h2
      all_goals (try (exfalso; omega))
      all_goals
        refine Rq.e (b43_28) ?_
        omega
    · try simp (disch := omega) only [Int32.le_iff_toInt_le, Int32.lt_iff_toInt_lt, z_eq, z_nI, z_0, z_m1, z_sub, nI_add, nI_mulN, pk_sub, nI_clamp, Nat.reduceAdd, Nat.reduceMul, Nat.reduceSub, Nat.zero_add, Nat.add_zero, r0] at h2
      all_goals (try (exfalso; omega))
      all_goals
        have rri := rr i (by omega)
        have vri := vr i (by omega)
        have k1 : i < zq V p → zr V i ≠ p := fun h => q3 i h
        have k2 : i = zq V p → zr V i = p := fun h => h ▸ q2
        refine Rq.b (fun _ => b43_10 (by (try simp (disch := omega) only [nI_add, nI_mulN, pk_sub, nI_clamp, Nat.reduceAdd, Nat.reduceMul, Nat.reduceSub, Nat.zero_add, Nat.add_zero, r0, rri]); exact nI_inbT (by omega) (by omega))) (fun h10 => ?_) (fun h10 => ?_)
        · try simp (disch := omega) only [Int32.le_iff_toInt_le, Int32.lt_iff_toInt_lt, z_eq, z_nI, z_0, z_m1, z_sub, nI_add, nI_mulN, pk_sub, nI_clamp, Nat.reduceAdd, Nat.reduceMul, Nat.reduceSub, Nat.zero_add, Nat.add_zero, r0, rri] at h10
          all_goals (try (exfalso; omega))
          all_goals
            refine Rq.s (fun _ => b43_22) ?_
            try simp (disch := omega) only [nI_add, nI_mulN, pk_sub, nI_clamp, Nat.reduceAdd, Nat.reduceMul, Nat.reduceSub, Nat.zero_add, Nat.add_zero, r0, rri]
            exact ih _ (by omega) (i + 1) rfl (by omega)
        · try simp (disch := omega) only [Int32.le_iff_toInt_le, Int32.lt_iff_toInt_lt, z_eq, z_nI, z_0, z_m1, z_sub, nI_add, nI_mulN, pk_sub, nI_clamp, Nat.reduceAdd, Nat.reduceMul, Nat.reduceSub, Nat.zero_add, Nat.add_zero, r0, rri] at h10
          all_goals (try (exfalso; omega))
          all_goals
            refine Rq.e (b43_20) ?_
            exact Qp.i (by rw [show i = zq V p by omega])
  refine Cq.p ?_
  refine Cq.c (fun _ _ _ => c43) ?_
  refine Rq.s (fun _ => b43_0) ?_
  try simp (disch := omega) only [nI_add, nI_mulN, pk_sub, nI_clamp, Nat.reduceAdd, Nat.reduceMul, Nat.reduceSub, Nat.zero_add, Nat.add_zero]
  exact L _ 0 rfl (by omega)
abbrev zbe (V : ZV) (k : Nat) : Nat := zS (fun i => zw V (zr V i)) k
theorem m44 {sc : Nat × (Nat → Int32)} {d : Nat} {D : Nat → Nat → Int32} {G : Nat → Nat → Int64} {V : ZV} {k : Nat} (R : RepC D 1 V) (hv : Valid V) (hp : k ≤ zn V) : Cl sc d 44 [.ref 1, .int (nI k)] (hx_S0, D, G) (.inl (some (.int (nI (zbe V k))))) (hx_S0, D, G) := by
  obtain ⟨r0, r1, rw, re, rc, rh, rr, rs0, rs1⟩ := rC R
  obtain ⟨h7, vw, ve, vh, vE, vr, vj, vs0, vs1⟩ := id hv
  have L : ∀ m i, k - i = m → i ≤ k → Rq sc d 44 (4, [some (.ref 1), some (.int (nI k)), some (.int (nI (zbe V i))), some (.int (nI i))], [], (hx_S0, D, G), 0) G (Qp (nI (zbe V k)) D) := by
    intro m
    induction m using Nat.strongRecOn with
    | _ m ih =>
    intro i hm hi
    refine Rq.b (fun _ => b44_4) (fun h4 => ?_) (fun h4 => ?_)
    · try simp (disch := omega) only [Int32.le_iff_toInt_le, Int32.lt_iff_toInt_lt, z_eq, z_nI, z_0, z_m1, z_sub, nI_add, nI_mulN, pk_sub, nI_clamp, Nat.reduceAdd, Nat.reduceMul, Nat.reduceSub, Nat.zero_add, Nat.add_zero, r0] at h4
      all_goals (try (exfalso; omega))
      all_goals
        refine Rq.e (b44_29) ?_
        exact Qp.i (by rw [show i = k by omega])
    · try simp (disch := omega) only [Int32.le_iff_toInt_le, Int32.lt_iff_toInt_lt, z_eq, z_nI, z_0, z_m1, z_sub, nI_add, nI_mulN, pk_sub, nI_clamp, Nat.reduceAdd, Nat.reduceMul, Nat.reduceSub, Nat.zero_add, Nat.add_zero, r0] at h4
      all_goals (try (exfalso; omega))
      all_goals
        have rri := rr i (by omega)
        have vri := vr i (by omega)
        have rwi := rw (zr V i) vri
        refine Rq.s (fun _ => b44_9 (by (try simp (disch := omega) only [nI_add, nI_mulN, pk_sub, nI_clamp, Nat.reduceAdd, Nat.reduceMul, Nat.reduceSub, Nat.zero_add, Nat.add_zero, r0, rri, rwi]); exact nI_inbT (by omega) (by omega)) (by (try simp (disch := omega) only [nI_add, nI_mulN, pk_sub, nI_clamp, Nat.reduceAdd, Nat.reduceMul, Nat.reduceSub, Nat.zero_add, Nat.add_zero, r0, rri, rwi]); exact nI_inbT (by omega) (by omega))) ?_
        try simp (disch := omega) only [nI_add, nI_mulN, pk_sub, nI_clamp, Nat.reduceAdd, Nat.reduceMul, Nat.reduceSub, Nat.zero_add, Nat.add_zero, r0, rri, rwi]
        exact ih _ (by omega) (i + 1) rfl (by omega)
  refine Cq.p ?_
  refine Cq.c (fun _ _ _ => c44) ?_
  refine Rq.s (fun _ => b44_0) ?_
  try simp (disch := omega) only [nI_add, nI_mulN, pk_sub, nI_clamp, Nat.reduceAdd, Nat.reduceMul, Nat.reduceSub, Nat.zero_add, Nat.add_zero]
  exact L _ 0 rfl (by omega)
theorem m45 {sc : Nat × (Nat → Int32)} {d : Nat} {D : Nat → Nat → Int32} {G : Nat → Nat → Int64} {V : ZV} (R : RepC D 1 V) (hv : Valid V) : Cl sc (d + 1) 45 [.ref 1] (hx_S0, D, G) (.inl (some (.int (nI (zbe V (zn V)))))) (hx_S0, D, G) := by
  obtain ⟨r0, r1, rw, re, rc, rh, rr, rs0, rs1⟩ := rC R
  obtain ⟨h7, vw, ve, vh, vE, vr, vj, vs0, vs1⟩ := id hv
  refine Cq.p ?_
  refine Cq.c (fun _ _ _ => c45) ?_
  refine Rq.s (fun _ => b45_0 (by (try simp (disch := omega) only [nI_add, nI_mulN, pk_sub, nI_clamp, Nat.reduceAdd, Nat.reduceMul, Nat.reduceSub, Nat.zero_add, Nat.add_zero, r0]); exact m44 (k := zn V) R hv (Nat.le_refl _))) ?_
  refine Rq.e (b45_8) ?_
  exact Qp.i rfl
def zpr (V : ZV) (p j : Nat) : Nat := if j = 0 then zw V p else if j ≤ 10 then ze V p (j - 1) else if j = 11 then (zE V p).length else if j = 12 then zq V p else zbe V (zq V p)
theorem m42 {sc : Nat × (Nat → Int32)} {d : Nat} {D : Nat → Nat → Int32} {G : Nat → Nat → Int64} {V : ZV} {p j : Nat} (R : RepC D 1 V) (hv : Valid V) (hp : p < zn V) (hj : j ≤ 13) : Cl sc (d + 1) 42 [.ref 1, .int (nI p), .int (nI j)] (hx_S0, D, G) (.inl (some (.int (nI (zpr V p j))))) (hx_S0, D, G) := by
  obtain ⟨r0, r1, rw, re, rc, rh, rr, rs0, rs1⟩ := rC R
  obtain ⟨h7, vw, ve, vh, vE, vr, vj, vs0, vs1⟩ := id hv
  obtain ⟨q1, q2, q3⟩ := zq_spec hv hp
  have rwp := rw p hp
  have rcp := rc p hp
  refine Cq.p ?_
  refine Cq.c (fun _ _ _ => c42) ?_
  refine Rq.b (fun _ => b42_0) (fun h0 => ?_) (fun h0 => ?_)
  · try simp (disch := omega) only [Int32.le_iff_toInt_le, Int32.lt_iff_toInt_lt, z_eq, z_nI, z_0, z_m1, z_sub, nI_add, nI_mulN, pk_sub, nI_clamp, Nat.reduceAdd, Nat.reduceMul, Nat.reduceSub, Nat.zero_add, Nat.add_zero, r0, rwp, rcp] at h0
    all_goals (try (exfalso; omega))
    all_goals
      refine Rq.b (fun _ => b42_11) (fun h11 => ?_) (fun h11 => ?_)
      · try simp (disch := omega) only [Int32.le_iff_toInt_le, Int32.lt_iff_toInt_lt, z_eq, z_nI, z_0, z_m1, z_sub, nI_add, nI_mulN, pk_sub, nI_clamp, Nat.reduceAdd, Nat.reduceMul, Nat.reduceSub, Nat.zero_add, Nat.add_zero, r0, rwp, rcp] at h11
        all_goals (try (exfalso; omega))
        all_goals
          refine Rq.b (fun _ => b42_31) (fun h31 => ?_) (fun h31 => ?_)
          · try simp (disch := omega) only [Int32.le_iff_toInt_le, Int32.lt_iff_toInt_lt, z_eq, z_nI, z_0, z_m1, z_sub, nI_add, nI_mulN, pk_sub, nI_clamp, Nat.reduceAdd, Nat.reduceMul, Nat.reduceSub, Nat.zero_add, Nat.add_zero, r0, rwp, rcp] at h31
            all_goals (try (exfalso; omega))
            all_goals
              refine Rq.s (fun _ => b42_44 (by (try simp (disch := omega) only [nI_add, nI_mulN, pk_sub, nI_clamp, Nat.reduceAdd, Nat.reduceMul, Nat.reduceSub, Nat.zero_add, Nat.add_zero, r0, rwp, rcp]); exact m43 R hv hp)) ?_
              refine Rq.b (fun _ => b42_49) (fun h49 => ?_) (fun h49 => ?_)
              · try simp (disch := omega) only [Int32.le_iff_toInt_le, Int32.lt_iff_toInt_lt, z_eq, z_nI, z_0, z_m1, z_sub, nI_add, nI_mulN, pk_sub, nI_clamp, Nat.reduceAdd, Nat.reduceMul, Nat.reduceSub, Nat.zero_add, Nat.add_zero, r0, rwp, rcp] at h49
                all_goals (try (exfalso; omega))
                all_goals
                  refine Rq.s (fun _ => b42_60 (by (try simp (disch := omega) only [nI_add, nI_mulN, pk_sub, nI_clamp, Nat.reduceAdd, Nat.reduceMul, Nat.reduceSub, Nat.zero_add, Nat.add_zero, r0, rwp, rcp]); exact m44 R hv (by omega))) ?_
                  refine Rq.e (b42_65) ?_
                  refine Qp.i ?_
                  first | rw [show zpr V p j = zq V p by unfold zpr; rw [if_neg (by omega), if_neg (by omega), if_neg (by omega), if_pos (by omega)]] | rw [show zpr V p j = zbe V (zq V p) by unfold zpr; rw [if_neg (by omega), if_neg (by omega), if_neg (by omega), if_neg (by omega)]]
              · try simp (disch := omega) only [Int32.le_iff_toInt_le, Int32.lt_iff_toInt_lt, z_eq, z_nI, z_0, z_m1, z_sub, nI_add, nI_mulN, pk_sub, nI_clamp, Nat.reduceAdd, Nat.reduceMul, Nat.reduceSub, Nat.zero_add, Nat.add_zero, r0, rwp, rcp] at h49
                all_goals (try (exfalso; omega))
                all_goals
                  refine Rq.s (fun _ => b42_56) ?_
                  refine Rq.e (b42_65b) ?_
                  refine Qp.i ?_
                  first | rw [show zpr V p j = zq V p by unfold zpr; rw [if_neg (by omega), if_neg (by omega), if_neg (by omega), if_pos (by omega)]] | rw [show zpr V p j = zbe V (zq V p) by unfold zpr; rw [if_neg (by omega), if_neg (by omega), if_neg (by omega), if_neg (by omega)]]
          · try simp (disch := omega) only [Int32.le_iff_toInt_le, Int32.lt_iff_toInt_lt, z_eq, z_nI, z_0, z_m1, z_sub, nI_add, nI_mulN, pk_sub, nI_clamp, Nat.reduceAdd, Nat.reduceMul, Nat.reduceSub, Nat.zero_add, Nat.add_zero, r0, rwp, rcp] at h31
            all_goals (try (exfalso; omega))
            all_goals
              refine Rq.e (b42_37 (by (try simp (disch := omega) only [nI_add, nI_mulN, pk_sub, nI_clamp, Nat.reduceAdd, Nat.reduceMul, Nat.reduceSub, Nat.zero_add, Nat.add_zero, r0, rwp, rcp]); exact nI_inbT (by omega) (by omega))) ?_
              refine Qp.i ?_
              try simp (disch := omega) only [nI_add, nI_mulN, pk_sub, nI_clamp, Nat.reduceAdd, Nat.reduceMul, Nat.reduceSub, Nat.zero_add, Nat.add_zero, r0, rwp, rcp]
              rw [show zpr V p j = (zE V p).length by unfold zpr; rw [if_neg (by omega), if_neg (by omega), if_pos (by omega)]]
      · try simp (disch := omega) only [Int32.le_iff_toInt_le, Int32.lt_iff_toInt_lt, z_eq, z_nI, z_0, z_m1, z_sub, nI_add, nI_mulN, pk_sub, nI_clamp, Nat.reduceAdd, Nat.reduceMul, Nat.reduceSub, Nat.zero_add, Nat.add_zero, r0, rwp, rcp] at h11
        all_goals (try (exfalso; omega))
        all_goals
          have rej : D 3 (p * 10 + j - 1) = nI (ze V p (j - 1)) := by
            rw [show p * 10 + j - 1 = p * 10 + (j - 1) by omega]
            exact re p (j - 1) hp (by omega)
          refine Rq.e (b42_17 (by (try simp (disch := omega) only [nI_add, nI_mulN, pk_sub, nI_clamp, Nat.reduceAdd, Nat.reduceMul, Nat.reduceSub, Nat.zero_add, Nat.add_zero, r0, rwp, rcp, rej]); exact nI_inbT (by omega) (by omega))) ?_
          refine Qp.i ?_
          try simp (disch := omega) only [nI_add, nI_mulN, pk_sub, nI_clamp, Nat.reduceAdd, Nat.reduceMul, Nat.reduceSub, Nat.zero_add, Nat.add_zero, r0, rwp, rcp, rej]
          rw [show zpr V p j = ze V p (j - 1) by unfold zpr; rw [if_neg (by omega), if_pos (by omega)]]
  · try simp (disch := omega) only [Int32.le_iff_toInt_le, Int32.lt_iff_toInt_lt, z_eq, z_nI, z_0, z_m1, z_sub, nI_add, nI_mulN, pk_sub, nI_clamp, Nat.reduceAdd, Nat.reduceMul, Nat.reduceSub, Nat.zero_add, Nat.add_zero, r0, rwp, rcp] at h0
    all_goals (try (exfalso; omega))
    all_goals
      refine Rq.e (b42_4 (by (try simp (disch := omega) only [nI_add, nI_mulN, pk_sub, nI_clamp, Nat.reduceAdd, Nat.reduceMul, Nat.reduceSub, Nat.zero_add, Nat.add_zero, r0, rwp, rcp]); exact nI_inbT (by omega) (by omega))) ?_
      refine Qp.i ?_
      try simp (disch := omega) only [nI_add, nI_mulN, pk_sub, nI_clamp, Nat.reduceAdd, Nat.reduceMul, Nat.reduceSub, Nat.zero_add, Nat.add_zero, r0, rwp, rcp]
      rw [show zpr V p j = zw V p by unfold zpr; rw [if_pos (by omega)]]
def zl (J : Nat → Nat → Nat) (p : Nat) : Option Nat → Nat
  | none => 1000
  | some b => J p b
/-- the best piece behind p, but for one, among the first k -/
def zbb (J : Nat → Nat → Nat) (p but : Nat) : Nat → Option Nat
  | 0 => none
  | k + 1 => if k ≠ p ∧ k ≠ but ∧ J p k < zl J p (zbb J p but k) then some k else zbb J p but k
def zo : Option Nat → Int32
  | none => -1
  | some n => nI n
theorem zbb_of {J : Nat → Nat → Nat} {p but : Nat} : ∀ k b, zbb J p but k = some b → b < k ∧ b ≠ p ∧ b ≠ but
  | 0, b, h => by cases h
  | k + 1, b, h => by
    unfold zbb at h
    split at h
    · rename_i c
      cases h
      exact ⟨by omega, c.1, c.2.1⟩
    · have := zbb_of k b h
      exact ⟨by omega, this.2⟩
theorem zbb_le {J : Nat → Nat → Nat} {p but : Nat} : ∀ k j, j < k → j ≠ p → j ≠ but → zl J p (zbb J p but k) ≤ J p j
  | 0, j, h, _, _ => by omega
  | k + 1, j, h, h1, h2 => by
    unfold zbb
    split
    · rename_i c
      by_cases e : j = k
      · subst e
        exact Nat.le_refl _
      · have := zbb_le (J := J) k j (by omega) h1 h2
        have h3 : zl J p (some k) = J p k := rfl
        omega
    · rename_i c
      by_cases e : j = k
      · subst e
        have : ¬ J p j < zl J p (zbb J p but j) := fun z => c ⟨h1, h2, z⟩
        omega
      · exact zbb_le k j (by omega) h1 h2
theorem zbb_some {J : Nat → Nat → Nat} {p but k j : Nat} (h : j < k) (h1 : j ≠ p) (h2 : j ≠ but) (hJ : J p j < 1000) : ∃ b, zbb J p but k = some b := by
  have := zbb_le (J := J) k j h h1 h2
  cases e : zbb J p but k with
  | none => rw [e] at this; have e2 : zl J p none = 1000 := rfl; omega
  | some b => exact ⟨b, rfl⟩
theorem zbb_T {J : Nat → Nat → Nat} {p but k : Nat} (h : k ≠ p) (h2 : k ≠ but) (h3 : J p k < zl J p (zbb J p but k)) : zbb J p but (k + 1) = some k := by
  rw [zbb, if_pos ⟨h, h2, h3⟩]
theorem zbb_F {J : Nat → Nat → Nat} {p but k : Nat} (h : ¬ (k ≠ p ∧ k ≠ but ∧ J p k < zl J p (zbb J p but k))) : zbb J p but (k + 1) = zbb J p but k := by
  rw [zbb, if_neg h]
theorem zl_lt {J : Nat → Nat → Nat} {p but k : Nat} (hJ : ∀ j, j < k → J p j < 1000) : zl J p (zbb J p but k) < 2 ^ 31 := by
  cases e : zbb J p but k with
  | none => have e2 : zl J p none = 1000 := rfl; omega
  | some b =>
    have := hJ b (zbb_of _ _ e).1
    unfold zl
    dsimp only
    omega
theorem nd_le {a b n : Nat} (ha : a ≤ n) (hb : b ≤ n) : nd a b ≤ n := by
  unfold nd
  split <;> omega
/-- no join costs more than 38 -/
theorem zj_le {V : ZV} (hv : Valid V) {f s : Nat} (hf : f < zn V) (hs : s < zn V) : zj V f s ≤ 38 := by
  obtain ⟨h7, vw, ve, vh, vE, vr, vj, vs0, vs1⟩ := id hv
  have a5 := (ve f 5 hf (by omega)).2 (by omega) (by omega)
  have a6 := (ve f 6 hf (by omega)).2 (by omega) (by omega)
  have a7 := (ve f 7 hf (by omega)).2 (by omega) (by omega)
  have a8 := (ve f 8 hf (by omega)).2 (by omega) (by omega)
  have a9 := (ve f 9 hf (by omega)).1
  have b0 := (ve s 0 hs (by omega)).2 (by omega) (by omega)
  have b1 := (ve s 1 hs (by omega)).2 (by omega) (by omega)
  have b2 := (ve s 2 hs (by omega)).2 (by omega) (by omega)
  have b3 := (ve s 3 hs (by omega)).2 (by omega) (by omega)
  have b4 := (ve s 4 hs (by omega)).1
  have n1 := nd_le a9 b4
  have n2 : nd (ze V f 5 + ze V s 0) 5 ≤ 5 := by unfold nd; split <;> omega
  have n3 : nd (ze V f 6 + ze V s 1) 5 ≤ 5 := by unfold nd; split <;> omega
  have n4 : nd (ze V f 7 + ze V s 2) 5 ≤ 5 := by unfold nd; split <;> omega
  have n5 : nd (ze V f 8 + ze V s 3) 5 ≤ 5 := by unfold nd; split <;> omega
  unfold zj
  omega
theorem z_min (a b : Nat) (ha : a < 2 ^ 31) (hb : b < 2 ^ 31) : hx_minv (nI a) (nI b) = nI (if b < a then b else a) := by
  unfold hx_minv
  by_cases h : b < a
  · rw [if_pos h, if_pos (nI_lt h ha)]
  · rw [if_neg h, if_neg (nI_nlt (by omega) hb)]
theorem m48 {sc : Nat × (Nat → Int32)} {d : Nat} {D : Nat → Nat → Int32} {G : Nat → Nat → Int64} {V : ZV} {p : Nat} (R : RepC D 1 V) (hv : Valid V) (hp : p < zn V) : Cl sc (d + 1) 48 [.ref 1, .int (nI p)] (hx_S0, D, G) (.inl (some (.int (zo (zbb (zj V) p 99 (zn V)))))) (hx_S0, D, G) := by
  obtain ⟨r0, r1, rw, re, rc, rh, rr, rs0, rs1⟩ := rC R
  obtain ⟨h7, vw, ve, vh, vE, vr, vj, vs0, vs1⟩ := id hv
  have hJ : ∀ j, j < zn V → zj V p j ≤ 38 := fun j hj => zj_le hv hp hj
  have L : ∀ m i, zn V - i = m → i ≤ zn V → Rq sc (d + 1) 48 (9, [some (.ref 1), some (.int (nI p)), some (.int (zo (zbb (zj V) p 99 i))), some (.int (nI (zl (zj V) p (zbb (zj V) p 99 i)))), some (.int (nI i)), none], [], (hx_S0, D, G), 0) G (Qp (zo (zbb (zj V) p 99 (zn V))) D) := by
    intro m
    induction m using Nat.strongRecOn with
    | _ m ih =>
    intro i hm hi
    have hl : zl (zj V) p (zbb (zj V) p 99 i) < 2 ^ 31 := zl_lt (fun j hj => by have := hJ j (by omega); omega)
    refine Rq.b (fun _ => b48_9) (fun h9 => ?_) (fun h9 => ?_)
    · try simp (disch := omega) only [Int32.le_iff_toInt_le, Int32.lt_iff_toInt_lt, z_eq, z_nI, z_0, z_m1, z_sub, nI_add, nI_mulN, pk_sub, nI_clamp, Nat.reduceAdd, Nat.reduceMul, Nat.reduceSub, Nat.zero_add, Nat.add_zero, r0] at h9
      all_goals (try (exfalso; omega))
      all_goals
        refine Rq.e (b48_51) ?_
        exact Qp.i (by rw [show i = zn V by omega])
    · try simp (disch := omega) only [Int32.le_iff_toInt_le, Int32.lt_iff_toInt_lt, z_eq, z_nI, z_0, z_m1, z_sub, nI_add, nI_mulN, pk_sub, nI_clamp, Nat.reduceAdd, Nat.reduceMul, Nat.reduceSub, Nat.zero_add, Nat.add_zero, r0] at h9
      all_goals (try (exfalso; omega))
      all_goals
        have hJi := hJ i (by omega)
        refine Rq.s (fun _ => b48_18 (by (try simp (disch := omega) only [nI_add, nI_mulN, pk_sub, nI_clamp, Nat.reduceAdd, Nat.reduceMul, Nat.reduceSub, Nat.zero_add, Nat.add_zero, r0]); exact m46 R hv hp (by omega))) ?_
        refine Rq.b (fun _ => b48_25) (fun h25 => ?_) (fun h25 => ?_)
        · try simp (disch := omega) only [Int32.le_iff_toInt_le, Int32.lt_iff_toInt_lt, z_eq, z_nI, z_0, z_m1, z_sub, nI_add, nI_mulN, pk_sub, nI_clamp, Nat.reduceAdd, Nat.reduceMul, Nat.reduceSub, Nat.zero_add, Nat.add_zero, r0] at h25
          all_goals (try (exfalso; omega))
          all_goals
            refine Rq.s (fun _ => b48_45) ?_
            try simp (disch := omega) only [nI_add, nI_mulN, pk_sub, nI_clamp, Nat.reduceAdd, Nat.reduceMul, Nat.reduceSub, Nat.zero_add, Nat.add_zero, r0]
            first | (have e := zbb_T (J := zj V) (p := p) (but := 99) (k := i) (by omega) (by omega) (by omega); have := ih _ (by omega) (i + 1) rfl (by omega); rw [e] at this; exact this) | (have e := zbb_F (J := zj V) (p := p) (but := 99) (k := i) (by omega); have := ih _ (by omega) (i + 1) rfl (by omega); rw [e] at this; exact this)
        · try simp (disch := omega) only [Int32.le_iff_toInt_le, Int32.lt_iff_toInt_lt, z_eq, z_nI, z_0, z_m1, z_sub, nI_add, nI_mulN, pk_sub, nI_clamp, Nat.reduceAdd, Nat.reduceMul, Nat.reduceSub, Nat.zero_add, Nat.add_zero, r0] at h25
          all_goals (try (exfalso; omega))
          all_goals
            refine Rq.b (fun _ => b48_33) (fun h33 => ?_) (fun h33 => ?_)
            · try simp (disch := omega) only [Int32.le_iff_toInt_le, Int32.lt_iff_toInt_lt, z_eq, z_nI, z_0, z_m1, z_sub, nI_add, nI_mulN, pk_sub, nI_clamp, Nat.reduceAdd, Nat.reduceMul, Nat.reduceSub, Nat.zero_add, Nat.add_zero, r0] at h33
              all_goals (try (exfalso; omega))
              all_goals
                refine Rq.s (fun _ => b48_45) ?_
                try simp (disch := omega) only [nI_add, nI_mulN, pk_sub, nI_clamp, Nat.reduceAdd, Nat.reduceMul, Nat.reduceSub, Nat.zero_add, Nat.add_zero, r0]
                first | (have e := zbb_T (J := zj V) (p := p) (but := 99) (k := i) (by omega) (by omega) (by omega); have := ih _ (by omega) (i + 1) rfl (by omega); rw [e] at this; exact this) | (have e := zbb_F (J := zj V) (p := p) (but := 99) (k := i) (by omega); have := ih _ (by omega) (i + 1) rfl (by omega); rw [e] at this; exact this)
            · try simp (disch := omega) only [Int32.le_iff_toInt_le, Int32.lt_iff_toInt_lt, z_eq, z_nI, z_0, z_m1, z_sub, nI_add, nI_mulN, pk_sub, nI_clamp, Nat.reduceAdd, Nat.reduceMul, Nat.reduceSub, Nat.zero_add, Nat.add_zero, r0] at h33
              all_goals (try (exfalso; omega))
              all_goals
                refine Rq.s (fun _ => b48_39) ?_
                refine Rq.s (fun _ => b48_45b) ?_
                try simp (disch := omega) only [nI_add, nI_mulN, pk_sub, nI_clamp, Nat.reduceAdd, Nat.reduceMul, Nat.reduceSub, Nat.zero_add, Nat.add_zero, r0]
                first | (have e := zbb_T (J := zj V) (p := p) (but := 99) (k := i) (by omega) (by omega) (by omega); have := ih _ (by omega) (i + 1) rfl (by omega); rw [e] at this; exact this) | (have e := zbb_F (J := zj V) (p := p) (but := 99) (k := i) (by omega); have := ih _ (by omega) (i + 1) rfl (by omega); rw [e] at this; exact this)
  refine Cq.p ?_
  refine Cq.c (fun _ _ _ => c48) ?_
  refine Rq.s (fun _ => b48_0) ?_
  try simp (disch := omega) only [nI_add, nI_mulN, pk_sub, nI_clamp, Nat.reduceAdd, Nat.reduceMul, Nat.reduceSub, Nat.zero_add, Nat.add_zero]
  exact L _ 0 rfl (by omega)
def zsu (V : ZV) (p : Nat) : Int32 := if zn V < 3 then -1 else nI (zl (zj V) p (zbb (zj V) p ((zbb (zj V) p 99 (zn V)).getD 0) (zn V))) - nI (zj V p ((zbb (zj V) p 99 (zn V)).getD 0))
theorem m49 {sc : Nat × (Nat → Int32)} {d : Nat} {D : Nat → Nat → Int32} {G : Nat → Nat → Int64} {V : ZV} {p : Nat} (R : RepC D 1 V) (hv : Valid V) (hp : p < zn V) : Cl sc (d + 2) 49 [.ref 1, .int (nI p)] (hx_S0, D, G) (.inl (some (.int (zsu V p)))) (hx_S0, D, G) := by
  obtain ⟨r0, r1, rw, re, rc, rh, rr, rs0, rs1⟩ := rC R
  obtain ⟨h7, vw, ve, vh, vE, vr, vj, vs0, vs1⟩ := id hv
  have hJ : ∀ j, j < zn V → zj V p j ≤ 38 := fun j hj => zj_le hv hp hj
  have hB : 3 ≤ zn V → ∃ b, zbb (zj V) p 99 (zn V) = some b ∧ b < zn V := by
    intro h
    obtain ⟨b, hb⟩ := zbb_some (J := zj V) (p := p) (but := 99) (k := zn V) (j := if p = 0 then 1 else 0) (by split <;> omega) (by split <;> omega) (by split <;> omega) (by have := hJ (if p = 0 then 1 else 0) (by split <;> omega); omega)
    exact ⟨b, hb, (zbb_of _ _ hb).1⟩
  have L : ∀ b, 3 ≤ zn V → zbb (zj V) p 99 (zn V) = some b → b < zn V → ∀ m i, zn V - i = m → i ≤ zn V → Rq sc (d + 2) 49 (23, [some (.ref 1), some (.int (nI p)), some (.int (nI b)), some (.int (nI (zl (zj V) p (zbb (zj V) p b i)))), some (.int (nI i))], [], (hx_S0, D, G), 0) G (Qp (zsu V p) D) := by
    intro b h3 eb hb m
    induction m using Nat.strongRecOn with
    | _ m ih =>
    intro i hm hi
    have hl : zl (zj V) p (zbb (zj V) p b i) < 2 ^ 31 := zl_lt (fun j hj => by have := hJ j (by omega); omega)
    refine Rq.b (fun _ => b49_23) (fun h23 => ?_) (fun h23 => ?_)
    · try simp (disch := omega) only [Int32.le_iff_toInt_le, Int32.lt_iff_toInt_lt, z_eq, z_nI, z_0, z_m1, z_sub, nI_add, nI_mulN, pk_sub, nI_clamp, Nat.reduceAdd, Nat.reduceMul, Nat.reduceSub, Nat.zero_add, Nat.add_zero, z_min, r0] at h23
      all_goals (try (exfalso; omega))
      all_goals
        refine Rq.s (fun _ => b49_62 (by (try simp (disch := omega) only [nI_add, nI_mulN, pk_sub, nI_clamp, Nat.reduceAdd, Nat.reduceMul, Nat.reduceSub, Nat.zero_add, Nat.add_zero, z_min, r0]); exact m46 R hv hp hb)) ?_
        refine Rq.e (b49_69) ?_
        refine Qp.i ?_
        unfold zsu
        rw [if_neg (by omega), eb, show i = zn V by omega]
        rfl
    · try simp (disch := omega) only [Int32.le_iff_toInt_le, Int32.lt_iff_toInt_lt, z_eq, z_nI, z_0, z_m1, z_sub, nI_add, nI_mulN, pk_sub, nI_clamp, Nat.reduceAdd, Nat.reduceMul, Nat.reduceSub, Nat.zero_add, Nat.add_zero, z_min, r0] at h23
      all_goals (try (exfalso; omega))
      all_goals
        refine Rq.b (fun _ => b49_32) (fun h32 => ?_) (fun h32 => ?_)
        · try simp (disch := omega) only [Int32.le_iff_toInt_le, Int32.lt_iff_toInt_lt, z_eq, z_nI, z_0, z_m1, z_sub, nI_add, nI_mulN, pk_sub, nI_clamp, Nat.reduceAdd, Nat.reduceMul, Nat.reduceSub, Nat.zero_add, Nat.add_zero, z_min, r0] at h32
          all_goals (try (exfalso; omega))
          all_goals
            refine Rq.s (fun _ => b49_56) ?_
            try simp (disch := omega) only [nI_add, nI_mulN, pk_sub, nI_clamp, Nat.reduceAdd, Nat.reduceMul, Nat.reduceSub, Nat.zero_add, Nat.add_zero, z_min, r0]
            by_cases c : i ≠ p ∧ i ≠ b ∧ zj V p i < zl (zj V) p (zbb (zj V) p b i)
            · have e := zbb_T (J := zj V) c.1 c.2.1 c.2.2
              have := ih _ (by omega) (i + 1) rfl (by omega)
              rw [e] at this
              first | exact this | (rw [if_pos c.2.2]; exact this) | (exfalso; omega)
            · have e := zbb_F (J := zj V) c
              have := ih _ (by omega) (i + 1) rfl (by omega)
              rw [e] at this
              first | exact this | (rw [if_neg (by omega)]; exact this)
        · try simp (disch := omega) only [Int32.le_iff_toInt_le, Int32.lt_iff_toInt_lt, z_eq, z_nI, z_0, z_m1, z_sub, nI_add, nI_mulN, pk_sub, nI_clamp, Nat.reduceAdd, Nat.reduceMul, Nat.reduceSub, Nat.zero_add, Nat.add_zero, z_min, r0] at h32
          all_goals (try (exfalso; omega))
          all_goals
            refine Rq.b (fun _ => b49_38) (fun h38 => ?_) (fun h38 => ?_)
            · try simp (disch := omega) only [Int32.le_iff_toInt_le, Int32.lt_iff_toInt_lt, z_eq, z_nI, z_0, z_m1, z_sub, nI_add, nI_mulN, pk_sub, nI_clamp, Nat.reduceAdd, Nat.reduceMul, Nat.reduceSub, Nat.zero_add, Nat.add_zero, z_min, r0] at h38
              all_goals (try (exfalso; omega))
              all_goals
                refine Rq.s (fun _ => b49_56) ?_
                try simp (disch := omega) only [nI_add, nI_mulN, pk_sub, nI_clamp, Nat.reduceAdd, Nat.reduceMul, Nat.reduceSub, Nat.zero_add, Nat.add_zero, z_min, r0]
                by_cases c : i ≠ p ∧ i ≠ b ∧ zj V p i < zl (zj V) p (zbb (zj V) p b i)
                · have e := zbb_T (J := zj V) c.1 c.2.1 c.2.2
                  have := ih _ (by omega) (i + 1) rfl (by omega)
                  rw [e] at this
                  first | exact this | (rw [if_pos c.2.2]; exact this) | (exfalso; omega)
                · have e := zbb_F (J := zj V) c
                  have := ih _ (by omega) (i + 1) rfl (by omega)
                  rw [e] at this
                  first | exact this | (rw [if_neg (by omega)]; exact this)
            · try simp (disch := omega) only [Int32.le_iff_toInt_le, Int32.lt_iff_toInt_lt, z_eq, z_nI, z_0, z_m1, z_sub, nI_add, nI_mulN, pk_sub, nI_clamp, Nat.reduceAdd, Nat.reduceMul, Nat.reduceSub, Nat.zero_add, Nat.add_zero, z_min, r0] at h38
              all_goals (try (exfalso; omega))
              all_goals
                have hJi := hJ i (by omega)
                refine Rq.s (fun _ => b49_44 (by (try simp (disch := omega) only [nI_add, nI_mulN, pk_sub, nI_clamp, Nat.reduceAdd, Nat.reduceMul, Nat.reduceSub, Nat.zero_add, Nat.add_zero, z_min, r0]); exact m46 R hv hp (by omega))) ?_
                refine Rq.s (fun _ => b49_52) ?_
                try simp (disch := omega) only [nI_add, nI_mulN, pk_sub, nI_clamp, Nat.reduceAdd, Nat.reduceMul, Nat.reduceSub, Nat.zero_add, Nat.add_zero, z_min, r0]
                refine Rq.s (fun _ => b49_56) ?_
                try simp (disch := omega) only [nI_add, nI_mulN, pk_sub, nI_clamp, Nat.reduceAdd, Nat.reduceMul, Nat.reduceSub, Nat.zero_add, Nat.add_zero, z_min, r0]
                by_cases c : i ≠ p ∧ i ≠ b ∧ zj V p i < zl (zj V) p (zbb (zj V) p b i)
                · have e := zbb_T (J := zj V) c.1 c.2.1 c.2.2
                  have := ih _ (by omega) (i + 1) rfl (by omega)
                  rw [e] at this
                  first | exact this | (rw [if_pos c.2.2]; exact this) | (exfalso; omega)
                · have e := zbb_F (J := zj V) c
                  have := ih _ (by omega) (i + 1) rfl (by omega)
                  rw [e] at this
                  first | exact this | (rw [if_neg (by omega)]; exact this)
  refine Cq.p ?_
  refine Cq.c (fun _ _ _ => c49) ?_
  refine Rq.b (fun _ => b49_0) (fun h0 => ?_) (fun h0 => ?_)
  · try simp (disch := omega) only [Int32.le_iff_toInt_le, Int32.lt_iff_toInt_lt, z_eq, z_nI, z_0, z_m1, z_sub, nI_add, nI_mulN, pk_sub, nI_clamp, Nat.reduceAdd, Nat.reduceMul, Nat.reduceSub, Nat.zero_add, Nat.add_zero, r0] at h0
    all_goals (try (exfalso; omega))
    all_goals
      obtain ⟨b, eb, hb⟩ := hB (by omega)
      refine Rq.s (fun _ => b49_10 (by have := m48 (sc := sc) (d := d) (G := G) R hv hp; rw [eb] at this; exact this)) ?_
      refine Rq.s (fun _ => b49_15) ?_
      try simp (disch := omega) only [nI_add, nI_mulN, pk_sub, nI_clamp, Nat.reduceAdd, Nat.reduceMul, Nat.reduceSub, Nat.zero_add, Nat.add_zero, r0]
      exact L b (by omega) eb hb _ 0 rfl (by omega)
  · try simp (disch := omega) only [Int32.le_iff_toInt_le, Int32.lt_iff_toInt_lt, z_eq, z_nI, z_0, z_m1, z_sub, nI_add, nI_mulN, pk_sub, nI_clamp, Nat.reduceAdd, Nat.reduceMul, Nat.reduceSub, Nat.zero_add, Nat.add_zero, r0] at h0
    all_goals (try (exfalso; omega))
    all_goals
      refine Rq.e (b49_8) ?_
      exact Qp.i (by unfold zsu; rw [if_pos (by omega)])
