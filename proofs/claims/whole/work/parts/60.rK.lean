/-! ===== the reference: the hash ===== -/
def Rg (sc : Nat × (Nat → Int32)) (d k : Nat) (fs : hx_FS) (Q : hx_RS → (Nat → Nat → Int32) → (Nat → Nat → Int64) → Prop) : Prop := ∃ r D2 G2 u, Rn sc d k fs (r, (hx_S0, D2, G2), u) ∧ Q r D2 G2
def Cg (sc : Nat × (Nat → Int32)) (d k : Nat) (as : List Value) (D : Nat → Nat → Int32) (G : Nat → Nat → Int64) (Q : hx_RS → (Nat → Nat → Int32) → (Nat → Nat → Int64) → Prop) : Prop := ∃ r D2 G2, Cl sc d k as (hx_S0, D, G) r (hx_S0, D2, G2) ∧ Q r D2 G2
section RG
variable {sc : Nat × (Nat → Int32)} {d k : Nat} {f1 f2 f3 : hx_FS} {D D2 : Nat → Nat → Int32} {G G2 : Nat → Nat → Int64} {Q : hx_RS → (Nat → Nat → Int32) → (Nat → Nat → Int64) → Prop} {P : Prop} {r : hx_RS} {u : Nat} {as : List Value}
theorem Rg.s (h : ∀ r, Rn sc d k f2 r → Rn sc d k f1 r) (K : Rg sc d k f2 Q) : Rg sc d k f1 Q := by
  obtain ⟨r, D2, G2, u, h2, q⟩ := K
  exact ⟨r, D2, G2, u, h _ h2, q⟩
theorem Rg.bt (h : ∀ r, (P → Rn sc d k f2 r) → (¬ P → Rn sc d k f3 r) → Rn sc d k f1 r) (p : P) (K : Rg sc d k f2 Q) : Rg sc d k f1 Q := Rg.s (fun r K => h r (fun _ => K) (fun z => absurd p z)) K
theorem Rg.bf (h : ∀ r, (P → Rn sc d k f2 r) → (¬ P → Rn sc d k f3 r) → Rn sc d k f1 r) (p : ¬ P) (K : Rg sc d k f3 Q) : Rg sc d k f1 Q := Rg.s (fun r K => h r (fun z => absurd z p) (fun _ => K)) K
theorem Rg.b (h : ∀ r, (P → Rn sc d k f2 r) → (¬ P → Rn sc d k f3 r) → Rn sc d k f1 r) (kt : P → Rg sc d k f2 Q) (kf : ¬ P → Rg sc d k f3 Q) : Rg sc d k f1 Q := by
  by_cases p : P
  · exact Rg.bt h p (kt p)
  · exact Rg.bf h p (kf p)
theorem Rg.e (h : Rn sc d k f1 (r, (hx_S0, D2, G2), u)) (q : Q r D2 G2) : Rg sc d k f1 Q := ⟨r, D2, G2, u, h, q⟩
theorem Cg.c {f : hx_FS} (h : ∀ r H2 u, Rn sc d k f (r, H2, u) → Cl sc d k as (hx_S0, D, G) r H2) (K : Rg sc d k f Q) : Cg sc d k as D G Q := by
  obtain ⟨r, D2, G2, u, h2, q⟩ := K
  exact ⟨r, D2, G2, h _ _ _ h2, q⟩
end RG
theorem hx_up_up {α : Type} (g : Nat → Nat → α) (k i : Nat) (a b : α) : hx_up (hx_up g k i a) k i b = hx_up g k i b := by
  funext x y
  rw [hx_up_at, hx_up_at, hx_up_at]
  split <;> rfl
theorem m177 {sc : Nat × (Nat → Int32)} {d : Nat} {D : Nat → Nat → Int32} {G : Nat → Nat → Int64} {h v : Int64} : Cl sc d 177 [.ref 79, .long v] (hx_S0, D, hx_up G 79 16 h) (.inl none) (hx_S0, D, hx_up G 79 16 (zmix h v)) := by
  have e := c177 (u := 0) (b177_0 (sc := sc) (d := d) (D := D) (G := hx_up G 79 16 h) (x1 := v))
  rw [hx_up_up, hx_up_s] at e
  exact e
theorem zk2_get0 (a b : Bool) : nI ((if a = true then 1 else 0) + 2 * (if b = true then 1 else 0)) &&& nI 1 = nI (if a = true then 1 else 0) := by
  cases a <;> cases b <;> decide +kernel
theorem zbL (b : Bool) : (nI (if b = true then 1 else 0)).toInt64 = if b = true then 1 else 0 := by
  cases b <;> decide +kernel
theorem zSh_okM {D : Nat → Nat → Int32} {V : ZV} (R : RepM D 80 0 V) (hv : Valid V) : fA (zSh V) := by
  obtain ⟨_, D4, hC4, rfl, hI, HL⟩ := m120 (sc := (0, fun _ => 0)) (d := 0) (G := fun _ _ => 0) R hv
  have lm := HL.2.1
  obtain ⟨a0, am, a1, a2, a3, a4, a5, a6, a7, a8⟩ := id HL
  unfold zSh zsh
  split
  · exact fA_0
  · have e1 := a8 0 (by omega)
    have e2 := a8 ((zLn V).length - 1 - 1) (by omega)
    have e3 := a3 (0 + 1) (by omega)
    have e4 := a3 ((zLn V).length - 1 - 1 + 1) (by omega)
    have d0 : zd (zst (zLn V)) 0 = (zst (zLn V) (0 + 1) : Int) - zst (zLn V) 0 := rfl
    have d1 : zd (zst (zLn V)) ((zLn V).length - 1 - 1) = (zst (zLn V) ((zLn V).length - 1 - 1 + 1) : Int) - zst (zLn V) ((zLn V).length - 1 - 1) := rfl
    exact fA_all (by omega) (by omega) (by omega) (by omega)
def QGd (D : Nat → Nat → Int32) (G : Nat → Nat → Int64) (x : Int64) : hx_RS → (Nat → Nat → Int32) → (Nat → Nat → Int64) → Prop := fun r D2 G2 => r = .inl none ∧ eqW D D2 ∧ G2 = hx_up G 79 16 x
theorem m178 {sc : Nat × (Nat → Int32)} {d : Nat} {D : Nat → Nat → Int32} {G : Nat → Nat → Int64} {V : ZV} {h : Int64} (R : RepM D 80 0 V) (hv : Valid V) : Cg sc (d + 4) 178 [.ref 79] D (hx_up G 79 16 h) (QGd D G (dgPs V h)) := by
  have h7 := hv.1
  have N : ∀ n i D3 x, zn V - i = n → i ≤ zn V → eqW D D3 → zit (fun i h => zmix h (nI (zr V i)).toInt64) i (zit (dgP V) (zn V) h) = x → Rg sc (d + 4) 178 (77, [some (.ref 79), some (.int (nI i)), none], [], (hx_S0, D3, hx_up G 79 16 x), 0) (QGd D G (dgPs V h)) := by
    intro n
    induction n using Nat.strongRecOn with
    | _ n ih =>
    intro i D3 x hn hi hI hx
    have R3 := hI.R hv R
    have s98 := (rM R3).1
    refine Rg.b (fun _ => b178_77 (by (try simp (disch := omega) only [nI_add, nI_mulN, pk_sub, nI_clamp, Nat.reduceAdd, Nat.reduceMul, Nat.reduceSub, Nat.zero_add, Nat.add_zero, s98]); exact nI_inbT (by omega) (by omega))) (fun h77 => ?_) (fun h77 => ?_)
    · try simp (disch := omega) only [Int32.le_iff_toInt_le, Int32.lt_iff_toInt_lt, z_eq, z_nI, z_0, z_m1, z_sub, nI_add, nI_mulN, pk_sub, nI_clamp, Nat.reduceAdd, Nat.reduceMul, Nat.reduceSub, Nat.zero_add, Nat.add_zero, s98] at h77
      all_goals (try (exfalso; omega))
      all_goals
        refine Rg.e (b178_108) ?_
        rw [← hx, show i = zn V by omega]
        exact ⟨rfl, hI, rfl⟩
    · try simp (disch := omega) only [Int32.le_iff_toInt_le, Int32.lt_iff_toInt_lt, z_eq, z_nI, z_0, z_m1, z_sub, nI_add, nI_mulN, pk_sub, nI_clamp, Nat.reduceAdd, Nat.reduceMul, Nat.reduceSub, Nat.zero_add, Nat.add_zero, s98] at h77
      all_goals (try (exfalso; omega))
      all_goals
        have rri := (rM R3).2.2.2.2.2.1 i (by omega)
        refine Rg.s (fun _ => b178_88 (by (try simp (disch := omega) only [nI_add, nI_mulN, pk_sub, nI_clamp, Nat.reduceAdd, Nat.reduceMul, Nat.reduceSub, Nat.zero_add, Nat.add_zero, s98, rri]); exact nI_inbT (by omega) (by omega)) (by (try simp (disch := omega) only [nI_add, nI_mulN, pk_sub, nI_clamp, Nat.reduceAdd, Nat.reduceMul, Nat.reduceSub, Nat.zero_add, Nat.add_zero, s98, rri]); exact m177)) ?_
        refine Rg.s (fun _ => b178_102) ?_
        try simp (disch := omega) only [nI_add, nI_mulN, pk_sub, nI_clamp, Nat.reduceAdd, Nat.reduceMul, Nat.reduceSub, Nat.zero_add, Nat.add_zero, s98, rri]
        exact ih _ (by omega) (i + 1) D3 _ rfl (by omega) hI (by rw [← hx]; rfl)
  have L : ∀ n p D3 x, zn V - p = n → p ≤ zn V → eqW D D3 → zit (dgP V) p h = x → Rg sc (d + 4) 178 (2, [some (.ref 79), some (.int (nI p)), none], [], (hx_S0, D3, hx_up G 79 16 x), 0) (QGd D G (dgPs V h)) := by
    intro n
    induction n using Nat.strongRecOn with
    | _ n ih =>
    intro p D3 x hn hi hI hx
    have R3 := hI.R hv R
    have s98 := (rM R3).1
    have J : p < zn V → ∀ m j y, 14 - j = m → j ≤ 14 → zit (fun j h => zmix h (nI (zpr V p j)).toInt64) j x = y → Rg sc (d + 4) 178 (15, [some (.ref 79), some (.int (nI p)), some (.int (nI j))], [], (hx_S0, D3, hx_up G 79 16 y), 0) (QGd D G (dgPs V h)) := by
      intro hp m
      induction m using Nat.strongRecOn with
      | _ m ih2 =>
      intro j y hm hj hy
      refine Rg.b (fun _ => b178_15) (fun h15 => ?_) (fun h15 => ?_)
      · try simp (disch := omega) only [Int32.le_iff_toInt_le, Int32.lt_iff_toInt_lt, z_eq, z_nI, z_0, z_m1, z_sub, nI_add, nI_mulN, pk_sub, nI_clamp, Nat.reduceAdd, Nat.reduceMul, Nat.reduceSub, Nat.zero_add, Nat.add_zero, s98] at h15
        all_goals (try (exfalso; omega))
        all_goals
          refine Rg.s (fun _ => b178_38 (by (try simp (disch := omega) only [nI_add, nI_mulN, pk_sub, nI_clamp, Nat.reduceAdd, Nat.reduceMul, Nat.reduceSub, Nat.zero_add, Nat.add_zero, s98]); exact m163 (d := d + 1) R3 hv hp (hb99 h7))) ?_
          refine Rg.s (fun _ => b178_45 (by (try simp (disch := omega) only [nI_add, nI_mulN, pk_sub, nI_clamp, Nat.reduceAdd, Nat.reduceMul, Nat.reduceSub, Nat.zero_add, Nat.add_zero, s98]); exact m177)) ?_
          refine Rg.s (fun _ => b178_49 (by (try simp (disch := omega) only [nI_add, nI_mulN, pk_sub, nI_clamp, Nat.reduceAdd, Nat.reduceMul, Nat.reduceSub, Nat.zero_add, Nat.add_zero, s98]); exact m165 (d := d) R3 hv hp)) ?_
          refine Rg.s (fun _ => b178_55 (by (try simp (disch := omega) only [nI_add, nI_mulN, pk_sub, nI_clamp, Nat.reduceAdd, Nat.reduceMul, Nat.reduceSub, Nat.zero_add, Nat.add_zero, s98]); exact m177)) ?_
          obtain ⟨_, D5, hC5, rfl, k5⟩ := m167 (sc := sc) (d := d) (G := hx_up G 79 16 (zmix (zmix y (zo (zbb (zj V) p 99 (zn V))).toInt64) (zsu V p).toInt64)) (p := p) R3 hv hp
          refine Rg.s (fun _ => b178_59 hC5) ?_
          refine Rg.s (fun _ => b178_65 (by (try simp (disch := omega) only [nI_add, nI_mulN, pk_sub, nI_clamp, Nat.reduceAdd, Nat.reduceMul, Nat.reduceSub, Nat.zero_add, Nat.add_zero, s98]); exact m177)) ?_
          refine Rg.s (fun _ => b178_69) ?_
          try simp (disch := omega) only [nI_add, nI_mulN, pk_sub, nI_clamp, Nat.reduceAdd, Nat.reduceMul, Nat.reduceSub, Nat.zero_add, Nat.add_zero, s98]
          refine ih _ (by omega) (p + 1) D5 _ rfl (by omega) (hI.tr k5) ?_
          show dgP V p (zit (dgP V) p h) = _
          rw [hx, ← hy, show j = 14 by omega]
          rfl
      · try simp (disch := omega) only [Int32.le_iff_toInt_le, Int32.lt_iff_toInt_lt, z_eq, z_nI, z_0, z_m1, z_sub, nI_add, nI_mulN, pk_sub, nI_clamp, Nat.reduceAdd, Nat.reduceMul, Nat.reduceSub, Nat.zero_add, Nat.add_zero, s98] at h15
        all_goals (try (exfalso; omega))
        all_goals
          refine Rg.s (fun _ => b178_21 (by (try simp (disch := omega) only [nI_add, nI_mulN, pk_sub, nI_clamp, Nat.reduceAdd, Nat.reduceMul, Nat.reduceSub, Nat.zero_add, Nat.add_zero, s98]); exact m152 (d := d) R3 hv hp (by omega))) ?_
          refine Rg.s (fun _ => b178_28 (by (try simp (disch := omega) only [nI_add, nI_mulN, pk_sub, nI_clamp, Nat.reduceAdd, Nat.reduceMul, Nat.reduceSub, Nat.zero_add, Nat.add_zero, s98]); exact m177)) ?_
          refine Rg.s (fun _ => b178_32) ?_
          try simp (disch := omega) only [nI_add, nI_mulN, pk_sub, nI_clamp, Nat.reduceAdd, Nat.reduceMul, Nat.reduceSub, Nat.zero_add, Nat.add_zero, s98]
          exact ih2 _ (by omega) (j + 1) _ rfl (by omega) (by rw [← hy]; rfl)
    refine Rg.b (fun _ => b178_2 (by (try simp (disch := omega) only [nI_add, nI_mulN, pk_sub, nI_clamp, Nat.reduceAdd, Nat.reduceMul, Nat.reduceSub, Nat.zero_add, Nat.add_zero, s98]); exact nI_inbT (by omega) (by omega))) (fun h2 => ?_) (fun h2 => ?_)
    · try simp (disch := omega) only [Int32.le_iff_toInt_le, Int32.lt_iff_toInt_lt, z_eq, z_nI, z_0, z_m1, z_sub, nI_add, nI_mulN, pk_sub, nI_clamp, Nat.reduceAdd, Nat.reduceMul, Nat.reduceSub, Nat.zero_add, Nat.add_zero, s98] at h2
      all_goals (try (exfalso; omega))
      all_goals
        refine Rg.s (fun _ => b178_75) ?_
        try simp (disch := omega) only [nI_add, nI_mulN, pk_sub, nI_clamp, Nat.reduceAdd, Nat.reduceMul, Nat.reduceSub, Nat.zero_add, Nat.add_zero, s98]
        exact N _ 0 D3 _ rfl (by omega) hI (by rw [← hx, show p = zn V by omega]; rfl)
    · try simp (disch := omega) only [Int32.le_iff_toInt_le, Int32.lt_iff_toInt_lt, z_eq, z_nI, z_0, z_m1, z_sub, nI_add, nI_mulN, pk_sub, nI_clamp, Nat.reduceAdd, Nat.reduceMul, Nat.reduceSub, Nat.zero_add, Nat.add_zero, s98] at h2
      all_goals (try (exfalso; omega))
      all_goals
        refine Rg.s (fun _ => b178_13) ?_
        try simp (disch := omega) only [nI_add, nI_mulN, pk_sub, nI_clamp, Nat.reduceAdd, Nat.reduceMul, Nat.reduceSub, Nat.zero_add, Nat.add_zero, s98]
        exact J (by omega) _ 0 x rfl (by omega) rfl
  refine Cg.c (fun _ _ _ => c178) ?_
  refine Rg.s (fun _ => b178_0) ?_
  try simp (disch := omega) only [nI_add, nI_mulN, pk_sub, nI_clamp, Nat.reduceAdd, Nat.reduceMul, Nat.reduceSub, Nat.zero_add, Nat.add_zero]
  exact L _ 0 D h rfl (by omega) eqW.rf rfl
