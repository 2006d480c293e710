/-! ===== the class: the hash ===== -/
abbrev zmix (h v : Int64) : Int64 := 31 * h + v
/-- a loop from 0 to below k -/
def zit (g : Nat → Int64 → Int64) : Nat → Int64 → Int64
  | 0, h => h
  | k + 1, h => g k (zit g k h)
def dgP (V : ZV) (p : Nat) (h : Int64) : Int64 := zmix (zmix (zmix (zit (fun j h => zmix h (nI (zpr V p j)).toInt64) 14 h) (zo (zbb (zj V) p 99 (zn V))).toInt64) (zsu V p).toInt64) (nI (zbp V p)).toInt64
def dgPs (V : ZV) (h : Int64) : Int64 := zit (fun i h => zmix h (nI (zr V i)).toInt64) (zn V) (zit (dgP V) (zn V) h)
def dgHs (V : ZV) (h : Int64) : Int64 := zit (fun i h => zit (fun j h => zmix h (zHp V i j).toInt64) 5 h) (zLn V).length h
def dgSB (t : ST) (h : Int64) : Int64 := zit (fun i h => zmix h (nI (tb t i)).toInt64) (tn t) (zmix (zit (fun k h => zmix h (if (tK t k).isSome = true then 1 else 0)) 2 h) (nI (tn t)).toInt64)
def dgst (t : ST) : Int64 := dgSB t (zmix (zmix (zmix (dgHs (tV t) (dgPs (tV t) (zmix (zmix (zit (fun j h => zmix h (zct t j).toInt64) 10 3541) (nI (zs (tV t) 0)).toInt64) (nI (zs (tV t) 1)).toInt64))) (nI (zWs (tV t) (zbr (tV t)))).toInt64) (fBits (zSh (tV t))).toInt64) (dBits (zMc (tV t))))
def Ql (v : Int64) (D : Nat → Nat → Int32) : hx_RS → (Nat → Nat → Int32) → Prop := fun r D2 => r = .inl (some (.long v)) ∧ eqK D D2
theorem m94 {sc : Nat × (Nat → Int32)} {d : Nat} {D : Nat → Nat → Int32} {G : Nat → Nat → Int64} {h v : Int64} : Cl sc d 94 [.long h, .long v] (hx_S0, D, G) (.inl (some (.long (zmix h v)))) (hx_S0, D, G) := c94 (u := 0) b94_0
theorem m95 {sc : Nat × (Nat → Int32)} {d : Nat} {D : Nat → Nat → Int32} {G : Nat → Nat → Int64} {V : ZV} {h : Int64} (R : RepC D 1 V) (hv : Valid V) : Cq sc (d + 3) 95 [.ref 0, .long h] D G (Ql (dgPs V h) D) := by
  obtain ⟨r0, r1, rw, re, rc, rh, rr, rs0, rs1⟩ := rC R
  obtain ⟨h7, vw, ve, vh, vE, vr, vj, vs0, vs1⟩ := id hv
  have N : ∀ n i D3 x, zn V - i = n → i ≤ zn V → eqK D D3 → zit (fun i h => zmix h (nI (zr V i)).toInt64) i (zit (dgP V) (zn V) h) = x → Rq sc (d + 3) 95 (101, [some (.ref 0), none, none, some (.long x), none, some (.int (nI i)), none], [], (hx_S0, D3, G), 0) G (Ql (dgPs V h) D) := by
    intro n
    induction n using Nat.strongRecOn with
    | _ n ih =>
    intro i D3 x hn hi hI hx
    have k1 : D3 1 = D 1 := hI 1 (by omega)
    have k6 : D3 6 = D 6 := hI 6 (by omega)
    refine Rq.b (fun _ => b95_101) (fun h101 => ?_) (fun h101 => ?_)
    · try simp (disch := omega) only [Int32.le_iff_toInt_le, Int32.lt_iff_toInt_lt, z_eq, z_nI, z_0, z_m1, z_sub, nI_add, nI_mulN, pk_sub, nI_clamp, Nat.reduceAdd, Nat.reduceMul, Nat.reduceSub, Nat.zero_add, Nat.add_zero, k1, k6, r0] at h101
      all_goals (try (exfalso; omega))
      all_goals
        refine Rq.e (b95_135) ?_
        rw [← hx, show i = zn V by omega]
        exact ⟨rfl, hI⟩
    · try simp (disch := omega) only [Int32.le_iff_toInt_le, Int32.lt_iff_toInt_lt, z_eq, z_nI, z_0, z_m1, z_sub, nI_add, nI_mulN, pk_sub, nI_clamp, Nat.reduceAdd, Nat.reduceMul, Nat.reduceSub, Nat.zero_add, Nat.add_zero, k1, k6, r0] at h101
      all_goals (try (exfalso; omega))
      all_goals
        have rri := rr i (by omega)
        refine Rq.s (fun _ => b95_113 (by (try simp (disch := omega) only [nI_add, nI_mulN, pk_sub, nI_clamp, Nat.reduceAdd, Nat.reduceMul, Nat.reduceSub, Nat.zero_add, Nat.add_zero, k1, k6, r0, rri]); exact nI_inbT (by omega) (by omega)) (by (try simp (disch := omega) only [nI_add, nI_mulN, pk_sub, nI_clamp, Nat.reduceAdd, Nat.reduceMul, Nat.reduceSub, Nat.zero_add, Nat.add_zero, k1, k6, r0, rri]); exact m94)) ?_
        refine Rq.s (fun _ => b95_128) ?_
        try simp (disch := omega) only [nI_add, nI_mulN, pk_sub, nI_clamp, Nat.reduceAdd, Nat.reduceMul, Nat.reduceSub, Nat.zero_add, Nat.add_zero, k1, k6, r0, rri]
        exact ih _ (by omega) (i + 1) D3 _ rfl (by omega) hI (by rw [← hx]; rfl)
  have L : ∀ n p D3 x, zn V - p = n → p ≤ zn V → eqK D D3 → zit (dgP V) p h = x → Rq sc (d + 3) 95 (5, [some (.ref 0), none, none, some (.long x), none, some (.int (nI p)), none], [], (hx_S0, D3, G), 0) G (Ql (dgPs V h) D) := by
    intro n
    induction n using Nat.strongRecOn with
    | _ n ih =>
    intro p D3 x hn hi hI hx
    have k1 : D3 1 = D 1 := hI 1 (by omega)
    have J : p < zn V → ∀ m j y, 14 - j = m → j ≤ 14 → zit (fun j h => zmix h (nI (zpr V p j)).toInt64) j x = y → Rq sc (d + 3) 95 (20, [some (.ref 0), none, none, some (.long y), none, some (.int (nI p)), some (.int (nI j))], [], (hx_S0, D3, G), 0) G (Ql (dgPs V h) D) := by
      intro hp m
      induction m using Nat.strongRecOn with
      | _ m ih2 =>
      intro j y hm hj hy
      have R3 : RepC D3 1 V := hI.C R
      refine Rq.b (fun _ => b95_20) (fun h20 => ?_) (fun h20 => ?_)
      · try simp (disch := omega) only [Int32.le_iff_toInt_le, Int32.lt_iff_toInt_lt, z_eq, z_nI, z_0, z_m1, z_sub, nI_add, nI_mulN, pk_sub, nI_clamp, Nat.reduceAdd, Nat.reduceMul, Nat.reduceSub, Nat.zero_add, Nat.add_zero, k1, r0] at h20
        all_goals (try (exfalso; omega))
        all_goals
          refine Rq.s (fun _ => b95_50 (by (try simp (disch := omega) only [nI_add, nI_mulN, pk_sub, nI_clamp, Nat.reduceAdd, Nat.reduceMul, Nat.reduceSub, Nat.zero_add, Nat.add_zero, k1, r0]); exact m48 (d := d + 1) R3 hv hp)) ?_
          refine Rq.s (fun _ => b95_60 (by (try simp (disch := omega) only [nI_add, nI_mulN, pk_sub, nI_clamp, Nat.reduceAdd, Nat.reduceMul, Nat.reduceSub, Nat.zero_add, Nat.add_zero, k1, r0]); exact m94)) ?_
          refine Rq.s (fun _ => b95_64 (by (try simp (disch := omega) only [nI_add, nI_mulN, pk_sub, nI_clamp, Nat.reduceAdd, Nat.reduceMul, Nat.reduceSub, Nat.zero_add, Nat.add_zero, k1, r0]); exact m49 (d := d) R3 hv hp)) ?_
          refine Rq.s (fun _ => b95_75 (by (try simp (disch := omega) only [nI_add, nI_mulN, pk_sub, nI_clamp, Nat.reduceAdd, Nat.reduceMul, Nat.reduceSub, Nat.zero_add, Nat.add_zero, k1, r0]); exact m94)) ?_
          obtain ⟨_, D5, hC5, rfl, k5⟩ := m91 (sc := sc) (d := d) (G := G) (p := p) R3 hv hp
          refine Rq.s (fun _ => b95_79 hC5) ?_
          refine Rq.s (fun _ => b95_87 (by (try simp (disch := omega) only [nI_add, nI_mulN, pk_sub, nI_clamp, Nat.reduceAdd, Nat.reduceMul, Nat.reduceSub, Nat.zero_add, Nat.add_zero, k1, r0]); exact m94)) ?_
          refine Rq.s (fun _ => b95_91) ?_
          try simp (disch := omega) only [nI_add, nI_mulN, pk_sub, nI_clamp, Nat.reduceAdd, Nat.reduceMul, Nat.reduceSub, Nat.zero_add, Nat.add_zero, k1, r0]
          refine ih _ (by omega) (p + 1) D5 _ rfl (by omega) (hI.tr k5) ?_
          show dgP V p (zit (dgP V) p h) = _
          rw [hx, ← hy, show j = 14 by omega]
          rfl
      · try simp (disch := omega) only [Int32.le_iff_toInt_le, Int32.lt_iff_toInt_lt, z_eq, z_nI, z_0, z_m1, z_sub, nI_add, nI_mulN, pk_sub, nI_clamp, Nat.reduceAdd, Nat.reduceMul, Nat.reduceSub, Nat.zero_add, Nat.add_zero, k1, r0] at h20
        all_goals (try (exfalso; omega))
        all_goals
          refine Rq.s (fun _ => b95_27 (by (try simp (disch := omega) only [nI_add, nI_mulN, pk_sub, nI_clamp, Nat.reduceAdd, Nat.reduceMul, Nat.reduceSub, Nat.zero_add, Nat.add_zero, k1, r0]); exact m42 (d := d + 1) R3 hv hp (by omega))) ?_
          refine Rq.s (fun _ => b95_39 (by (try simp (disch := omega) only [nI_add, nI_mulN, pk_sub, nI_clamp, Nat.reduceAdd, Nat.reduceMul, Nat.reduceSub, Nat.zero_add, Nat.add_zero, k1, r0]); exact m94)) ?_
          refine Rq.s (fun _ => b95_43) ?_
          try simp (disch := omega) only [nI_add, nI_mulN, pk_sub, nI_clamp, Nat.reduceAdd, Nat.reduceMul, Nat.reduceSub, Nat.zero_add, Nat.add_zero, k1, r0]
          exact ih2 _ (by omega) (j + 1) _ rfl (by omega) (by rw [← hy]; rfl)
    refine Rq.b (fun _ => b95_5) (fun h5 => ?_) (fun h5 => ?_)
    · try simp (disch := omega) only [Int32.le_iff_toInt_le, Int32.lt_iff_toInt_lt, z_eq, z_nI, z_0, z_m1, z_sub, nI_add, nI_mulN, pk_sub, nI_clamp, Nat.reduceAdd, Nat.reduceMul, Nat.reduceSub, Nat.zero_add, Nat.add_zero, k1, r0] at h5
      all_goals (try (exfalso; omega))
      all_goals
        refine Rq.s (fun _ => b95_98) ?_
        try simp (disch := omega) only [nI_add, nI_mulN, pk_sub, nI_clamp, Nat.reduceAdd, Nat.reduceMul, Nat.reduceSub, Nat.zero_add, Nat.add_zero, k1, r0]
        exact N _ 0 D3 _ rfl (by omega) hI (by rw [← hx, show p = zn V by omega]; rfl)
    · try simp (disch := omega) only [Int32.le_iff_toInt_le, Int32.lt_iff_toInt_lt, z_eq, z_nI, z_0, z_m1, z_sub, nI_add, nI_mulN, pk_sub, nI_clamp, Nat.reduceAdd, Nat.reduceMul, Nat.reduceSub, Nat.zero_add, Nat.add_zero, k1, r0] at h5
      all_goals (try (exfalso; omega))
      all_goals
        refine Rq.s (fun _ => b95_17) ?_
        try simp (disch := omega) only [nI_add, nI_mulN, pk_sub, nI_clamp, Nat.reduceAdd, Nat.reduceMul, Nat.reduceSub, Nat.zero_add, Nat.add_zero, k1, r0]
        exact J (by omega) _ 0 x rfl (by omega) rfl
  refine Cq.c (fun _ _ _ => c95) ?_
  refine Rq.s (fun _ => b95_0) ?_
  try simp (disch := omega) only [nI_add, nI_mulN, pk_sub, nI_clamp, Nat.reduceAdd, Nat.reduceMul, Nat.reduceSub, Nat.zero_add, Nat.add_zero]
  exact L _ 0 D h rfl (by omega) eqK.rf rfl
theorem m96 {sc : Nat × (Nat → Int32)} {d : Nat} {D : Nat → Nat → Int32} {G : Nat → Nat → Int64} {V : ZV} {h : Int64} (R : RepC D 1 V) (hv : Valid V) : Cq sc (d + 5) 96 [.ref 0, .long h] D G (Ql (dgHs V h) D) := by
  obtain ⟨r0, r1, rw, re, rc, rh, rr, rs0, rs1⟩ := rC R
  obtain ⟨h7, vw, ve, vh, vE, vr, vj, vs0, vs1⟩ := id hv
  refine Cq.c (fun _ _ _ => c96) ?_
  obtain ⟨_, D5, hC5, rfl, k5, L5⟩ := m90 (sc := sc) (d := d + 3) (G := G) R hv
  refine Rq.s (fun _ => b96_0 hC5) ?_
  have hI : eqK D D5 := fun a ha => k5 a (by omega) (by omega) (by omega)
  have l0 := L5.1
  have lm := L5.2.1
  have eln : (zL V (zr V) (zn V)).length = (zLn V).length := rfl
  have L : ∀ n i x, (zLn V).length - i = n → i ≤ (zLn V).length → zit (fun i h => zit (fun j h => zmix h (zHp V i j).toInt64) 5 h) i h = x → Rq sc (d + 5) 96 (11, [none, none, none, some (.long x), none, some (.ref 19), some (.int (nI i)), none], [], (hx_S0, D5, G), 0) G (Ql (dgHs V h) D) := by
    intro n
    induction n using Nat.strongRecOn with
    | _ n ih =>
    intro i x hn hi hx
    have J : i < (zLn V).length → ∀ m j y, 5 - j = m → j ≤ 5 → zit (fun j h => zmix h (zHp V i j).toInt64) j x = y → Rq sc (d + 5) 96 (24, [none, none, none, some (.long y), none, some (.ref 19), some (.int (nI i)), some (.int (nI j))], [], (hx_S0, D5, G), 0) G (Ql (dgHs V h) D) := by
      intro hp m
      induction m using Nat.strongRecOn with
      | _ m ih2 =>
      intro j y hm hj hy
      refine Rq.b (fun _ => b96_24) (fun h24 => ?_) (fun h24 => ?_)
      · try simp (disch := omega) only [Int32.le_iff_toInt_le, Int32.lt_iff_toInt_lt, z_eq, z_nI, z_0, z_m1, z_sub, nI_add, nI_mulN, pk_sub, nI_clamp, Nat.reduceAdd, Nat.reduceMul, Nat.reduceSub, Nat.zero_add, Nat.add_zero, l0] at h24
        all_goals (try (exfalso; omega))
        all_goals
          refine Rq.s (fun _ => b96_51) ?_
          try simp (disch := omega) only [nI_add, nI_mulN, pk_sub, nI_clamp, Nat.reduceAdd, Nat.reduceMul, Nat.reduceSub, Nat.zero_add, Nat.add_zero, l0]
          refine ih _ (by omega) (i + 1) _ rfl (by omega) ?_
          show zit (fun j h => zmix h (zHp V i j).toInt64) 5 (zit _ i h) = _
          rw [hx, ← hy, show j = 5 by omega]
      · try simp (disch := omega) only [Int32.le_iff_toInt_le, Int32.lt_iff_toInt_lt, z_eq, z_nI, z_0, z_m1, z_sub, nI_add, nI_mulN, pk_sub, nI_clamp, Nat.reduceAdd, Nat.reduceMul, Nat.reduceSub, Nat.zero_add, Nat.add_zero, l0] at h24
        all_goals (try (exfalso; omega))
        all_goals
          refine Rq.s (fun _ => b96_30 (by (try simp (disch := omega) only [nI_add, nI_mulN, pk_sub, nI_clamp, Nat.reduceAdd, Nat.reduceMul, Nat.reduceSub, Nat.zero_add, Nat.add_zero, l0]); exact m11 (d := d) L5 (by omega) (by omega))) ?_
          refine Rq.s (fun _ => b96_40 (by (try simp (disch := omega) only [nI_add, nI_mulN, pk_sub, nI_clamp, Nat.reduceAdd, Nat.reduceMul, Nat.reduceSub, Nat.zero_add, Nat.add_zero, l0]); exact m94)) ?_
          refine Rq.s (fun _ => b96_44) ?_
          try simp (disch := omega) only [nI_add, nI_mulN, pk_sub, nI_clamp, Nat.reduceAdd, Nat.reduceMul, Nat.reduceSub, Nat.zero_add, Nat.add_zero, l0]
          exact ih2 _ (by omega) (j + 1) _ rfl (by omega) (by rw [← hy]; rfl)
    refine Rq.b (fun _ => b96_11) (fun h11 => ?_) (fun h11 => ?_)
    · try simp (disch := omega) only [Int32.le_iff_toInt_le, Int32.lt_iff_toInt_lt, z_eq, z_nI, z_0, z_m1, z_sub, nI_add, nI_mulN, pk_sub, nI_clamp, Nat.reduceAdd, Nat.reduceMul, Nat.reduceSub, Nat.zero_add, Nat.add_zero, l0] at h11
      all_goals (try (exfalso; omega))
      all_goals
        refine Rq.e (b96_57) ?_
        rw [← hx, show i = (zLn V).length by omega]
        exact ⟨rfl, hI⟩
    · try simp (disch := omega) only [Int32.le_iff_toInt_le, Int32.lt_iff_toInt_lt, z_eq, z_nI, z_0, z_m1, z_sub, nI_add, nI_mulN, pk_sub, nI_clamp, Nat.reduceAdd, Nat.reduceMul, Nat.reduceSub, Nat.zero_add, Nat.add_zero, l0] at h11
      all_goals (try (exfalso; omega))
      all_goals
        refine Rq.s (fun _ => b96_21) ?_
        try simp (disch := omega) only [nI_add, nI_mulN, pk_sub, nI_clamp, Nat.reduceAdd, Nat.reduceMul, Nat.reduceSub, Nat.zero_add, Nat.add_zero, l0]
        exact J (by omega) _ 0 x rfl (by omega) rfl
  refine Rq.s (fun _ => b96_6) ?_
  try simp (disch := omega) only [nI_add, nI_mulN, pk_sub, nI_clamp, Nat.reduceAdd, Nat.reduceMul, Nat.reduceSub, Nat.zero_add, Nat.add_zero]
  exact L _ 0 h rfl (by omega) rfl
theorem m97 {sc : Nat × (Nat → Int32)} {d : Nat} {D : Nat → Nat → Int32} {G : Nat → Nat → Int64} {t : ST} {h : Int64} (I : InvC D t) (hs : SV t) : Cq sc (d + 1) 97 [.ref 0, .long h] D G (Ql (dgSB t h) D) := by
  obtain ⟨i1, i2, i3, i4⟩ := id I
  obtain ⟨f0, f1, f2, f3⟩ := id i4
  have N : ∀ n i x, tn t - i = n → i ≤ tn t → zit (fun i h => zmix h (nI (tb t i)).toInt64) i (zmix (zit (fun k h => zmix h (if (tK t k).isSome = true then 1 else 0)) 2 h) (nI (tn t)).toInt64) = x → Rq sc (d + 1) 97 (50, [some (.ref 0), none, none, some (.long x), none, some (.int (nI i))], [], (hx_S0, D, G), 0) G (Ql (dgSB t h) D) := by
    intro n
    induction n using Nat.strongRecOn with
    | _ n ih =>
    intro i x hn hi hx
    refine Rq.b (fun _ => b97_50) (fun h50 => ?_) (fun h50 => ?_)
    · try simp (disch := omega) only [Int32.le_iff_toInt_le, Int32.lt_iff_toInt_lt, z_eq, z_nI, z_0, z_m1, z_sub, nI_add, nI_mulN, pk_sub, nI_clamp, Nat.reduceAdd, Nat.reduceMul, Nat.reduceSub, Nat.zero_add, Nat.add_zero, f0] at h50
      all_goals (try (exfalso; omega))
      all_goals
        refine Rq.e (b97_78) ?_
        rw [← hx, show i = tn t by omega]
        exact ⟨rfl, eqK.rf⟩
    · try simp (disch := omega) only [Int32.le_iff_toInt_le, Int32.lt_iff_toInt_lt, z_eq, z_nI, z_0, z_m1, z_sub, nI_add, nI_mulN, pk_sub, nI_clamp, Nat.reduceAdd, Nat.reduceMul, Nat.reduceSub, Nat.zero_add, Nat.add_zero, f0] at h50
      all_goals (try (exfalso; omega))
      all_goals
        have f2i := f2 i (by omega)
        refine Rq.s (fun _ => b97_59 (by (try simp (disch := omega) only [nI_add, nI_mulN, pk_sub, nI_clamp, Nat.reduceAdd, Nat.reduceMul, Nat.reduceSub, Nat.zero_add, Nat.add_zero, f0, f2i]); exact nI_inbT (by omega) (by omega)) (by (try simp (disch := omega) only [nI_add, nI_mulN, pk_sub, nI_clamp, Nat.reduceAdd, Nat.reduceMul, Nat.reduceSub, Nat.zero_add, Nat.add_zero, f0, f2i]); exact m94)) ?_
        refine Rq.s (fun _ => b97_71) ?_
        try simp (disch := omega) only [nI_add, nI_mulN, pk_sub, nI_clamp, Nat.reduceAdd, Nat.reduceMul, Nat.reduceSub, Nat.zero_add, Nat.add_zero, f0, f2i]
        exact ih _ (by omega) (i + 1) _ rfl (by omega) (by rw [← hx]; rfl)
  have L : ∀ n k x, 2 - k = n → k ≤ 2 → zit (fun k h => zmix h (if (tK t k).isSome = true then 1 else 0)) k h = x → Rq sc (d + 1) 97 (5, [some (.ref 0), none, none, some (.long x), none, some (.int (nI k))], [], (hx_S0, D, G), 0) G (Ql (dgSB t h) D) := by
    intro n
    induction n using Nat.strongRecOn with
    | _ n ih =>
    intro k x hn hi hx
    refine Rq.b (fun _ => b97_5) (fun h5 => ?_) (fun h5 => ?_)
    · try simp (disch := omega) only [Int32.le_iff_toInt_le, Int32.lt_iff_toInt_lt, z_eq, z_nI, z_0, z_m1, z_sub, nI_add, nI_mulN, pk_sub, nI_clamp, Nat.reduceAdd, Nat.reduceMul, Nat.reduceSub, Nat.zero_add, Nat.add_zero, f0] at h5
      all_goals (try (exfalso; omega))
      all_goals
        refine Rq.s (fun _ => b97_37 (by (try simp (disch := omega) only [nI_add, nI_mulN, pk_sub, nI_clamp, Nat.reduceAdd, Nat.reduceMul, Nat.reduceSub, Nat.zero_add, Nat.add_zero, f0]); exact m94)) ?_
        refine Rq.s (fun _ => b97_46) ?_
        try simp (disch := omega) only [nI_add, nI_mulN, pk_sub, nI_clamp, Nat.reduceAdd, Nat.reduceMul, Nat.reduceSub, Nat.zero_add, Nat.add_zero, f0]
        exact N _ 0 _ rfl (by omega) (by rw [← hx, show k = 2 by omega]; rfl)
    · try simp (disch := omega) only [Int32.le_iff_toInt_le, Int32.lt_iff_toInt_lt, z_eq, z_nI, z_0, z_m1, z_sub, nI_add, nI_mulN, pk_sub, nI_clamp, Nat.reduceAdd, Nat.reduceMul, Nat.reduceSub, Nat.zero_add, Nat.add_zero, f0] at h5
      all_goals (try (exfalso; omega))
      all_goals
        have i3k := (i3 k (by omega)).1
        by_cases hw : (tK t k).isSome = false
        · refine Rq.bt (fun _ => b97_11 (by (try simp (disch := omega) only [nI_add, nI_mulN, pk_sub, nI_clamp, Nat.reduceAdd, Nat.reduceMul, Nat.reduceSub, Nat.zero_add, Nat.add_zero, f0, i3k]); exact nI_inbT (by omega) (by omega))) (by rw [nI_clamp (by omega), i3k, hw]; rfl) ?_
          refine Rq.s (fun _ => b97_26) ?_
          refine Rq.s (fun _ => b97_27 (by (try simp (disch := omega) only [nI_add, nI_mulN, pk_sub, nI_clamp, Nat.reduceAdd, Nat.reduceMul, Nat.reduceSub, Nat.zero_add, Nat.add_zero, f0, i3k]); exact m94)) ?_
          refine Rq.s (fun _ => b97_30) ?_
          try simp (disch := omega) only [nI_add, nI_mulN, pk_sub, nI_clamp, Nat.reduceAdd, Nat.reduceMul, Nat.reduceSub, Nat.zero_add, Nat.add_zero, f0, i3k]
          refine ih _ (by omega) (k + 1) _ rfl (by omega) ?_
          show zmix _ (if (tK t k).isSome = true then 1 else 0) = _
          rw [hx, if_neg (by rw [hw]; decide)]
        · refine Rq.bf (fun _ => b97_11 (by (try simp (disch := omega) only [nI_add, nI_mulN, pk_sub, nI_clamp, Nat.reduceAdd, Nat.reduceMul, Nat.reduceSub, Nat.zero_add, Nat.add_zero, f0, i3k]); exact nI_inbT (by omega) (by omega))) (by rw [nI_clamp (by omega), i3k, eq_true_of_ne_false hw]; decide) ?_
          refine Rq.s (fun _ => b97_22) ?_
          refine Rq.s (fun _ => b97_27b (by (try simp (disch := omega) only [nI_add, nI_mulN, pk_sub, nI_clamp, Nat.reduceAdd, Nat.reduceMul, Nat.reduceSub, Nat.zero_add, Nat.add_zero, f0, i3k]); exact m94)) ?_
          refine Rq.s (fun _ => b97_30b) ?_
          try simp (disch := omega) only [nI_add, nI_mulN, pk_sub, nI_clamp, Nat.reduceAdd, Nat.reduceMul, Nat.reduceSub, Nat.zero_add, Nat.add_zero, f0, i3k]
          refine ih _ (by omega) (k + 1) _ rfl (by omega) ?_
          show zmix _ (if (tK t k).isSome = true then 1 else 0) = _
          rw [hx, if_pos (eq_true_of_ne_false hw)]
  refine Cq.c (fun _ _ _ => c97) ?_
  refine Rq.s (fun _ => b97_0) ?_
  try simp (disch := omega) only [nI_add, nI_mulN, pk_sub, nI_clamp, Nat.reduceAdd, Nat.reduceMul, Nat.reduceSub, Nat.zero_add, Nat.add_zero]
  exact L _ 0 h rfl (by omega) rfl
theorem zSh_ok {sc : Nat × (Nat → Int32)} {D : Nat → Nat → Int32} {V : ZV} (R : RepC D 1 V) (hv : Valid V) : fA (zSh V) := by
  obtain ⟨r0, r1, rw, re, rc, rh, rr, rs0, rs1⟩ := rC R
  obtain ⟨_, D5, hC5, rfl, k5, L5⟩ := m10 (sc := sc) (d := 0) (G := fun _ _ => 0) (w := zr V) R hv rr hv.2.2.2.2.2.1
  exact zsh_ok L5
theorem kDigest {sc : Nat × (Nat → Int32)} {d : Nat} {D : Nat → Nat → Int32} {G : Nat → Nat → Int64} {t : ST} (I : InvC D t) (hs : SV t) : Cq sc (d + 10) 79 [.ref 0] D G (Ql (dgst t) D) := by
  obtain ⟨r0, r1, rw, re, rc, rh, rr, rs0, rs1⟩ := rC I.1
  obtain ⟨h7, vw, ve, vh, vE, vr, vj, vs0, vs1⟩ := id hs.1
  have hv := hs.1
  have L : ∀ n j D3 x, 10 - j = n → j ≤ 10 → eqK D D3 → zit (fun j h => zmix h (zct t j).toInt64) j 3541 = x → Rq sc (d + 10) 79 (6, [some (.ref 0), some (.long x), none, some (.int (nI j))], [], (hx_S0, D3, G), 0) G (Ql (dgst t) D) := by
    intro n
    induction n using Nat.strongRecOn with
    | _ n ih =>
    intro j D3 x hn hj hI hx
    have k7 : D3 7 = D 7 := hI 7 (by omega)
    have I3 := InvC_keep I hI
    refine Rq.b (fun _ => b79_6) (fun h6 => ?_) (fun h6 => ?_)
    · try simp (disch := omega) only [Int32.le_iff_toInt_le, Int32.lt_iff_toInt_lt, z_eq, z_nI, z_0, z_m1, z_sub, nI_add, nI_mulN, pk_sub, nI_clamp, Nat.reduceAdd, Nat.reduceMul, Nat.reduceSub, Nat.zero_add, Nat.add_zero, k7, rs0, rs1] at h6
      all_goals (try (exfalso; omega))
      all_goals
        refine Rq.s (fun _ => b79_29 (by (try simp (disch := omega) only [nI_add, nI_mulN, pk_sub, nI_clamp, Nat.reduceAdd, Nat.reduceMul, Nat.reduceSub, Nat.zero_add, Nat.add_zero, k7, rs0, rs1]); exact nI_inbT (by omega) (by omega)) (by (try simp (disch := omega) only [nI_add, nI_mulN, pk_sub, nI_clamp, Nat.reduceAdd, Nat.reduceMul, Nat.reduceSub, Nat.zero_add, Nat.add_zero, k7, rs0, rs1]); exact m94)) ?_
        refine Rq.s (fun _ => b79_43 (by (try simp (disch := omega) only [nI_add, nI_mulN, pk_sub, nI_clamp, Nat.reduceAdd, Nat.reduceMul, Nat.reduceSub, Nat.zero_add, Nat.add_zero, k7, rs0, rs1]); exact nI_inbT (by omega) (by omega)) (by (try simp (disch := omega) only [nI_add, nI_mulN, pk_sub, nI_clamp, Nat.reduceAdd, Nat.reduceMul, Nat.reduceSub, Nat.zero_add, Nat.add_zero, k7, rs0, rs1]); exact m94)) ?_
        obtain ⟨_, D5, hC5, rfl, k5⟩ := m95 (sc := sc) (d := d + 6) (G := G) (h := zmix (zmix x (nI (zs (tV t) 0)).toInt64) (nI (zs (tV t) 1)).toInt64) I3.1 hv
        have e5 := hI.tr k5
        have I5 := InvC_keep I e5
        refine Rq.s (fun _ => b79_58 hC5) ?_
        obtain ⟨_, D6, hC6, rfl, k6⟩ := m96 (sc := sc) (d := d + 4) (G := G) (h := dgPs (tV t) (zmix (zmix x (nI (zs (tV t) 0)).toInt64) (nI (zs (tV t) 1)).toInt64)) I5.1 hv
        have e6 := e5.tr k6
        have I6 := InvC_keep I e6
        refine Rq.s (fun _ => b79_64 hC6) ?_
        obtain ⟨_, D7, hC7, rfl, q7⟩ := m92 (sc := sc) (d := d + 5) (G := G) I6.1 hv
        have e7 := e6.tr q7
        have I7 := InvC_keep I e7
        refine Rq.s (fun _ => b79_70 hC7) ?_
        refine Rq.s (fun _ => b79_76 (by (try simp (disch := omega) only [nI_add, nI_mulN, pk_sub, nI_clamp, Nat.reduceAdd, Nat.reduceMul, Nat.reduceSub, Nat.zero_add, Nat.add_zero]); exact m94)) ?_
        obtain ⟨_, D8, hC8, rfl, k8, L8⟩ := m90 (sc := sc) (d := d + 8) (G := G) I7.1 hv
        have e8 : eqK D D8 := e7.tr (fun a ha => k8 a (by omega) (by omega) (by omega))
        have I8 := InvC_keep I e8
        refine Rq.s (fun _ => b79_80 hC8) ?_
        refine Rq.s (fun _ => b79_86 (by (try simp (disch := omega) only [nI_add, nI_mulN, pk_sub, nI_clamp, Nat.reduceAdd, Nat.reduceMul, Nat.reduceSub, Nat.zero_add, Nat.add_zero]); exact m18 (d := d + 8) L8)) ?_
        refine Rq.s (fun _ => b79_89 (by (try simp (disch := omega) only [nI_add, nI_mulN, pk_sub, nI_clamp, Nat.reduceAdd, Nat.reduceMul, Nat.reduceSub, Nat.zero_add, Nat.add_zero]); exact m98 (d := d + 9) (zSh_ok (sc := sc) I8.1 hv))) ?_
        refine Rq.s (fun _ => b79_92 (by (try simp (disch := omega) only [nI_add, nI_mulN, pk_sub, nI_clamp, Nat.reduceAdd, Nat.reduceMul, Nat.reduceSub, Nat.zero_add, Nat.add_zero]); exact m94)) ?_
        refine Rq.s (fun _ => b79_96 (by (try simp (disch := omega) only [nI_add, nI_mulN, pk_sub, nI_clamp, Nat.reduceAdd, Nat.reduceMul, Nat.reduceSub, Nat.zero_add, Nat.add_zero]); exact m93 (d := d + 7) I8.1 hv)) ?_
        refine Rq.s (fun _ => b79_102 (by (try simp (disch := omega) only [nI_add, nI_mulN, pk_sub, nI_clamp, Nat.reduceAdd, Nat.reduceMul, Nat.reduceSub, Nat.zero_add, Nat.add_zero]); exact m99 (d := d + 9) (zMc_ok hv))) ?_
        refine Rq.s (fun _ => b79_105 (by (try simp (disch := omega) only [nI_add, nI_mulN, pk_sub, nI_clamp, Nat.reduceAdd, Nat.reduceMul, Nat.reduceSub, Nat.zero_add, Nat.add_zero]); exact m94)) ?_
        obtain ⟨_, D9, hC9, rfl, k9⟩ := m97 (sc := sc) (d := d + 8) (G := G) (h := _) I8 hs
        have e9 := e8.tr k9
        refine Rq.s (fun _ => b79_108 hC9) ?_
        refine Rq.e (b79_114) ?_
        refine ⟨?_, e9⟩
        rw [show j = 10 by omega] at hx
        rw [← hx]
        rfl
    · try simp (disch := omega) only [Int32.le_iff_toInt_le, Int32.lt_iff_toInt_lt, z_eq, z_nI, z_0, z_m1, z_sub, nI_add, nI_mulN, pk_sub, nI_clamp, Nat.reduceAdd, Nat.reduceMul, Nat.reduceSub, Nat.zero_add, Nat.add_zero, k7, rs0, rs1] at h6
      all_goals (try (exfalso; omega))
      all_goals
        obtain ⟨_, D5, hC5, rfl, k5⟩ := m89 (sc := sc) (d := d) (G := G) (j := j) I3 hs (by omega)
        refine Rq.s (fun _ => b79_12 hC5) ?_
        refine Rq.s (fun _ => b79_18 (by (try simp (disch := omega) only [nI_add, nI_mulN, pk_sub, nI_clamp, Nat.reduceAdd, Nat.reduceMul, Nat.reduceSub, Nat.zero_add, Nat.add_zero, k7, rs0, rs1]); exact m94)) ?_
        refine Rq.s (fun _ => b79_22) ?_
        try simp (disch := omega) only [nI_add, nI_mulN, pk_sub, nI_clamp, Nat.reduceAdd, Nat.reduceMul, Nat.reduceSub, Nat.zero_add, Nat.add_zero, k7, rs0, rs1]
        exact ih _ (by omega) (j + 1) D5 _ rfl (by omega) (hI.tr k5) (by rw [← hx]; rfl)
  refine Cq.c (fun _ _ _ => c79) ?_
  refine Rq.s (fun _ => b79_0) ?_
  try simp (disch := omega) only [nI_add, nI_mulN, pk_sub, nI_clamp, Nat.reduceAdd, Nat.reduceMul, Nat.reduceSub, Nat.zero_add, Nat.add_zero]
  exact L _ 0 D _ rfl (by omega) eqK.rf rfl
