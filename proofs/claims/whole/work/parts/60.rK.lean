/-! ===== the reference: the hash ===== -/
def Rg (sc : Nat × (Nat → Int32)) (d k : Nat) (fs : hx_FS) (Q : hx_RS → (Nat → Nat → Int32) → (Nat → Nat → Int64) → Prop) : Prop := ∃ r D2 G2 u, Rn sc d k fs (r, (hx_S0, D2, G2), u) ∧ Q r D2 G2
def Cg (sc : Nat × (Nat → Int32)) (d k : Nat) (as : List Value) (D : Nat → Nat → Int32) (G : Nat → Nat → Int64) (Q : hx_RS → (Nat → Nat → Int32) → (Nat → Nat → Int64) → Prop) : Prop := ∃ r D2 G2, Cl sc d k as (hx_S0, D, G) r (hx_S0, D2, G2) ∧ Q r D2 G2
section RG
variable {sc : Nat × (Nat → Int32)} {d k : Nat} {f1 f2 f3 : hx_FS} {D D2 : Nat → Nat → Int32} {G G2 : Nat → Nat → Int64} {Q : hx_RS → (Nat → Nat → Int32) → (Nat → Nat → Int64) → Prop} {P : Prop} {r : hx_RS} {u : Nat} {as : List Value}
theorem Rg.s (h : ∀ r, Rn sc d k f2 r → Rn sc d k f1 r) (K : Rg sc d k f2 Q) : Rg sc d k f1 Q := by
  obtain ⟨r, D2, G2, u, h2, q⟩ := K
  exact ⟨r, D2, G2, u, h _ h2, q⟩
theorem Rg.bt (h : ∀ r, (P → Rn sc d k f2 r) → (¬ P → Rn sc d k f3 r) → Rn sc d k f1 r) (p : P) (K : Rg sc d k f2 Q) : Rg sc d k f1 Q := Rg.s (fun r K => h r (fun _ => K) (fun z => absurd p z)) K
theorem Rg.bf (h : ∀ r, (P → Rn sc d k f2 r) → (¬ P → Rn sc d k f3 r) → Rn sc d k f1 r) (p : ¬ P) (K : Rg sc d k f3 Q) : Rg sc d k f1 Q := Rg.s (fun r K => h r (fun z => absurd z p) (fun _ => K)) K
theorem Rg.b (h : ∀ r, (P → Rn sc d k f2 r) → (¬ P → Rn sc d k f3 r) → Rn sc d k f1 r) (kt : P → Rg sc d k f2 Q) (kf : ¬ P → Rg sc d k f3 Q) : Rg sc d k f1 Q := by
  by_cases p : P
  · exact Rg.bt h p (kt p)
  · exact Rg.bf h p (kf p)
theorem Rg.e (h : Rn sc d k f1 (r, (hx_S0, D2, G2), u)) (q : Q r D2 G2) : Rg sc d k f1 Q := ⟨r, D2, G2, u, h, q⟩
theorem Cg.c {f : hx_FS} (h : ∀ r H2 u, Rn sc d k f (r, H2, u) → Cl sc d k as (hx_S0, D, G) r H2) (K : Rg sc d k f Q) : Cg sc d k as D G Q := by
  obtain ⟨r, D2, G2, u, h2, q⟩ := K
  exact ⟨r, D2, G2, h _ _ _ h2, q⟩
end RG
theorem hx_up_up {α : Type} (g : Nat → Nat → α) (k i : Nat) (a b : α) : hx_up (hx_up g k i a) k i b = hx_up g k i b := by
  funext x y
  rw [hx_up_at, hx_up_at, hx_up_at]
  split <;> rfl
theorem m177 {sc : Nat × (Nat → Int32)} {d : Nat} {D : Nat → Nat → Int32} {G : Nat → Nat → Int64} {h v : Int64} : Cl sc d 177 [.ref 79, .long v] (hx_S0, D, hx_up G 79 16 h) (.inl none) (hx_S0, D, hx_up G 79 16 (zmix h v)) := by
  have e := c177 (u := 0) (b177_0 (sc := sc) (d := d) (D := D) (G := hx_up G 79 16 h) (x1 := v))
  rw [hx_up_up, hx_up_s] at e
  exact e
theorem zk2_get0 (a b : Bool) : nI ((if a = true then 1 else 0) + 2 * (if b = true then 1 else 0)) &&& nI 1 = nI (if a = true then 1 else 0) := by
  cases a <;> cases b <;> decide +kernel
theorem zbL (b : Bool) : (nI (if b = true then 1 else 0)).toInt64 = if b = true then 1 else 0 := by
  cases b <;> decide +kernel
theorem zSh_okM {D : Nat → Nat → Int32} {V : ZV} (R : RepM D 80 0 V) (hv : Valid V) : fA (zSh V) := by
  obtain ⟨_, D4, hC4, rfl, hI, HL⟩ := m120 (sc := (0, fun _ => 0)) (d := 0) (G := fun _ _ => 0) R hv
  have lm := HL.2.1
  obtain ⟨a0, am, a1, a2, a3, a4, a5, a6, a7, a8⟩ := id HL
  unfold zSh zsh
  split
  · exact fA_0
  · have e1 := a8 0 (by omega)
    have e2 := a8 ((zLn V).length - 1 - 1) (by omega)
    have e3 := a3 (0 + 1) (by omega)
    have e4 := a3 ((zLn V).length - 1 - 1 + 1) (by omega)
    have d0 : zd (zst (zLn V)) 0 = (zst (zLn V) (0 + 1) : Int) - zst (zLn V) 0 := rfl
    have d1 : zd (zst (zLn V)) ((zLn V).length - 1 - 1) = (zst (zLn V) ((zLn V).length - 1 - 1 + 1) : Int) - zst (zLn V) ((zLn V).length - 1 - 1) := rfl
    exact fA_all (by omega) (by omega) (by omega) (by omega)
def QGd (D : Nat → Nat → Int32) (G : Nat → Nat → Int64) (x : Int64) : hx_RS → (Nat → Nat → Int32) → (Nat → Nat → Int64) → Prop := fun r D2 G2 => r = .inl none ∧ eqW D D2 ∧ G2 = hx_up G 79 16 x
theorem m178 {sc : Nat × (Nat → Int32)} {d : Nat} {D : Nat → Nat → Int32} {G : Nat → Nat → Int64} {V : ZV} {h : Int64} (R : RepM D 80 0 V) (hv : Valid V) : Cg sc (d + 4) 178 [.ref 79] D (hx_up G 79 16 h) (QGd D G (dgPs V h)) := by
  have h7 := hv.1
  have N : ∀ n i D3 x, zn V - i = n → i ≤ zn V → eqW D D3 → zit (fun i h => zmix h (nI (zr V i)).toInt64) i (zit (dgP V) (zn V) h) = x → Rg sc (d + 4) 178 (77, [some (.ref 79), some (.int (nI i)), none], [], (hx_S0, D3, hx_up G 79 16 x), 0) (QGd D G (dgPs V h)) := by
    intro n
    induction n using Nat.strongRecOn with
    | _ n ih =>
    intro i D3 x hn hi hI hx
    have R3 := hI.R hv R
    have s98 := (rM R3).1
    refine Rg.b (fun _ => b178_77 (by (try simp (disch := omega) only [nI_add, nI_mulN, pk_sub, nI_clamp, Nat.reduceAdd, Nat.reduceMul, Nat.reduceSub, Nat.zero_add, Nat.add_zero, s98]); exact nI_inbT (by omega) (by omega))) (fun h77 => ?_) (fun h77 => ?_)
    · try simp (disch := omega) only [Int32.le_iff_toInt_le, Int32.lt_iff_toInt_lt, z_eq, z_nI, z_0, z_m1, z_sub, nI_add, nI_mulN, pk_sub, nI_clamp, Nat.reduceAdd, Nat.reduceMul, Nat.reduceSub, Nat.zero_add, Nat.add_zero, s98] at h77
      all_goals (try (exfalso; omega))
      all_goals
        refine Rg.e (b178_108) ?_
        rw [← hx, show i = zn V by omega]
        exact ⟨rfl, hI, rfl⟩
    · try simp (disch := omega) only [Int32.le_iff_toInt_le, Int32.lt_iff_toInt_lt, z_eq, z_nI, z_0, z_m1, z_sub, nI_add, nI_mulN, pk_sub, nI_clamp, Nat.reduceAdd, Nat.reduceMul, Nat.reduceSub, Nat.zero_add, Nat.add_zero, s98] at h77
      all_goals (try (exfalso; omega))
      all_goals
        have rri := (rM R3).2.2.2.2.2.1 i (by omega)
        refine Rg.s (fun _ => b178_88 (by (try simp (disch := omega) only [nI_add, nI_mulN, pk_sub, nI_clamp, Nat.reduceAdd, Nat.reduceMul, Nat.reduceSub, Nat.zero_add, Nat.add_zero, s98, rri]); exact nI_inbT (by omega) (by omega)) (by (try simp (disch := omega) only [nI_add, nI_mulN, pk_sub, nI_clamp, Nat.reduceAdd, Nat.reduceMul, Nat.reduceSub, Nat.zero_add, Nat.add_zero, s98, rri]); exact m177)) ?_
        refine Rg.s (fun _ => b178_102) ?_
        try simp (disch := omega) only [nI_add, nI_mulN, pk_sub, nI_clamp, Nat.reduceAdd, Nat.reduceMul, Nat.reduceSub, Nat.zero_add, Nat.add_zero, s98, rri]
        exact ih _ (by omega) (i + 1) D3 _ rfl (by omega) hI (by rw [← hx]; rfl)
  have L : ∀ n p D3 x, zn V - p = n → p ≤ zn V → eqW D D3 → zit (dgP V) p h = x → Rg sc (d + 4) 178 (2, [some (.ref 79), some (.int (nI p)), none], [], (hx_S0, D3, hx_up G 79 16 x), 0) (QGd D G (dgPs V h)) := by
    intro n
    induction n using Nat.strongRecOn with
    | _ n ih =>
    intro p D3 x hn hi hI hx
    have R3 := hI.R hv R
    have s98 := (rM R3).1
    have J : p < zn V → ∀ m j y, 14 - j = m → j ≤ 14 → zit (fun j h => zmix h (nI (zpr V p j)).toInt64) j x = y → Rg sc (d + 4) 178 (15, [some (.ref 79), some (.int (nI p)), some (.int (nI j))], [], (hx_S0, D3, hx_up G 79 16 y), 0) (QGd D G (dgPs V h)) := by
      intro hp m
      induction m using Nat.strongRecOn with
      | _ m ih2 =>
      intro j y hm hj hy
      refine Rg.b (fun _ => b178_15) (fun h15 => ?_) (fun h15 => ?_)
      · try simp (disch := omega) only [Int32.le_iff_toInt_le, Int32.lt_iff_toInt_lt, z_eq, z_nI, z_0, z_m1, z_sub, nI_add, nI_mulN, pk_sub, nI_clamp, Nat.reduceAdd, Nat.reduceMul, Nat.reduceSub, Nat.zero_add, Nat.add_zero, s98] at h15
        all_goals (try (exfalso; omega))
        all_goals
          refine Rg.s (fun _ => b178_38 (by (try simp (disch := omega) only [nI_add, nI_mulN, pk_sub, nI_clamp, Nat.reduceAdd, Nat.reduceMul, Nat.reduceSub, Nat.zero_add, Nat.add_zero, s98]); exact m163 (d := d + 1) R3 hv hp (hb99 h7))) ?_
          refine Rg.s (fun _ => b178_45 (by (try simp (disch := omega) only [nI_add, nI_mulN, pk_sub, nI_clamp, Nat.reduceAdd, Nat.reduceMul, Nat.reduceSub, Nat.zero_add, Nat.add_zero, s98]); exact m177)) ?_
          refine Rg.s (fun _ => b178_49 (by (try simp (disch := omega) only [nI_add, nI_mulN, pk_sub, nI_clamp, Nat.reduceAdd, Nat.reduceMul, Nat.reduceSub, Nat.zero_add, Nat.add_zero, s98]); exact m165 (d := d) R3 hv hp)) ?_
          refine Rg.s (fun _ => b178_55 (by (try simp (disch := omega) only [nI_add, nI_mulN, pk_sub, nI_clamp, Nat.reduceAdd, Nat.reduceMul, Nat.reduceSub, Nat.zero_add, Nat.add_zero, s98]); exact m177)) ?_
          obtain ⟨_, D5, hC5, rfl, k5⟩ := m167 (sc := sc) (d := d) (G := hx_up G 79 16 (zmix (zmix y (zo (zbb (zj V) p 99 (zn V))).toInt64) (zsu V p).toInt64)) (p := p) R3 hv hp
          refine Rg.s (fun _ => b178_59 hC5) ?_
          refine Rg.s (fun _ => b178_65 (by (try simp (disch := omega) only [nI_add, nI_mulN, pk_sub, nI_clamp, Nat.reduceAdd, Nat.reduceMul, Nat.reduceSub, Nat.zero_add, Nat.add_zero, s98]); exact m177)) ?_
          refine Rg.s (fun _ => b178_69) ?_
          try simp (disch := omega) only [nI_add, nI_mulN, pk_sub, nI_clamp, Nat.reduceAdd, Nat.reduceMul, Nat.reduceSub, Nat.zero_add, Nat.add_zero, s98]
          refine ih _ (by omega) (p + 1) D5 _ rfl (by omega) (hI.tr k5) ?_
          show dgP V p (zit (dgP V) p h) = _
          rw [hx, ← hy, show j = 14 by omega]
          rfl
      · try simp (disch := omega) only [Int32.le_iff_toInt_le, Int32.lt_iff_toInt_lt, z_eq, z_nI, z_0, z_m1, z_sub, nI_add, nI_mulN, pk_sub, nI_clamp, Nat.reduceAdd, Nat.reduceMul, Nat.reduceSub, Nat.zero_add, Nat.add_zero, s98] at h15
        all_goals (try (exfalso; omega))
        all_goals
          refine Rg.s (fun _ => b178_21 (by (try simp (disch := omega) only [nI_add, nI_mulN, pk_sub, nI_clamp, Nat.reduceAdd, Nat.reduceMul, Nat.reduceSub, Nat.zero_add, Nat.add_zero, s98]); exact m152 (d := d) R3 hv hp (by omega))) ?_
          refine Rg.s (fun _ => b178_28 (by (try simp (disch := omega) only [nI_add, nI_mulN, pk_sub, nI_clamp, Nat.reduceAdd, Nat.reduceMul, Nat.reduceSub, Nat.zero_add, Nat.add_zero, s98]); exact m177)) ?_
          refine Rg.s (fun _ => b178_32) ?_
          try simp (disch := omega) only [nI_add, nI_mulN, pk_sub, nI_clamp, Nat.reduceAdd, Nat.reduceMul, Nat.reduceSub, Nat.zero_add, Nat.add_zero, s98]
          exact ih2 _ (by omega) (j + 1) _ rfl (by omega) (by rw [← hy]; rfl)
    refine Rg.b (fun _ => b178_2 (by (try simp (disch := omega) only [nI_add, nI_mulN, pk_sub, nI_clamp, Nat.reduceAdd, Nat.reduceMul, Nat.reduceSub, Nat.zero_add, Nat.add_zero, s98]); exact nI_inbT (by omega) (by omega))) (fun h2 => ?_) (fun h2 => ?_)
    · try simp (disch := omega) only [Int32.le_iff_toInt_le, Int32.lt_iff_toInt_lt, z_eq, z_nI, z_0, z_m1, z_sub, nI_add, nI_mulN, pk_sub, nI_clamp, Nat.reduceAdd, Nat.reduceMul, Nat.reduceSub, Nat.zero_add, Nat.add_zero, s98] at h2
      all_goals (try (exfalso; omega))
      all_goals
        refine Rg.s (fun _ => b178_75) ?_
        try simp (disch := omega) only [nI_add, nI_mulN, pk_sub, nI_clamp, Nat.reduceAdd, Nat.reduceMul, Nat.reduceSub, Nat.zero_add, Nat.add_zero, s98]
        exact N _ 0 D3 _ rfl (by omega) hI (by rw [← hx, show p = zn V by omega]; rfl)
    · try simp (disch := omega) only [Int32.le_iff_toInt_le, Int32.lt_iff_toInt_lt, z_eq, z_nI, z_0, z_m1, z_sub, nI_add, nI_mulN, pk_sub, nI_clamp, Nat.reduceAdd, Nat.reduceMul, Nat.reduceSub, Nat.zero_add, Nat.add_zero, s98] at h2
      all_goals (try (exfalso; omega))
      all_goals
        refine Rg.s (fun _ => b178_13) ?_
        try simp (disch := omega) only [nI_add, nI_mulN, pk_sub, nI_clamp, Nat.reduceAdd, Nat.reduceMul, Nat.reduceSub, Nat.zero_add, Nat.add_zero, s98]
        exact J (by omega) _ 0 x rfl (by omega) rfl
  refine Cg.c (fun _ _ _ => c178) ?_
  refine Rg.s (fun _ => b178_0) ?_
  try simp (disch := omega) only [nI_add, nI_mulN, pk_sub, nI_clamp, Nat.reduceAdd, Nat.reduceMul, Nat.reduceSub, Nat.zero_add, Nat.add_zero]
  exact L _ 0 D h rfl (by omega) eqW.rf rfl
theorem zit5 (g : Nat → Nat → Int64 → Int64) (h : Int64) : ∀ m, zit (fun x => g (x / 5) (x % 5)) (5 * m) h = zit (fun i h => zit (g i) 5 h) m h
  | 0 => rfl
  | m + 1 => by
    rw [show 5 * (m + 1) = 5 * m + 1 + 1 + 1 + 1 + 1 by omega]
    show g ((5 * m + 1 + 1 + 1 + 1) / 5) ((5 * m + 1 + 1 + 1 + 1) % 5) (g ((5 * m + 1 + 1 + 1) / 5) ((5 * m + 1 + 1 + 1) % 5) (g ((5 * m + 1 + 1) / 5) ((5 * m + 1 + 1) % 5) (g ((5 * m + 1) / 5) ((5 * m + 1) % 5) (g (5 * m / 5) (5 * m % 5) (zit (fun x => g (x / 5) (x % 5)) (5 * m) h))))) = zit (g m) 5 (zit (fun i h => zit (g i) 5 h) m h)
    rw [zit5 g h m, show (5 * m + 1 + 1 + 1 + 1) / 5 = m by omega, show (5 * m + 1 + 1 + 1 + 1) % 5 = 4 by omega, show (5 * m + 1 + 1 + 1) / 5 = m by omega, show (5 * m + 1 + 1 + 1) % 5 = 3 by omega, show (5 * m + 1 + 1) / 5 = m by omega, show (5 * m + 1 + 1) % 5 = 2 by omega, show (5 * m + 1) / 5 = m by omega, show (5 * m + 1) % 5 = 1 by omega, show 5 * m / 5 = m by omega, show 5 * m % 5 = 0 by omega]
    rfl
theorem zit_0 (g : Nat → Int64 → Int64) (h : Int64) : zit g 0 h = h := rfl
def QGs (D : Nat → Nat → Int32) (G : Nat → Nat → Int64) (t : ST) : hx_RS → (Nat → Nat → Int32) → (Nat → Nat → Int64) → Prop := fun r D2 G2 => r = .inl (some (.long (dgst t))) ∧ D2 79 0 = nI 0 ∧ InvM D2 t ∧ eqC D D2 ∧ G2 = hx_up G 79 16 (dgst t)
theorem QGs.i {D D2 : Nat → Nat → Int32} {G : Nat → Nat → Int64} {t : ST} {x : Int64} (hs : SV t) (I : InvM D t) (e : eqW (hx_up D 79 0 (nI 0)) D2) (h : x = dgst t) : QGs D G t (.inl (some (.long x))) D2 (hx_up G 79 16 x) := by
  subst h
  exact ⟨rfl, by rw [e.2.2 0 (by omega)]; exact hx_up_s _ _ _ _, InvM_w hs (InvM_t hs I) (fun a ha => e.1 a (by omega)) e.2.1 (fun j hj => e.2.2 j (by omega)), fun a ha => by rw [e.1 a (by omega)]; exact hx_up_ne (by omega), rfl⟩
theorem InvM_e {D D2 : Nat → Nat → Int32} {t : ST} (hs : SV t) (I : InvM D t) (e : eqW D D2) : InvM D2 t := InvM_w hs I (fun a ha => e.1 a (by omega)) e.2.1 (fun j hj => e.2.2 j (by omega))
theorem rDigest {sc : Nat × (Nat → Int32)} {d : Nat} {D : Nat → Nat → Int32} {G : Nat → Nat → Int64} {t : ST} (I : InvM D t) (hs : SV t) : Cg sc (d + 7) 179 [.ref 79] D G (QGs D G t) := by
  have hv := hs.1
  have h7 := hv.1
  have I1 := InvM_t (x := nI 0) hs I
  have hl28 : (zLn (tV t)).length ≤ 4 * zn (tV t) := zL_len hv hv.2.2.2.2.2.1 (zn (tV t)) (Nat.le_refl _)
  have N : ∀ n i D3 x H, tn t - i = n → i ≤ tn t → eqW (hx_up D 79 0 (nI 0)) D3 → zit (fun i h => zmix h (nI (tb t i)).toInt64) i (zmix (zit (fun k h => zmix h (if (tK t k).isSome = true then 1 else 0)) 2 H) (nI (tn t)).toInt64) = x → dgSB t H = dgst t → Rg sc (d + 7) 179 (168, [some (.ref 79), none, some (.int (nI i))], [], (hx_S0, D3, hx_up G 79 16 x), 0) (QGs D G t) := by
    intro n
    induction n using Nat.strongRecOn with
    | _ n ih =>
    intro i D3 x H hn hi hI hx hH
    have h60 := hs.2.2.2.2.1
    have I3 := InvM_e hs I1 hI
    have s8 := I3.2.2.2.2.2.1
    refine Rg.b (fun _ => b179_168) (fun h168 => ?_) (fun h168 => ?_)
    · try simp (disch := omega) only [Int32.le_iff_toInt_le, Int32.lt_iff_toInt_lt, z_eq, z_nI, z_0, z_m1, z_sub, nI_add, nI_mulN, pk_sub, nI_clamp, Nat.reduceAdd, Nat.reduceMul, Nat.reduceSub, Nat.zero_add, Nat.add_zero, s8] at h168
      all_goals (try (exfalso; omega))
      all_goals
        refine Rg.e (b179_193) ?_
        rw [hx_up_s]
        exact QGs.i hs I hI (by rw [← hH, ← hx, show i = tn t by omega]; rfl)
    · try simp (disch := omega) only [Int32.le_iff_toInt_le, Int32.lt_iff_toInt_lt, z_eq, z_nI, z_0, z_m1, z_sub, nI_add, nI_mulN, pk_sub, nI_clamp, Nat.reduceAdd, Nat.reduceMul, Nat.reduceSub, Nat.zero_add, Nat.add_zero, s8] at h168
      all_goals (try (exfalso; omega))
      all_goals
        have s84i := I3.2.2.2.2.2.2 i (by omega)
        refine Rg.s (fun _ => b179_176 (by (try simp (disch := omega) only [nI_add, nI_mulN, pk_sub, nI_clamp, Nat.reduceAdd, Nat.reduceMul, Nat.reduceSub, Nat.zero_add, Nat.add_zero, s8, s84i]); exact nI_inbT (by omega) (by omega)) (by (try simp (disch := omega) only [nI_add, nI_mulN, pk_sub, nI_clamp, Nat.reduceAdd, Nat.reduceMul, Nat.reduceSub, Nat.zero_add, Nat.add_zero, s8, s84i]); exact m177)) ?_
        refine Rg.s (fun _ => b179_187) ?_
        try simp (disch := omega) only [nI_add, nI_mulN, pk_sub, nI_clamp, Nat.reduceAdd, Nat.reduceMul, Nat.reduceSub, Nat.zero_add, Nat.add_zero, s8, s84i]
        exact ih _ (by omega) (i + 1) D3 _ H rfl (by omega) hI (by rw [← hx]; rfl) hH
  have L : ∀ n i D3 x H, 5 * (zLn (tV t)).length - i = n → i ≤ 5 * (zLn (tV t)).length → eqW (hx_up D 79 0 (nI 0)) D3 → zit (fun x h => zmix h (zHp (tV t) (x / 5) (x % 5)).toInt64) i H = x → dgSB t (zmix (zmix (zmix (dgHs (tV t) H) (nI (zWs (tV t) (zbr (tV t)))).toInt64) (fBits (zSh (tV t))).toInt64) (dBits (zMc (tV t)))) = dgst t → Rg sc (d + 7) 179 (73, [some (.ref 79), some (.int (nI (zLn (tV t)).length)), some (.int (nI i))], [], (hx_S0, D3, hx_up G 79 16 x), 0) (QGs D G t) := by
    intro n
    induction n using Nat.strongRecOn with
    | _ n ih =>
    intro i D3 x H hn hi hI hx hH
    have I3 := InvM_e hs I1 hI
    refine Rg.b (fun _ => b179_73) (fun h73 => ?_) (fun h73 => ?_)
    · try simp (disch := omega) only [Int32.le_iff_toInt_le, Int32.lt_iff_toInt_lt, z_eq, z_nI, z_0, z_m1, z_sub, nI_add, nI_mulN, pk_sub, nI_clamp, Nat.reduceAdd, Nat.reduceMul, Nat.reduceSub, Nat.zero_add, Nat.add_zero] at h73
      all_goals (try (exfalso; omega))
      all_goals
        obtain ⟨_, D5, hC5, rfl, k5⟩ := m169 (sc := sc) (d := d + 1) (G := hx_up G 79 16 x) I3.1 hv
        have e5 := hI.tr k5
        have I5 := InvM_e hs I1 e5
        refine Rg.s (fun _ => b179_101 hC5) ?_
        refine Rg.s (fun _ => b179_106 (by (try simp (disch := omega) only [nI_add, nI_mulN, pk_sub, nI_clamp, Nat.reduceAdd, Nat.reduceMul, Nat.reduceSub, Nat.zero_add, Nat.add_zero]); exact m177)) ?_
        obtain ⟨_, D6, hC6, rfl, k6⟩ := m171 (sc := sc) (d := d + 3) (G := hx_up G 79 16 (zmix x (nI (zWs (tV t) (zbr (tV t)))).toInt64)) I5.1 hv
        have e6 := e5.tr (eqW.L k6)
        have I6 := InvM_e hs I1 e6
        have s6 := I6.2.2.2.1
        have s8 := I6.2.2.2.2.2.1
        refine Rg.s (fun _ => b179_110 hC6) ?_
        refine Rg.s (fun _ => b179_115 (by (try simp (disch := omega) only [nI_add, nI_mulN, pk_sub, nI_clamp, Nat.reduceAdd, Nat.reduceMul, Nat.reduceSub, Nat.zero_add, Nat.add_zero]); exact m175 (d := d + 6) (zSh_okM I6.1 hv))) ?_
        refine Rg.s (fun _ => b179_118 (by (try simp (disch := omega) only [nI_add, nI_mulN, pk_sub, nI_clamp, Nat.reduceAdd, Nat.reduceMul, Nat.reduceSub, Nat.zero_add, Nat.add_zero]); exact m177)) ?_
        refine Rg.s (fun _ => b179_122 (by (try simp (disch := omega) only [nI_add, nI_mulN, pk_sub, nI_clamp, Nat.reduceAdd, Nat.reduceMul, Nat.reduceSub, Nat.zero_add, Nat.add_zero]); exact m173 (d := d + 3) I6.1 hv)) ?_
        refine Rg.s (fun _ => b179_127 (by (try simp (disch := omega) only [nI_add, nI_mulN, pk_sub, nI_clamp, Nat.reduceAdd, Nat.reduceMul, Nat.reduceSub, Nat.zero_add, Nat.add_zero]); exact m176 (d := d + 6) (zMc_ok hv))) ?_
        refine Rg.s (fun _ => b179_130 (by (try simp (disch := omega) only [nI_add, nI_mulN, pk_sub, nI_clamp, Nat.reduceAdd, Nat.reduceMul, Nat.reduceSub, Nat.zero_add, Nat.add_zero]); exact m177)) ?_
        have b0 : ((D6 79 6) &&& nI 1).toInt64 = if (tK t 0).isSome = true then 1 else 0 := by
          rw [s6]
          unfold zk2
          rw [zk2_get0, zbL]
        have b1 : (((D6 79 6) >>> ((nI 1) &&& 31)) &&& (nI 1)).toInt64 = if (tK t 1).isSome = true then 1 else 0 := by
          rw [s6]
          unfold zk2
          rw [zk2_get _ _ 1 (by omega)]
          exact zbL _
        refine Rg.s (fun _ => b179_133 (by rw [b0]; exact m177)) ?_
        refine Rg.s (fun _ => b179_144 (by rw [b1]; exact m177)) ?_
        refine Rg.s (fun _ => b179_157 (by rw [s8]; exact m177)) ?_
        refine Rg.s (fun _ => b179_166) ?_
        try simp (disch := omega) only [nI_add, nI_mulN, pk_sub, nI_clamp, Nat.reduceAdd, Nat.reduceMul, Nat.reduceSub, Nat.zero_add, Nat.add_zero]
        refine N _ 0 D6 _ _ rfl (by omega) e6 rfl ?_
        rw [← hH, ← hx, show i = 5 * (zLn (tV t)).length by omega, zit5 (fun i j h => zmix h (zHp (tV t) i j).toInt64)]
        rfl
    · try simp (disch := omega) only [Int32.le_iff_toInt_le, Int32.lt_iff_toInt_lt, z_eq, z_nI, z_0, z_m1, z_sub, nI_add, nI_mulN, pk_sub, nI_clamp, Nat.reduceAdd, Nat.reduceMul, Nat.reduceSub, Nat.zero_add, Nat.add_zero] at h73
      all_goals (try (exfalso; omega))
      all_goals
        obtain ⟨_, D5, hC5, rfl, k5⟩ := m157 (sc := sc) (d := d + 3) (G := hx_up G 79 16 x) (i := i / 5) (j := i % 5) I3.1 hv (by omega) (by omega)
        refine Rg.s (fun _ => b179_80 (by decide) (by decide) (by rw [pk_rem (by omega) (by omega) (by omega), pk_div (by omega) (by omega) (by omega)]; exact hC5)) ?_
        refine Rg.s (fun _ => b179_91 (by (try simp (disch := omega) only [nI_add, nI_mulN, pk_sub, nI_clamp, Nat.reduceAdd, Nat.reduceMul, Nat.reduceSub, Nat.zero_add, Nat.add_zero]); exact m177)) ?_
        refine Rg.s (fun _ => b179_95) ?_
        try simp (disch := omega) only [nI_add, nI_mulN, pk_sub, nI_clamp, Nat.reduceAdd, Nat.reduceMul, Nat.reduceSub, Nat.zero_add, Nat.add_zero]
        exact ih _ (by omega) (i + 1) D5 _ H rfl (by omega) (hI.tr k5) (by rw [← hx]; rfl) hH
  have J : ∀ n j D3 x, 10 - j = n → j ≤ 10 → eqW (hx_up D 79 0 (nI 0)) D3 → zit (fun j h => zmix h (zct t j).toInt64) j 3541 = x → Rg sc (d + 7) 179 (14, [some (.ref 79), some (.int (nI j)), none], [], (hx_S0, D3, hx_up G 79 16 x), 0) (QGs D G t) := by
    intro n
    induction n using Nat.strongRecOn with
    | _ n ih =>
    intro j D3 x hn hj hI hx
    have I3 := InvM_e hs I1 hI
    have s100 := (rM I3.1).2.2.2.2.2.2.1
    have s101 := (rM I3.1).2.2.2.2.2.2.2
    refine Rg.b (fun _ => b179_14) (fun h14 => ?_) (fun h14 => ?_)
    · try simp (disch := omega) only [Int32.le_iff_toInt_le, Int32.lt_iff_toInt_lt, z_eq, z_nI, z_0, z_m1, z_sub, nI_add, nI_mulN, pk_sub, nI_clamp, Nat.reduceAdd, Nat.reduceMul, Nat.reduceSub, Nat.zero_add, Nat.add_zero, s100, s101] at h14
      all_goals (try (exfalso; omega))
      all_goals
        refine Rg.s (fun _ => b179_36 (by (try simp (disch := omega) only [nI_add, nI_mulN, pk_sub, nI_clamp, Nat.reduceAdd, Nat.reduceMul, Nat.reduceSub, Nat.zero_add, Nat.add_zero, s100, s101]); exact nI_inbT (by omega) (by omega)) (by (try simp (disch := omega) only [nI_add, nI_mulN, pk_sub, nI_clamp, Nat.reduceAdd, Nat.reduceMul, Nat.reduceSub, Nat.zero_add, Nat.add_zero, s100, s101]); exact m177)) ?_
        refine Rg.s (fun _ => b179_48 (by (try simp (disch := omega) only [nI_add, nI_mulN, pk_sub, nI_clamp, Nat.reduceAdd, Nat.reduceMul, Nat.reduceSub, Nat.zero_add, Nat.add_zero, s100, s101]); exact nI_inbT (by omega) (by omega)) (by (try simp (disch := omega) only [nI_add, nI_mulN, pk_sub, nI_clamp, Nat.reduceAdd, Nat.reduceMul, Nat.reduceSub, Nat.zero_add, Nat.add_zero, s100, s101]); exact m177)) ?_
        obtain ⟨_, D5, _, hC5, rfl, k5, rfl⟩ := m178 (sc := sc) (d := d + 2) (G := G) (h := zmix (zmix x (nI (zs (tV t) 0)).toInt64) (nI (zs (tV t) 1)).toInt64) I3.1 hv
        have e5 := hI.tr k5
        have I5 := InvM_e hs I1 e5
        have h159 := m159 (sc := sc) (d := d + 2) (G := hx_up G 79 16 (dgPs (tV t) (zmix (zmix x (nI (zs (tV t) 0)).toInt64) (nI (zs (tV t) 1)).toInt64))) (j := 11) I5.1 hv (by omega)
        rw [sum_h hv] at h159
        refine Rg.s (fun _ => b179_60 hC5) ?_
        refine Rg.s (fun _ => b179_64 (by (try simp (disch := omega) only [nI_add, nI_mulN, pk_sub, nI_clamp, Nat.reduceAdd, Nat.reduceMul, Nat.reduceSub, Nat.zero_add, Nat.add_zero, s100, s101]); exact h159)) ?_
        refine Rg.s (fun _ => b179_70) ?_
        try simp (disch := omega) only [nI_add, nI_mulN, pk_sub, nI_clamp, Nat.reduceAdd, Nat.reduceMul, Nat.reduceSub, Nat.zero_add, Nat.add_zero, s100, s101]
        refine L _ 0 D5 _ (dgPs (tV t) (zmix (zmix x (nI (zs (tV t) 0)).toInt64) (nI (zs (tV t) 1)).toInt64)) rfl (by omega) e5 (zit_0 _ _) ?_
        rw [← hx, show j = 10 by omega]
        rfl
    · try simp (disch := omega) only [Int32.le_iff_toInt_le, Int32.lt_iff_toInt_lt, z_eq, z_nI, z_0, z_m1, z_sub, nI_add, nI_mulN, pk_sub, nI_clamp, Nat.reduceAdd, Nat.reduceMul, Nat.reduceSub, Nat.zero_add, Nat.add_zero, s100, s101] at h14
      all_goals (try (exfalso; omega))
      all_goals
        obtain ⟨_, D5, hC5, rfl, k5⟩ := m160 (sc := sc) (d := d) (G := hx_up G 79 16 x) (j := j) I3 hs (by omega)
        refine Rg.s (fun _ => b179_20 hC5) ?_
        refine Rg.s (fun _ => b179_26 (by (try simp (disch := omega) only [nI_add, nI_mulN, pk_sub, nI_clamp, Nat.reduceAdd, Nat.reduceMul, Nat.reduceSub, Nat.zero_add, Nat.add_zero, s100, s101]); exact m177)) ?_
        refine Rg.s (fun _ => b179_30) ?_
        try simp (disch := omega) only [nI_add, nI_mulN, pk_sub, nI_clamp, Nat.reduceAdd, Nat.reduceMul, Nat.reduceSub, Nat.zero_add, Nat.add_zero, s100, s101]
        exact ih _ (by omega) (j + 1) D5 _ rfl (by omega) (hI.tr k5) (by rw [← hx]; rfl)
  refine Cg.c (fun _ _ _ => c179) ?_
  refine Rg.s (fun _ => b179_0) ?_
  try simp (disch := omega) only [nI_add, nI_mulN, pk_sub, nI_clamp, Nat.reduceAdd, Nat.reduceMul, Nat.reduceSub, Nat.zero_add, Nat.add_zero]
  exact J _ 0 _ _ rfl (by omega) eqW.rf rfl
