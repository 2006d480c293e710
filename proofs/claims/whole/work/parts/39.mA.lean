/-! ===== the class: a piece comes, goes, is moved; holes ===== -/
def opAdd (V : ZV) (w : Nat) : ZV := (zn V + 1, zm V, gup (zw V) (zn V) w, gup (ze V) (zn V) (fun _ => 0), gup (zh V) (zn V) (fun _ => false), gup (zr V) (zn V) (zn V), zs V)
theorem gup_s {α : Type} (f : Nat → α) (k : Nat) (x : α) : gup f k x k = x := if_pos rfl
theorem gup_n {α : Type} (f : Nat → α) {k j : Nat} (x : α) (h : j ≠ k) : gup f k x j = f j := if_neg h
theorem zE_add {V : ZV} {w p : Nat} (h : p ≠ zn V) : zE (opAdd V w) p = zE V p := by
  show (List.range 60).filter (gup (zh V) (zn V) (fun _ => false) p) = _
  rw [gup_n _ _ h]
  rfl
theorem zE_add0 (V : ZV) (w : Nat) : zE (opAdd V w) (zn V) = [] := by
  show (List.range 60).filter (gup (zh V) (zn V) (fun _ => false) (zn V)) = _
  rw [gup_s]
  exact List.filter_eq_nil_iff.mpr (fun a _ => by simp)
theorem Valid_add {V : ZV} {w : Nat} (hv : Valid V) (hn : zn V < 7) (h1 : 1 ≤ w) (h2 : w ≤ 60) : Valid (opAdd V w) := by
  obtain ⟨h7, vw, ve, vh, vE, vr, vj, vs0, vs1⟩ := id hv
  refine ⟨hn, fun p hp => ?_, fun p j hp hj => ?_, fun p x hp hx => ?_, fun p hp => ?_, fun i hi => ?_, fun i j hi hj e => ?_, vs0, vs1⟩
  · have hp2 : p < zn V + 1 := hp
    show 1 ≤ gup (zw V) (zn V) w p ∧ gup (zw V) (zn V) w p ≤ 60
    by_cases e : p = zn V
    · rw [e, gup_s]; exact ⟨h1, h2⟩
    · rw [gup_n _ _ e]; exact vw p (by omega)
  · have hp2 : p < zn V + 1 := hp
    show gup (ze V) (zn V) (fun _ => 0) p j ≤ 9 ∧ (j ≠ 4 → j ≠ 9 → gup (ze V) (zn V) (fun _ => 0) p j ≤ 5)
    by_cases e : p = zn V
    · rw [e, gup_s]; exact ⟨Nat.zero_le _, fun _ _ => Nat.zero_le _⟩
    · rw [gup_n _ _ e]; exact ve p j (by omega) hj
  · have hp2 : p < zn V + 1 := hp
    have hx2 : gup (zh V) (zn V) (fun _ => false) p x = true := hx
    show x < gup (zw V) (zn V) w p
    by_cases e : p = zn V
    · rw [e, gup_s] at hx2; cases hx2
    · rw [gup_n _ _ e] at hx2 ⊢; exact vh p x (by omega) hx2
  · have hp2 : p < zn V + 1 := hp
    by_cases e : p = zn V
    · rw [e, zE_add0]; exact Nat.zero_le _
    · rw [zE_add e]; exact vE p (by omega)
  · have hi2 : i < zn V + 1 := hi
    show gup (zr V) (zn V) (zn V) i < zn V + 1
    by_cases e : i = zn V
    · rw [e, gup_s]; omega
    · rw [gup_n _ _ e]; have := vr i (by omega); omega
  · have hi2 : i < zn V + 1 := hi
    have hj2 : j < zn V + 1 := hj
    have e2 : gup (zr V) (zn V) (zn V) i = gup (zr V) (zn V) (zn V) j := e
    by_cases ei : i = zn V
    · by_cases ej : j = zn V
      · omega
      · rw [ei, gup_s, gup_n _ _ ej] at e2
        have := vr j (by omega)
        omega
    · by_cases ej : j = zn V
      · rw [ej, gup_s, gup_n _ _ ei] at e2
        have := vr i (by omega)
        omega
      · rw [gup_n _ _ ei, gup_n _ _ ej] at e2
        exact vj i j (by omega) (by omega) e2
theorem m35 {sc : Nat × (Nat → Int32)} {d : Nat} {D : Nat → Nat → Int32} {G : Nat → Nat → Int64} {V : ZV} {w : Nat} (R : RepC D 1 V) (hv : Valid V) (hn : zn V < 7) : Cq sc d 35 [.ref 1, .int (nI w)] D G (fun r D2 => r = .inl (some (.int (nI (zn V)))) ∧ RepC D2 1 (opAdd V w) ∧ ∀ a, a = 0 ∨ 7 ≤ a → D2 a = D a) := by
  obtain ⟨r0, r1, rw, re, rc, rh, rr, rs0, rs1⟩ := rC R
  obtain ⟨h7, vw, ve, vh, vE, vr, vj, vs0, vs1⟩ := id hv
  have L : ∀ m i D3, 10 - i = m → i ≤ 10 → (∀ a, a ≠ 2 → a ≠ 3 → D3 a = D a) → D3 2 = hx_up D 2 (zn V) (nI w) 2 → (∀ j, j < zn V * 10 → D3 3 j = D 3 j) → (∀ j, j < i → D3 3 (zn V * 10 + j) = nI 0) → Rq sc d 35 (14, [some (.ref 1), none, some (.int (nI (zn V))), some (.int (nI i))], [], (hx_S0, D3, G), 0) G (fun r D2 => r = .inl (some (.int (nI (zn V)))) ∧ RepC D2 1 (opAdd V w) ∧ ∀ a, a = 0 ∨ 7 ≤ a → D2 a = D a) := by
    intro m
    induction m using Nat.strongRecOn with
    | _ m ih =>
    intro i D3 hm hi hI h2 h3 h4
    have k1 : D3 1 = D 1 := hI 1 (by omega) (by omega)
    refine Rq.b (fun _ => b35_14) (fun h14 => ?_) (fun h14 => ?_)
    · try simp (disch := omega) only [Int32.le_iff_toInt_le, Int32.lt_iff_toInt_lt, z_eq, z_nI, z_0, z_m1, z_sub, nI_add, nI_mulN, pk_sub, nI_clamp, Nat.reduceAdd, Nat.reduceMul, Nat.reduceSub, Nat.zero_add, Nat.add_zero, k1, r0] at h14
      all_goals (try (exfalso; omega))
      all_goals
        refine Rq.s (fun _ => b35_38 (by (try simp (disch := omega) only [nI_add, nI_mulN, pk_sub, nI_clamp, Nat.reduceAdd, Nat.reduceMul, Nat.reduceSub, Nat.zero_add, Nat.add_zero, k1, r0]); exact nI_inbT (by omega) (by omega)) (by (try simp (disch := omega) only [nI_add, nI_mulN, pk_sub, nI_clamp, Nat.reduceAdd, Nat.reduceMul, Nat.reduceSub, Nat.zero_add, Nat.add_zero, k1, r0]); exact nI_inbT (by omega) (by omega))) ?_
        try simp (disch := omega) only [nI_add, nI_mulN, pk_sub, nI_clamp, Nat.reduceAdd, Nat.reduceMul, Nat.reduceSub, Nat.zero_add, Nat.add_zero, k1, r0]
        refine Rq.e (b35_62) ?_
        refine ⟨rfl, ?_, fun a ha => ?_⟩
        · refine ⟨?_, ?_, fun p hp => ?_, fun p j hp hj => ?_, fun p hp => ?_, fun p i x hp hx => ?_, fun i hi => ?_, ?_, ?_⟩
          · simp [hx_up_at, opAdd]
          · simp [hx_up_at, opAdd, k1, r1]
          · have hp2 : p < zn V + 1 := hp
            show (hx_up _ 1 0 _) 2 p = nI (gup (zw V) (zn V) w p)
            rw [hx_up_ne (by omega), hx_up_ne (by omega), hx_up_ne (by omega), h2]
            by_cases e : p = zn V
            · rw [e, gup_s, hx_up_s]
            · rw [gup_n _ _ e, hx_up_in _ _ _ e]
              exact rw p (by omega)
          · have hp2 : p < zn V + 1 := hp
            show (hx_up _ 1 0 _) 3 (p * 10 + j) = nI (gup (ze V) (zn V) (fun _ => 0) p j)
            rw [hx_up_ne (by omega), hx_up_ne (by omega), hx_up_ne (by omega)]
            by_cases e : p = zn V
            · rw [e, gup_s]
              exact h4 j (by omega)
            · rw [gup_n _ _ e, h3 _ (by omega)]
              exact re p j (by omega) hj
          · have hp2 : p < zn V + 1 := hp
            show (hx_up _ 1 0 _) 4 p = nI (zE (opAdd V w) p).length
            rw [hx_up_ne (by omega), hx_up_ne (by omega)]
            by_cases e : p = zn V
            · rw [e, zE_add0, hx_up_s]
              rfl
            · rw [zE_add e, hx_up_in _ _ _ e, hI 4 (by omega) (by omega)]
              exact rc p (by omega)
          · have hp2 : p < zn V + 1 := hp
            show (hx_up _ 1 0 _) 5 (p * 4 + i) = nI x
            rw [hx_up_ne (by omega), hx_up_ne (by omega), hx_up_ne (by omega), hI 5 (by omega) (by omega)]
            by_cases e : p = zn V
            · rw [e, zE_add0, hx_nth_eq] at hx
              cases hx
            · rw [zE_add e] at hx
              exact rh p i x (by omega) hx
          · have hi2 : i < zn V + 1 := hi
            show (hx_up _ 1 0 _) 6 i = nI (gup (zr V) (zn V) (zn V) i)
            rw [hx_up_ne (by omega)]
            by_cases e : i = zn V
            · rw [e, gup_s, hx_up_s]
            · rw [gup_n _ _ e, hx_up_in _ _ _ e, hx_up_ne (by omega), hI 6 (by omega) (by omega)]
              exact rr i (by omega)
          · show (hx_up _ 1 0 _) 7 0 = nI (zs V 0)
            rw [hx_up_ne (by omega), hx_up_ne (by omega), hx_up_ne (by omega), hI 7 (by omega) (by omega)]
            exact rs0
          · show (hx_up _ 1 0 _) 7 1 = nI (zs V 1)
            rw [hx_up_ne (by omega), hx_up_ne (by omega), hx_up_ne (by omega), hI 7 (by omega) (by omega)]
            exact rs1
        · rw [hx_up_ne (by omega), hx_up_ne (by omega), hx_up_ne (by omega), hI a (by omega) (by omega)]
    · try simp (disch := omega) only [Int32.le_iff_toInt_le, Int32.lt_iff_toInt_lt, z_eq, z_nI, z_0, z_m1, z_sub, nI_add, nI_mulN, pk_sub, nI_clamp, Nat.reduceAdd, Nat.reduceMul, Nat.reduceSub, Nat.zero_add, Nat.add_zero, k1, r0] at h14
      all_goals (try (exfalso; omega))
      all_goals
        refine Rq.s (fun _ => b35_20 (by (try simp (disch := omega) only [nI_add, nI_mulN, pk_sub, nI_clamp, Nat.reduceAdd, Nat.reduceMul, Nat.reduceSub, Nat.zero_add, Nat.add_zero, k1, r0]); exact nI_inbT (by omega) (by omega))) ?_
        try simp (disch := omega) only [nI_add, nI_mulN, pk_sub, nI_clamp, Nat.reduceAdd, Nat.reduceMul, Nat.reduceSub, Nat.zero_add, Nat.add_zero, k1, r0]
        refine ih _ (by omega) (i + 1) _ rfl (by omega) (fun a a1 a2 => by rw [hx_up_ne a2]; exact hI a a1 a2) (by rw [hx_up_ne (by omega)]; exact h2) (fun j hj => by rw [hx_up_in _ _ _ (by omega)]; exact h3 j hj) (fun j hj => ?_)
        by_cases e : j = i
        · rw [e, hx_up_s]
        · rw [hx_up_in _ _ _ (by omega)]
          exact h4 j (by omega)
  refine Cq.c (fun _ _ _ => c35) ?_
  refine Rq.s (fun _ => b35_0 (by (try simp (disch := omega) only [nI_add, nI_mulN, pk_sub, nI_clamp, Nat.reduceAdd, Nat.reduceMul, Nat.reduceSub, Nat.zero_add, Nat.add_zero, r0]); exact nI_inbT (by omega) (by omega))) ?_
  try simp (disch := omega) only [nI_add, nI_mulN, pk_sub, nI_clamp, Nat.reduceAdd, Nat.reduceMul, Nat.reduceSub, Nat.zero_add, Nat.add_zero, r0]
  exact L _ 0 _ rfl (by omega) (fun a a1 a2 => by rw [hx_up_ne a1]) rfl (fun j hj => by rw [hx_up_ne (by omega)]) (fun j hj => absurd hj (Nat.not_lt_zero _))
theorem dcp {a b n N1 N2 : Nat} (h1 : a + n ≤ N1) (h2 : b + n ≤ N2) (h3 : N1 < 2 ^ 31) (h4 : N2 < 2 ^ 31) : decide (¬ (nI a) < 0 ∧ ¬ (nI b) < 0 ∧ ¬ (nI n) < 0 ∧ (nI a).toNatClampNeg + (nI n).toNatClampNeg ≤ N1 ∧ (nI b).toNatClampNeg + (nI n).toNatClampNeg ≤ N2) = true := by
  refine decide_eq_true ⟨nI_pos (by omega), nI_pos (by omega), nI_pos (by omega), ?_, ?_⟩
  · rw [nI_clamp (by omega), nI_clamp (by omega)]; exact h1
  · rw [nI_clamp (by omega), nI_clamp (by omega)]; exact h2
theorem m37 {sc : Nat × (Nat → Int32)} {d : Nat} {D : Nat → Nat → Int32} {G : Nat → Nat → Int64} {p bh : Nat} (h : p + 1 + bh ≤ 7) : Cq sc d 37 [.ref 2, .int (nI p), .int (nI bh), .int (nI 1)] D G (fun r D2 => r = .inl none ∧ D2 = hx_row D 2 (va_cpy (D 2) (D 2) ((p + 1) * 1) (p * 1) (bh * 1))) := by
  refine Cq.c (fun _ _ _ => c37) ?_
  refine Rq.s (fun _ => b37_0 (by (try simp only [nI_add, nI_mulN]); exact dcp (by omega) (by omega) (by omega) (by omega))) ?_
  try simp (disch := omega) only [nI_add, nI_mulN, pk_sub, nI_clamp, Nat.reduceAdd, Nat.reduceMul, Nat.reduceSub, Nat.zero_add, Nat.add_zero]
  refine Rq.e (b37_16) ?_
  exact ⟨rfl, rfl⟩
theorem m37_1 {sc : Nat × (Nat → Int32)} {d : Nat} {D : Nat → Nat → Int32} {G : Nat → Nat → Int64} {p bh : Nat} (h : p + 1 + bh ≤ 7) : Cq sc d 37 [.ref 3, .int (nI p), .int (nI bh), .int (nI 10)] D G (fun r D2 => r = .inl none ∧ D2 = hx_row D 3 (va_cpy (D 3) (D 3) ((p + 1) * 10) (p * 10) (bh * 10))) := by
  refine Cq.c (fun _ _ _ => c37_1) ?_
  refine Rq.s (fun _ => b37_1_0 (by (try simp only [nI_add, nI_mulN]); exact dcp (by omega) (by omega) (by omega) (by omega))) ?_
  try simp (disch := omega) only [nI_add, nI_mulN, pk_sub, nI_clamp, Nat.reduceAdd, Nat.reduceMul, Nat.reduceSub, Nat.zero_add, Nat.add_zero]
  refine Rq.e (b37_1_16) ?_
  exact ⟨rfl, rfl⟩
theorem m37_2 {sc : Nat × (Nat → Int32)} {d : Nat} {D : Nat → Nat → Int32} {G : Nat → Nat → Int64} {p bh : Nat} (h : p + 1 + bh ≤ 7) : Cq sc d 37 [.ref 4, .int (nI p), .int (nI bh), .int (nI 1)] D G (fun r D2 => r = .inl none ∧ D2 = hx_row D 4 (va_cpy (D 4) (D 4) ((p + 1) * 1) (p * 1) (bh * 1))) := by
  refine Cq.c (fun _ _ _ => c37_2) ?_
  refine Rq.s (fun _ => b37_2_0 (by (try simp only [nI_add, nI_mulN]); exact dcp (by omega) (by omega) (by omega) (by omega))) ?_
  try simp (disch := omega) only [nI_add, nI_mulN, pk_sub, nI_clamp, Nat.reduceAdd, Nat.reduceMul, Nat.reduceSub, Nat.zero_add, Nat.add_zero]
  refine Rq.e (b37_2_16) ?_
  exact ⟨rfl, rfl⟩
theorem m37_3 {sc : Nat × (Nat → Int32)} {d : Nat} {D : Nat → Nat → Int32} {G : Nat → Nat → Int64} {p bh : Nat} (h : p + 1 + bh ≤ 7) : Cq sc d 37 [.ref 5, .int (nI p), .int (nI bh), .int (nI 4)] D G (fun r D2 => r = .inl none ∧ D2 = hx_row D 5 (va_cpy (D 5) (D 5) ((p + 1) * 4) (p * 4) (bh * 4))) := by
  refine Cq.c (fun _ _ _ => c37_3) ?_
  refine Rq.s (fun _ => b37_3_0 (by (try simp only [nI_add, nI_mulN]); exact dcp (by omega) (by omega) (by omega) (by omega))) ?_
  try simp (disch := omega) only [nI_add, nI_mulN, pk_sub, nI_clamp, Nat.reduceAdd, Nat.reduceMul, Nat.reduceSub, Nat.zero_add, Nat.add_zero]
  refine Rq.e (b37_3_16) ?_
  exact ⟨rfl, rfl⟩
def sk (p k : Nat) : Nat := if k < p then k else k + 1
def opRem (V : ZV) (p : Nat) : ZV := (zn V - 1, zm V, fun k => zw V (sk p k), fun k => ze V (sk p k), fun k => zh V (sk p k), fun i => if p < zr V (sk (zq V p) i) then zr V (sk (zq V p) i) - 1 else zr V (sk (zq V p) i), zs V)
theorem sk_lt {p k n : Nat} (h : k < n - 1) : sk p k < n ∧ sk p k ≠ p := by
  unfold sk
  split <;> omega
theorem sk_inj {p i j : Nat} (h : sk p i = sk p j) : i = j := by
  unfold sk at h
  split at h <;> split at h <;> omega
theorem Valid_rem {V : ZV} {p : Nat} (hv : Valid V) (hp : p < zn V) : Valid (opRem V p) := by
  obtain ⟨h7, vw, ve, vh, vE, vr, vj, vs0, vs1⟩ := id hv
  obtain ⟨q1, q2, q3⟩ := zq_spec hv hp
  have hx : ∀ i, i < zn V - 1 → zr V (sk (zq V p) i) < zn V ∧ zr V (sk (zq V p) i) ≠ p := by
    intro i hi
    have h1 := sk_lt (p := zq V p) hi
    exact ⟨vr _ h1.1, fun z => h1.2 (vj _ _ h1.1 q1 (by rw [z, q2]))⟩
  refine ⟨by show zn V - 1 ≤ 7; omega, fun k hk => vw _ (sk_lt hk).1, fun k j hk hj => ve _ j (sk_lt hk).1 hj, fun k x hk h => vh _ x (sk_lt hk).1 h, fun k hk => vE _ (sk_lt hk).1, fun i hi => ?_, fun i j hi hj e => ?_, vs0, vs1⟩
  · have h1 := hx i hi
    show (if p < zr V (sk (zq V p) i) then zr V (sk (zq V p) i) - 1 else zr V (sk (zq V p) i)) < zn V - 1
    split <;> omega
  · have h1 := hx i hi
    have h2 := hx j hj
    have e2 : (if p < zr V (sk (zq V p) i) then zr V (sk (zq V p) i) - 1 else zr V (sk (zq V p) i)) = (if p < zr V (sk (zq V p) j) then zr V (sk (zq V p) j) - 1 else zr V (sk (zq V p) j)) := e
    have : zr V (sk (zq V p) i) = zr V (sk (zq V p) j) := by
      split at e2 <;> split at e2 <;> omega
    exact sk_inj (vj _ _ (sk_lt hi).1 (sk_lt hj).1 this)
theorem cpy_gap {f : Nat → Int32} {p n e k j : Nat} (hk : k < n - 1) (hp : p < n) (hj : j < e) : va_cpy f f ((p + 1) * e) (p * e) ((n - p - 1) * e) (k * e + j) = f (sk p k * e + j) := by
  have hm : ∀ a b : Nat, a < b → a * e + e ≤ b * e := fun a b h => by
    have := Nat.mul_le_mul_right e (show a + 1 ≤ b from h)
    rw [Nat.add_mul, Nat.one_mul] at this
    exact this
  unfold sk
  by_cases h : k < p
  · rw [if_pos h, pk_cpy_out (Or.inl (by have := hm k p h; omega))]
  · rw [if_neg h]
    have h1 : p * e ≤ k * e := Nat.mul_le_mul_right e (by omega)
    have h2 : k * e + e ≤ (n - 1) * e := hm k (n - 1) hk
    have h3 : p * e + (n - p - 1) * e = (n - 1) * e := by rw [← Nat.add_mul]; congr 1; omega
    rw [pk_cpy_in (by omega) (by omega)]
    congr 1
    have h4 : (p + 1) * e = p * e + e := by rw [Nat.add_mul, Nat.one_mul]
    have h5 : (k + 1) * e = k * e + e := by rw [Nat.add_mul, Nat.one_mul]
    omega
theorem m36_r {sc : Nat × (Nat → Int32)} {d : Nat} {D : Nat → Nat → Int32} {G : Nat → Nat → Int64} {V : ZV} {p : Nat} {E : Nat → Nat → Int32} (hv : Valid V) (hp : p < zn V) (e0 : E 1 0 = nI (zn V)) (er : ∀ i, i < zn V → E 6 i = nI (zr V i)) : Rq sc (d + 1) 36 (55, [some (.ref 1), some (.int (nI p)), none, some (.int (nI 0)), some (.int (nI 0)), none], [], (hx_S0, E, G), 0) G (fun r D2 => r = .inl none ∧ D2 1 = hx_up E 1 0 (nI (zn V - 1)) 1 ∧ (∀ j, j < zn V - 1 → D2 6 j = nI (zr (opRem V p) j)) ∧ ∀ a, a ≠ 1 → a ≠ 6 → D2 a = E a) := by
  obtain ⟨h7, vw, ve, vh, vE, vr, vj, vs0, vs1⟩ := id hv
  obtain ⟨q1, q2, q3⟩ := zq_spec hv hp
  have L : ∀ m i lf D3, zn V - i = m → i ≤ zn V → (∀ a, a ≠ 6 → D3 a = E a) → (∀ j, j < lf → D3 6 j = nI (zr (opRem V p) j)) → (∀ j, i ≤ j → j < zn V → D3 6 j = nI (zr V j)) → lf = (if i ≤ zq V p then i else i - 1) → Rq sc (d + 1) 36 (55, [some (.ref 1), some (.int (nI p)), none, some (.int (nI lf)), some (.int (nI i)), none], [], (hx_S0, D3, G), 0) G (fun r D2 => r = .inl none ∧ D2 1 = hx_up E 1 0 (nI (zn V - 1)) 1 ∧ (∀ j, j < zn V - 1 → D2 6 j = nI (zr (opRem V p) j)) ∧ ∀ a, a ≠ 1 → a ≠ 6 → D2 a = E a) := by
    intro m
    induction m using Nat.strongRecOn with
    | _ m ih =>
    intro i lf D3 hm hi hI h1 h2 hlf
    have k1 : D3 1 = E 1 := hI 1 (by omega)
    have hlfb : lf ≤ i := by split at hlf <;> omega
    have ST : i < zn V → i ≠ zq V p → ∀ v, v = zr (opRem V p) lf → Rq sc (d + 1) 36 (55, [some (.ref 1), some (.int (nI p)), none, some (.int (nI (lf + 1))), some (.int (nI (i + 1))), none], [], (hx_S0, hx_up D3 6 lf (nI v), G), 0) G (fun r D2 => r = .inl none ∧ D2 1 = hx_up E 1 0 (nI (zn V - 1)) 1 ∧ (∀ j, j < zn V - 1 → D2 6 j = nI (zr (opRem V p) j)) ∧ ∀ a, a ≠ 1 → a ≠ 6 → D2 a = E a) := by
      intro hin hne v hv2
      refine ih _ (by omega) (i + 1) (lf + 1) _ rfl (by omega) (fun a ha => by rw [hx_up_ne ha]; exact hI a ha) (fun j hj => ?_) (fun j hj hj2 => by rw [hx_up_in _ _ _ (by omega)]; exact h2 j (by omega) hj2) (by split at hlf <;> split <;> omega)
      by_cases e : j = lf
      · rw [e, hx_up_s, hv2]
      · rw [hx_up_in _ _ _ e]
        exact h1 j (by omega)
    have hsk : i ≠ zq V p → sk (zq V p) lf = i := by
      intro hne
      unfold sk
      split at hlf <;> split <;> omega
    refine Rq.b (fun _ => b36_55) (fun h55 => ?_) (fun h55 => ?_)
    · try simp (disch := omega) only [Int32.le_iff_toInt_le, Int32.lt_iff_toInt_lt, z_eq, z_nI, z_0, z_m1, z_sub, nI_add, nI_mulN, pk_sub, nI_clamp, Nat.reduceAdd, Nat.reduceMul, Nat.reduceSub, Nat.zero_add, Nat.add_zero, k1, e0] at h55
      all_goals (try (exfalso; omega))
      all_goals
        refine Rq.e (b36_109) ?_
        have hl2 : lf = zn V - 1 := by split at hlf <;> omega
        refine ⟨rfl, ?_, fun j hj => ?_, fun a a1 a2 => ?_⟩
        · rw [hl2]
          funext j
          rw [hx_up_at, hx_up_at, k1]
        · rw [hx_up_ne (by omega)]
          exact h1 j (by omega)
        · rw [hx_up_ne a1]
          exact hI a a2
    · try simp (disch := omega) only [Int32.le_iff_toInt_le, Int32.lt_iff_toInt_lt, z_eq, z_nI, z_0, z_m1, z_sub, nI_add, nI_mulN, pk_sub, nI_clamp, Nat.reduceAdd, Nat.reduceMul, Nat.reduceSub, Nat.zero_add, Nat.add_zero, k1, e0] at h55
      all_goals (try (exfalso; omega))
      all_goals
        have h2i := h2 i (Nat.le_refl _) (by omega)
        have vri := vr i (by omega)
        have g1 : i < zq V p → zr V i ≠ p := fun h => q3 i h
        have g2 : i = zq V p → zr V i = p := fun h => h ▸ q2
        have g3 : zr V i = p → i = zq V p := fun h => vj _ _ (by omega) q1 (by rw [h, q2])
        refine Rq.b (fun _ => b36_64 (by (try simp (disch := omega) only [nI_add, nI_mulN, pk_sub, nI_clamp, Nat.reduceAdd, Nat.reduceMul, Nat.reduceSub, Nat.zero_add, Nat.add_zero, k1, e0, h2i]); exact nI_inbT (by omega) (by omega))) (fun h64 => ?_) (fun h64 => ?_)
        · try simp (disch := omega) only [Int32.le_iff_toInt_le, Int32.lt_iff_toInt_lt, z_eq, z_nI, z_0, z_m1, z_sub, nI_add, nI_mulN, pk_sub, nI_clamp, Nat.reduceAdd, Nat.reduceMul, Nat.reduceSub, Nat.zero_add, Nat.add_zero, k1, e0, h2i] at h64
          all_goals (try (exfalso; omega))
          all_goals (try simp (disch := omega) only [nI_add, nI_mulN, pk_sub, nI_clamp, Nat.reduceAdd, Nat.reduceMul, Nat.reduceSub, Nat.zero_add, Nat.add_zero, k1, e0, h2i])
          all_goals
            refine Rq.s (fun _ => b36_103) ?_
            try simp (disch := omega) only [nI_add, nI_mulN, pk_sub, nI_clamp, Nat.reduceAdd, Nat.reduceMul, Nat.reduceSub, Nat.zero_add, Nat.add_zero, k1, e0, h2i]
            exact ih _ (by omega) (i + 1) lf D3 rfl (by omega) hI h1 (fun j a b => h2 j (by omega) b) (by split at hlf <;> split <;> omega)
        · try simp (disch := omega) only [Int32.le_iff_toInt_le, Int32.lt_iff_toInt_lt, z_eq, z_nI, z_0, z_m1, z_sub, nI_add, nI_mulN, pk_sub, nI_clamp, Nat.reduceAdd, Nat.reduceMul, Nat.reduceSub, Nat.zero_add, Nat.add_zero, k1, e0, h2i] at h64
          all_goals (try (exfalso; omega))
          all_goals (try simp (disch := omega) only [nI_add, nI_mulN, pk_sub, nI_clamp, Nat.reduceAdd, Nat.reduceMul, Nat.reduceSub, Nat.zero_add, Nat.add_zero, k1, e0, h2i])
          all_goals
            refine Rq.b (fun _ => b36_79) (fun h79 => ?_) (fun h79 => ?_)
            · try simp (disch := omega) only [Int32.le_iff_toInt_le, Int32.lt_iff_toInt_lt, z_eq, z_nI, z_0, z_m1, z_sub, nI_add, nI_mulN, pk_sub, nI_clamp, Nat.reduceAdd, Nat.reduceMul, Nat.reduceSub, Nat.zero_add, Nat.add_zero, k1, e0, h2i] at h79
              all_goals (try (exfalso; omega))
              all_goals
                refine Rq.s (fun _ => b36_97) ?_
                refine Rq.s (fun _ => b36_99 (by (try simp (disch := omega) only [nI_add, nI_mulN, pk_sub, nI_clamp, Nat.reduceAdd, Nat.reduceMul, Nat.reduceSub, Nat.zero_add, Nat.add_zero, k1, e0, h2i]); exact nI_inbT (by omega) (by omega))) ?_
                try simp (disch := omega) only [nI_add, nI_mulN, pk_sub, nI_clamp, Nat.reduceAdd, Nat.reduceMul, Nat.reduceSub, Nat.zero_add, Nat.add_zero, k1, e0, h2i]
                refine Rq.s (fun _ => b36_103b) ?_
                try simp (disch := omega) only [nI_add, nI_mulN, pk_sub, nI_clamp, Nat.reduceAdd, Nat.reduceMul, Nat.reduceSub, Nat.zero_add, Nat.add_zero, k1, e0, h2i]
                refine ST (by omega) (by omega) _ ?_
                show _ = (if p < zr V (sk (zq V p) lf) then zr V (sk (zq V p) lf) - 1 else zr V (sk (zq V p) lf))
                rw [hsk (by omega), if_neg (by omega)]
            · try simp (disch := omega) only [Int32.le_iff_toInt_le, Int32.lt_iff_toInt_lt, z_eq, z_nI, z_0, z_m1, z_sub, nI_add, nI_mulN, pk_sub, nI_clamp, Nat.reduceAdd, Nat.reduceMul, Nat.reduceSub, Nat.zero_add, Nat.add_zero, k1, e0, h2i] at h79
              all_goals (try (exfalso; omega))
              all_goals
                refine Rq.s (fun _ => b36_90) ?_
                try simp (disch := omega) only [nI_add, nI_mulN, pk_sub, nI_clamp, Nat.reduceAdd, Nat.reduceMul, Nat.reduceSub, Nat.zero_add, Nat.add_zero, k1, e0, h2i]
                refine Rq.s (fun _ => b36_99b (by (try simp (disch := omega) only [nI_add, nI_mulN, pk_sub, nI_clamp, Nat.reduceAdd, Nat.reduceMul, Nat.reduceSub, Nat.zero_add, Nat.add_zero, k1, e0, h2i]); exact nI_inbT (by omega) (by omega))) ?_
                try simp (disch := omega) only [nI_add, nI_mulN, pk_sub, nI_clamp, Nat.reduceAdd, Nat.reduceMul, Nat.reduceSub, Nat.zero_add, Nat.add_zero, k1, e0, h2i]
                refine Rq.s (fun _ => b36_103b) ?_
                try simp (disch := omega) only [nI_add, nI_mulN, pk_sub, nI_clamp, Nat.reduceAdd, Nat.reduceMul, Nat.reduceSub, Nat.zero_add, Nat.add_zero, k1, e0, h2i]
                refine ST (by omega) (by omega) _ ?_
                show _ = (if p < zr V (sk (zq V p) lf) then zr V (sk (zq V p) lf) - 1 else zr V (sk (zq V p) lf))
                rw [hsk (by omega), if_pos (by omega)]
  exact L _ 0 0 E rfl (by omega) (fun a _ => rfl) (fun j hj => absurd hj (Nat.not_lt_zero _)) (fun j _ hj => er j hj) (by rw [if_pos (Nat.zero_le _)])
theorem m36 {sc : Nat × (Nat → Int32)} {d : Nat} {D : Nat → Nat → Int32} {G : Nat → Nat → Int64} {V : ZV} {p : Nat} (R : RepC D 1 V) (hv : Valid V) (hp : p < zn V) : Cq sc (d + 1) 36 [.ref 1, .int (nI p)] D G (fun r D2 => r = .inl none ∧ RepC D2 1 (opRem V p) ∧ ∀ a, a = 0 ∨ 8 ≤ a → D2 a = D a) := by
  obtain ⟨r0, r1, rw, re, rc, rh, rr, rs0, rs1⟩ := rC R
  obtain ⟨h7, vw, ve, vh, vE, vr, vj, vs0, vs1⟩ := id hv
  refine Cq.c (fun _ _ _ => c36) ?_
  have e9 : D 1 0 - nI p - nI 1 = nI (zn V - p - 1) := by rw [r0, pk_sub (by omega), pk_sub (by omega)]
  obtain ⟨_, D4, hC4, rfl, e4⟩ := m37 (sc := sc) (d := d) (D := D) (G := G) (p := p) (bh := zn V - p - 1) (by omega)
  refine Rq.s (fun _ => b36_0 (by rw [e9]; exact hC4)) ?_
  rw [e9]
  obtain ⟨_, D5, hC5, rfl, e5⟩ := m37_1 (sc := sc) (d := d) (D := D4) (G := G) (p := p) (bh := zn V - p - 1) (by omega)
  refine Rq.s (fun _ => b36_19 hC5) ?_
  obtain ⟨_, D6, hC6, rfl, e6⟩ := m37_2 (sc := sc) (d := d) (D := D5) (G := G) (p := p) (bh := zn V - p - 1) (by omega)
  refine Rq.s (fun _ => b36_30 hC6) ?_
  obtain ⟨_, D7, hC7, rfl, e7⟩ := m37_3 (sc := sc) (d := d) (D := D6) (G := G) (p := p) (bh := zn V - p - 1) (by omega)
  refine Rq.s (fun _ => b36_40 hC7) ?_
  refine Rq.s (fun _ => b36_50) ?_
  have f2 : D7 2 = va_cpy (D 2) (D 2) ((p + 1) * 1) (p * 1) ((zn V - p - 1) * 1) := by rw [e7, hx_row_ne (by omega), e6, hx_row_ne (by omega), e5, hx_row_ne (by omega), e4, hx_row_s]
  have f3 : D7 3 = va_cpy (D 3) (D 3) ((p + 1) * 10) (p * 10) ((zn V - p - 1) * 10) := by rw [e7, hx_row_ne (by omega), e6, hx_row_ne (by omega), e5, hx_row_s, e4, hx_row_ne (by omega)]
  have f4 : D7 4 = va_cpy (D 4) (D 4) ((p + 1) * 1) (p * 1) ((zn V - p - 1) * 1) := by rw [e7, hx_row_ne (by omega), e6, hx_row_s, e5, hx_row_ne (by omega), e4, hx_row_ne (by omega)]
  have f5 : D7 5 = va_cpy (D 5) (D 5) ((p + 1) * 4) (p * 4) ((zn V - p - 1) * 4) := by rw [e7, hx_row_s, e6, hx_row_ne (by omega), e5, hx_row_ne (by omega), e4, hx_row_ne (by omega)]
  have fo : ∀ a, a ≠ 2 → a ≠ 3 → a ≠ 4 → a ≠ 5 → D7 a = D a := fun a a1 a2 a3 a4 => by rw [e7, hx_row_ne a4, e6, hx_row_ne a3, e5, hx_row_ne a2, e4, hx_row_ne a1]
  refine Rq.m (m36_r (D := D) hv hp (by rw [fo 1 (by omega) (by omega) (by omega) (by omega)]; exact r0) (fun i hi => by rw [fo 6 (by omega) (by omega) (by omega) (by omega)]; exact rr i hi)) ?_
  rintro r D2 ⟨rfl, g1, g6, go⟩
  have k : ∀ a, a ≠ 1 → a ≠ 6 → D2 a = D7 a := go
  refine ⟨rfl, ⟨?_, ?_, fun q hq => ?_, fun q j hq hj => ?_, fun q hq => ?_, fun q i x hq hx => ?_, g6, ?_, ?_⟩, fun a ha => ?_⟩
  · rw [g1, hx_up_s]
    rfl
  · rw [g1, hx_up_in _ _ _ (by omega), fo 1 (by omega) (by omega) (by omega) (by omega)]
    exact r1
  · show D2 2 q = nI (zw V (sk p q))
    have h := cpy_gap (f := D 2) (e := 1) (j := 0) hq hp (by omega)
    rw [k 2 (by omega) (by omega), f2]
    simp only [Nat.mul_one, Nat.add_zero] at h ⊢
    rw [h]
    exact rw _ (sk_lt hq).1
  · show D2 3 (q * 10 + j) = nI (ze V (sk p q) j)
    rw [k 3 (by omega) (by omega), f3, cpy_gap (f := D 3) (e := 10) hq hp hj]
    exact re _ j (sk_lt hq).1 hj
  · show D2 4 q = nI (zE V (sk p q)).length
    have h := cpy_gap (f := D 4) (e := 1) (j := 0) hq hp (by omega)
    rw [k 4 (by omega) (by omega), f4]
    simp only [Nat.mul_one, Nat.add_zero] at h ⊢
    rw [h]
    exact rc _ (sk_lt hq).1
  · show D2 5 (q * 4 + i) = nI x
    have hx2 : hx_nth (zE V (sk p q)) i = some x := hx
    have h4 := vE _ (sk_lt (p := p) hq).1
    have hx3 := hx2
    rw [hx_nth_eq] at hx3
    have := (List.getElem?_eq_some_iff.mp hx3).1
    rw [k 5 (by omega) (by omega), f5, cpy_gap (f := D 5) (e := 4) hq hp (by omega)]
    exact rh _ i x (sk_lt hq).1 hx2
  · show D2 7 0 = _
    rw [k 7 (by omega) (by omega), fo 7 (by omega) (by omega) (by omega) (by omega)]
    exact rs0
  · show D2 7 1 = _
    rw [k 7 (by omega) (by omega), fo 7 (by omega) (by omega) (by omega) (by omega)]
    exact rs1
  · rw [k a (by omega) (by omega), fo a (by omega) (by omega) (by omega) (by omega)]
/-- the row with the piece p moved to the place pl -/
def zmv (V : ZV) (p pl i : Nat) : Nat := if i = pl then p else zr V (sk (zq V p) (if i < pl then i else i - 1))
theorem zmv_lt {V : ZV} {p pl i : Nat} (hv : Valid V) (hp : p < zn V) (hpl : pl < zn V) (hi : i < zn V) : zmv V p pl i < zn V := by
  unfold zmv
  by_cases e : i = pl
  · rw [if_pos e]; exact hp
  · rw [if_neg e]
    exact hv.2.2.2.2.2.1 _ (sk_lt (by split <;> omega)).1
theorem zmv_inj {V : ZV} {p pl i j : Nat} (hv : Valid V) (hp : p < zn V) (hpl : pl < zn V) (hi : i < zn V) (hj : j < zn V) (h : zmv V p pl i = zmv V p pl j) : i = j := by
  obtain ⟨h7, vw, ve, vh, vE, vr, vj, vs0, vs1⟩ := id hv
  obtain ⟨q1, q2, q3⟩ := zq_spec hv hp
  have ne : ∀ k, k < zn V - 1 → zr V (sk (zq V p) k) ≠ p := fun k hk z => (sk_lt (p := zq V p) hk).2 (vj _ _ (sk_lt hk).1 q1 (by rw [z, q2]))
  unfold zmv at h
  by_cases ei : i = pl
  · by_cases ej : j = pl
    · omega
    · rw [if_pos ei, if_neg ej] at h
      exact absurd h.symm (ne _ (by split <;> omega))
  · by_cases ej : j = pl
    · rw [if_neg ei, if_pos ej] at h
      exact absurd h (ne _ (by split <;> omega))
    · rw [if_neg ei, if_neg ej] at h
      have := sk_inj (vj _ _ (sk_lt (by split <;> omega)).1 (sk_lt (by split <;> omega)).1 h)
      split at this <;> split at this <;> omega
theorem m38 {sc : Nat × (Nat → Int32)} {d : Nat} {D : Nat → Nat → Int32} {G : Nat → Nat → Int64} {V : ZV} {p pl : Nat} (R : RepC D 1 V) (hv : Valid V) (hp : p < zn V) (hpl : pl < zn V) : Cq sc d 38 [.ref 1, .int (nI p), .int (nI pl), .ref 22] D G (fun r D2 => r = .inl none ∧ (∀ k, k < zn V → D2 22 k = nI (zmv V p pl k)) ∧ ∀ a, a ≠ 22 → D2 a = D a) := by
  obtain ⟨r0, r1, rw, re, rc, rh, rr, rs0, rs1⟩ := rC R
  obtain ⟨h7, vw, ve, vh, vE, vr, vj, vs0, vs1⟩ := id hv
  obtain ⟨q1, q2, q3⟩ := zq_spec hv hp
  have L : ∀ m i fm D3, zn V - i = m → i ≤ zn V → (∀ a, a ≠ 22 → D3 a = D a) → (∀ k, k < i → D3 22 k = nI (zmv V p pl k)) → fm = (if (if i ≤ pl then i else i - 1) ≤ zq V p then (if i ≤ pl then i else i - 1) else (if i ≤ pl then i else i - 1) + 1) → Rq sc d 38 (6, [some (.ref 1), some (.int (nI p)), some (.int (nI pl)), some (.ref 22), some (.int (nI fm)), some (.int (nI i))], [], (hx_S0, D3, G), 0) G (fun r D2 => r = .inl none ∧ (∀ k, k < zn V → D2 22 k = nI (zmv V p pl k)) ∧ ∀ a, a ≠ 22 → D2 a = D a) := by
    intro m
    induction m using Nat.strongRecOn with
    | _ m ih =>
    intro i fm D3 hm hi hI h1 hfm
    have k1 : D3 1 = D 1 := hI 1 (by omega)
    have k6 : D3 6 = D 6 := hI 6 (by omega)
    have hf1 : i < zn V → i ≠ pl → fm < zn V := by intro a b; split at hfm <;> split at hfm <;> omega
    have hj1 : i < zn V → i ≠ pl → (if i < pl then i else i - 1) < zn V - 1 := by intro a b; split <;> omega
    refine Rq.b (fun _ => b38_6) (fun h6 => ?_) (fun h6 => ?_)
    · try simp (disch := omega) only [Int32.le_iff_toInt_le, Int32.lt_iff_toInt_lt, z_eq, z_nI, z_0, z_m1, z_sub, nI_add, nI_mulN, pk_sub, nI_clamp, Nat.reduceAdd, Nat.reduceMul, Nat.reduceSub, Nat.zero_add, Nat.add_zero, k1, k6, r0] at h6
      all_goals (try (exfalso; omega))
      all_goals
        refine Rq.e (b38_63) ?_
        exact ⟨rfl, fun k hk => h1 k (by omega), hI⟩
    · try simp (disch := omega) only [Int32.le_iff_toInt_le, Int32.lt_iff_toInt_lt, z_eq, z_nI, z_0, z_m1, z_sub, nI_add, nI_mulN, pk_sub, nI_clamp, Nat.reduceAdd, Nat.reduceMul, Nat.reduceSub, Nat.zero_add, Nat.add_zero, k1, k6, r0] at h6
      all_goals (try (exfalso; omega))
      all_goals
        refine Rq.b (fun _ => b38_15) (fun h15 => ?_) (fun h15 => ?_)
        · try simp (disch := omega) only [Int32.le_iff_toInt_le, Int32.lt_iff_toInt_lt, z_eq, z_nI, z_0, z_m1, z_sub, nI_add, nI_mulN, pk_sub, nI_clamp, Nat.reduceAdd, Nat.reduceMul, Nat.reduceSub, Nat.zero_add, Nat.add_zero, k1, k6, r0] at h15
          all_goals (try (exfalso; omega))
          all_goals
            have rrf := rr fm (hf1 (by omega) (by omega))
            have vrf := vr fm (hf1 (by omega) (by omega))
            have hfl := hf1 (by omega) (by omega)
            have g1 : zr V fm = p → fm = zq V p := fun h => vj _ _ hfl q1 (by rw [h, q2])
            have g2 : fm = zq V p → zr V fm = p := fun h => h ▸ q2
            refine Rq.b (fun _ => b38_29 (by (try simp (disch := omega) only [nI_add, nI_mulN, pk_sub, nI_clamp, Nat.reduceAdd, Nat.reduceMul, Nat.reduceSub, Nat.zero_add, Nat.add_zero, k1, k6, r0, rrf]); exact nI_inbT (by omega) (by omega))) (fun h29 => ?_) (fun h29 => ?_)
            · try simp (disch := omega) only [Int32.le_iff_toInt_le, Int32.lt_iff_toInt_lt, z_eq, z_nI, z_0, z_m1, z_sub, nI_add, nI_mulN, pk_sub, nI_clamp, Nat.reduceAdd, Nat.reduceMul, Nat.reduceSub, Nat.zero_add, Nat.add_zero, k1, k6, r0, rrf] at h29
              all_goals (try (exfalso; omega))
              all_goals
                have hsk := sk_lt (p := zq V p) (hj1 (by omega) (by omega))
                have hsk2 : fm = sk (zq V p) (if i < pl then i else i - 1) := by
                  unfold sk
                  split at hfm <;> split at hfm <;> split <;> split <;> omega
                have rr43 := rr _ hsk.1
                rw [← hsk2] at rr43
                refine Rq.s (fun _ => b38_43 (by (try simp (disch := omega) only [nI_add, nI_mulN, pk_sub, nI_clamp, Nat.reduceAdd, Nat.reduceMul, Nat.reduceSub, Nat.zero_add, Nat.add_zero, k1, k6, r0, rrf, rr43]); exact nI_inbT (by omega) (by omega)) (by (try simp (disch := omega) only [nI_add, nI_mulN, pk_sub, nI_clamp, Nat.reduceAdd, Nat.reduceMul, Nat.reduceSub, Nat.zero_add, Nat.add_zero, k1, k6, r0, rrf, rr43]); exact nI_inbT (by omega) (by omega))) ?_
                try simp (disch := omega) only [nI_add, nI_mulN, pk_sub, nI_clamp, Nat.reduceAdd, Nat.reduceMul, Nat.reduceSub, Nat.zero_add, Nat.add_zero, k1, k6, r0, rrf, rr43]
                refine Rq.s (fun _ => b38_57) ?_
                try simp (disch := omega) only [nI_add, nI_mulN, pk_sub, nI_clamp, Nat.reduceAdd, Nat.reduceMul, Nat.reduceSub, Nat.zero_add, Nat.add_zero, k1, k6, r0, rrf, rr43]
                refine ih _ (by omega) (i + 1) _ _ rfl (by omega) (fun a ha => by rw [hx_up_ne ha]; exact hI a ha) (fun k hk => ?_) ?_
                · by_cases e : k = i
                  · rw [e, hx_up_s]
                    unfold zmv
                    rw [if_neg (by omega), ← hsk2]
                  · rw [hx_up_in _ _ _ e]
                    exact h1 k (by omega)
                · split at hfm <;> split at hfm <;> split <;> split <;> omega
            · try simp (disch := omega) only [Int32.le_iff_toInt_le, Int32.lt_iff_toInt_lt, z_eq, z_nI, z_0, z_m1, z_sub, nI_add, nI_mulN, pk_sub, nI_clamp, Nat.reduceAdd, Nat.reduceMul, Nat.reduceSub, Nat.zero_add, Nat.add_zero, k1, k6, r0, rrf] at h29
              all_goals (try (exfalso; omega))
              all_goals
                refine Rq.s (fun _ => b38_40) ?_
                try simp (disch := omega) only [nI_add, nI_mulN, pk_sub, nI_clamp, Nat.reduceAdd, Nat.reduceMul, Nat.reduceSub, Nat.zero_add, Nat.add_zero, k1, k6, r0, rrf]
                have hsk := sk_lt (p := zq V p) (hj1 (by omega) (by omega))
                have hsk2 : fm + 1 = sk (zq V p) (if i < pl then i else i - 1) := by
                  unfold sk
                  split at hfm <;> split at hfm <;> split <;> split <;> omega
                have rr43 := rr _ hsk.1
                rw [← hsk2] at rr43
                refine Rq.s (fun _ => b38_43 (by (try simp (disch := omega) only [nI_add, nI_mulN, pk_sub, nI_clamp, Nat.reduceAdd, Nat.reduceMul, Nat.reduceSub, Nat.zero_add, Nat.add_zero, k1, k6, r0, rrf, rr43]); exact nI_inbT (by omega) (by omega)) (by (try simp (disch := omega) only [nI_add, nI_mulN, pk_sub, nI_clamp, Nat.reduceAdd, Nat.reduceMul, Nat.reduceSub, Nat.zero_add, Nat.add_zero, k1, k6, r0, rrf, rr43]); exact nI_inbT (by omega) (by omega))) ?_
                try simp (disch := omega) only [nI_add, nI_mulN, pk_sub, nI_clamp, Nat.reduceAdd, Nat.reduceMul, Nat.reduceSub, Nat.zero_add, Nat.add_zero, k1, k6, r0, rrf, rr43]
                refine Rq.s (fun _ => b38_57) ?_
                try simp (disch := omega) only [nI_add, nI_mulN, pk_sub, nI_clamp, Nat.reduceAdd, Nat.reduceMul, Nat.reduceSub, Nat.zero_add, Nat.add_zero, k1, k6, r0, rrf, rr43]
                refine ih _ (by omega) (i + 1) _ _ rfl (by omega) (fun a ha => by rw [hx_up_ne ha]; exact hI a ha) (fun k hk => ?_) ?_
                · by_cases e : k = i
                  · rw [e, hx_up_s]
                    unfold zmv
                    rw [if_neg (by omega), ← hsk2]
                  · rw [hx_up_in _ _ _ e]
                    exact h1 k (by omega)
                · split at hfm <;> split at hfm <;> split <;> split <;> omega
        · try simp (disch := omega) only [Int32.le_iff_toInt_le, Int32.lt_iff_toInt_lt, z_eq, z_nI, z_0, z_m1, z_sub, nI_add, nI_mulN, pk_sub, nI_clamp, Nat.reduceAdd, Nat.reduceMul, Nat.reduceSub, Nat.zero_add, Nat.add_zero, k1, k6, r0] at h15
          all_goals (try (exfalso; omega))
          all_goals
            refine Rq.s (fun _ => b38_21 (by (try simp (disch := omega) only [nI_add, nI_mulN, pk_sub, nI_clamp, Nat.reduceAdd, Nat.reduceMul, Nat.reduceSub, Nat.zero_add, Nat.add_zero, k1, k6, r0]); exact nI_inbT (by omega) (by omega))) ?_
            try simp (disch := omega) only [nI_add, nI_mulN, pk_sub, nI_clamp, Nat.reduceAdd, Nat.reduceMul, Nat.reduceSub, Nat.zero_add, Nat.add_zero, k1, k6, r0]
            refine Rq.s (fun _ => b38_57) ?_
            try simp (disch := omega) only [nI_add, nI_mulN, pk_sub, nI_clamp, Nat.reduceAdd, Nat.reduceMul, Nat.reduceSub, Nat.zero_add, Nat.add_zero, k1, k6, r0]
            refine ih _ (by omega) (i + 1) _ _ rfl (by omega) (fun a ha => by rw [hx_up_ne ha]; exact hI a ha) (fun k hk => ?_) ?_
            · by_cases e : k = i
              · rw [e, hx_up_s]
                unfold zmv
                rw [if_pos (by omega)]
              · rw [hx_up_in _ _ _ e]
                exact h1 k (by omega)
            · split at hfm <;> split at hfm <;> split <;> split <;> omega
  refine Cq.c (fun _ _ _ => c38) ?_
  refine Rq.s (fun _ => b38_0) ?_
  try simp (disch := omega) only [nI_add, nI_mulN, pk_sub, nI_clamp, Nat.reduceAdd, Nat.reduceMul, Nat.reduceSub, Nat.zero_add, Nat.add_zero]
  exact L _ 0 0 D rfl (by omega) (fun a _ => rfl) (fun k hk => absurd hk (Nat.not_lt_zero _)) (by simp)
