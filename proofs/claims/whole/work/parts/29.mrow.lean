/-! ===== the class: the cost of a row, for each row that is asked ===== -/
def zJs (V : ZV) (w : Nat → Nat) (i : Nat) : Nat → Nat
  | 0 => 0
  | m + 1 => zj V (w (i - 1)) (w i) + zJs V w (i + 1) m
theorem m47_lp {sc : Nat × (Nat → Int32)} {d : Nat} {D : Nat → Nat → Int32} {G : Nat → Nat → Int64} {V : ZV} {w : Nat → Nat} (R : RepC D 1 V) (hv : Valid V) (hw : ∀ i, i < zn V → D 6 i = nI (w i)) (hb : ∀ i, i < zn V → w i < zn V) : ∀ m i a, 1 ≤ i → i < 20 → zn V - i = m → Rn sc (d + 1) 47 (4, [some (.ref 1), some (.ref 6), some (.int (nI a)), some (.int (nI i))], [], (hx_S0, D, G), 0) (.inl (some (.int (nI (a + zJs V w i m)))), (hx_S0, D, G), 0) := by
  have h7 := hv.1
  have r0 := R.1
  intro m
  induction m with
  | zero =>
    intro i a hi hk hm
    exact b47_4 (fun _ => b47_33) (fun h => absurd (by rw [r0]; exact nI_le (by omega) (by omega)) h)
  | succ m ih =>
    intro i a hi hk hm
    refine b47_4 (fun h => absurd h (by rw [r0]; exact nI_ge (by omega) (by omega))) (fun _ => ?_)
    have e1 : nI i - nI 1 = nI (i - 1) := pk_sub hi
    have C : Cl sc d 46 [.ref 1, .int (D 6 (nI i - nI 1).toNatClampNeg), .int (D 6 (nI i).toNatClampNeg)] (hx_S0, D, G) (.inl (some (.int (nI (zj V (w (i - 1)) (w i)))))) (hx_S0, D, G) := by
      rw [e1, nI_clamp (by omega), nI_clamp (by omega), hw (i - 1) (by omega), hw i (by omega)]
      exact m46 R hv (hb _ (by omega)) (hb _ (by omega))
    refine b47_12 (by rw [e1]; exact nI_inbT (by omega) (by omega)) (nI_inbT (by omega) (by omega)) C ?_
    refine b47_25 ?_
    rw [nI_add, nI_add]
    have := ih (i + 1) (a + zj V (w (i - 1)) (w i)) (by omega) (by omega) (by omega)
    rw [Nat.add_assoc] at this
    exact this
theorem m47 {sc : Nat × (Nat → Int32)} {d : Nat} {D : Nat → Nat → Int32} {G : Nat → Nat → Int64} {V : ZV} {w : Nat → Nat} (R : RepC D 1 V) (hv : Valid V) (hw : ∀ i, i < zn V → D 6 i = nI (w i)) (hb : ∀ i, i < zn V → w i < zn V) : Cl sc (d + 1) 47 [.ref 1, .ref 6] (hx_S0, D, G) (.inl (some (.int (nI (zJs V w 1 (zn V - 1)))))) (hx_S0, D, G) := by
  refine c47 (u := 0) (b47_0 ?_)
  have := m47_lp (sc := sc) (d := d) (G := G) R hv hw hb (zn V - 1) 1 0 (by omega) (by omega) rfl
  rw [Nat.zero_add] at this
  exact this
theorem m47_1_lp {sc : Nat × (Nat → Int32)} {d : Nat} {D : Nat → Nat → Int32} {G : Nat → Nat → Int64} {V : ZV} {w : Nat → Nat} (R : RepC D 1 V) (hv : Valid V) (hw : ∀ i, i < zn V → D 22 i = nI (w i)) (hb : ∀ i, i < zn V → w i < zn V) : ∀ m i a, 1 ≤ i → i < 20 → zn V - i = m → Rn sc (d + 1) 47 (4, [some (.ref 1), some (.ref 22), some (.int (nI a)), some (.int (nI i))], [], (hx_S0, D, G), 0) (.inl (some (.int (nI (a + zJs V w i m)))), (hx_S0, D, G), 0) := by
  have h7 := hv.1
  have r0 := R.1
  intro m
  induction m with
  | zero =>
    intro i a hi hk hm
    exact b47_1_4 (fun _ => b47_1_33) (fun h => absurd (by rw [r0]; exact nI_le (by omega) (by omega)) h)
  | succ m ih =>
    intro i a hi hk hm
    refine b47_1_4 (fun h => absurd h (by rw [r0]; exact nI_ge (by omega) (by omega))) (fun _ => ?_)
    have e1 : nI i - nI 1 = nI (i - 1) := pk_sub hi
    have C : Cl sc d 46 [.ref 1, .int (D 22 (nI i - nI 1).toNatClampNeg), .int (D 22 (nI i).toNatClampNeg)] (hx_S0, D, G) (.inl (some (.int (nI (zj V (w (i - 1)) (w i)))))) (hx_S0, D, G) := by
      rw [e1, nI_clamp (by omega), nI_clamp (by omega), hw (i - 1) (by omega), hw i (by omega)]
      exact m46 R hv (hb _ (by omega)) (hb _ (by omega))
    refine b47_1_12 (by rw [e1]; exact nI_inbT (by omega) (by omega)) (nI_inbT (by omega) (by omega)) C ?_
    refine b47_1_25 ?_
    rw [nI_add, nI_add]
    have := ih (i + 1) (a + zj V (w (i - 1)) (w i)) (by omega) (by omega) (by omega)
    rw [Nat.add_assoc] at this
    exact this
theorem m47_1 {sc : Nat × (Nat → Int32)} {d : Nat} {D : Nat → Nat → Int32} {G : Nat → Nat → Int64} {V : ZV} {w : Nat → Nat} (R : RepC D 1 V) (hv : Valid V) (hw : ∀ i, i < zn V → D 22 i = nI (w i)) (hb : ∀ i, i < zn V → w i < zn V) : Cl sc (d + 1) 47 [.ref 1, .ref 22] (hx_S0, D, G) (.inl (some (.int (nI (zJs V w 1 (zn V - 1)))))) (hx_S0, D, G) := by
  refine c47_1 (u := 0) (b47_1_0 ?_)
  have := m47_1_lp (sc := sc) (d := d) (G := G) R hv hw hb (zn V - 1) 1 0 (by omega) (by omega) rfl
  rw [Nat.zero_add] at this
  exact this
theorem m47_2_lp {sc : Nat × (Nat → Int32)} {d : Nat} {D : Nat → Nat → Int32} {G : Nat → Nat → Int64} {V : ZV} {w : Nat → Nat} (R : RepC D 1 V) (hv : Valid V) (hw : ∀ i, i < zn V → D 18 i = nI (w i)) (hb : ∀ i, i < zn V → w i < zn V) : ∀ m i a, 1 ≤ i → i < 20 → zn V - i = m → Rn sc (d + 1) 47 (4, [some (.ref 1), some (.ref 18), some (.int (nI a)), some (.int (nI i))], [], (hx_S0, D, G), 0) (.inl (some (.int (nI (a + zJs V w i m)))), (hx_S0, D, G), 0) := by
  have h7 := hv.1
  have r0 := R.1
  intro m
  induction m with
  | zero =>
    intro i a hi hk hm
    exact b47_2_4 (fun _ => b47_2_33) (fun h => absurd (by rw [r0]; exact nI_le (by omega) (by omega)) h)
  | succ m ih =>
    intro i a hi hk hm
    refine b47_2_4 (fun h => absurd h (by rw [r0]; exact nI_ge (by omega) (by omega))) (fun _ => ?_)
    have e1 : nI i - nI 1 = nI (i - 1) := pk_sub hi
    have C : Cl sc d 46 [.ref 1, .int (D 18 (nI i - nI 1).toNatClampNeg), .int (D 18 (nI i).toNatClampNeg)] (hx_S0, D, G) (.inl (some (.int (nI (zj V (w (i - 1)) (w i)))))) (hx_S0, D, G) := by
      rw [e1, nI_clamp (by omega), nI_clamp (by omega), hw (i - 1) (by omega), hw i (by omega)]
      exact m46 R hv (hb _ (by omega)) (hb _ (by omega))
    refine b47_2_12 (by rw [e1]; exact nI_inbT (by omega) (by omega)) (nI_inbT (by omega) (by omega)) C ?_
    refine b47_2_25 ?_
    rw [nI_add, nI_add]
    have := ih (i + 1) (a + zj V (w (i - 1)) (w i)) (by omega) (by omega) (by omega)
    rw [Nat.add_assoc] at this
    exact this
theorem m47_2 {sc : Nat × (Nat → Int32)} {d : Nat} {D : Nat → Nat → Int32} {G : Nat → Nat → Int64} {V : ZV} {w : Nat → Nat} (R : RepC D 1 V) (hv : Valid V) (hw : ∀ i, i < zn V → D 18 i = nI (w i)) (hb : ∀ i, i < zn V → w i < zn V) : Cl sc (d + 1) 47 [.ref 1, .ref 18] (hx_S0, D, G) (.inl (some (.int (nI (zJs V w 1 (zn V - 1)))))) (hx_S0, D, G) := by
  refine c47_2 (u := 0) (b47_2_0 ?_)
  have := m47_2_lp (sc := sc) (d := d) (G := G) R hv hw hb (zn V - 1) 1 0 (by omega) (by omega) rfl
  rw [Nat.zero_add] at this
  exact this
