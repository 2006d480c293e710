/-! ===== the calls of the class as the law makes them: a code, and the answer in a long ===== -/
def OKw (D : Nat → Nat → Int32) (G : Nat → Nat → Int64) (u : OUT) : hx_RS → (Nat → Nat → Int32) → (Nat → Nat → Int64) → Prop := fun r D2 G2 => r = .inl (some (.int (nI u.1))) ∧ InvC D2 u.2.2 ∧ eqM D D2 ∧ G2 = if u.1 = 0 then hx_up G 89 0 u.2.1.toInt64 else G
theorem OKw.i {D D2 : Nat → Nat → Int32} {G G2 : Nat → Nat → Int64} {u : OUT} {k : Nat} (I : InvC D2 u.2.2) (e : eqM D D2) (h : u.1 = k) (hG : G2 = if k = 0 then hx_up G 89 0 u.2.1.toInt64 else G) : OKw D G u (.inl (some (.int (nI k)))) D2 G2 := ⟨by rw [h], I, e, by rw [h]; exact hG⟩
theorem c_oAdd {t : ST} {x : Int} : (oAdd t x).1 ≤ 2 := by
  unfold oAdd
  repeat' split
  all_goals first | exact Nat.zero_le _ | (show (1 : Nat) ≤ _; decide) | (show (2 : Nat) ≤ _; decide) | (show (3 : Nat) ≤ _; decide)
theorem w180 {sc : Nat × (Nat → Int32)} {d : Nat} {D : Nat → Nat → Int32} {G : Nat → Nat → Int64} {t : ST} {x : Int} (bx1 : -2147483648 ≤ x) (bx2 : x < 2147483648) (I : InvC D t) (hs : SV t) : Cg sc (d + 11) 180 [.ref 0, .int (iI x), .ref 89] D G (OKw D G (oAdd t x)) := by
  have hc := c_oAdd (t := t) (x := x)
  obtain ⟨r, D2, hC, hr, I2, e2⟩ := kAdd (sc := sc) (d := d + 8) (G := G) bx1 bx2 I hs
  subst hr
  have hu : (oAdd t x).1 = 0 ∨ (oAdd t x).1 = 1 ∨ (oAdd t x).1 = 2 := by omega
  refine Cg.c (fun _ _ _ => c180) ?_
  rcases hu with hcd | hcd | hcd
  · rw [show zres [0, 1] (oAdd t x) = .inl (some (.int (oAdd t x).2.1)) by unfold zres; rw [if_pos hcd]] at hC
    refine Rg.s (fun _ => b180_0 hC) ?_
    refine Rg.s (fun _ => b180_7 (nI_inbT (by omega) (by omega))) ?_
    rw [nI_clamp (by omega)]
    exact Rg.e b180_18 (OKw.i I2 e2 hcd (by rw [if_pos rfl]))
  · rw [show zres [0, 1] (oAdd t x) = .inr 0 by unfold zres; rw [if_neg (by omega), hcd]; rfl] at hC
    refine Rg.s (fun _ => b180_0_x0 hC) ?_
    exact Rg.e b180_13 (OKw.i I2 e2 hcd (by rw [if_neg (by omega)]))
  · rw [show zres [0, 1] (oAdd t x) = .inr 1 by unfold zres; rw [if_neg (by omega), hcd]; rfl] at hC
    refine Rg.s (fun _ => b180_0_x1 hC) ?_
    exact Rg.e b180_16 (OKw.i I2 e2 hcd (by rw [if_neg (by omega)]))
theorem c_oTear {t : ST} {p s k h : Int} : (oTear t p s k h).1 ≤ 2 := by
  unfold oTear
  repeat' split
  all_goals first | exact Nat.zero_le _ | (show (1 : Nat) ≤ _; decide) | (show (2 : Nat) ≤ _; decide) | (show (3 : Nat) ≤ _; decide)
theorem w181 {sc : Nat × (Nat → Int32)} {d : Nat} {D : Nat → Nat → Int32} {G : Nat → Nat → Int64} {t : ST} {p : Int} {s : Int} {k : Int} {h : Int} (bp1 : -2147483648 ≤ p) (bp2 : p < 2147483648) (bs1 : -2147483648 ≤ s) (bs2 : s < 2147483648) (bk1 : -2147483648 ≤ k) (bk2 : k < 2147483648) (bh1 : -2147483648 ≤ h) (bh2 : h < 2147483648) (I : InvC D t) (hs : SV t) : Cg sc (d + 11) 181 [.ref 0, .int (iI p), .int (iI s), .int (iI k), .int (iI h), .ref 89] D G (OKw D G (oTear t p s k h)) := by
  have hc := c_oTear (t := t) (p := p) (s := s) (k := k) (h := h)
  obtain ⟨r, D2, hC, hr, I2, e2⟩ := kTear (sc := sc) (d := d + 7) (G := G) bp1 bp2 bs1 bs2 bk1 bk2 bh1 bh2 I hs
  subst hr
  have hu : (oTear t p s k h).1 = 0 ∨ (oTear t p s k h).1 = 1 ∨ (oTear t p s k h).1 = 2 := by omega
  refine Cg.c (fun _ _ _ => c181) ?_
  rcases hu with hcd | hcd | hcd
  · rw [show zres [2, 0] (oTear t p s k h) = .inl (some (.int (oTear t p s k h).2.1)) by unfold zres; rw [if_pos hcd]] at hC
    refine Rg.s (fun _ => b181_0 hC) ?_
    refine Rg.s (fun _ => b181_12 (nI_inbT (by omega) (by omega))) ?_
    rw [nI_clamp (by omega)]
    exact Rg.e b181_25 (OKw.i I2 e2 hcd (by rw [if_pos rfl]))
  · rw [show zres [2, 0] (oTear t p s k h) = .inr 2 by unfold zres; rw [if_neg (by omega), hcd]; rfl] at hC
    refine Rg.s (fun _ => b181_0_x2 hC) ?_
    exact Rg.e b181_19 (OKw.i I2 e2 hcd (by rw [if_neg (by omega)]))
  · rw [show zres [2, 0] (oTear t p s k h) = .inr 0 by unfold zres; rw [if_neg (by omega), hcd]; rfl] at hC
    refine Rg.s (fun _ => b181_0_x0 hC) ?_
    exact Rg.e b181_23 (OKw.i I2 e2 hcd (by rw [if_neg (by omega)]))
theorem c_oFibre {t : ST} {p s h : Int} : (oFibre t p s h).1 ≤ 2 := by
  unfold oFibre
  repeat' split
  all_goals first | exact Nat.zero_le _ | (show (1 : Nat) ≤ _; decide) | (show (2 : Nat) ≤ _; decide) | (show (3 : Nat) ≤ _; decide)
theorem w182 {sc : Nat × (Nat → Int32)} {d : Nat} {D : Nat → Nat → Int32} {G : Nat → Nat → Int64} {t : ST} {p : Int} {s : Int} {h : Int} (bp1 : -2147483648 ≤ p) (bp2 : p < 2147483648) (bs1 : -2147483648 ≤ s) (bs2 : s < 2147483648) (bh1 : -2147483648 ≤ h) (bh2 : h < 2147483648) (I : InvC D t) (hs : SV t) : Cg sc (d + 11) 182 [.ref 0, .int (iI p), .int (iI s), .int (iI h), .ref 89] D G (OKw D G (oFibre t p s h)) := by
  have hc := c_oFibre (t := t) (p := p) (s := s) (h := h)
  obtain ⟨r, D2, hC, hr, I2, e2⟩ := kFibre (sc := sc) (d := d + 7) (G := G) bp1 bp2 bs1 bs2 bh1 bh2 I hs
  subst hr
  have hu : (oFibre t p s h).1 = 0 ∨ (oFibre t p s h).1 = 1 ∨ (oFibre t p s h).1 = 2 := by omega
  refine Cg.c (fun _ _ _ => c182) ?_
  rcases hu with hcd | hcd | hcd
  · rw [show zres [2, 0] (oFibre t p s h) = .inl (some (.int (oFibre t p s h).2.1)) by unfold zres; rw [if_pos hcd]] at hC
    refine Rg.s (fun _ => b182_0 hC) ?_
    refine Rg.s (fun _ => b182_10 (nI_inbT (by omega) (by omega))) ?_
    rw [nI_clamp (by omega)]
    exact Rg.e b182_23 (OKw.i I2 e2 hcd (by rw [if_pos rfl]))
  · rw [show zres [2, 0] (oFibre t p s h) = .inr 2 by unfold zres; rw [if_neg (by omega), hcd]; rfl] at hC
    refine Rg.s (fun _ => b182_0_x2 hC) ?_
    exact Rg.e b182_17 (OKw.i I2 e2 hcd (by rw [if_neg (by omega)]))
  · rw [show zres [2, 0] (oFibre t p s h) = .inr 0 by unfold zres; rw [if_neg (by omega), hcd]; rfl] at hC
    refine Rg.s (fun _ => b182_0_x0 hC) ?_
    exact Rg.e b182_21 (OKw.i I2 e2 hcd (by rw [if_neg (by omega)]))
theorem c_oHole {t : ST} {p x : Int} : (oHole t p x).1 ≤ 3 := by
  unfold oHole
  repeat' split
  all_goals first | exact Nat.zero_le _ | (show (1 : Nat) ≤ _; decide) | (show (2 : Nat) ≤ _; decide) | (show (3 : Nat) ≤ _; decide)
theorem w183 {sc : Nat × (Nat → Int32)} {d : Nat} {D : Nat → Nat → Int32} {G : Nat → Nat → Int64} {t : ST} {p : Int} {x : Int} (bp1 : -2147483648 ≤ p) (bp2 : p < 2147483648) (bx1 : -2147483648 ≤ x) (bx2 : x < 2147483648) (I : InvC D t) (hs : SV t) : Cg sc (d + 11) 183 [.ref 0, .int (iI p), .int (iI x), .ref 89] D G (OKw D G (oHole t p x)) := by
  have hc := c_oHole (t := t) (p := p) (x := x)
  obtain ⟨r, D2, hC, hr, I2, e2⟩ := kHole (sc := sc) (d := d + 8) (G := G) bp1 bp2 bx1 bx2 I hs
  subst hr
  have hu : (oHole t p x).1 = 0 ∨ (oHole t p x).1 = 1 ∨ (oHole t p x).1 = 2 ∨ (oHole t p x).1 = 3 := by omega
  refine Cg.c (fun _ _ _ => c183) ?_
  rcases hu with hcd | hcd | hcd | hcd
  · rw [show zres [2, 0, 1] (oHole t p x) = .inl (some (.int (oHole t p x).2.1)) by unfold zres; rw [if_pos hcd]] at hC
    refine Rg.s (fun _ => b183_0 hC) ?_
    refine Rg.s (fun _ => b183_8 (nI_inbT (by omega) (by omega))) ?_
    rw [nI_clamp (by omega)]
    exact Rg.e b183_25 (OKw.i I2 e2 hcd (by rw [if_pos rfl]))
  · rw [show zres [2, 0, 1] (oHole t p x) = .inr 2 by unfold zres; rw [if_neg (by omega), hcd]; rfl] at hC
    refine Rg.s (fun _ => b183_0_x2 hC) ?_
    exact Rg.e b183_15 (OKw.i I2 e2 hcd (by rw [if_neg (by omega)]))
  · rw [show zres [2, 0, 1] (oHole t p x) = .inr 0 by unfold zres; rw [if_neg (by omega), hcd]; rfl] at hC
    refine Rg.s (fun _ => b183_0_x0 hC) ?_
    exact Rg.e b183_19 (OKw.i I2 e2 hcd (by rw [if_neg (by omega)]))
  · rw [show zres [2, 0, 1] (oHole t p x) = .inr 1 by unfold zres; rw [if_neg (by omega), hcd]; rfl] at hC
    refine Rg.s (fun _ => b183_0_x1 hC) ?_
    exact Rg.e b183_23 (OKw.i I2 e2 hcd (by rw [if_neg (by omega)]))
theorem c_oRemove {t : ST} {p : Int} : (oRemove t p).1 ≤ 1 := by
  unfold oRemove
  repeat' split
  all_goals first | exact Nat.zero_le _ | (show (1 : Nat) ≤ _; decide) | (show (2 : Nat) ≤ _; decide) | (show (3 : Nat) ≤ _; decide)
theorem w184 {sc : Nat × (Nat → Int32)} {d : Nat} {D : Nat → Nat → Int32} {G : Nat → Nat → Int64} {t : ST} {p : Int} (bp1 : -2147483648 ≤ p) (bp2 : p < 2147483648) (I : InvC D t) (hs : SV t) : Cg sc (d + 11) 184 [.ref 0, .int (iI p), .ref 89] D G (OKw D G (oRemove t p)) := by
  have hc := c_oRemove (t := t) (p := p)
  obtain ⟨r, D2, hC, hr, I2, e2⟩ := kRemove (sc := sc) (d := d + 8) (G := G) bp1 bp2 I hs
  subst hr
  have hu : (oRemove t p).1 = 0 ∨ (oRemove t p).1 = 1 := by omega
  refine Cg.c (fun _ _ _ => c184) ?_
  rcases hu with hcd | hcd
  · rw [show zres [2] (oRemove t p) = .inl (some (.int (oRemove t p).2.1)) by unfold zres; rw [if_pos hcd]] at hC
    refine Rg.s (fun _ => b184_0 hC) ?_
    refine Rg.s (fun _ => b184_7 (nI_inbT (by omega) (by omega))) ?_
    rw [nI_clamp (by omega)]
    exact Rg.e b184_15 (OKw.i I2 e2 hcd (by rw [if_pos rfl]))
  · rw [show zres [2] (oRemove t p) = .inr 2 by unfold zres; rw [if_neg (by omega), hcd]; rfl] at hC
    refine Rg.s (fun _ => b184_0_x2 hC) ?_
    exact Rg.e b184_13 (OKw.i I2 e2 hcd (by rw [if_neg (by omega)]))
theorem c_oMove {t : ST} {p x : Int} : (oMove t p x).1 ≤ 2 := by
  unfold oMove
  repeat' split
  all_goals first | exact Nat.zero_le _ | (show (1 : Nat) ≤ _; decide) | (show (2 : Nat) ≤ _; decide) | (show (3 : Nat) ≤ _; decide)
theorem w185 {sc : Nat × (Nat → Int32)} {d : Nat} {D : Nat → Nat → Int32} {G : Nat → Nat → Int64} {t : ST} {p : Int} {x : Int} (bp1 : -2147483648 ≤ p) (bp2 : p < 2147483648) (bx1 : -2147483648 ≤ x) (bx2 : x < 2147483648) (I : InvC D t) (hs : SV t) : Cg sc (d + 11) 185 [.ref 0, .int (iI p), .int (iI x), .ref 89] D G (OKw D G (oMove t p x)) := by
  have hc := c_oMove (t := t) (p := p) (x := x)
  obtain ⟨r, D2, hC, hr, I2, e2⟩ := kMove (sc := sc) (d := d + 7) (G := G) bp1 bp2 bx1 bx2 I hs
  subst hr
  have hu : (oMove t p x).1 = 0 ∨ (oMove t p x).1 = 1 ∨ (oMove t p x).1 = 2 := by omega
  refine Cg.c (fun _ _ _ => c185) ?_
  rcases hu with hcd | hcd | hcd
  · rw [show zres [2, 0] (oMove t p x) = .inl (some (.int (oMove t p x).2.1)) by unfold zres; rw [if_pos hcd]] at hC
    refine Rg.s (fun _ => b185_0 hC) ?_
    refine Rg.s (fun _ => b185_8 (nI_inbT (by omega) (by omega))) ?_
    rw [nI_clamp (by omega)]
    exact Rg.e b185_21 (OKw.i I2 e2 hcd (by rw [if_pos rfl]))
  · rw [show zres [2, 0] (oMove t p x) = .inr 2 by unfold zres; rw [if_neg (by omega), hcd]; rfl] at hC
    refine Rg.s (fun _ => b185_0_x2 hC) ?_
    exact Rg.e b185_15 (OKw.i I2 e2 hcd (by rw [if_neg (by omega)]))
  · rw [show zres [2, 0] (oMove t p x) = .inr 0 by unfold zres; rw [if_neg (by omega), hcd]; rfl] at hC
    refine Rg.s (fun _ => b185_0_x0 hC) ?_
    exact Rg.e b185_19 (OKw.i I2 e2 hcd (by rw [if_neg (by omega)]))
theorem c_oSet {t : ST} {k x : Int} : (oSet t k x).1 ≤ 2 := by
  unfold oSet
  repeat' split
  all_goals first | exact Nat.zero_le _ | (show (1 : Nat) ≤ _; decide) | (show (2 : Nat) ≤ _; decide) | (show (3 : Nat) ≤ _; decide)
theorem w186 {sc : Nat × (Nat → Int32)} {d : Nat} {D : Nat → Nat → Int32} {G : Nat → Nat → Int64} {t : ST} {k : Int} {x : Int} (bk1 : -2147483648 ≤ k) (bk2 : k < 2147483648) (bx1 : -2147483648 ≤ x) (bx2 : x < 2147483648) (I : InvC D t) (hs : SV t) : Cg sc (d + 11) 186 [.ref 0, .int (iI k), .int (iI x), .ref 89] D G (OKw D G (oSet t k x)) := by
  have hc := c_oSet (t := t) (k := k) (x := x)
  obtain ⟨r, D2, hC, hr, I2, e2⟩ := kSet (sc := sc) (d := d + 8) (G := G) bk1 bk2 bx1 bx2 I hs
  subst hr
  have hu : (oSet t k x).1 = 0 ∨ (oSet t k x).1 = 1 ∨ (oSet t k x).1 = 2 := by omega
  refine Cg.c (fun _ _ _ => c186) ?_
  rcases hu with hcd | hcd | hcd
  · rw [show zres [2, 0] (oSet t k x) = .inl (some (.int (oSet t k x).2.1)) by unfold zres; rw [if_pos hcd]] at hC
    refine Rg.s (fun _ => b186_0 hC) ?_
    refine Rg.s (fun _ => b186_8 (nI_inbT (by omega) (by omega))) ?_
    rw [nI_clamp (by omega)]
    exact Rg.e b186_21 (OKw.i I2 e2 hcd (by rw [if_pos rfl]))
  · rw [show zres [2, 0] (oSet t k x) = .inr 2 by unfold zres; rw [if_neg (by omega), hcd]; rfl] at hC
    refine Rg.s (fun _ => b186_0_x2 hC) ?_
    exact Rg.e b186_15 (OKw.i I2 e2 hcd (by rw [if_neg (by omega)]))
  · rw [show zres [2, 0] (oSet t k x) = .inr 0 by unfold zres; rw [if_neg (by omega), hcd]; rfl] at hC
    refine Rg.s (fun _ => b186_0_x0 hC) ?_
    exact Rg.e b186_19 (OKw.i I2 e2 hcd (by rw [if_neg (by omega)]))
theorem c_oAppend {t : ST} {x : Int} : (oAppend t x).1 ≤ 2 := by
  unfold oAppend
  repeat' split
  all_goals first | exact Nat.zero_le _ | (show (1 : Nat) ≤ _; decide) | (show (2 : Nat) ≤ _; decide) | (show (3 : Nat) ≤ _; decide)
theorem w187 {sc : Nat × (Nat → Int32)} {d : Nat} {D : Nat → Nat → Int32} {G : Nat → Nat → Int64} {t : ST} {x : Int} (bx1 : -2147483648 ≤ x) (bx2 : x < 2147483648) (I : InvC D t) (hs : SV t) : Cg sc (d + 11) 187 [.ref 0, .int (iI x), .ref 89] D G (OKw D G (oAppend t x)) := by
  have hc := c_oAppend (t := t) (x := x)
  obtain ⟨r, D2, hC, hr, I2, e2⟩ := kAppend (sc := sc) (d := d + 10) (G := G) bx1 bx2 I hs
  subst hr
  have hu : (oAppend t x).1 = 0 ∨ (oAppend t x).1 = 1 ∨ (oAppend t x).1 = 2 := by omega
  refine Cg.c (fun _ _ _ => c187) ?_
  rcases hu with hcd | hcd | hcd
  · rw [show zres [0, 1] (oAppend t x) = .inl (some (.int (oAppend t x).2.1)) by unfold zres; rw [if_pos hcd]] at hC
    refine Rg.s (fun _ => b187_0 hC) ?_
    refine Rg.s (fun _ => b187_7 (nI_inbT (by omega) (by omega))) ?_
    rw [nI_clamp (by omega)]
    exact Rg.e b187_18 (OKw.i I2 e2 hcd (by rw [if_pos rfl]))
  · rw [show zres [0, 1] (oAppend t x) = .inr 0 by unfold zres; rw [if_neg (by omega), hcd]; rfl] at hC
    refine Rg.s (fun _ => b187_0_x0 hC) ?_
    exact Rg.e b187_13 (OKw.i I2 e2 hcd (by rw [if_neg (by omega)]))
  · rw [show zres [0, 1] (oAppend t x) = .inr 1 by unfold zres; rw [if_neg (by omega), hcd]; rfl] at hC
    refine Rg.s (fun _ => b187_0_x1 hC) ?_
    exact Rg.e b187_16 (OKw.i I2 e2 hcd (by rw [if_neg (by omega)]))
theorem c_oLoad {t : ST} : (oLoad t).1 ≤ 2 := by
  unfold oLoad
  cases aSt (tb t) (tn t) with
  | none => show (1 : Nat) ≤ 2; decide
  | some q =>
    show (if qwhole q = true then (if zn (tV t) + qb q ≤ 7 then ((0 : Nat), nI (zn (tV t) + qb q), ((opLoad (tV t) (tb t) (tn t) q, tS (zsv t), tK t, 0, tb t) : ST)) else (2, 0, t)) else (1, 0, t)).1 ≤ 2
    repeat' split
    all_goals first | exact Nat.zero_le _ | (show (1 : Nat) ≤ _; decide) | (show (2 : Nat) ≤ _; decide)
theorem w188 {sc : Nat × (Nat → Int32)} {d : Nat} {D : Nat → Nat → Int32} {G : Nat → Nat → Int64} {t : ST}  (I : InvC D t) (hs : SV t) : Cg sc (d + 11) 188 [.ref 0, .ref 89] D G (OKw D G (oLoad t)) := by
  have hc := c_oLoad (t := t)
  obtain ⟨r, D2, hC, hr, I2, e2⟩ := kLoad (sc := sc) (d := d + 4) (G := G) I hs
  subst hr
  have hu : (oLoad t).1 = 0 ∨ (oLoad t).1 = 1 ∨ (oLoad t).1 = 2 := by omega
  refine Cg.c (fun _ _ _ => c188) ?_
  rcases hu with hcd | hcd | hcd
  · rw [show zres [0, 1] (oLoad t) = .inl (some (.int (oLoad t).2.1)) by unfold zres; rw [if_pos hcd]] at hC
    refine Rg.s (fun _ => b188_0 hC) ?_
    refine Rg.s (fun _ => b188_6 (nI_inbT (by omega) (by omega))) ?_
    rw [nI_clamp (by omega)]
    exact Rg.e b188_17 (OKw.i I2 e2 hcd (by rw [if_pos rfl]))
  · rw [show zres [0, 1] (oLoad t) = .inr 0 by unfold zres; rw [if_neg (by omega), hcd]; rfl] at hC
    refine Rg.s (fun _ => b188_0_x0 hC) ?_
    exact Rg.e b188_12 (OKw.i I2 e2 hcd (by rw [if_neg (by omega)]))
  · rw [show zres [0, 1] (oLoad t) = .inr 1 by unfold zres; rw [if_neg (by omega), hcd]; rfl] at hC
    refine Rg.s (fun _ => b188_0_x1 hC) ?_
    exact Rg.e b188_15 (OKw.i I2 e2 hcd (by rw [if_neg (by omega)]))
theorem c_oKeep {t : ST} {x : Int} : (oKeep t x).1 ≤ 1 := by
  unfold oKeep
  repeat' split
  all_goals first | exact Nat.zero_le _ | (show (1 : Nat) ≤ _; decide) | (show (2 : Nat) ≤ _; decide) | (show (3 : Nat) ≤ _; decide)
theorem w189 {sc : Nat × (Nat → Int32)} {d : Nat} {D : Nat → Nat → Int32} {G : Nat → Nat → Int64} {t : ST} {x : Int} (bx1 : -2147483648 ≤ x) (bx2 : x < 2147483648) (I : InvC D t) (hs : SV t) : Cg sc (d + 11) 189 [.ref 0, .int (iI x), .ref 89] D G (OKw D G (oKeep t x)) := by
  have hc := c_oKeep (t := t) (x := x)
  obtain ⟨r, D2, hC, hr, I2, e2⟩ := kKeep (sc := sc) (d := d + 9) (G := G) bx1 bx2 I hs
  subst hr
  have hu : (oKeep t x).1 = 0 ∨ (oKeep t x).1 = 1 := by omega
  refine Cg.c (fun _ _ _ => c189) ?_
  rcases hu with hcd | hcd
  · rw [show zres [0] (oKeep t x) = .inl (some (.int (oKeep t x).2.1)) by unfold zres; rw [if_pos hcd]] at hC
    refine Rg.s (fun _ => b189_0 hC) ?_
    refine Rg.s (fun _ => b189_7 (nI_inbT (by omega) (by omega))) ?_
    rw [nI_clamp (by omega)]
    exact Rg.e b189_15 (OKw.i I2 e2 hcd (by rw [if_pos rfl]))
  · rw [show zres [0] (oKeep t x) = .inr 0 by unfold zres; rw [if_neg (by omega), hcd]; rfl] at hC
    refine Rg.s (fun _ => b189_0_x0 hC) ?_
    exact Rg.e b189_13 (OKw.i I2 e2 hcd (by rw [if_neg (by omega)]))
theorem c_oGoBack {t : ST} {x : Int} : (oGoBack t x).1 ≤ 2 := by
  unfold oGoBack
  repeat' split
  all_goals first | exact Nat.zero_le _ | (show (1 : Nat) ≤ _; decide) | (show (2 : Nat) ≤ _; decide) | (show (3 : Nat) ≤ _; decide)
theorem w190 {sc : Nat × (Nat → Int32)} {d : Nat} {D : Nat → Nat → Int32} {G : Nat → Nat → Int64} {t : ST} {x : Int} (bx1 : -2147483648 ≤ x) (bx2 : x < 2147483648) (I : InvC D t) (hs : SV t) : Cg sc (d + 11) 190 [.ref 0, .int (iI x), .ref 89] D G (OKw D G (oGoBack t x)) := by
  have hc := c_oGoBack (t := t) (x := x)
  obtain ⟨r, D2, hC, hr, I2, e2⟩ := kGoBack (sc := sc) (d := d + 8) (G := G) bx1 bx2 I hs
  subst hr
  have hu : (oGoBack t x).1 = 0 ∨ (oGoBack t x).1 = 1 ∨ (oGoBack t x).1 = 2 := by omega
  refine Cg.c (fun _ _ _ => c190) ?_
  rcases hu with hcd | hcd | hcd
  · rw [show zres [0, 1] (oGoBack t x) = .inl (some (.int (oGoBack t x).2.1)) by unfold zres; rw [if_pos hcd]] at hC
    refine Rg.s (fun _ => b190_0 hC) ?_
    refine Rg.s (fun _ => b190_7 (nI_inbT (by omega) (by omega))) ?_
    rw [nI_clamp (by omega)]
    exact Rg.e b190_18 (OKw.i I2 e2 hcd (by rw [if_pos rfl]))
  · rw [show zres [0, 1] (oGoBack t x) = .inr 0 by unfold zres; rw [if_neg (by omega), hcd]; rfl] at hC
    refine Rg.s (fun _ => b190_0_x0 hC) ?_
    exact Rg.e b190_13 (OKw.i I2 e2 hcd (by rw [if_neg (by omega)]))
  · rw [show zres [0, 1] (oGoBack t x) = .inr 1 by unfold zres; rw [if_neg (by omega), hcd]; rfl] at hC
    refine Rg.s (fun _ => b190_0_x1 hC) ?_
    exact Rg.e b190_16 (OKw.i I2 e2 hcd (by rw [if_neg (by omega)]))
theorem c_oUndo {t : ST} : (oUndo t).1 ≤ 1 := by
  unfold oUndo
  repeat' split
  all_goals first | exact Nat.zero_le _ | (show (1 : Nat) ≤ _; decide) | (show (2 : Nat) ≤ _; decide) | (show (3 : Nat) ≤ _; decide)
theorem w191 {sc : Nat × (Nat → Int32)} {d : Nat} {D : Nat → Nat → Int32} {G : Nat → Nat → Int64} {t : ST}  (I : InvC D t) (hs : SV t) : Cg sc (d + 11) 191 [.ref 0, .ref 89] D G (OKw D G (oUndo t)) := by
  have hc := c_oUndo (t := t)
  obtain ⟨r, D2, hC, hr, I2, e2⟩ := kUndo (sc := sc) (d := d + 9) (G := G) I hs
  subst hr
  have hu : (oUndo t).1 = 0 ∨ (oUndo t).1 = 1 := by omega
  refine Cg.c (fun _ _ _ => c191) ?_
  rcases hu with hcd | hcd
  · rw [show zres [1] (oUndo t) = .inl (some (.int (oUndo t).2.1)) by unfold zres; rw [if_pos hcd]] at hC
    refine Rg.s (fun _ => b191_0 hC) ?_
    refine Rg.s (fun _ => b191_6 (nI_inbT (by omega) (by omega))) ?_
    rw [nI_clamp (by omega)]
    exact Rg.e b191_14 (OKw.i I2 e2 hcd (by rw [if_pos rfl]))
  · rw [show zres [1] (oUndo t) = .inr 1 by unfold zres; rw [if_neg (by omega), hcd]; rfl] at hC
    refine Rg.s (fun _ => b191_0_x1 hC) ?_
    exact Rg.e b191_12 (OKw.i I2 e2 hcd (by rw [if_neg (by omega)]))
theorem c_oPieceOf {t : ST} {p x : Int} : (oPieceOf t p x).1 ≤ 2 := by
  unfold oPieceOf
  repeat' split
  all_goals first | exact Nat.zero_le _ | (show (1 : Nat) ≤ _; decide) | (show (2 : Nat) ≤ _; decide) | (show (3 : Nat) ≤ _; decide)
theorem w192 {sc : Nat × (Nat → Int32)} {d : Nat} {D : Nat → Nat → Int32} {G : Nat → Nat → Int64} {t : ST} {p : Int} {x : Int} (bp1 : -2147483648 ≤ p) (bp2 : p < 2147483648) (bx1 : -2147483648 ≤ x) (bx2 : x < 2147483648) (I : InvC D t) (hs : SV t) : Cg sc (d + 11) 192 [.ref 0, .int (iI p), .int (iI x), .ref 89] D G (OKw D G (oPieceOf t p x)) := by
  have hc := c_oPieceOf (t := t) (p := p) (x := x)
  obtain ⟨r, D2, hC, hr, I2, e2⟩ := kPieceOf (sc := sc) (d := d + 8) (G := G) bp1 bp2 bx1 bx2 I hs
  subst hr
  have hu : (oPieceOf t p x).1 = 0 ∨ (oPieceOf t p x).1 = 1 ∨ (oPieceOf t p x).1 = 2 := by omega
  refine Cg.c (fun _ _ _ => c192) ?_
  rcases hu with hcd | hcd | hcd
  · rw [show zres [2, 0] (oPieceOf t p x) = .inl (some (.int (oPieceOf t p x).2.1)) by unfold zres; rw [if_pos hcd]] at hC
    refine Rg.s (fun _ => b192_0 hC) ?_
    refine Rg.s (fun _ => b192_8 (nI_inbT (by omega) (by omega))) ?_
    rw [nI_clamp (by omega)]
    exact Rg.e b192_21 (OKw.i I2 e2 hcd (by rw [if_pos rfl]))
  · rw [show zres [2, 0] (oPieceOf t p x) = .inr 2 by unfold zres; rw [if_neg (by omega), hcd]; rfl] at hC
    refine Rg.s (fun _ => b192_0_x2 hC) ?_
    exact Rg.e b192_15 (OKw.i I2 e2 hcd (by rw [if_neg (by omega)]))
  · rw [show zres [2, 0] (oPieceOf t p x) = .inr 0 by unfold zres; rw [if_neg (by omega), hcd]; rfl] at hC
    refine Rg.s (fun _ => b192_0_x0 hC) ?_
    exact Rg.e b192_19 (OKw.i I2 e2 hcd (by rw [if_neg (by omega)]))
theorem c_oIsHole {t : ST} {p x : Int} : (oIsHole t p x).1 ≤ 2 := by
  unfold oIsHole
  repeat' split
  all_goals first | exact Nat.zero_le _ | (show (1 : Nat) ≤ _; decide) | (show (2 : Nat) ≤ _; decide) | (show (3 : Nat) ≤ _; decide)
theorem w193 {sc : Nat × (Nat → Int32)} {d : Nat} {D : Nat → Nat → Int32} {G : Nat → Nat → Int64} {t : ST} {p : Int} {x : Int} (bp1 : -2147483648 ≤ p) (bp2 : p < 2147483648) (bx1 : -2147483648 ≤ x) (bx2 : x < 2147483648) (I : InvC D t) (hs : SV t) : Cg sc (d + 11) 193 [.ref 0, .int (iI p), .int (iI x), .ref 89] D G (OKw D G (oIsHole t p x)) := by
  have hc := c_oIsHole (t := t) (p := p) (x := x)
  obtain ⟨r, D2, hC, hr, I2, e2⟩ := kIsHole (sc := sc) (d := d + 9) (G := G) bp1 bp2 bx1 bx2 I hs
  subst hr
  have hu : (oIsHole t p x).1 = 0 ∨ (oIsHole t p x).1 = 1 ∨ (oIsHole t p x).1 = 2 := by omega
  refine Cg.c (fun _ _ _ => c193) ?_
  rcases hu with hcd | hcd | hcd
  · rw [show zres [2, 0] (oIsHole t p x) = .inl (some (.int (oIsHole t p x).2.1)) by unfold zres; rw [if_pos hcd]] at hC
    refine Rg.s (fun _ => b193_0 hC) ?_
    refine Rg.s (fun _ => b193_8 (nI_inbT (by omega) (by omega))) ?_
    rw [nI_clamp (by omega)]
    exact Rg.e b193_21 (OKw.i I2 e2 hcd (by rw [if_pos rfl]))
  · rw [show zres [2, 0] (oIsHole t p x) = .inr 2 by unfold zres; rw [if_neg (by omega), hcd]; rfl] at hC
    refine Rg.s (fun _ => b193_0_x2 hC) ?_
    exact Rg.e b193_15 (OKw.i I2 e2 hcd (by rw [if_neg (by omega)]))
  · rw [show zres [2, 0] (oIsHole t p x) = .inr 0 by unfold zres; rw [if_neg (by omega), hcd]; rfl] at hC
    refine Rg.s (fun _ => b193_0_x0 hC) ?_
    exact Rg.e b193_19 (OKw.i I2 e2 hcd (by rw [if_neg (by omega)]))
theorem c_oAt {t : ST} {x : Int} : (oAt t x).1 ≤ 1 := by
  unfold oAt
  repeat' split
  all_goals first | exact Nat.zero_le _ | (show (1 : Nat) ≤ _; decide) | (show (2 : Nat) ≤ _; decide) | (show (3 : Nat) ≤ _; decide)
theorem w194 {sc : Nat × (Nat → Int32)} {d : Nat} {D : Nat → Nat → Int32} {G : Nat → Nat → Int64} {t : ST} {x : Int} (bx1 : -2147483648 ≤ x) (bx2 : x < 2147483648) (I : InvC D t) (hs : SV t) : Cg sc (d + 11) 194 [.ref 0, .int (iI x), .ref 89] D G (OKw D G (oAt t x)) := by
  have hc := c_oAt (t := t) (x := x)
  obtain ⟨r, D2, hC, hr, I2, e2⟩ := kAt (sc := sc) (d := d + 10) (G := G) bx1 bx2 I hs
  subst hr
  have hu : (oAt t x).1 = 0 ∨ (oAt t x).1 = 1 := by omega
  refine Cg.c (fun _ _ _ => c194) ?_
  rcases hu with hcd | hcd
  · rw [show zres [0] (oAt t x) = .inl (some (.int (oAt t x).2.1)) by unfold zres; rw [if_pos hcd]] at hC
    refine Rg.s (fun _ => b194_0 hC) ?_
    refine Rg.s (fun _ => b194_7 (nI_inbT (by omega) (by omega))) ?_
    rw [nI_clamp (by omega)]
    exact Rg.e b194_15 (OKw.i I2 e2 hcd (by rw [if_pos rfl]))
  · rw [show zres [0] (oAt t x) = .inr 0 by unfold zres; rw [if_neg (by omega), hcd]; rfl] at hC
    refine Rg.s (fun _ => b194_0_x0 hC) ?_
    exact Rg.e b194_13 (OKw.i I2 e2 hcd (by rw [if_neg (by omega)]))
theorem c_oCost {t : ST} {f s : Int} : (oCost t f s).1 ≤ 2 := by
  unfold oCost
  repeat' split
  all_goals first | exact Nat.zero_le _ | (show (1 : Nat) ≤ _; decide) | (show (2 : Nat) ≤ _; decide) | (show (3 : Nat) ≤ _; decide)
theorem w195 {sc : Nat × (Nat → Int32)} {d : Nat} {D : Nat → Nat → Int32} {G : Nat → Nat → Int64} {t : ST} {f : Int} {s : Int} (bf1 : -2147483648 ≤ f) (bf2 : f < 2147483648) (bs1 : -2147483648 ≤ s) (bs2 : s < 2147483648) (I : InvC D t) (hs : SV t) : Cg sc (d + 11) 195 [.ref 0, .int (iI f), .int (iI s), .ref 89] D G (OKw D G (oCost t f s)) := by
  have hc := c_oCost (t := t) (f := f) (s := s)
  obtain ⟨r, D2, hC, hr, I2, e2⟩ := kCost (sc := sc) (d := d + 9) (G := G) bf1 bf2 bs1 bs2 I hs
  subst hr
  have hu : (oCost t f s).1 = 0 ∨ (oCost t f s).1 = 1 ∨ (oCost t f s).1 = 2 := by omega
  refine Cg.c (fun _ _ _ => c195) ?_
  rcases hu with hcd | hcd | hcd
  · rw [show zres [2, 0] (oCost t f s) = .inl (some (.int (oCost t f s).2.1)) by unfold zres; rw [if_pos hcd]] at hC
    refine Rg.s (fun _ => b195_0 hC) ?_
    refine Rg.s (fun _ => b195_8 (nI_inbT (by omega) (by omega))) ?_
    rw [nI_clamp (by omega)]
    exact Rg.e b195_21 (OKw.i I2 e2 hcd (by rw [if_pos rfl]))
  · rw [show zres [2, 0] (oCost t f s) = .inr 2 by unfold zres; rw [if_neg (by omega), hcd]; rfl] at hC
    refine Rg.s (fun _ => b195_0_x2 hC) ?_
    exact Rg.e b195_15 (OKw.i I2 e2 hcd (by rw [if_neg (by omega)]))
  · rw [show zres [2, 0] (oCost t f s) = .inr 0 by unfold zres; rw [if_neg (by omega), hcd]; rfl] at hC
    refine Rg.s (fun _ => b195_0_x0 hC) ?_
    exact Rg.e b195_19 (OKw.i I2 e2 hcd (by rw [if_neg (by omega)]))
theorem c_oHoleOf {t : ST} {x y : Int} : (oHoleOf t x y).1 ≤ 1 := by
  unfold oHoleOf
  repeat' split
  all_goals first | exact Nat.zero_le _ | (show (1 : Nat) ≤ _; decide) | (show (2 : Nat) ≤ _; decide) | (show (3 : Nat) ≤ _; decide)
theorem w196 {sc : Nat × (Nat → Int32)} {d : Nat} {D : Nat → Nat → Int32} {G : Nat → Nat → Int64} {t : ST} {x : Int} {y : Int} (bx1 : -2147483648 ≤ x) (bx2 : x < 2147483648) (by1 : -2147483648 ≤ y) (by2 : y < 2147483648) (I : InvC D t) (hs : SV t) : Cg sc (d + 11) 196 [.ref 0, .int (iI x), .int (iI y), .ref 89] D G (OKw D G (oHoleOf t x y)) := by
  have hc := c_oHoleOf (t := t) (x := x) (y := y)
  obtain ⟨r, D2, hC, hr, I2, e2⟩ := kHoleOf (sc := sc) (d := d + 5) (G := G) bx1 bx2 by1 by2 I hs
  subst hr
  have hu : (oHoleOf t x y).1 = 0 ∨ (oHoleOf t x y).1 = 1 := by omega
  refine Cg.c (fun _ _ _ => c196) ?_
  rcases hu with hcd | hcd
  · rw [show zres [0] (oHoleOf t x y) = .inl (some (.int (oHoleOf t x y).2.1)) by unfold zres; rw [if_pos hcd]] at hC
    refine Rg.s (fun _ => b196_0 hC) ?_
    refine Rg.s (fun _ => b196_8 (nI_inbT (by omega) (by omega))) ?_
    rw [nI_clamp (by omega)]
    exact Rg.e b196_17 (OKw.i I2 e2 hcd (by rw [if_pos rfl]))
  · rw [show zres [0] (oHoleOf t x y) = .inr 0 by unfold zres; rw [if_neg (by omega), hcd]; rfl] at hC
    refine Rg.s (fun _ => b196_0_x0 hC) ?_
    exact Rg.e b196_15 (OKw.i I2 e2 hcd (by rw [if_neg (by omega)]))
theorem c_oCount {t : ST} {x : Int} : (oCount t x).1 ≤ 1 := by
  unfold oCount
  repeat' split
  all_goals first | exact Nat.zero_le _ | (show (1 : Nat) ≤ _; decide) | (show (2 : Nat) ≤ _; decide) | (show (3 : Nat) ≤ _; decide)
theorem w197 {sc : Nat × (Nat → Int32)} {d : Nat} {D : Nat → Nat → Int32} {G : Nat → Nat → Int64} {t : ST} {x : Int} (bx1 : -2147483648 ≤ x) (bx2 : x < 2147483648) (I : InvC D t) (hs : SV t) : Cg sc (d + 11) 197 [.ref 0, .int (iI x), .ref 89] D G (OKw D G (oCount t x)) := by
  have hc := c_oCount (t := t) (x := x)
  obtain ⟨r, D2, hC, hr, I2, e2⟩ := kCount (sc := sc) (d := d + 0) (G := G) bx1 bx2 I hs
  subst hr
  have hu : (oCount t x).1 = 0 ∨ (oCount t x).1 = 1 := by omega
  refine Cg.c (fun _ _ _ => c197) ?_
  rcases hu with hcd | hcd
  · rw [show zres [0] (oCount t x) = .inl (some (.int (oCount t x).2.1)) by unfold zres; rw [if_pos hcd]] at hC
    refine Rg.s (fun _ => b197_0 hC) ?_
    refine Rg.s (fun _ => b197_7 (nI_inbT (by omega) (by omega))) ?_
    rw [nI_clamp (by omega)]
    exact Rg.e b197_15 (OKw.i I2 e2 hcd (by rw [if_pos rfl]))
  · rw [show zres [0] (oCount t x) = .inr 0 by unfold zres; rw [if_neg (by omega), hcd]; rfl] at hC
    refine Rg.s (fun _ => b197_0_x0 hC) ?_
    exact Rg.e b197_13 (OKw.i I2 e2 hcd (by rw [if_neg (by omega)]))
theorem c_oSetting {t : ST} {x : Int} : (oSetting t x).1 ≤ 1 := by
  unfold oSetting
  repeat' split
  all_goals first | exact Nat.zero_le _ | (show (1 : Nat) ≤ _; decide) | (show (2 : Nat) ≤ _; decide) | (show (3 : Nat) ≤ _; decide)
theorem w198 {sc : Nat × (Nat → Int32)} {d : Nat} {D : Nat → Nat → Int32} {G : Nat → Nat → Int64} {t : ST} {x : Int} (bx1 : -2147483648 ≤ x) (bx2 : x < 2147483648) (I : InvC D t) (hs : SV t) : Cg sc (d + 11) 198 [.ref 0, .int (iI x), .ref 89] D G (OKw D G (oSetting t x)) := by
  have hc := c_oSetting (t := t) (x := x)
  obtain ⟨r, D2, hC, hr, I2, e2⟩ := kSetting (sc := sc) (d := d + 9) (G := G) bx1 bx2 I hs
  subst hr
  have hu : (oSetting t x).1 = 0 ∨ (oSetting t x).1 = 1 := by omega
  refine Cg.c (fun _ _ _ => c198) ?_
  rcases hu with hcd | hcd
  · rw [show zres [2] (oSetting t x) = .inl (some (.int (oSetting t x).2.1)) by unfold zres; rw [if_pos hcd]] at hC
    refine Rg.s (fun _ => b198_0 hC) ?_
    refine Rg.s (fun _ => b198_7 (nI_inbT (by omega) (by omega))) ?_
    rw [nI_clamp (by omega)]
    exact Rg.e b198_15 (OKw.i I2 e2 hcd (by rw [if_pos rfl]))
  · rw [show zres [2] (oSetting t x) = .inr 2 by unfold zres; rw [if_neg (by omega), hcd]; rfl] at hC
    refine Rg.s (fun _ => b198_0_x2 hC) ?_
    exact Rg.e b198_13 (OKw.i I2 e2 hcd (by rw [if_neg (by omega)]))
theorem c_oBestBehind {t : ST} {p : Int} : (oBestBehind t p).1 ≤ 1 := by
  unfold oBestBehind
  repeat' split
  all_goals first | exact Nat.zero_le _ | (show (1 : Nat) ≤ _; decide) | (show (2 : Nat) ≤ _; decide) | (show (3 : Nat) ≤ _; decide)
theorem w199 {sc : Nat × (Nat → Int32)} {d : Nat} {D : Nat → Nat → Int32} {G : Nat → Nat → Int64} {t : ST} {p : Int} (bp1 : -2147483648 ≤ p) (bp2 : p < 2147483648) (I : InvC D t) (hs : SV t) : Cg sc (d + 11) 199 [.ref 0, .int (iI p), .ref 89] D G (OKw D G (oBestBehind t p)) := by
  have hc := c_oBestBehind (t := t) (p := p)
  obtain ⟨r, D2, hC, hr, I2, e2⟩ := kBestBehind (sc := sc) (d := d + 8) (G := G) bp1 bp2 I hs
  subst hr
  have hu : (oBestBehind t p).1 = 0 ∨ (oBestBehind t p).1 = 1 := by omega
  refine Cg.c (fun _ _ _ => c199) ?_
  rcases hu with hcd | hcd
  · rw [show zres [2] (oBestBehind t p) = .inl (some (.int (oBestBehind t p).2.1)) by unfold zres; rw [if_pos hcd]] at hC
    refine Rg.s (fun _ => b199_0 hC) ?_
    refine Rg.s (fun _ => b199_7 (nI_inbT (by omega) (by omega))) ?_
    rw [nI_clamp (by omega)]
    exact Rg.e b199_15 (OKw.i I2 e2 hcd (by rw [if_pos rfl]))
  · rw [show zres [2] (oBestBehind t p) = .inr 2 by unfold zres; rw [if_neg (by omega), hcd]; rfl] at hC
    refine Rg.s (fun _ => b199_0_x2 hC) ?_
    exact Rg.e b199_13 (OKw.i I2 e2 hcd (by rw [if_neg (by omega)]))
theorem c_oSureness {t : ST} {p : Int} : (oSureness t p).1 ≤ 1 := by
  unfold oSureness
  repeat' split
  all_goals first | exact Nat.zero_le _ | (show (1 : Nat) ≤ _; decide) | (show (2 : Nat) ≤ _; decide) | (show (3 : Nat) ≤ _; decide)
theorem w200 {sc : Nat × (Nat → Int32)} {d : Nat} {D : Nat → Nat → Int32} {G : Nat → Nat → Int64} {t : ST} {p : Int} (bp1 : -2147483648 ≤ p) (bp2 : p < 2147483648) (I : InvC D t) (hs : SV t) : Cg sc (d + 11) 200 [.ref 0, .int (iI p), .ref 89] D G (OKw D G (oSureness t p)) := by
  have hc := c_oSureness (t := t) (p := p)
  obtain ⟨r, D2, hC, hr, I2, e2⟩ := kSureness (sc := sc) (d := d + 7) (G := G) bp1 bp2 I hs
  subst hr
  have hu : (oSureness t p).1 = 0 ∨ (oSureness t p).1 = 1 := by omega
  refine Cg.c (fun _ _ _ => c200) ?_
  rcases hu with hcd | hcd
  · rw [show zres [2] (oSureness t p) = .inl (some (.int (oSureness t p).2.1)) by unfold zres; rw [if_pos hcd]] at hC
    refine Rg.s (fun _ => b200_0 hC) ?_
    refine Rg.s (fun _ => b200_7 (nI_inbT (by omega) (by omega))) ?_
    rw [nI_clamp (by omega)]
    exact Rg.e b200_15 (OKw.i I2 e2 hcd (by rw [if_pos rfl]))
  · rw [show zres [2] (oSureness t p) = .inr 2 by unfold zres; rw [if_neg (by omega), hcd]; rfl] at hC
    refine Rg.s (fun _ => b200_0_x2 hC) ?_
    exact Rg.e b200_13 (OKw.i I2 e2 hcd (by rw [if_neg (by omega)]))
theorem c_oBestPlace {t : ST} {p : Int} : (oBestPlace t p).1 ≤ 1 := by
  unfold oBestPlace
  repeat' split
  all_goals first | exact Nat.zero_le _ | (show (1 : Nat) ≤ _; decide) | (show (2 : Nat) ≤ _; decide) | (show (3 : Nat) ≤ _; decide)
theorem w201 {sc : Nat × (Nat → Int32)} {d : Nat} {D : Nat → Nat → Int32} {G : Nat → Nat → Int64} {t : ST} {p : Int} (bp1 : -2147483648 ≤ p) (bp2 : p < 2147483648) (I : InvC D t) (hs : SV t) : Cg sc (d + 11) 201 [.ref 0, .int (iI p), .ref 89] D G (OKw D G (oBestPlace t p)) := by
  have hc := c_oBestPlace (t := t) (p := p)
  obtain ⟨r, D2, hC, hr, I2, e2⟩ := kBestPlace (sc := sc) (d := d + 7) (G := G) bp1 bp2 I hs
  subst hr
  have hu : (oBestPlace t p).1 = 0 ∨ (oBestPlace t p).1 = 1 := by omega
  refine Cg.c (fun _ _ _ => c201) ?_
  rcases hu with hcd | hcd
  · rw [show zres [2] (oBestPlace t p) = .inl (some (.int (oBestPlace t p).2.1)) by unfold zres; rw [if_pos hcd]] at hC
    refine Rg.s (fun _ => b201_0 hC) ?_
    refine Rg.s (fun _ => b201_7 (nI_inbT (by omega) (by omega))) ?_
    rw [nI_clamp (by omega)]
    exact Rg.e b201_15 (OKw.i I2 e2 hcd (by rw [if_pos rfl]))
  · rw [show zres [2] (oBestPlace t p) = .inr 2 by unfold zres; rw [if_neg (by omega), hcd]; rfl] at hC
    refine Rg.s (fun _ => b201_0_x2 hC) ?_
    exact Rg.e b201_13 (OKw.i I2 e2 hcd (by rw [if_neg (by omega)]))
