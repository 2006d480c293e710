/-! ===== the class, method by method ===== -/
theorem m46 {sc : Nat × (Nat → Int32)} {d : Nat} {D : Nat → Nat → Int32} {G : Nat → Nat → Int64} {V : ZV} {f s : Nat} (R : RepC D 1 V) (hv : Valid V) (hf : f < zn V) (hs : s < zn V) : Cl sc d 46 [.ref 1, .int (nI f), .int (nI s)] (hx_S0, D, G) (.inl (some (.int (nI (zj V f s))))) (hx_S0, D, G) := by
  have h7 := hv.1
  have he := hv.2.2.1
  have h1 : ∀ j, j < 5 → D 3 (f * 10 + 5 + j) = nI (ze V f (5 + j)) := fun j hj => by rw [show f * 10 + 5 + j = f * 10 + (5 + j) by omega]; exact R.2.2.2.1 f (5 + j) hf (by omega)
  have h2 : ∀ j, j < 5 → D 3 (s * 10 + j) = nI (ze V s j) := fun j hj => R.2.2.2.1 s j hs (by omega)
  have g1 : ∀ j, j < 10 → ze V f j ≤ 9 := fun j hj => (he f j hf hj).1
  have g2 : ∀ j, j < 10 → ze V s j ≤ 9 := fun j hj => (he s j hs hj).1
  have a5 := g1 5 (by omega)
  have a6 := g1 6 (by omega)
  have a7 := g1 7 (by omega)
  have a8 := g1 8 (by omega)
  have a9 := g1 9 (by omega)
  have b0 := g2 0 (by omega)
  have b1 := g2 1 (by omega)
  have b2 := g2 2 (by omega)
  have b3 := g2 3 (by omega)
  have b4 := g2 4 (by omega)
  refine c46 (u := 0) ?_
  refine b46_0 (by simp only [nI_mulN, nI_add]; exact nI_inbT (by omega) (by omega)) ?_
  simp (disch := omega) only [nI_mulN, nI_add, nI_clamp, h1, h2, nI_abs, Nat.reduceAdd, Nat.zero_add]
  refine b46_23 (by simp only [nI_mulN, nI_add]; exact nI_inbT (by omega) (by omega)) ?_
  simp (disch := omega) only [nI_mulN, nI_add, nI_clamp, h1, h2, nI_abs, Nat.reduceAdd, Nat.zero_add]
  refine b46_41 (fun h => absurd h (by decide)) (fun _ => ?_)
  refine b46_47 (by simp only [nI_mulN, nI_add]; exact nI_inbT (by omega) (by omega)) (by simp only [nI_mulN, nI_add]; exact nI_inbT (by omega) (by omega)) ?_
  simp (disch := omega) only [nI_mulN, nI_add, nI_clamp, h1, h2, nI_abs, Nat.reduceAdd, Nat.zero_add]
  refine b46_75 ?_
  simp (disch := omega) only [nI_mulN, nI_add, nI_clamp, h1, h2, nI_abs, Nat.reduceAdd, Nat.zero_add]
  refine b46_41 (fun h => absurd h (by decide)) (fun _ => ?_)
  refine b46_47 (by simp only [nI_mulN, nI_add]; exact nI_inbT (by omega) (by omega)) (by simp only [nI_mulN, nI_add]; exact nI_inbT (by omega) (by omega)) ?_
  simp (disch := omega) only [nI_mulN, nI_add, nI_clamp, h1, h2, nI_abs, Nat.reduceAdd, Nat.zero_add]
  refine b46_75 ?_
  simp (disch := omega) only [nI_mulN, nI_add, nI_clamp, h1, h2, nI_abs, Nat.reduceAdd, Nat.zero_add]
  refine b46_41 (fun h => absurd h (by decide)) (fun _ => ?_)
  refine b46_47 (by simp only [nI_mulN, nI_add]; exact nI_inbT (by omega) (by omega)) (by simp only [nI_mulN, nI_add]; exact nI_inbT (by omega) (by omega)) ?_
  simp (disch := omega) only [nI_mulN, nI_add, nI_clamp, h1, h2, nI_abs, Nat.reduceAdd, Nat.zero_add]
  refine b46_75 ?_
  simp (disch := omega) only [nI_mulN, nI_add, nI_clamp, h1, h2, nI_abs, Nat.reduceAdd, Nat.zero_add]
  refine b46_41 (fun h => absurd h (by decide)) (fun _ => ?_)
  refine b46_47 (by simp only [nI_mulN, nI_add]; exact nI_inbT (by omega) (by omega)) (by simp only [nI_mulN, nI_add]; exact nI_inbT (by omega) (by omega)) ?_
  simp (disch := omega) only [nI_mulN, nI_add, nI_clamp, h1, h2, nI_abs, Nat.reduceAdd, Nat.zero_add]
  refine b46_75 ?_
  simp (disch := omega) only [nI_mulN, nI_add, nI_clamp, h1, h2, nI_abs, Nat.reduceAdd, Nat.zero_add]
  refine b46_41 (fun _ => ?_) (fun h => absurd (by decide) h)
  exact b46_83
