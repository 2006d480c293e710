/-! ===== the class: what changes a scroll ===== -/
def gup {α : Type} (f : Nat → α) (k : Nat) (x : α) : Nat → α := fun j => if j = k then x else f j
theorem cpy0 {α : Type} {f g : Nat → α} {n j : Nat} (h : j < n) : va_cpy f g 0 0 n j = f j := by
  rw [pk_cpy_in (Nat.zero_le _) (by omega)]
  congr 1
  omega
theorem RepC_g {D D2 : Nat → Nat → Int32} {b : Nat} {V : ZV} (h : ∀ a, b ≤ a → a ≤ b + 6 → D2 a = D a) (R : RepC D b V) : RepC D2 b V := by
  obtain ⟨r0, r1, rw, re, rc, rh, rr, rs0, rs1⟩ := id R
  refine ⟨by rw [h b (by omega) (by omega)]; exact r0, by rw [h b (by omega) (by omega)]; exact r1, fun p hp => ?_, fun p j hp hj => ?_, fun p hp => ?_, fun p i x hp hx => ?_, fun i hi => ?_, ?_, ?_⟩
  · rw [h (b + 1) (by omega) (by omega)]; exact rw p hp
  · rw [h (b + 2) (by omega) (by omega)]; exact re p j hp hj
  · rw [h (b + 3) (by omega) (by omega)]; exact rc p hp
  · rw [h (b + 4) (by omega) (by omega)]; exact rh p i x hp hx
  · rw [h (b + 5) (by omega) (by omega)]; exact rr i hi
  · rw [h (b + 6) (by omega) (by omega)]; exact rs0
  · rw [h (b + 6) (by omega) (by omega)]; exact rs1
theorem RepC_cp {D D2 : Nat → Nat → Int32} {x y : Nat} {V : ZV} (hv : Valid V) (R : RepC D y V) (e0 : D2 x 0 = D y 0) (e1 : D2 x 1 = D y 1) (e2 : ∀ i, i < 7 → D2 (x + 1) i = D (y + 1) i) (e3 : ∀ i, i < 70 → D2 (x + 2) i = D (y + 2) i) (e4 : ∀ i, i < 7 → D2 (x + 3) i = D (y + 3) i) (e5 : ∀ i, i < 28 → D2 (x + 4) i = D (y + 4) i) (e6 : ∀ i, i < 7 → D2 (x + 5) i = D (y + 5) i) (e7 : ∀ i, i < 2 → D2 (x + 6) i = D (y + 6) i) : RepC D2 x V := by
  obtain ⟨r0, r1, rw, re, rc, rh, rr, rs0, rs1⟩ := id R
  have h7 := hv.1
  refine ⟨by rw [e0]; exact r0, by rw [e1]; exact r1, fun p hp => ?_, fun p j hp hj => ?_, fun p hp => ?_, fun p i x hp hx => ?_, fun i hi => ?_, ?_, ?_⟩
  · rw [e2 p (by omega)]; exact rw p hp
  · rw [e3 _ (by omega)]; exact re p j hp hj
  · rw [e4 p (by omega)]; exact rc p hp
  · have h4 := hv.2.2.2.2.1 p hp
    have hx2 := hx
    rw [hx_nth_eq] at hx2
    have := (List.getElem?_eq_some_iff.mp hx2).1
    rw [e5 _ (by omega)]; exact rh p i x hp hx
  · rw [e6 i (by omega)]; exact rr i hi
  · rw [e7 0 (by omega)]; exact rs0
  · rw [e7 1 (by omega)]; exact rs1
theorem m34 {sc : Nat × (Nat → Int32)} {d : Nat} {D : Nat → Nat → Int32} {G : Nat → Nat → Int64} : Cq sc d 34 [.ref 65, .ref 1] D G (fun r D2 => r = .inl none ∧ (∀ X, Valid X → RepC D 1 X → RepC D2 65 X) ∧ ∀ a, a < 65 ∨ 71 < a → D2 a = D a) := by
  refine Cq.c (fun _ _ _ => c34) ?_
  refine Rq.s (fun _ => b34_0 (by decide +kernel)) ?_
  try simp (disch := omega) only [nI_add, nI_mulN, pk_sub, nI_clamp, Nat.reduceAdd, Nat.reduceMul, Nat.reduceSub, Nat.zero_add, Nat.add_zero]
  refine Rq.s (fun _ => b34_31 (by decide +kernel) (by decide +kernel)) ?_
  try simp (disch := omega) only [nI_add, nI_mulN, pk_sub, nI_clamp, Nat.reduceAdd, Nat.reduceMul, Nat.reduceSub, Nat.zero_add, Nat.add_zero]
  refine Rq.s (fun _ => b34_61 (by decide +kernel) (by decide +kernel)) ?_
  try simp (disch := omega) only [nI_add, nI_mulN, pk_sub, nI_clamp, Nat.reduceAdd, Nat.reduceMul, Nat.reduceSub, Nat.zero_add, Nat.add_zero]
  refine Rq.e (b34_91 (by decide +kernel)) ?_
  rw [nI_clamp (show 0 < 2 ^ 31 by omega), nI_clamp (show 2 < 2 ^ 31 by omega)]
  refine ⟨rfl, fun X hX hR => RepC_cp hX hR ?_ ?_ ?_ ?_ ?_ ?_ ?_ ?_, fun a ha => ?_⟩
  · simp [hx_row_at, hx_up_at]
  · simp [hx_row_at, hx_up_at]
  · intro i hi
    simp [hx_row_at, hx_up_at, cpy0, hi]
  · intro i hi
    simp [hx_row_at, hx_up_at, cpy0, hi]
  · intro i hi
    simp [hx_row_at, hx_up_at, cpy0, hi]
  · intro i hi
    simp [hx_row_at, hx_up_at, cpy0, hi]
  · intro i hi
    simp [hx_row_at, hx_up_at, cpy0, hi]
  · intro i hi
    simp [hx_row_at, hx_up_at, cpy0, hi]
  · simp (disch := omega) only [hx_row_ne, hx_up_ne]
theorem m34_1 {sc : Nat × (Nat → Int32)} {d : Nat} {D : Nat → Nat → Int32} {G : Nat → Nat → Int64} : Cq sc d 34 [.ref 72, .ref 1] D G (fun r D2 => r = .inl none ∧ (∀ X, Valid X → RepC D 1 X → RepC D2 72 X) ∧ ∀ a, a < 72 ∨ 78 < a → D2 a = D a) := by
  refine Cq.c (fun _ _ _ => c34_1) ?_
  refine Rq.s (fun _ => b34_1_0 (by decide +kernel)) ?_
  try simp (disch := omega) only [nI_add, nI_mulN, pk_sub, nI_clamp, Nat.reduceAdd, Nat.reduceMul, Nat.reduceSub, Nat.zero_add, Nat.add_zero]
  refine Rq.s (fun _ => b34_1_31 (by decide +kernel) (by decide +kernel)) ?_
  try simp (disch := omega) only [nI_add, nI_mulN, pk_sub, nI_clamp, Nat.reduceAdd, Nat.reduceMul, Nat.reduceSub, Nat.zero_add, Nat.add_zero]
  refine Rq.s (fun _ => b34_1_61 (by decide +kernel) (by decide +kernel)) ?_
  try simp (disch := omega) only [nI_add, nI_mulN, pk_sub, nI_clamp, Nat.reduceAdd, Nat.reduceMul, Nat.reduceSub, Nat.zero_add, Nat.add_zero]
  refine Rq.e (b34_1_91 (by decide +kernel)) ?_
  rw [nI_clamp (show 0 < 2 ^ 31 by omega), nI_clamp (show 2 < 2 ^ 31 by omega)]
  refine ⟨rfl, fun X hX hR => RepC_cp hX hR ?_ ?_ ?_ ?_ ?_ ?_ ?_ ?_, fun a ha => ?_⟩
  · simp [hx_row_at, hx_up_at]
  · simp [hx_row_at, hx_up_at]
  · intro i hi
    simp [hx_row_at, hx_up_at, cpy0, hi]
  · intro i hi
    simp [hx_row_at, hx_up_at, cpy0, hi]
  · intro i hi
    simp [hx_row_at, hx_up_at, cpy0, hi]
  · intro i hi
    simp [hx_row_at, hx_up_at, cpy0, hi]
  · intro i hi
    simp [hx_row_at, hx_up_at, cpy0, hi]
  · intro i hi
    simp [hx_row_at, hx_up_at, cpy0, hi]
  · simp (disch := omega) only [hx_row_ne, hx_up_ne]
theorem m34_2 {sc : Nat × (Nat → Int32)} {d : Nat} {D : Nat → Nat → Int32} {G : Nat → Nat → Int64} : Cq sc d 34 [.ref 1, .ref 65] D G (fun r D2 => r = .inl none ∧ (∀ X, Valid X → RepC D 65 X → RepC D2 1 X) ∧ ∀ a, a < 1 ∨ 7 < a → D2 a = D a) := by
  refine Cq.c (fun _ _ _ => c34_2) ?_
  refine Rq.s (fun _ => b34_2_0 (by decide +kernel)) ?_
  try simp (disch := omega) only [nI_add, nI_mulN, pk_sub, nI_clamp, Nat.reduceAdd, Nat.reduceMul, Nat.reduceSub, Nat.zero_add, Nat.add_zero]
  refine Rq.s (fun _ => b34_2_31 (by decide +kernel) (by decide +kernel)) ?_
  try simp (disch := omega) only [nI_add, nI_mulN, pk_sub, nI_clamp, Nat.reduceAdd, Nat.reduceMul, Nat.reduceSub, Nat.zero_add, Nat.add_zero]
  refine Rq.s (fun _ => b34_2_61 (by decide +kernel) (by decide +kernel)) ?_
  try simp (disch := omega) only [nI_add, nI_mulN, pk_sub, nI_clamp, Nat.reduceAdd, Nat.reduceMul, Nat.reduceSub, Nat.zero_add, Nat.add_zero]
  refine Rq.e (b34_2_91 (by decide +kernel)) ?_
  rw [nI_clamp (show 0 < 2 ^ 31 by omega), nI_clamp (show 2 < 2 ^ 31 by omega)]
  refine ⟨rfl, fun X hX hR => RepC_cp hX hR ?_ ?_ ?_ ?_ ?_ ?_ ?_ ?_, fun a ha => ?_⟩
  · simp [hx_row_at, hx_up_at]
  · simp [hx_row_at, hx_up_at]
  · intro i hi
    simp [hx_row_at, hx_up_at, cpy0, hi]
  · intro i hi
    simp [hx_row_at, hx_up_at, cpy0, hi]
  · intro i hi
    simp [hx_row_at, hx_up_at, cpy0, hi]
  · intro i hi
    simp [hx_row_at, hx_up_at, cpy0, hi]
  · intro i hi
    simp [hx_row_at, hx_up_at, cpy0, hi]
  · intro i hi
    simp [hx_row_at, hx_up_at, cpy0, hi]
  · simp (disch := omega) only [hx_row_ne, hx_up_ne]
theorem m34_3 {sc : Nat × (Nat → Int32)} {d : Nat} {D : Nat → Nat → Int32} {G : Nat → Nat → Int64} : Cq sc d 34 [.ref 1, .ref 72] D G (fun r D2 => r = .inl none ∧ (∀ X, Valid X → RepC D 72 X → RepC D2 1 X) ∧ ∀ a, a < 1 ∨ 7 < a → D2 a = D a) := by
  refine Cq.c (fun _ _ _ => c34_3) ?_
  refine Rq.s (fun _ => b34_3_0 (by decide +kernel)) ?_
  try simp (disch := omega) only [nI_add, nI_mulN, pk_sub, nI_clamp, Nat.reduceAdd, Nat.reduceMul, Nat.reduceSub, Nat.zero_add, Nat.add_zero]
  refine Rq.s (fun _ => b34_3_31 (by decide +kernel) (by decide +kernel)) ?_
  try simp (disch := omega) only [nI_add, nI_mulN, pk_sub, nI_clamp, Nat.reduceAdd, Nat.reduceMul, Nat.reduceSub, Nat.zero_add, Nat.add_zero]
  refine Rq.s (fun _ => b34_3_61 (by decide +kernel) (by decide +kernel)) ?_
  try simp (disch := omega) only [nI_add, nI_mulN, pk_sub, nI_clamp, Nat.reduceAdd, Nat.reduceMul, Nat.reduceSub, Nat.zero_add, Nat.add_zero]
  refine Rq.e (b34_3_91 (by decide +kernel)) ?_
  rw [nI_clamp (show 0 < 2 ^ 31 by omega), nI_clamp (show 2 < 2 ^ 31 by omega)]
  refine ⟨rfl, fun X hX hR => RepC_cp hX hR ?_ ?_ ?_ ?_ ?_ ?_ ?_ ?_, fun a ha => ?_⟩
  · simp [hx_row_at, hx_up_at]
  · simp [hx_row_at, hx_up_at]
  · intro i hi
    simp [hx_row_at, hx_up_at, cpy0, hi]
  · intro i hi
    simp [hx_row_at, hx_up_at, cpy0, hi]
  · intro i hi
    simp [hx_row_at, hx_up_at, cpy0, hi]
  · intro i hi
    simp [hx_row_at, hx_up_at, cpy0, hi]
  · intro i hi
    simp [hx_row_at, hx_up_at, cpy0, hi]
  · intro i hi
    simp [hx_row_at, hx_up_at, cpy0, hi]
  · simp (disch := omega) only [hx_row_ne, hx_up_ne]
theorem m34_4 {sc : Nat × (Nat → Int32)} {d : Nat} {D : Nat → Nat → Int32} {G : Nat → Nat → Int64} : Cq sc d 34 [.ref 1, .ref 23] D G (fun r D2 => r = .inl none ∧ (∀ X, Valid X → RepC D 23 X → RepC D2 1 X) ∧ ∀ a, a < 1 ∨ 7 < a → D2 a = D a) := by
  refine Cq.c (fun _ _ _ => c34_4) ?_
  refine Rq.s (fun _ => b34_4_0 (by decide +kernel)) ?_
  try simp (disch := omega) only [nI_add, nI_mulN, pk_sub, nI_clamp, Nat.reduceAdd, Nat.reduceMul, Nat.reduceSub, Nat.zero_add, Nat.add_zero]
  refine Rq.s (fun _ => b34_4_31 (by decide +kernel) (by decide +kernel)) ?_
  try simp (disch := omega) only [nI_add, nI_mulN, pk_sub, nI_clamp, Nat.reduceAdd, Nat.reduceMul, Nat.reduceSub, Nat.zero_add, Nat.add_zero]
  refine Rq.s (fun _ => b34_4_61 (by decide +kernel) (by decide +kernel)) ?_
  try simp (disch := omega) only [nI_add, nI_mulN, pk_sub, nI_clamp, Nat.reduceAdd, Nat.reduceMul, Nat.reduceSub, Nat.zero_add, Nat.add_zero]
  refine Rq.e (b34_4_91 (by decide +kernel)) ?_
  rw [nI_clamp (show 0 < 2 ^ 31 by omega), nI_clamp (show 2 < 2 ^ 31 by omega)]
  refine ⟨rfl, fun X hX hR => RepC_cp hX hR ?_ ?_ ?_ ?_ ?_ ?_ ?_ ?_, fun a ha => ?_⟩
  · simp [hx_row_at, hx_up_at]
  · simp [hx_row_at, hx_up_at]
  · intro i hi
    simp [hx_row_at, hx_up_at, cpy0, hi]
  · intro i hi
    simp [hx_row_at, hx_up_at, cpy0, hi]
  · intro i hi
    simp [hx_row_at, hx_up_at, cpy0, hi]
  · intro i hi
    simp [hx_row_at, hx_up_at, cpy0, hi]
  · intro i hi
    simp [hx_row_at, hx_up_at, cpy0, hi]
  · intro i hi
    simp [hx_row_at, hx_up_at, cpy0, hi]
  · simp (disch := omega) only [hx_row_ne, hx_up_ne]
theorem m34_5 {sc : Nat × (Nat → Int32)} {d : Nat} {D : Nat → Nat → Int32} {G : Nat → Nat → Int64} : Cq sc d 34 [.ref 1, .ref 30] D G (fun r D2 => r = .inl none ∧ (∀ X, Valid X → RepC D 30 X → RepC D2 1 X) ∧ ∀ a, a < 1 ∨ 7 < a → D2 a = D a) := by
  refine Cq.c (fun _ _ _ => c34_5) ?_
  refine Rq.s (fun _ => b34_5_0 (by decide +kernel)) ?_
  try simp (disch := omega) only [nI_add, nI_mulN, pk_sub, nI_clamp, Nat.reduceAdd, Nat.reduceMul, Nat.reduceSub, Nat.zero_add, Nat.add_zero]
  refine Rq.s (fun _ => b34_5_31 (by decide +kernel) (by decide +kernel)) ?_
  try simp (disch := omega) only [nI_add, nI_mulN, pk_sub, nI_clamp, Nat.reduceAdd, Nat.reduceMul, Nat.reduceSub, Nat.zero_add, Nat.add_zero]
  refine Rq.s (fun _ => b34_5_61 (by decide +kernel) (by decide +kernel)) ?_
  try simp (disch := omega) only [nI_add, nI_mulN, pk_sub, nI_clamp, Nat.reduceAdd, Nat.reduceMul, Nat.reduceSub, Nat.zero_add, Nat.add_zero]
  refine Rq.e (b34_5_91 (by decide +kernel)) ?_
  rw [nI_clamp (show 0 < 2 ^ 31 by omega), nI_clamp (show 2 < 2 ^ 31 by omega)]
  refine ⟨rfl, fun X hX hR => RepC_cp hX hR ?_ ?_ ?_ ?_ ?_ ?_ ?_ ?_, fun a ha => ?_⟩
  · simp [hx_row_at, hx_up_at]
  · simp [hx_row_at, hx_up_at]
  · intro i hi
    simp [hx_row_at, hx_up_at, cpy0, hi]
  · intro i hi
    simp [hx_row_at, hx_up_at, cpy0, hi]
  · intro i hi
    simp [hx_row_at, hx_up_at, cpy0, hi]
  · intro i hi
    simp [hx_row_at, hx_up_at, cpy0, hi]
  · intro i hi
    simp [hx_row_at, hx_up_at, cpy0, hi]
  · intro i hi
    simp [hx_row_at, hx_up_at, cpy0, hi]
  · simp (disch := omega) only [hx_row_ne, hx_up_ne]
theorem m34_6 {sc : Nat × (Nat → Int32)} {d : Nat} {D : Nat → Nat → Int32} {G : Nat → Nat → Int64} : Cq sc d 34 [.ref 1, .ref 37] D G (fun r D2 => r = .inl none ∧ (∀ X, Valid X → RepC D 37 X → RepC D2 1 X) ∧ ∀ a, a < 1 ∨ 7 < a → D2 a = D a) := by
  refine Cq.c (fun _ _ _ => c34_6) ?_
  refine Rq.s (fun _ => b34_6_0 (by decide +kernel)) ?_
  try simp (disch := omega) only [nI_add, nI_mulN, pk_sub, nI_clamp, Nat.reduceAdd, Nat.reduceMul, Nat.reduceSub, Nat.zero_add, Nat.add_zero]
  refine Rq.s (fun _ => b34_6_31 (by decide +kernel) (by decide +kernel)) ?_
  try simp (disch := omega) only [nI_add, nI_mulN, pk_sub, nI_clamp, Nat.reduceAdd, Nat.reduceMul, Nat.reduceSub, Nat.zero_add, Nat.add_zero]
  refine Rq.s (fun _ => b34_6_61 (by decide +kernel) (by decide +kernel)) ?_
  try simp (disch := omega) only [nI_add, nI_mulN, pk_sub, nI_clamp, Nat.reduceAdd, Nat.reduceMul, Nat.reduceSub, Nat.zero_add, Nat.add_zero]
  refine Rq.e (b34_6_91 (by decide +kernel)) ?_
  rw [nI_clamp (show 0 < 2 ^ 31 by omega), nI_clamp (show 2 < 2 ^ 31 by omega)]
  refine ⟨rfl, fun X hX hR => RepC_cp hX hR ?_ ?_ ?_ ?_ ?_ ?_ ?_ ?_, fun a ha => ?_⟩
  · simp [hx_row_at, hx_up_at]
  · simp [hx_row_at, hx_up_at]
  · intro i hi
    simp [hx_row_at, hx_up_at, cpy0, hi]
  · intro i hi
    simp [hx_row_at, hx_up_at, cpy0, hi]
  · intro i hi
    simp [hx_row_at, hx_up_at, cpy0, hi]
  · intro i hi
    simp [hx_row_at, hx_up_at, cpy0, hi]
  · intro i hi
    simp [hx_row_at, hx_up_at, cpy0, hi]
  · intro i hi
    simp [hx_row_at, hx_up_at, cpy0, hi]
  · simp (disch := omega) only [hx_row_ne, hx_up_ne]
theorem m34_7 {sc : Nat × (Nat → Int32)} {d : Nat} {D : Nat → Nat → Int32} {G : Nat → Nat → Int64} : Cq sc d 34 [.ref 1, .ref 44] D G (fun r D2 => r = .inl none ∧ (∀ X, Valid X → RepC D 44 X → RepC D2 1 X) ∧ ∀ a, a < 1 ∨ 7 < a → D2 a = D a) := by
  refine Cq.c (fun _ _ _ => c34_7) ?_
  refine Rq.s (fun _ => b34_7_0 (by decide +kernel)) ?_
  try simp (disch := omega) only [nI_add, nI_mulN, pk_sub, nI_clamp, Nat.reduceAdd, Nat.reduceMul, Nat.reduceSub, Nat.zero_add, Nat.add_zero]
  refine Rq.s (fun _ => b34_7_31 (by decide +kernel) (by decide +kernel)) ?_
  try simp (disch := omega) only [nI_add, nI_mulN, pk_sub, nI_clamp, Nat.reduceAdd, Nat.reduceMul, Nat.reduceSub, Nat.zero_add, Nat.add_zero]
  refine Rq.s (fun _ => b34_7_61 (by decide +kernel) (by decide +kernel)) ?_
  try simp (disch := omega) only [nI_add, nI_mulN, pk_sub, nI_clamp, Nat.reduceAdd, Nat.reduceMul, Nat.reduceSub, Nat.zero_add, Nat.add_zero]
  refine Rq.e (b34_7_91 (by decide +kernel)) ?_
  rw [nI_clamp (show 0 < 2 ^ 31 by omega), nI_clamp (show 2 < 2 ^ 31 by omega)]
  refine ⟨rfl, fun X hX hR => RepC_cp hX hR ?_ ?_ ?_ ?_ ?_ ?_ ?_ ?_, fun a ha => ?_⟩
  · simp [hx_row_at, hx_up_at]
  · simp [hx_row_at, hx_up_at]
  · intro i hi
    simp [hx_row_at, hx_up_at, cpy0, hi]
  · intro i hi
    simp [hx_row_at, hx_up_at, cpy0, hi]
  · intro i hi
    simp [hx_row_at, hx_up_at, cpy0, hi]
  · intro i hi
    simp [hx_row_at, hx_up_at, cpy0, hi]
  · intro i hi
    simp [hx_row_at, hx_up_at, cpy0, hi]
  · intro i hi
    simp [hx_row_at, hx_up_at, cpy0, hi]
  · simp (disch := omega) only [hx_row_ne, hx_up_ne]
theorem m34_8 {sc : Nat × (Nat → Int32)} {d : Nat} {D : Nat → Nat → Int32} {G : Nat → Nat → Int64} : Cq sc d 34 [.ref 1, .ref 51] D G (fun r D2 => r = .inl none ∧ (∀ X, Valid X → RepC D 51 X → RepC D2 1 X) ∧ ∀ a, a < 1 ∨ 7 < a → D2 a = D a) := by
  refine Cq.c (fun _ _ _ => c34_8) ?_
  refine Rq.s (fun _ => b34_8_0 (by decide +kernel)) ?_
  try simp (disch := omega) only [nI_add, nI_mulN, pk_sub, nI_clamp, Nat.reduceAdd, Nat.reduceMul, Nat.reduceSub, Nat.zero_add, Nat.add_zero]
  refine Rq.s (fun _ => b34_8_31 (by decide +kernel) (by decide +kernel)) ?_
  try simp (disch := omega) only [nI_add, nI_mulN, pk_sub, nI_clamp, Nat.reduceAdd, Nat.reduceMul, Nat.reduceSub, Nat.zero_add, Nat.add_zero]
  refine Rq.s (fun _ => b34_8_61 (by decide +kernel) (by decide +kernel)) ?_
  try simp (disch := omega) only [nI_add, nI_mulN, pk_sub, nI_clamp, Nat.reduceAdd, Nat.reduceMul, Nat.reduceSub, Nat.zero_add, Nat.add_zero]
  refine Rq.e (b34_8_91 (by decide +kernel)) ?_
  rw [nI_clamp (show 0 < 2 ^ 31 by omega), nI_clamp (show 2 < 2 ^ 31 by omega)]
  refine ⟨rfl, fun X hX hR => RepC_cp hX hR ?_ ?_ ?_ ?_ ?_ ?_ ?_ ?_, fun a ha => ?_⟩
  · simp [hx_row_at, hx_up_at]
  · simp [hx_row_at, hx_up_at]
  · intro i hi
    simp [hx_row_at, hx_up_at, cpy0, hi]
  · intro i hi
    simp [hx_row_at, hx_up_at, cpy0, hi]
  · intro i hi
    simp [hx_row_at, hx_up_at, cpy0, hi]
  · intro i hi
    simp [hx_row_at, hx_up_at, cpy0, hi]
  · intro i hi
    simp [hx_row_at, hx_up_at, cpy0, hi]
  · intro i hi
    simp [hx_row_at, hx_up_at, cpy0, hi]
  · simp (disch := omega) only [hx_row_ne, hx_up_ne]
theorem m34_9 {sc : Nat × (Nat → Int32)} {d : Nat} {D : Nat → Nat → Int32} {G : Nat → Nat → Int64} : Cq sc d 34 [.ref 1, .ref 58] D G (fun r D2 => r = .inl none ∧ (∀ X, Valid X → RepC D 58 X → RepC D2 1 X) ∧ ∀ a, a < 1 ∨ 7 < a → D2 a = D a) := by
  refine Cq.c (fun _ _ _ => c34_9) ?_
  refine Rq.s (fun _ => b34_9_0 (by decide +kernel)) ?_
  try simp (disch := omega) only [nI_add, nI_mulN, pk_sub, nI_clamp, Nat.reduceAdd, Nat.reduceMul, Nat.reduceSub, Nat.zero_add, Nat.add_zero]
  refine Rq.s (fun _ => b34_9_31 (by decide +kernel) (by decide +kernel)) ?_
  try simp (disch := omega) only [nI_add, nI_mulN, pk_sub, nI_clamp, Nat.reduceAdd, Nat.reduceMul, Nat.reduceSub, Nat.zero_add, Nat.add_zero]
  refine Rq.s (fun _ => b34_9_61 (by decide +kernel) (by decide +kernel)) ?_
  try simp (disch := omega) only [nI_add, nI_mulN, pk_sub, nI_clamp, Nat.reduceAdd, Nat.reduceMul, Nat.reduceSub, Nat.zero_add, Nat.add_zero]
  refine Rq.e (b34_9_91 (by decide +kernel)) ?_
  rw [nI_clamp (show 0 < 2 ^ 31 by omega), nI_clamp (show 2 < 2 ^ 31 by omega)]
  refine ⟨rfl, fun X hX hR => RepC_cp hX hR ?_ ?_ ?_ ?_ ?_ ?_ ?_ ?_, fun a ha => ?_⟩
  · simp [hx_row_at, hx_up_at]
  · simp [hx_row_at, hx_up_at]
  · intro i hi
    simp [hx_row_at, hx_up_at, cpy0, hi]
  · intro i hi
    simp [hx_row_at, hx_up_at, cpy0, hi]
  · intro i hi
    simp [hx_row_at, hx_up_at, cpy0, hi]
  · intro i hi
    simp [hx_row_at, hx_up_at, cpy0, hi]
  · intro i hi
    simp [hx_row_at, hx_up_at, cpy0, hi]
  · intro i hi
    simp [hx_row_at, hx_up_at, cpy0, hi]
  · simp (disch := omega) only [hx_row_ne, hx_up_ne]
theorem m34_10 {sc : Nat × (Nat → Int32)} {d : Nat} {D : Nat → Nat → Int32} {G : Nat → Nat → Int64} : Cq sc d 34 [.ref 23, .ref 1] D G (fun r D2 => r = .inl none ∧ (∀ X, Valid X → RepC D 1 X → RepC D2 23 X) ∧ ∀ a, a < 23 ∨ 29 < a → D2 a = D a) := by
  refine Cq.c (fun _ _ _ => c34_10) ?_
  refine Rq.s (fun _ => b34_10_0 (by decide +kernel)) ?_
  try simp (disch := omega) only [nI_add, nI_mulN, pk_sub, nI_clamp, Nat.reduceAdd, Nat.reduceMul, Nat.reduceSub, Nat.zero_add, Nat.add_zero]
  refine Rq.s (fun _ => b34_10_31 (by decide +kernel) (by decide +kernel)) ?_
  try simp (disch := omega) only [nI_add, nI_mulN, pk_sub, nI_clamp, Nat.reduceAdd, Nat.reduceMul, Nat.reduceSub, Nat.zero_add, Nat.add_zero]
  refine Rq.s (fun _ => b34_10_61 (by decide +kernel) (by decide +kernel)) ?_
  try simp (disch := omega) only [nI_add, nI_mulN, pk_sub, nI_clamp, Nat.reduceAdd, Nat.reduceMul, Nat.reduceSub, Nat.zero_add, Nat.add_zero]
  refine Rq.e (b34_10_91 (by decide +kernel)) ?_
  rw [nI_clamp (show 0 < 2 ^ 31 by omega), nI_clamp (show 2 < 2 ^ 31 by omega)]
  refine ⟨rfl, fun X hX hR => RepC_cp hX hR ?_ ?_ ?_ ?_ ?_ ?_ ?_ ?_, fun a ha => ?_⟩
  · simp [hx_row_at, hx_up_at]
  · simp [hx_row_at, hx_up_at]
  · intro i hi
    simp [hx_row_at, hx_up_at, cpy0, hi]
  · intro i hi
    simp [hx_row_at, hx_up_at, cpy0, hi]
  · intro i hi
    simp [hx_row_at, hx_up_at, cpy0, hi]
  · intro i hi
    simp [hx_row_at, hx_up_at, cpy0, hi]
  · intro i hi
    simp [hx_row_at, hx_up_at, cpy0, hi]
  · intro i hi
    simp [hx_row_at, hx_up_at, cpy0, hi]
  · simp (disch := omega) only [hx_row_ne, hx_up_ne]
theorem m34_11 {sc : Nat × (Nat → Int32)} {d : Nat} {D : Nat → Nat → Int32} {G : Nat → Nat → Int64} : Cq sc d 34 [.ref 30, .ref 1] D G (fun r D2 => r = .inl none ∧ (∀ X, Valid X → RepC D 1 X → RepC D2 30 X) ∧ ∀ a, a < 30 ∨ 36 < a → D2 a = D a) := by
  refine Cq.c (fun _ _ _ => c34_11) ?_
  refine Rq.s (fun _ => b34_11_0 (by decide +kernel)) ?_
  try simp (disch := omega) only [nI_add, nI_mulN, pk_sub, nI_clamp, Nat.reduceAdd, Nat.reduceMul, Nat.reduceSub, Nat.zero_add, Nat.add_zero]
  refine Rq.s (fun _ => b34_11_31 (by decide +kernel) (by decide +kernel)) ?_
  try simp (disch := omega) only [nI_add, nI_mulN, pk_sub, nI_clamp, Nat.reduceAdd, Nat.reduceMul, Nat.reduceSub, Nat.zero_add, Nat.add_zero]
  refine Rq.s (fun _ => b34_11_61 (by decide +kernel) (by decide +kernel)) ?_
  try simp (disch := omega) only [nI_add, nI_mulN, pk_sub, nI_clamp, Nat.reduceAdd, Nat.reduceMul, Nat.reduceSub, Nat.zero_add, Nat.add_zero]
  refine Rq.e (b34_11_91 (by decide +kernel)) ?_
  rw [nI_clamp (show 0 < 2 ^ 31 by omega), nI_clamp (show 2 < 2 ^ 31 by omega)]
  refine ⟨rfl, fun X hX hR => RepC_cp hX hR ?_ ?_ ?_ ?_ ?_ ?_ ?_ ?_, fun a ha => ?_⟩
  · simp [hx_row_at, hx_up_at]
  · simp [hx_row_at, hx_up_at]
  · intro i hi
    simp [hx_row_at, hx_up_at, cpy0, hi]
  · intro i hi
    simp [hx_row_at, hx_up_at, cpy0, hi]
  · intro i hi
    simp [hx_row_at, hx_up_at, cpy0, hi]
  · intro i hi
    simp [hx_row_at, hx_up_at, cpy0, hi]
  · intro i hi
    simp [hx_row_at, hx_up_at, cpy0, hi]
  · intro i hi
    simp [hx_row_at, hx_up_at, cpy0, hi]
  · simp (disch := omega) only [hx_row_ne, hx_up_ne]
theorem m34_12 {sc : Nat × (Nat → Int32)} {d : Nat} {D : Nat → Nat → Int32} {G : Nat → Nat → Int64} : Cq sc d 34 [.ref 37, .ref 1] D G (fun r D2 => r = .inl none ∧ (∀ X, Valid X → RepC D 1 X → RepC D2 37 X) ∧ ∀ a, a < 37 ∨ 43 < a → D2 a = D a) := by
  refine Cq.c (fun _ _ _ => c34_12) ?_
  refine Rq.s (fun _ => b34_12_0 (by decide +kernel)) ?_
  try simp (disch := omega) only [nI_add, nI_mulN, pk_sub, nI_clamp, Nat.reduceAdd, Nat.reduceMul, Nat.reduceSub, Nat.zero_add, Nat.add_zero]
  refine Rq.s (fun _ => b34_12_31 (by decide +kernel) (by decide +kernel)) ?_
  try simp (disch := omega) only [nI_add, nI_mulN, pk_sub, nI_clamp, Nat.reduceAdd, Nat.reduceMul, Nat.reduceSub, Nat.zero_add, Nat.add_zero]
  refine Rq.s (fun _ => b34_12_61 (by decide +kernel) (by decide +kernel)) ?_
  try simp (disch := omega) only [nI_add, nI_mulN, pk_sub, nI_clamp, Nat.reduceAdd, Nat.reduceMul, Nat.reduceSub, Nat.zero_add, Nat.add_zero]
  refine Rq.e (b34_12_91 (by decide +kernel)) ?_
  rw [nI_clamp (show 0 < 2 ^ 31 by omega), nI_clamp (show 2 < 2 ^ 31 by omega)]
  refine ⟨rfl, fun X hX hR => RepC_cp hX hR ?_ ?_ ?_ ?_ ?_ ?_ ?_ ?_, fun a ha => ?_⟩
  · simp [hx_row_at, hx_up_at]
  · simp [hx_row_at, hx_up_at]
  · intro i hi
    simp [hx_row_at, hx_up_at, cpy0, hi]
  · intro i hi
    simp [hx_row_at, hx_up_at, cpy0, hi]
  · intro i hi
    simp [hx_row_at, hx_up_at, cpy0, hi]
  · intro i hi
    simp [hx_row_at, hx_up_at, cpy0, hi]
  · intro i hi
    simp [hx_row_at, hx_up_at, cpy0, hi]
  · intro i hi
    simp [hx_row_at, hx_up_at, cpy0, hi]
  · simp (disch := omega) only [hx_row_ne, hx_up_ne]
theorem m34_13 {sc : Nat × (Nat → Int32)} {d : Nat} {D : Nat → Nat → Int32} {G : Nat → Nat → Int64} : Cq sc d 34 [.ref 44, .ref 1] D G (fun r D2 => r = .inl none ∧ (∀ X, Valid X → RepC D 1 X → RepC D2 44 X) ∧ ∀ a, a < 44 ∨ 50 < a → D2 a = D a) := by
  refine Cq.c (fun _ _ _ => c34_13) ?_
  refine Rq.s (fun _ => b34_13_0 (by decide +kernel)) ?_
  try simp (disch := omega) only [nI_add, nI_mulN, pk_sub, nI_clamp, Nat.reduceAdd, Nat.reduceMul, Nat.reduceSub, Nat.zero_add, Nat.add_zero]
  refine Rq.s (fun _ => b34_13_31 (by decide +kernel) (by decide +kernel)) ?_
  try simp (disch := omega) only [nI_add, nI_mulN, pk_sub, nI_clamp, Nat.reduceAdd, Nat.reduceMul, Nat.reduceSub, Nat.zero_add, Nat.add_zero]
  refine Rq.s (fun _ => b34_13_61 (by decide +kernel) (by decide +kernel)) ?_
  try simp (disch := omega) only [nI_add, nI_mulN, pk_sub, nI_clamp, Nat.reduceAdd, Nat.reduceMul, Nat.reduceSub, Nat.zero_add, Nat.add_zero]
  refine Rq.e (b34_13_91 (by decide +kernel)) ?_
  rw [nI_clamp (show 0 < 2 ^ 31 by omega), nI_clamp (show 2 < 2 ^ 31 by omega)]
  refine ⟨rfl, fun X hX hR => RepC_cp hX hR ?_ ?_ ?_ ?_ ?_ ?_ ?_ ?_, fun a ha => ?_⟩
  · simp [hx_row_at, hx_up_at]
  · simp [hx_row_at, hx_up_at]
  · intro i hi
    simp [hx_row_at, hx_up_at, cpy0, hi]
  · intro i hi
    simp [hx_row_at, hx_up_at, cpy0, hi]
  · intro i hi
    simp [hx_row_at, hx_up_at, cpy0, hi]
  · intro i hi
    simp [hx_row_at, hx_up_at, cpy0, hi]
  · intro i hi
    simp [hx_row_at, hx_up_at, cpy0, hi]
  · intro i hi
    simp [hx_row_at, hx_up_at, cpy0, hi]
  · simp (disch := omega) only [hx_row_ne, hx_up_ne]
theorem m34_14 {sc : Nat × (Nat → Int32)} {d : Nat} {D : Nat → Nat → Int32} {G : Nat → Nat → Int64} : Cq sc d 34 [.ref 51, .ref 1] D G (fun r D2 => r = .inl none ∧ (∀ X, Valid X → RepC D 1 X → RepC D2 51 X) ∧ ∀ a, a < 51 ∨ 57 < a → D2 a = D a) := by
  refine Cq.c (fun _ _ _ => c34_14) ?_
  refine Rq.s (fun _ => b34_14_0 (by decide +kernel)) ?_
  try simp (disch := omega) only [nI_add, nI_mulN, pk_sub, nI_clamp, Nat.reduceAdd, Nat.reduceMul, Nat.reduceSub, Nat.zero_add, Nat.add_zero]
  refine Rq.s (fun _ => b34_14_31 (by decide +kernel) (by decide +kernel)) ?_
  try simp (disch := omega) only [nI_add, nI_mulN, pk_sub, nI_clamp, Nat.reduceAdd, Nat.reduceMul, Nat.reduceSub, Nat.zero_add, Nat.add_zero]
  refine Rq.s (fun _ => b34_14_61 (by decide +kernel) (by decide +kernel)) ?_
  try simp (disch := omega) only [nI_add, nI_mulN, pk_sub, nI_clamp, Nat.reduceAdd, Nat.reduceMul, Nat.reduceSub, Nat.zero_add, Nat.add_zero]
  refine Rq.e (b34_14_91 (by decide +kernel)) ?_
  rw [nI_clamp (show 0 < 2 ^ 31 by omega), nI_clamp (show 2 < 2 ^ 31 by omega)]
  refine ⟨rfl, fun X hX hR => RepC_cp hX hR ?_ ?_ ?_ ?_ ?_ ?_ ?_ ?_, fun a ha => ?_⟩
  · simp [hx_row_at, hx_up_at]
  · simp [hx_row_at, hx_up_at]
  · intro i hi
    simp [hx_row_at, hx_up_at, cpy0, hi]
  · intro i hi
    simp [hx_row_at, hx_up_at, cpy0, hi]
  · intro i hi
    simp [hx_row_at, hx_up_at, cpy0, hi]
  · intro i hi
    simp [hx_row_at, hx_up_at, cpy0, hi]
  · intro i hi
    simp [hx_row_at, hx_up_at, cpy0, hi]
  · intro i hi
    simp [hx_row_at, hx_up_at, cpy0, hi]
  · simp (disch := omega) only [hx_row_ne, hx_up_ne]
theorem m34_15 {sc : Nat × (Nat → Int32)} {d : Nat} {D : Nat → Nat → Int32} {G : Nat → Nat → Int64} : Cq sc d 34 [.ref 58, .ref 1] D G (fun r D2 => r = .inl none ∧ (∀ X, Valid X → RepC D 1 X → RepC D2 58 X) ∧ ∀ a, a < 58 ∨ 64 < a → D2 a = D a) := by
  refine Cq.c (fun _ _ _ => c34_15) ?_
  refine Rq.s (fun _ => b34_15_0 (by decide +kernel)) ?_
  try simp (disch := omega) only [nI_add, nI_mulN, pk_sub, nI_clamp, Nat.reduceAdd, Nat.reduceMul, Nat.reduceSub, Nat.zero_add, Nat.add_zero]
  refine Rq.s (fun _ => b34_15_31 (by decide +kernel) (by decide +kernel)) ?_
  try simp (disch := omega) only [nI_add, nI_mulN, pk_sub, nI_clamp, Nat.reduceAdd, Nat.reduceMul, Nat.reduceSub, Nat.zero_add, Nat.add_zero]
  refine Rq.s (fun _ => b34_15_61 (by decide +kernel) (by decide +kernel)) ?_
  try simp (disch := omega) only [nI_add, nI_mulN, pk_sub, nI_clamp, Nat.reduceAdd, Nat.reduceMul, Nat.reduceSub, Nat.zero_add, Nat.add_zero]
  refine Rq.e (b34_15_91 (by decide +kernel)) ?_
  rw [nI_clamp (show 0 < 2 ^ 31 by omega), nI_clamp (show 2 < 2 ^ 31 by omega)]
  refine ⟨rfl, fun X hX hR => RepC_cp hX hR ?_ ?_ ?_ ?_ ?_ ?_ ?_ ?_, fun a ha => ?_⟩
  · simp [hx_row_at, hx_up_at]
  · simp [hx_row_at, hx_up_at]
  · intro i hi
    simp [hx_row_at, hx_up_at, cpy0, hi]
  · intro i hi
    simp [hx_row_at, hx_up_at, cpy0, hi]
  · intro i hi
    simp [hx_row_at, hx_up_at, cpy0, hi]
  · intro i hi
    simp [hx_row_at, hx_up_at, cpy0, hi]
  · intro i hi
    simp [hx_row_at, hx_up_at, cpy0, hi]
  · intro i hi
    simp [hx_row_at, hx_up_at, cpy0, hi]
  · simp (disch := omega) only [hx_row_ne, hx_up_ne]
