/-! ===== the class: keep, goBack, undo ===== -/
theorem z_bool1 : vp_nar .boolean (nI 1) = nI 1 := by decide +kernel
theorem kKeep {sc : Nat × (Nat → Int32)} {d : Nat} {D : Nat → Nat → Int32} {G : Nat → Nat → Int64} {t : ST} {x : Int} (bx1 : -2147483648 ≤ x) (bx2 : x < 2147483648) (I : InvC D t) (hs : SV t) : Cq sc (d + 1) 63 [.ref 0, .int (iI x)] D G (OKc D [0] (oKeep t x)) := by
  obtain ⟨r0, r1, rw, re, rc, rh, rr, rs0, rs1⟩ := rC I.1
  obtain ⟨h7, vw, ve, vh, vE, vr, vj, vs0, vs1⟩ := id hs.1
  have hv := hs.1
  obtain ⟨i1, i2, i3, i4⟩ := id I
  refine Cq.c (fun _ _ _ => c63) ?_
  unfold oKeep
  by_cases hp : 0 ≤ x ∧ x < 2
  · rw [if_pos hp]
    have h83 := m83T (sc := sc) (d := d) (D := D) (G := G) bx1 bx2 hp
    obtain ⟨x, rfl⟩ := arg_nat hp.1
    simp only [← i_nI, Int.toNat_natCast] at h83 ⊢
    refine Rq.s (fun _ => b63_0 h83) ?_
    rcases (by omega : x = 0 ∨ x = 1) with c | c <;> subst c
    · skip
      obtain ⟨_, D4, hC4, rfl, c1, c2⟩ := m34 (sc := sc) (d := d) (D := D) (G := G)
      refine Rq.s (fun _ => b63_4_q0 (by decide) (nI_inbT (by omega) (by omega))) ?_
      refine Rq.s (fun _ => b63_10 hC4) ?_
      have r4 : D4 1 0 = nI (zn (tV t)) := by rw [c2 1 (by omega)]; exact r0
      refine Rq.e (b63_17 (nI_inbT (by omega) (by omega))) ?_
      rw [r4, z_bool1, nI_clamp (by omega)]
      refine OKc.v rfl ⟨RepC_g (fun a a1 a2 => by rw [hx_up_ne (by omega), c2 a (by omega)]) i1, RingC_k (by rw [hx_up_ne (by omega), c2 0 (by omega)]) (by rw [hx_up_ne (by omega), c2 0 (by omega)]) (fun a a1 a2 => by rw [hx_up_ne (by omega), c2 a (by omega)]) i2, fun j hj => ?_, BF_k (by rw [hx_up_ne (by omega), c2 0 (by omega)]) (by rw [hx_up_ne (by omega), c2 11 (by omega)]) i4⟩ (fun a ha => by rw [hx_up_ne (by omega), c2 a (by omega)])
      show _ = nI (if (gup (tK t) 0 (some (tV t)) j).isSome = true then 1 else 0) ∧ ∀ X, gup (tK t) 0 (some (tV t)) j = some X → _
      by_cases e : j = 0
      · rw [e, gup_s]
        refine ⟨hx_up_s _ _ _ _, fun X hX => ?_⟩
        cases hX
        exact RepC_g (fun a a1 a2 => by rw [hx_up_ne (by omega)]) (c1 _ hv i1)
      · rw [gup_n _ _ e]
        have h3 := i3 j hj
        refine ⟨by rw [hx_up_in _ _ _ e, c2 10 (by omega)]; exact h3.1, fun X hX => ?_⟩
        exact RepC_g (fun a a1 a2 => by rw [hx_up_ne (by omega), c2 a (by omega)]) (h3.2 X hX)
    · skip
      obtain ⟨_, D4, hC4, rfl, c1, c2⟩ := m34_1 (sc := sc) (d := d) (D := D) (G := G)
      refine Rq.s (fun _ => b63_4_q1 (by decide) (nI_inbT (by omega) (by omega))) ?_
      refine Rq.s (fun _ => b63_10b hC4) ?_
      have r4 : D4 1 0 = nI (zn (tV t)) := by rw [c2 1 (by omega)]; exact r0
      refine Rq.e (b63_17 (nI_inbT (by omega) (by omega))) ?_
      rw [r4, z_bool1, nI_clamp (by omega)]
      refine OKc.v rfl ⟨RepC_g (fun a a1 a2 => by rw [hx_up_ne (by omega), c2 a (by omega)]) i1, RingC_k (by rw [hx_up_ne (by omega), c2 0 (by omega)]) (by rw [hx_up_ne (by omega), c2 0 (by omega)]) (fun a a1 a2 => by rw [hx_up_ne (by omega), c2 a (by omega)]) i2, fun j hj => ?_, BF_k (by rw [hx_up_ne (by omega), c2 0 (by omega)]) (by rw [hx_up_ne (by omega), c2 11 (by omega)]) i4⟩ (fun a ha => by rw [hx_up_ne (by omega), c2 a (by omega)])
      show _ = nI (if (gup (tK t) 1 (some (tV t)) j).isSome = true then 1 else 0) ∧ ∀ X, gup (tK t) 1 (some (tV t)) j = some X → _
      by_cases e : j = 1
      · rw [e, gup_s]
        refine ⟨hx_up_s _ _ _ _, fun X hX => ?_⟩
        cases hX
        exact RepC_g (fun a a1 a2 => by rw [hx_up_ne (by omega)]) (c1 _ hv i1)
      · rw [gup_n _ _ e]
        have h3 := i3 j hj
        refine ⟨by rw [hx_up_in _ _ _ e, c2 10 (by omega)]; exact h3.1, fun X hX => ?_⟩
        exact RepC_g (fun a a1 a2 => by rw [hx_up_ne (by omega), c2 a (by omega)]) (h3.2 X hX)
  · rw [if_neg hp]
    exact Rq.e (b63_0_x (m83F bx1 bx2 hp)) (OKc.x (k := 0) I rfl)
theorem kGoBack {sc : Nat × (Nat → Int32)} {d : Nat} {D : Nat → Nat → Int32} {G : Nat → Nat → Int64} {t : ST} {x : Int} (bx1 : -2147483648 ≤ x) (bx2 : x < 2147483648) (I : InvC D t) (hs : SV t) : Cq sc (d + 2) 64 [.ref 0, .int (iI x)] D G (OKc D [0, 1] (oGoBack t x)) := by
  obtain ⟨r0, r1, rw, re, rc, rh, rr, rs0, rs1⟩ := rC I.1
  obtain ⟨h7, vw, ve, vh, vE, vr, vj, vs0, vs1⟩ := id hs.1
  have hv := hs.1
  obtain ⟨i1, i2, i3, i4⟩ := id I
  refine Cq.c (fun _ _ _ => c64) ?_
  unfold oGoBack
  by_cases hp : 0 ≤ x ∧ x < 2
  · rw [if_pos hp]
    have h83 := m83T (sc := sc) (d := d + 1) (D := D) (G := G) bx1 bx2 hp
    obtain ⟨x, rfl⟩ := arg_nat hp.1
    simp only [← i_nI, Int.toNat_natCast] at h83 ⊢
    refine Rq.s (fun _ => b64_0 h83) ?_
    rcases (by omega : x = 0 ∨ x = 1) with c | c <;> subst c
    · skip
      have h3 := i3 0 (by omega)
      cases hK : tK t 0 with
      | none =>
        rw [hK] at h3
        refine Rq.bf (fun _ => b64_4 (nI_inbT (by omega) (by omega))) (by rw [nI_clamp (by omega), h3.1]; exact fun z => z rfl) ?_
        exact Rq.e b64_13 (OKc.x (k := 1) I rfl)
      | some X =>
        rw [hK] at h3
        refine Rq.bt (fun _ => b64_4 (nI_inbT (by omega) (by omega))) (by rw [nI_clamp (by omega), h3.1]; show ¬ nI 1 = 0; decide) ?_
        obtain ⟨_, D4, hC4, rfl, I4, k4⟩ := m85 (sc := sc) (d := d) (G := G) I hs
        refine Rq.s (fun _ => b64_23 hC4) ?_
        refine Rq.s (fun _ => b64_27_q0 (by decide) (nI_inbT (by omega) (by omega))) ?_
        obtain ⟨_, D5, hC5, rfl, c1, c2⟩ := m34_2 (sc := sc) (d := d + 1) (D := D4) (G := G)
        refine Rq.s (fun _ => b64_37 hC5) ?_
        have R5 : RepC D5 1 X := c1 X (hs.2.2.2.1 0 X hK) ((I4.2.2.1 0 (by omega)).2 X hK)
        refine Rq.e b64_40 ?_
        rw [(rC R5).1]
        exact OKc.v rfl (InvC_set I4 R5 (fun a ha => c2 a (by omega))) (fun a ha => by rw [c2 a (by omega), k4 a (by omega) (by omega)])
    · skip
      have h3 := i3 1 (by omega)
      cases hK : tK t 1 with
      | none =>
        rw [hK] at h3
        refine Rq.bf (fun _ => b64_4 (nI_inbT (by omega) (by omega))) (by rw [nI_clamp (by omega), h3.1]; exact fun z => z rfl) ?_
        exact Rq.e b64_13 (OKc.x (k := 1) I rfl)
      | some X =>
        rw [hK] at h3
        refine Rq.bt (fun _ => b64_4 (nI_inbT (by omega) (by omega))) (by rw [nI_clamp (by omega), h3.1]; show ¬ nI 1 = 0; decide) ?_
        obtain ⟨_, D4, hC4, rfl, I4, k4⟩ := m85 (sc := sc) (d := d) (G := G) I hs
        refine Rq.s (fun _ => b64_23 hC4) ?_
        refine Rq.s (fun _ => b64_27_q1 (by decide) (nI_inbT (by omega) (by omega))) ?_
        obtain ⟨_, D5, hC5, rfl, c1, c2⟩ := m34_3 (sc := sc) (d := d + 1) (D := D4) (G := G)
        refine Rq.s (fun _ => b64_37b hC5) ?_
        have R5 : RepC D5 1 X := c1 X (hs.2.2.2.1 1 X hK) ((I4.2.2.1 1 (by omega)).2 X hK)
        refine Rq.e b64_40 ?_
        rw [(rC R5).1]
        exact OKc.v rfl (InvC_set I4 R5 (fun a ha => c2 a (by omega))) (fun a ha => by rw [c2 a (by omega), k4 a (by omega) (by omega)])
  · rw [if_neg hp]
    exact Rq.e (b64_0_x (m83F bx1 bx2 hp)) (OKc.x (k := 0) I rfl)
theorem kUndo {sc : Nat × (Nat → Int32)} {d : Nat} {D : Nat → Nat → Int32} {G : Nat → Nat → Int64} {t : ST} (I : InvC D t) (hs : SV t) : Cq sc (d + 1) 65 [.ref 0] D G (OKc D [1] (oUndo t)) := by
  obtain ⟨i1, ⟨o, ho, hr2, hr3, hring⟩, i3, i4⟩ := id I
  have hl := hs.2.1
  refine Cq.c (fun _ _ _ => c65) ?_
  unfold oUndo
  by_cases c0 : (tS t).length = 0
  · rw [show hx_nth (tS t) ((tS t).length - 1) = none by rw [hx_nth_eq]; exact List.getElem?_eq_none (by omega)]
    refine Rq.bf (fun _ => b65_0) (by rw [hr3, c0]; decide) ?_
    exact Rq.e b65_8 (OKc.x (k := 0) I rfl)
  obtain ⟨X, hX⟩ : ∃ X, hx_nth (tS t) ((tS t).length - 1) = some X := ⟨_, by rw [hx_nth_eq]; exact List.getElem?_eq_getElem (by omega)⟩
  rw [hX]
  refine Rq.bt (fun _ => b65_0) (by rw [hr3]; exact nI_le (by omega) (by omega)) ?_
  have hix : (((D 0 2) + ((D 0 3) - (nI 1))) - ((D 0 2) + ((D 0 3) - (nI 1))) / (nI 6) * (nI 6)) = nI ((o + ((tS t).length - 1)) % 6) := by
    rw [hr2, hr3, pk_sub (by omega), nI_add, pk_rem (by omega) (by omega) (by omega)]
  have hX3 := hring _ X hX
  rcases (by omega : (o + ((tS t).length - 1)) % 6 = 0 ∨ (o + ((tS t).length - 1)) % 6 = 1 ∨ (o + ((tS t).length - 1)) % 6 = 2 ∨ (o + ((tS t).length - 1)) % 6 = 3 ∨ (o + ((tS t).length - 1)) % 6 = 4 ∨ (o + ((tS t).length - 1)) % 6 = 5) with e | e | e | e | e | e
  · refine Rq.s (fun _ => b65_18_q0 (by decide) (by rw [hix, nI_clamp (by omega)]; exact e) (by rw [hix]; exact nI_inbT (by omega) (by omega))) ?_
    obtain ⟨_, D4, hC4, rfl, c1, c2⟩ := m34_4 (sc := sc) (d := d) (D := hx_up D 0 3 ((D 0 3) - (nI 1))) (G := G)
    refine Rq.s (fun _ => b65_49 hC4) ?_
    rw [e] at hX3
    have R4 : RepC D4 1 X := c1 X (hs.2.2.1 X (by rw [hx_nth_eq] at hX; exact List.mem_of_getElem? hX)) (RepC_g (fun a a1 a2 => by rw [hx_up_ne (by omega)]) hX3)
    have e3 : D4 0 3 = nI ((tS t).length - 1) := by rw [c2 0 (by omega), hx_up_s, hr3, pk_sub (by omega)]
    refine Rq.e b65_52 ?_
    rw [e3]
    refine OKc.v rfl ⟨R4, ⟨o, ho, by rw [c2 0 (by omega), hx_up_in _ _ _ (by omega)]; exact hr2, by show _ = nI ((tS t).take ((tS t).length - 1)).length; rw [List.length_take, e3]; congr 1; omega, fun j Y hY => ?_⟩, SlotC_k (by rw [c2 10 (by omega), hx_up_ne (by omega)]) (fun a a1 a2 => by rw [c2 a (by omega), hx_up_ne (by omega)]) i3, BF_k (by rw [c2 0 (by omega), hx_up_in _ _ _ (by omega)]) (by rw [c2 11 (by omega), hx_up_ne (by omega)]) i4⟩ (fun a ha => by rw [c2 a (by omega), hx_up_ne (by omega)])
    have hY2 : hx_nth (tS t) j = some Y := by
      have hY3 : hx_nth ((tS t).take ((tS t).length - 1)) j = some Y := hY
      rw [hx_nth_eq] at hY3 ⊢
      have hj := (List.getElem?_eq_some_iff.mp hY3).1
      rw [List.length_take] at hj
      rw [List.getElem?_take, if_pos (by omega)] at hY3
      exact hY3
    exact RepC_g (fun a a1 a2 => by rw [c2 a (by omega), hx_up_ne (by omega)]) (hring j Y hY2)
  · refine Rq.s (fun _ => b65_18_q1 (by decide) (by rw [hix, nI_clamp (by omega)]; exact e) (by rw [hix]; exact nI_inbT (by omega) (by omega))) ?_
    obtain ⟨_, D4, hC4, rfl, c1, c2⟩ := m34_5 (sc := sc) (d := d) (D := hx_up D 0 3 ((D 0 3) - (nI 1))) (G := G)
    refine Rq.s (fun _ => b65_49b hC4) ?_
    rw [e] at hX3
    have R4 : RepC D4 1 X := c1 X (hs.2.2.1 X (by rw [hx_nth_eq] at hX; exact List.mem_of_getElem? hX)) (RepC_g (fun a a1 a2 => by rw [hx_up_ne (by omega)]) hX3)
    have e3 : D4 0 3 = nI ((tS t).length - 1) := by rw [c2 0 (by omega), hx_up_s, hr3, pk_sub (by omega)]
    refine Rq.e b65_52 ?_
    rw [e3]
    refine OKc.v rfl ⟨R4, ⟨o, ho, by rw [c2 0 (by omega), hx_up_in _ _ _ (by omega)]; exact hr2, by show _ = nI ((tS t).take ((tS t).length - 1)).length; rw [List.length_take, e3]; congr 1; omega, fun j Y hY => ?_⟩, SlotC_k (by rw [c2 10 (by omega), hx_up_ne (by omega)]) (fun a a1 a2 => by rw [c2 a (by omega), hx_up_ne (by omega)]) i3, BF_k (by rw [c2 0 (by omega), hx_up_in _ _ _ (by omega)]) (by rw [c2 11 (by omega), hx_up_ne (by omega)]) i4⟩ (fun a ha => by rw [c2 a (by omega), hx_up_ne (by omega)])
    have hY2 : hx_nth (tS t) j = some Y := by
      have hY3 : hx_nth ((tS t).take ((tS t).length - 1)) j = some Y := hY
      rw [hx_nth_eq] at hY3 ⊢
      have hj := (List.getElem?_eq_some_iff.mp hY3).1
      rw [List.length_take] at hj
      rw [List.getElem?_take, if_pos (by omega)] at hY3
      exact hY3
    exact RepC_g (fun a a1 a2 => by rw [c2 a (by omega), hx_up_ne (by omega)]) (hring j Y hY2)
  · refine Rq.s (fun _ => b65_18_q2 (by decide) (by rw [hix, nI_clamp (by omega)]; exact e) (by rw [hix]; exact nI_inbT (by omega) (by omega))) ?_
    obtain ⟨_, D4, hC4, rfl, c1, c2⟩ := m34_6 (sc := sc) (d := d) (D := hx_up D 0 3 ((D 0 3) - (nI 1))) (G := G)
    refine Rq.s (fun _ => b65_49c hC4) ?_
    rw [e] at hX3
    have R4 : RepC D4 1 X := c1 X (hs.2.2.1 X (by rw [hx_nth_eq] at hX; exact List.mem_of_getElem? hX)) (RepC_g (fun a a1 a2 => by rw [hx_up_ne (by omega)]) hX3)
    have e3 : D4 0 3 = nI ((tS t).length - 1) := by rw [c2 0 (by omega), hx_up_s, hr3, pk_sub (by omega)]
    refine Rq.e b65_52 ?_
    rw [e3]
    refine OKc.v rfl ⟨R4, ⟨o, ho, by rw [c2 0 (by omega), hx_up_in _ _ _ (by omega)]; exact hr2, by show _ = nI ((tS t).take ((tS t).length - 1)).length; rw [List.length_take, e3]; congr 1; omega, fun j Y hY => ?_⟩, SlotC_k (by rw [c2 10 (by omega), hx_up_ne (by omega)]) (fun a a1 a2 => by rw [c2 a (by omega), hx_up_ne (by omega)]) i3, BF_k (by rw [c2 0 (by omega), hx_up_in _ _ _ (by omega)]) (by rw [c2 11 (by omega), hx_up_ne (by omega)]) i4⟩ (fun a ha => by rw [c2 a (by omega), hx_up_ne (by omega)])
    have hY2 : hx_nth (tS t) j = some Y := by
      have hY3 : hx_nth ((tS t).take ((tS t).length - 1)) j = some Y := hY
      rw [hx_nth_eq] at hY3 ⊢
      have hj := (List.getElem?_eq_some_iff.mp hY3).1
      rw [List.length_take] at hj
      rw [List.getElem?_take, if_pos (by omega)] at hY3
      exact hY3
    exact RepC_g (fun a a1 a2 => by rw [c2 a (by omega), hx_up_ne (by omega)]) (hring j Y hY2)
  · refine Rq.s (fun _ => b65_18_q3 (by decide) (by rw [hix, nI_clamp (by omega)]; exact e) (by rw [hix]; exact nI_inbT (by omega) (by omega))) ?_
    obtain ⟨_, D4, hC4, rfl, c1, c2⟩ := m34_7 (sc := sc) (d := d) (D := hx_up D 0 3 ((D 0 3) - (nI 1))) (G := G)
    refine Rq.s (fun _ => b65_49d hC4) ?_
    rw [e] at hX3
    have R4 : RepC D4 1 X := c1 X (hs.2.2.1 X (by rw [hx_nth_eq] at hX; exact List.mem_of_getElem? hX)) (RepC_g (fun a a1 a2 => by rw [hx_up_ne (by omega)]) hX3)
    have e3 : D4 0 3 = nI ((tS t).length - 1) := by rw [c2 0 (by omega), hx_up_s, hr3, pk_sub (by omega)]
    refine Rq.e b65_52 ?_
    rw [e3]
    refine OKc.v rfl ⟨R4, ⟨o, ho, by rw [c2 0 (by omega), hx_up_in _ _ _ (by omega)]; exact hr2, by show _ = nI ((tS t).take ((tS t).length - 1)).length; rw [List.length_take, e3]; congr 1; omega, fun j Y hY => ?_⟩, SlotC_k (by rw [c2 10 (by omega), hx_up_ne (by omega)]) (fun a a1 a2 => by rw [c2 a (by omega), hx_up_ne (by omega)]) i3, BF_k (by rw [c2 0 (by omega), hx_up_in _ _ _ (by omega)]) (by rw [c2 11 (by omega), hx_up_ne (by omega)]) i4⟩ (fun a ha => by rw [c2 a (by omega), hx_up_ne (by omega)])
    have hY2 : hx_nth (tS t) j = some Y := by
      have hY3 : hx_nth ((tS t).take ((tS t).length - 1)) j = some Y := hY
      rw [hx_nth_eq] at hY3 ⊢
      have hj := (List.getElem?_eq_some_iff.mp hY3).1
      rw [List.length_take] at hj
      rw [List.getElem?_take, if_pos (by omega)] at hY3
      exact hY3
    exact RepC_g (fun a a1 a2 => by rw [c2 a (by omega), hx_up_ne (by omega)]) (hring j Y hY2)
  · refine Rq.s (fun _ => b65_18_q4 (by decide) (by rw [hix, nI_clamp (by omega)]; exact e) (by rw [hix]; exact nI_inbT (by omega) (by omega))) ?_
    obtain ⟨_, D4, hC4, rfl, c1, c2⟩ := m34_8 (sc := sc) (d := d) (D := hx_up D 0 3 ((D 0 3) - (nI 1))) (G := G)
    refine Rq.s (fun _ => b65_49e hC4) ?_
    rw [e] at hX3
    have R4 : RepC D4 1 X := c1 X (hs.2.2.1 X (by rw [hx_nth_eq] at hX; exact List.mem_of_getElem? hX)) (RepC_g (fun a a1 a2 => by rw [hx_up_ne (by omega)]) hX3)
    have e3 : D4 0 3 = nI ((tS t).length - 1) := by rw [c2 0 (by omega), hx_up_s, hr3, pk_sub (by omega)]
    refine Rq.e b65_52 ?_
    rw [e3]
    refine OKc.v rfl ⟨R4, ⟨o, ho, by rw [c2 0 (by omega), hx_up_in _ _ _ (by omega)]; exact hr2, by show _ = nI ((tS t).take ((tS t).length - 1)).length; rw [List.length_take, e3]; congr 1; omega, fun j Y hY => ?_⟩, SlotC_k (by rw [c2 10 (by omega), hx_up_ne (by omega)]) (fun a a1 a2 => by rw [c2 a (by omega), hx_up_ne (by omega)]) i3, BF_k (by rw [c2 0 (by omega), hx_up_in _ _ _ (by omega)]) (by rw [c2 11 (by omega), hx_up_ne (by omega)]) i4⟩ (fun a ha => by rw [c2 a (by omega), hx_up_ne (by omega)])
    have hY2 : hx_nth (tS t) j = some Y := by
      have hY3 : hx_nth ((tS t).take ((tS t).length - 1)) j = some Y := hY
      rw [hx_nth_eq] at hY3 ⊢
      have hj := (List.getElem?_eq_some_iff.mp hY3).1
      rw [List.length_take] at hj
      rw [List.getElem?_take, if_pos (by omega)] at hY3
      exact hY3
    exact RepC_g (fun a a1 a2 => by rw [c2 a (by omega), hx_up_ne (by omega)]) (hring j Y hY2)
  · refine Rq.s (fun _ => b65_18_q5 (by decide) (by rw [hix, nI_clamp (by omega)]; exact e) (by rw [hix]; exact nI_inbT (by omega) (by omega))) ?_
    obtain ⟨_, D4, hC4, rfl, c1, c2⟩ := m34_9 (sc := sc) (d := d) (D := hx_up D 0 3 ((D 0 3) - (nI 1))) (G := G)
    refine Rq.s (fun _ => b65_49f hC4) ?_
    rw [e] at hX3
    have R4 : RepC D4 1 X := c1 X (hs.2.2.1 X (by rw [hx_nth_eq] at hX; exact List.mem_of_getElem? hX)) (RepC_g (fun a a1 a2 => by rw [hx_up_ne (by omega)]) hX3)
    have e3 : D4 0 3 = nI ((tS t).length - 1) := by rw [c2 0 (by omega), hx_up_s, hr3, pk_sub (by omega)]
    refine Rq.e b65_52 ?_
    rw [e3]
    refine OKc.v rfl ⟨R4, ⟨o, ho, by rw [c2 0 (by omega), hx_up_in _ _ _ (by omega)]; exact hr2, by show _ = nI ((tS t).take ((tS t).length - 1)).length; rw [List.length_take, e3]; congr 1; omega, fun j Y hY => ?_⟩, SlotC_k (by rw [c2 10 (by omega), hx_up_ne (by omega)]) (fun a a1 a2 => by rw [c2 a (by omega), hx_up_ne (by omega)]) i3, BF_k (by rw [c2 0 (by omega), hx_up_in _ _ _ (by omega)]) (by rw [c2 11 (by omega), hx_up_ne (by omega)]) i4⟩ (fun a ha => by rw [c2 a (by omega), hx_up_ne (by omega)])
    have hY2 : hx_nth (tS t) j = some Y := by
      have hY3 : hx_nth ((tS t).take ((tS t).length - 1)) j = some Y := hY
      rw [hx_nth_eq] at hY3 ⊢
      have hj := (List.getElem?_eq_some_iff.mp hY3).1
      rw [List.length_take] at hj
      rw [List.getElem?_take, if_pos (by omega)] at hY3
      exact hY3
    exact RepC_g (fun a a1 a2 => by rw [c2 a (by omega), hx_up_ne (by omega)]) (hring j Y hY2)
