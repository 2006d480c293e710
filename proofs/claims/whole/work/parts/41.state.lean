/-! ===== the whole state, as the class holds it ===== -/
/-- the scroll, the saved ones (the oldest first), the slots, the buffer -/
abbrev ST : Type := ZV × List ZV × (Nat → Option ZV) × Nat × (Nat → Nat)
abbrev tV (t : ST) : ZV := t.1
abbrev tS (t : ST) : List ZV := t.2.1
abbrev tK (t : ST) : Nat → Option ZV := t.2.2.1
abbrev tn (t : ST) : Nat := t.2.2.2.1
abbrev tb (t : ST) : Nat → Nat := t.2.2.2.2
def setV (t : ST) (V : ZV) : ST := (V, tS t, tK t, tn t, tb t)
def zsv (t : ST) : ST := (tV t, (if (tS t).length = 6 then (tS t).drop 1 else tS t) ++ [tV t], tK t, tn t, tb t)
def SV (t : ST) : Prop := Valid (tV t) ∧ (tS t).length ≤ 6 ∧ (∀ X, X ∈ tS t → Valid X) ∧ (∀ k X, tK t k = some X → Valid X) ∧ tn t ≤ 60 ∧ ∀ i, i < tn t → 33 ≤ tb t i ∧ tb t i ≤ 126
def RingC (D : Nat → Nat → Int32) (S : List ZV) : Prop := ∃ o, o < 6 ∧ D 0 2 = nI o ∧ D 0 3 = nI S.length ∧ ∀ j X, hx_nth S j = some X → RepC D (23 + 7 * ((o + j) % 6)) X
def SlotC (D : Nat → Nat → Int32) (K : Nat → Option ZV) : Prop := ∀ k, k < 2 → D 10 k = nI (if (K k).isSome = true then 1 else 0) ∧ ∀ X, K k = some X → RepC D (65 + 7 * k) X
def InvC (D : Nat → Nat → Int32) (t : ST) : Prop := RepC D 1 (tV t) ∧ RingC D (tS t) ∧ SlotC D (tK t) ∧ BF D (tn t) (tb t)
/-- the reference's cells are as they were -/
def eqM (D D2 : Nat → Nat → Int32) : Prop := ∀ a, 79 ≤ a → D2 a = D a
theorem BF_k {D D2 : Nat → Nat → Int32} {n : Nat} {b : Nat → Nat} (h0 : D2 0 7 = D 0 7) (h11 : D2 11 = D 11) (h : BF D n b) : BF D2 n b := by
  obtain ⟨b0, b1, b2, b3⟩ := h
  exact ⟨by rw [h0]; exact b0, b1, fun i hi => by rw [h11]; exact b2 i hi, b3⟩
theorem RingC_k {D D2 : Nat → Nat → Int32} {S : List ZV} (h2 : D2 0 2 = D 0 2) (h3 : D2 0 3 = D 0 3) (e : ∀ a, 23 ≤ a → a ≤ 64 → D2 a = D a) (h : RingC D S) : RingC D2 S := by
  obtain ⟨o, h1, h4, h5, h6⟩ := h
  exact ⟨o, h1, by rw [h2]; exact h4, by rw [h3]; exact h5, fun j X hX => RepC_g (fun a a1 a2 => e a (by omega) (by omega)) (h6 j X hX)⟩
theorem SlotC_k {D D2 : Nat → Nat → Int32} {K : Nat → Option ZV} (h10 : D2 10 = D 10) (e : ∀ a, 65 ≤ a → a ≤ 78 → D2 a = D a) (h : SlotC D K) : SlotC D2 K := fun k hk => ⟨by rw [h10]; exact (h k hk).1, fun X hX => RepC_g (fun a a1 a2 => e a (by omega) (by omega)) ((h k hk).2 X hX)⟩
theorem InvC_set {D D2 : Nat → Nat → Int32} {t : ST} {V : ZV} (h : InvC D t) (R : RepC D2 1 V) (e : ∀ a, a = 0 ∨ (8 ≤ a ∧ a ≤ 11) ∨ 23 ≤ a → D2 a = D a) : InvC D2 (setV t V) := by
  obtain ⟨i1, i2, i3, i4⟩ := h
  exact ⟨R, RingC_k (by rw [e 0 (by omega)]) (by rw [e 0 (by omega)]) (fun a a1 a2 => e a (by omega)) i2, SlotC_k (e 10 (by omega)) (fun a a1 a2 => e a (by omega)) i3, BF_k (by rw [e 0 (by omega)]) (e 11 (by omega)) i4⟩
theorem InvC_keep {D D2 : Nat → Nat → Int32} {t : ST} (h : InvC D t) (e : ∀ a, a ≤ 11 ∨ 23 ≤ a → D2 a = D a) : InvC D2 t := InvC_set h (RepC_g (fun a a1 a2 => e a (by omega)) h.1) (fun a ha => e a (by omega))
theorem SV_zsv {t : ST} (h : SV t) : SV (zsv t) := by
  obtain ⟨h1, h2, h3, h4, h5, h6⟩ := h
  refine ⟨h1, ?_, fun X hX => ?_, h4, h5, h6⟩
  · show ((if (tS t).length = 6 then (tS t).drop 1 else tS t) ++ [tV t]).length ≤ 6
    rw [List.length_append, List.length_singleton]
    split
    · rw [List.length_drop]; omega
    · omega
  · have hX2 : X ∈ (if (tS t).length = 6 then (tS t).drop 1 else tS t) ++ [tV t] := hX
    rcases List.mem_append.mp hX2 with z | z
    · split at z
      · exact h3 X (List.mem_of_mem_drop z)
      · exact h3 X z
    · rw [List.mem_singleton] at z
      rw [z]
      exact h1
theorem SV_set {t : ST} {V : ZV} (h : SV t) (hv : Valid V) : SV (setV t V) := ⟨hv, h.2⟩
/-- where the next state is saved, and what of the ring is left -/
theorem RingC_push {D D2 : Nat → Nat → Int32} {S : List ZV} {V : ZV} {o m s : Nat} (ho : o < 6) (h2 : D2 0 2 = nI o) (h3 : D2 0 3 = nI (S.length + 1)) (hm : S.length = m) (hm5 : m ≤ 5) (hs : s = (o + m) % 6) (hR : RepC D2 (23 + 7 * s) V) (hold : ∀ j X, hx_nth S j = some X → RepC D (23 + 7 * ((o + j) % 6)) X) (e : ∀ a, a < 23 + 7 * s ∨ 29 + 7 * s < a → a ≠ 0 → D2 a = D a) : RingC D2 (S ++ [V]) := by
  refine ⟨o, ho, h2, by rw [List.length_append]; exact h3, fun j X hX => ?_⟩
  rw [hx_nth_eq] at hX
  have hj := (List.getElem?_eq_some_iff.mp hX).1
  rw [List.length_append, List.length_singleton] at hj
  by_cases c : j = S.length
  · rw [c, List.getElem?_append_right (Nat.le_refl _), Nat.sub_self] at hX
    cases hX
    rw [c, hm, ← hs]
    exact hR
  · rw [List.getElem?_append_left (by omega)] at hX
    have hne : (o + j) % 6 ≠ s := by omega
    exact RepC_g (fun a a1 a2 => e a (by omega) (by omega)) (hold j X (by rw [hx_nth_eq]; exact hX))
theorem m85s {sc : Nat × (Nat → Int32)} {d : Nat} {D : Nat → Nat → Int32} {G : Nat → Nat → Int64} {o m s : Nat} {Q : hx_RS → (Nat → Nat → Int32) → Prop} (ho : o < 6) (h2 : D 0 2 = nI o) (h3 : D 0 3 = nI m) (hm : 1 ≤ m) (hm6 : m ≤ 6) (hs : (o + m - 1) % 6 = s) (K : ∀ D4, (∀ X, Valid X → RepC D 1 X → RepC D4 (23 + 7 * s) X) → (∀ a, a < 23 + 7 * s ∨ 29 + 7 * s < a → D4 a = D a) → Q (.inl none) D4) : Rq sc (d + 1) 85 (35, [some (.ref 0)], [], (hx_S0, D, G), 0) G Q := by
  have hix : (((D 0 2) + (D 0 3)) - (nI 1)) - (((D 0 2) + (D 0 3)) - (nI 1)) / (nI 6) * (nI 6) = nI s := by
    rw [h2, h3, nI_add, pk_sub (by omega), pk_rem (by omega) (by omega) (by omega), hs]
  rcases (by omega : s = 0 ∨ s = 1 ∨ s = 2 ∨ s = 3 ∨ s = 4 ∨ s = 5) with e | e | e | e | e | e
  · refine Rq.s (fun _ => b85_35_q0 (by decide) (by rw [hix, nI_clamp (by omega)]; exact e) (by rw [hix]; exact nI_inbT (by omega) (by omega))) ?_
    obtain ⟨_, D4, hC4, rfl, c1, c2⟩ := m34_10 (sc := sc) (d := d) (D := D) (G := G)
    refine Rq.s (fun _ => b85_54 hC4) ?_
    subst e
    exact Rq.e b85_61 (K D4 c1 c2)
  · refine Rq.s (fun _ => b85_35_q1 (by decide) (by rw [hix, nI_clamp (by omega)]; exact e) (by rw [hix]; exact nI_inbT (by omega) (by omega))) ?_
    obtain ⟨_, D4, hC4, rfl, c1, c2⟩ := m34_11 (sc := sc) (d := d) (D := D) (G := G)
    refine Rq.s (fun _ => b85_54b hC4) ?_
    subst e
    exact Rq.e b85_61 (K D4 c1 c2)
  · refine Rq.s (fun _ => b85_35_q2 (by decide) (by rw [hix, nI_clamp (by omega)]; exact e) (by rw [hix]; exact nI_inbT (by omega) (by omega))) ?_
    obtain ⟨_, D4, hC4, rfl, c1, c2⟩ := m34_12 (sc := sc) (d := d) (D := D) (G := G)
    refine Rq.s (fun _ => b85_54c hC4) ?_
    subst e
    exact Rq.e b85_61 (K D4 c1 c2)
  · refine Rq.s (fun _ => b85_35_q3 (by decide) (by rw [hix, nI_clamp (by omega)]; exact e) (by rw [hix]; exact nI_inbT (by omega) (by omega))) ?_
    obtain ⟨_, D4, hC4, rfl, c1, c2⟩ := m34_13 (sc := sc) (d := d) (D := D) (G := G)
    refine Rq.s (fun _ => b85_54d hC4) ?_
    subst e
    exact Rq.e b85_61 (K D4 c1 c2)
  · refine Rq.s (fun _ => b85_35_q4 (by decide) (by rw [hix, nI_clamp (by omega)]; exact e) (by rw [hix]; exact nI_inbT (by omega) (by omega))) ?_
    obtain ⟨_, D4, hC4, rfl, c1, c2⟩ := m34_14 (sc := sc) (d := d) (D := D) (G := G)
    refine Rq.s (fun _ => b85_54e hC4) ?_
    subst e
    exact Rq.e b85_61 (K D4 c1 c2)
  · refine Rq.s (fun _ => b85_35_q5 (by decide) (by rw [hix, nI_clamp (by omega)]; exact e) (by rw [hix]; exact nI_inbT (by omega) (by omega))) ?_
    obtain ⟨_, D4, hC4, rfl, c1, c2⟩ := m34_15 (sc := sc) (d := d) (D := D) (G := G)
    refine Rq.s (fun _ => b85_54f hC4) ?_
    subst e
    exact Rq.e b85_61 (K D4 c1 c2)
theorem m85 {sc : Nat × (Nat → Int32)} {d : Nat} {D : Nat → Nat → Int32} {G : Nat → Nat → Int64} {t : ST} (I : InvC D t) (hs : SV t) : Cq sc (d + 1) 85 [.ref 0] D G (fun r D2 => r = .inl none ∧ InvC D2 (zsv t) ∧ ∀ a, a ≠ 0 → a < 23 ∨ 64 < a → D2 a = D a) := by
  obtain ⟨i1, ⟨o, ho, hr2, hr3, hring⟩, i3, i4⟩ := id I
  have hl := hs.2.1
  refine Cq.c (fun _ _ _ => c85) ?_
  by_cases c : (tS t).length = 6
  · refine Rq.bt (fun _ => b85_0) (by rw [hr3]; exact nI_le (by omega) (by omega)) ?_
    have e1 : (((D 0 2) + (nI 1)) - ((D 0 2) + (nI 1)) / (nI 6) * (nI 6)) = nI ((o + 1) % 6) := by rw [hr2, nI_add, pk_rem (by omega) (by omega) (by omega)]
    refine Rq.s (fun _ => b85_22 (by decide)) ?_
    rw [e1]
    refine m85s (o := (o + 1) % 6) (m := 6) (s := o) (by omega) (hx_up_s _ _ _ _) (by rw [hx_up_in _ _ _ (by omega), hr3, c]) (by omega) (by omega) (by omega) (fun D4 h1 h2 => ⟨rfl, ⟨?_, ?_, ?_, ?_⟩, fun a a1 a2 => ?_⟩)
    · exact RepC_g (fun a a1 a2 => by rw [h2 a (by omega), hx_up_ne (by omega)]) i1
    · show RingC D4 ((if (tS t).length = 6 then (tS t).drop 1 else tS t) ++ [tV t])
      rw [if_pos c]
      refine RingC_push (D := D) (o := (o + 1) % 6) (m := 5) (s := o) (by omega) (by rw [h2 0 (by omega), hx_up_s]) (by rw [h2 0 (by omega), hx_up_in _ _ _ (by omega), hr3, List.length_drop, c]) (by rw [List.length_drop, c]) (by omega) (by omega) (h1 _ hs.1 (RepC_g (fun a a1 a2 => by rw [hx_up_ne (by omega)]) i1)) (fun j X hX => ?_) (fun a a1 a2 => by rw [h2 a a1, hx_up_ne a2])
      rw [hx_nth_eq, List.getElem?_drop] at hX
      have := hring (1 + j) X (by rw [hx_nth_eq]; exact hX)
      rw [show ((o + 1) % 6 + j) % 6 = (o + (1 + j)) % 6 by omega]
      exact this
    · exact SlotC_k (by rw [h2 10 (by omega), hx_up_ne (by omega)]) (fun a a1 a2 => by rw [h2 a (by omega), hx_up_ne (by omega)]) i3
    · exact BF_k (by rw [h2 0 (by omega), hx_up_in _ _ _ (by omega)]) (by rw [h2 11 (by omega), hx_up_ne (by omega)]) i4
    · rw [h2 a (by omega), hx_up_ne a1]
  · refine Rq.bf (fun _ => b85_0) (by rw [hr3]; exact nI_ge (by omega) (by omega)) ?_
    refine Rq.s (fun _ => b85_9) ?_
    rw [hr3, nI_add]
    refine m85s (o := o) (m := (tS t).length + 1) (s := (o + (tS t).length) % 6) ho (by rw [hx_up_in _ _ _ (by omega)]; exact hr2) (hx_up_s _ _ _ _) (by omega) (by omega) (by omega) (fun D4 h1 h2 => ⟨rfl, ⟨?_, ?_, ?_, ?_⟩, fun a a1 a2 => ?_⟩)
    · exact RepC_g (fun a a1 a2 => by rw [h2 a (by omega), hx_up_ne (by omega)]) i1
    · show RingC D4 ((if (tS t).length = 6 then (tS t).drop 1 else tS t) ++ [tV t])
      rw [if_neg c]
      exact RingC_push (D := D) (o := o) (m := (tS t).length) (s := (o + (tS t).length) % 6) ho (by rw [h2 0 (by omega), hx_up_in _ _ _ (by omega)]; exact hr2) (by rw [h2 0 (by omega), hx_up_s]) rfl (by omega) rfl (h1 _ hs.1 (RepC_g (fun a a1 a2 => by rw [hx_up_ne (by omega)]) i1)) hring (fun a a1 a2 => by rw [h2 a a1, hx_up_ne a2])
    · exact SlotC_k (by rw [h2 10 (by omega), hx_up_ne (by omega)]) (fun a a1 a2 => by rw [h2 a (by omega), hx_up_ne (by omega)]) i3
    · exact BF_k (by rw [h2 0 (by omega), hx_up_in _ _ _ (by omega)]) (by rw [h2 11 (by omega), hx_up_ne (by omega)]) i4
    · rw [h2 a (by omega), hx_up_ne a1]
/-! tests of arguments -/
theorem m80T {sc : Nat × (Nat → Int32)} {d : Nat} {D : Nat → Nat → Int32} {G : Nat → Nat → Int64} {x : Int} (hx1 : -2147483648 ≤ x) (hx2 : x < 2147483648) {n : Nat} (e0 : D 1 0 = nI n) (hn : n < 1000) (h : 0 ≤ x ∧ x < (n : Int)) : Cl sc d 80 [.ref 0, .int (iI x)] (hx_S0, D, G) (.inl none) (hx_S0, D, G) := by
  have K : Cq sc d 80 [.ref 0, .int (iI x)] D G (fun r D2 => r = .inl none ∧ D2 = D) := by
    refine Cq.c (fun _ _ _ => c80) ?_
    refine Rq.b (fun _ => b80_0) (fun h0 => ?_) (fun h0 => ?_)
    · try simp (disch := omega) only [Int32.le_iff_toInt_le, Int32.lt_iff_toInt_lt, z_eq, z_nI, z_0, z_m1, z_sub, z_iI, nI_add, nI_mulN, pk_sub, nI_clamp, Nat.reduceAdd, Nat.reduceMul, Nat.reduceSub, Nat.zero_add, Nat.add_zero, e0] at h0
      all_goals (try (exfalso; omega))
      all_goals
        refine Rq.e (b80_15) ?_
        exact ⟨rfl, rfl⟩
    · try simp (disch := omega) only [Int32.le_iff_toInt_le, Int32.lt_iff_toInt_lt, z_eq, z_nI, z_0, z_m1, z_sub, z_iI, nI_add, nI_mulN, pk_sub, nI_clamp, Nat.reduceAdd, Nat.reduceMul, Nat.reduceSub, Nat.zero_add, Nat.add_zero, e0] at h0
      all_goals (try (exfalso; omega))
      all_goals
        refine Rq.b (fun _ => b80_4) (fun h4 => ?_) (fun h4 => ?_)
        · try simp (disch := omega) only [Int32.le_iff_toInt_le, Int32.lt_iff_toInt_lt, z_eq, z_nI, z_0, z_m1, z_sub, z_iI, nI_add, nI_mulN, pk_sub, nI_clamp, Nat.reduceAdd, Nat.reduceMul, Nat.reduceSub, Nat.zero_add, Nat.add_zero, e0] at h4
          all_goals (try (exfalso; omega))
          all_goals
            refine Rq.e (b80_26) ?_
            exact ⟨rfl, rfl⟩
        · try simp (disch := omega) only [Int32.le_iff_toInt_le, Int32.lt_iff_toInt_lt, z_eq, z_nI, z_0, z_m1, z_sub, z_iI, nI_add, nI_mulN, pk_sub, nI_clamp, Nat.reduceAdd, Nat.reduceMul, Nat.reduceSub, Nat.zero_add, Nat.add_zero, e0] at h4
          all_goals (try (exfalso; omega))
          all_goals
            refine Rq.e (b80_15) ?_
            exact ⟨rfl, rfl⟩
  obtain ⟨r, D2, h2, rfl, rfl⟩ := K
  exact h2
theorem m80F {sc : Nat × (Nat → Int32)} {d : Nat} {D : Nat → Nat → Int32} {G : Nat → Nat → Int64} {x : Int} (hx1 : -2147483648 ≤ x) (hx2 : x < 2147483648) {n : Nat} (e0 : D 1 0 = nI n) (hn : n < 1000) (h : ¬ (0 ≤ x ∧ x < (n : Int))) : Cl sc d 80 [.ref 0, .int (iI x)] (hx_S0, D, G) (.inr 2) (hx_S0, D, G) := by
  have K : Cq sc d 80 [.ref 0, .int (iI x)] D G (fun r D2 => r = .inr 2 ∧ D2 = D) := by
    refine Cq.c (fun _ _ _ => c80) ?_
    refine Rq.b (fun _ => b80_0) (fun h0 => ?_) (fun h0 => ?_)
    · try simp (disch := omega) only [Int32.le_iff_toInt_le, Int32.lt_iff_toInt_lt, z_eq, z_nI, z_0, z_m1, z_sub, z_iI, nI_add, nI_mulN, pk_sub, nI_clamp, Nat.reduceAdd, Nat.reduceMul, Nat.reduceSub, Nat.zero_add, Nat.add_zero, e0] at h0
      all_goals (try (exfalso; omega))
      all_goals
        refine Rq.e (b80_15) ?_
        exact ⟨rfl, rfl⟩
    · try simp (disch := omega) only [Int32.le_iff_toInt_le, Int32.lt_iff_toInt_lt, z_eq, z_nI, z_0, z_m1, z_sub, z_iI, nI_add, nI_mulN, pk_sub, nI_clamp, Nat.reduceAdd, Nat.reduceMul, Nat.reduceSub, Nat.zero_add, Nat.add_zero, e0] at h0
      all_goals (try (exfalso; omega))
      all_goals
        refine Rq.b (fun _ => b80_4) (fun h4 => ?_) (fun h4 => ?_)
        · try simp (disch := omega) only [Int32.le_iff_toInt_le, Int32.lt_iff_toInt_lt, z_eq, z_nI, z_0, z_m1, z_sub, z_iI, nI_add, nI_mulN, pk_sub, nI_clamp, Nat.reduceAdd, Nat.reduceMul, Nat.reduceSub, Nat.zero_add, Nat.add_zero, e0] at h4
          all_goals (try (exfalso; omega))
          all_goals
            refine Rq.e (b80_26) ?_
            exact ⟨rfl, rfl⟩
        · try simp (disch := omega) only [Int32.le_iff_toInt_le, Int32.lt_iff_toInt_lt, z_eq, z_nI, z_0, z_m1, z_sub, z_iI, nI_add, nI_mulN, pk_sub, nI_clamp, Nat.reduceAdd, Nat.reduceMul, Nat.reduceSub, Nat.zero_add, Nat.add_zero, e0] at h4
          all_goals (try (exfalso; omega))
          all_goals
            refine Rq.e (b80_15) ?_
            exact ⟨rfl, rfl⟩
  obtain ⟨r, D2, h2, rfl, rfl⟩ := K
  exact h2
theorem m82T {sc : Nat × (Nat → Int32)} {d : Nat} {D : Nat → Nat → Int32} {G : Nat → Nat → Int64} {x : Int} (hx1 : -2147483648 ≤ x) (hx2 : x < 2147483648)  (h : 0 ≤ x ∧ x < 2) : Cl sc d 82 [.int (iI x)] (hx_S0, D, G) (.inl none) (hx_S0, D, G) := by
  have K : Cq sc d 82 [.int (iI x)] D G (fun r D2 => r = .inl none ∧ D2 = D) := by
    refine Cq.c (fun _ _ _ => c82) ?_
    refine Rq.b (fun _ => b82_0) (fun h0 => ?_) (fun h0 => ?_)
    · try simp (disch := omega) only [Int32.le_iff_toInt_le, Int32.lt_iff_toInt_lt, z_eq, z_nI, z_0, z_m1, z_sub, z_iI, nI_add, nI_mulN, pk_sub, nI_clamp, Nat.reduceAdd, Nat.reduceMul, Nat.reduceSub, Nat.zero_add, Nat.add_zero] at h0
      all_goals (try (exfalso; omega))
      all_goals
        refine Rq.e (b82_9) ?_
        exact ⟨rfl, rfl⟩
    · try simp (disch := omega) only [Int32.le_iff_toInt_le, Int32.lt_iff_toInt_lt, z_eq, z_nI, z_0, z_m1, z_sub, z_iI, nI_add, nI_mulN, pk_sub, nI_clamp, Nat.reduceAdd, Nat.reduceMul, Nat.reduceSub, Nat.zero_add, Nat.add_zero] at h0
      all_goals (try (exfalso; omega))
      all_goals
        refine Rq.b (fun _ => b82_4) (fun h4 => ?_) (fun h4 => ?_)
        · try simp (disch := omega) only [Int32.le_iff_toInt_le, Int32.lt_iff_toInt_lt, z_eq, z_nI, z_0, z_m1, z_sub, z_iI, nI_add, nI_mulN, pk_sub, nI_clamp, Nat.reduceAdd, Nat.reduceMul, Nat.reduceSub, Nat.zero_add, Nat.add_zero] at h4
          all_goals (try (exfalso; omega))
          all_goals
            refine Rq.e (b82_20) ?_
            exact ⟨rfl, rfl⟩
        · try simp (disch := omega) only [Int32.le_iff_toInt_le, Int32.lt_iff_toInt_lt, z_eq, z_nI, z_0, z_m1, z_sub, z_iI, nI_add, nI_mulN, pk_sub, nI_clamp, Nat.reduceAdd, Nat.reduceMul, Nat.reduceSub, Nat.zero_add, Nat.add_zero] at h4
          all_goals (try (exfalso; omega))
          all_goals
            refine Rq.e (b82_9) ?_
            exact ⟨rfl, rfl⟩
  obtain ⟨r, D2, h2, rfl, rfl⟩ := K
  exact h2
theorem m82F {sc : Nat × (Nat → Int32)} {d : Nat} {D : Nat → Nat → Int32} {G : Nat → Nat → Int64} {x : Int} (hx1 : -2147483648 ≤ x) (hx2 : x < 2147483648)  (h : ¬ (0 ≤ x ∧ x < 2)) : Cl sc d 82 [.int (iI x)] (hx_S0, D, G) (.inr 2) (hx_S0, D, G) := by
  have K : Cq sc d 82 [.int (iI x)] D G (fun r D2 => r = .inr 2 ∧ D2 = D) := by
    refine Cq.c (fun _ _ _ => c82) ?_
    refine Rq.b (fun _ => b82_0) (fun h0 => ?_) (fun h0 => ?_)
    · try simp (disch := omega) only [Int32.le_iff_toInt_le, Int32.lt_iff_toInt_lt, z_eq, z_nI, z_0, z_m1, z_sub, z_iI, nI_add, nI_mulN, pk_sub, nI_clamp, Nat.reduceAdd, Nat.reduceMul, Nat.reduceSub, Nat.zero_add, Nat.add_zero] at h0
      all_goals (try (exfalso; omega))
      all_goals
        refine Rq.e (b82_9) ?_
        exact ⟨rfl, rfl⟩
    · try simp (disch := omega) only [Int32.le_iff_toInt_le, Int32.lt_iff_toInt_lt, z_eq, z_nI, z_0, z_m1, z_sub, z_iI, nI_add, nI_mulN, pk_sub, nI_clamp, Nat.reduceAdd, Nat.reduceMul, Nat.reduceSub, Nat.zero_add, Nat.add_zero] at h0
      all_goals (try (exfalso; omega))
      all_goals
        refine Rq.b (fun _ => b82_4) (fun h4 => ?_) (fun h4 => ?_)
        · try simp (disch := omega) only [Int32.le_iff_toInt_le, Int32.lt_iff_toInt_lt, z_eq, z_nI, z_0, z_m1, z_sub, z_iI, nI_add, nI_mulN, pk_sub, nI_clamp, Nat.reduceAdd, Nat.reduceMul, Nat.reduceSub, Nat.zero_add, Nat.add_zero] at h4
          all_goals (try (exfalso; omega))
          all_goals
            refine Rq.e (b82_20) ?_
            exact ⟨rfl, rfl⟩
        · try simp (disch := omega) only [Int32.le_iff_toInt_le, Int32.lt_iff_toInt_lt, z_eq, z_nI, z_0, z_m1, z_sub, z_iI, nI_add, nI_mulN, pk_sub, nI_clamp, Nat.reduceAdd, Nat.reduceMul, Nat.reduceSub, Nat.zero_add, Nat.add_zero] at h4
          all_goals (try (exfalso; omega))
          all_goals
            refine Rq.e (b82_9) ?_
            exact ⟨rfl, rfl⟩
  obtain ⟨r, D2, h2, rfl, rfl⟩ := K
  exact h2
theorem m83T {sc : Nat × (Nat → Int32)} {d : Nat} {D : Nat → Nat → Int32} {G : Nat → Nat → Int64} {x : Int} (hx1 : -2147483648 ≤ x) (hx2 : x < 2147483648)  (h : 0 ≤ x ∧ x < 2) : Cl sc d 83 [.int (iI x)] (hx_S0, D, G) (.inl none) (hx_S0, D, G) := by
  have K : Cq sc d 83 [.int (iI x)] D G (fun r D2 => r = .inl none ∧ D2 = D) := by
    refine Cq.c (fun _ _ _ => c83) ?_
    refine Rq.b (fun _ => b83_0) (fun h0 => ?_) (fun h0 => ?_)
    · try simp (disch := omega) only [Int32.le_iff_toInt_le, Int32.lt_iff_toInt_lt, z_eq, z_nI, z_0, z_m1, z_sub, z_iI, nI_add, nI_mulN, pk_sub, nI_clamp, Nat.reduceAdd, Nat.reduceMul, Nat.reduceSub, Nat.zero_add, Nat.add_zero] at h0
      all_goals (try (exfalso; omega))
      all_goals
        refine Rq.e (b83_9) ?_
        exact ⟨rfl, rfl⟩
    · try simp (disch := omega) only [Int32.le_iff_toInt_le, Int32.lt_iff_toInt_lt, z_eq, z_nI, z_0, z_m1, z_sub, z_iI, nI_add, nI_mulN, pk_sub, nI_clamp, Nat.reduceAdd, Nat.reduceMul, Nat.reduceSub, Nat.zero_add, Nat.add_zero] at h0
      all_goals (try (exfalso; omega))
      all_goals
        refine Rq.b (fun _ => b83_4) (fun h4 => ?_) (fun h4 => ?_)
        · try simp (disch := omega) only [Int32.le_iff_toInt_le, Int32.lt_iff_toInt_lt, z_eq, z_nI, z_0, z_m1, z_sub, z_iI, nI_add, nI_mulN, pk_sub, nI_clamp, Nat.reduceAdd, Nat.reduceMul, Nat.reduceSub, Nat.zero_add, Nat.add_zero] at h4
          all_goals (try (exfalso; omega))
          all_goals
            refine Rq.e (b83_20) ?_
            exact ⟨rfl, rfl⟩
        · try simp (disch := omega) only [Int32.le_iff_toInt_le, Int32.lt_iff_toInt_lt, z_eq, z_nI, z_0, z_m1, z_sub, z_iI, nI_add, nI_mulN, pk_sub, nI_clamp, Nat.reduceAdd, Nat.reduceMul, Nat.reduceSub, Nat.zero_add, Nat.add_zero] at h4
          all_goals (try (exfalso; omega))
          all_goals
            refine Rq.e (b83_9) ?_
            exact ⟨rfl, rfl⟩
  obtain ⟨r, D2, h2, rfl, rfl⟩ := K
  exact h2
theorem m83F {sc : Nat × (Nat → Int32)} {d : Nat} {D : Nat → Nat → Int32} {G : Nat → Nat → Int64} {x : Int} (hx1 : -2147483648 ≤ x) (hx2 : x < 2147483648)  (h : ¬ (0 ≤ x ∧ x < 2)) : Cl sc d 83 [.int (iI x)] (hx_S0, D, G) (.inr 0) (hx_S0, D, G) := by
  have K : Cq sc d 83 [.int (iI x)] D G (fun r D2 => r = .inr 0 ∧ D2 = D) := by
    refine Cq.c (fun _ _ _ => c83) ?_
    refine Rq.b (fun _ => b83_0) (fun h0 => ?_) (fun h0 => ?_)
    · try simp (disch := omega) only [Int32.le_iff_toInt_le, Int32.lt_iff_toInt_lt, z_eq, z_nI, z_0, z_m1, z_sub, z_iI, nI_add, nI_mulN, pk_sub, nI_clamp, Nat.reduceAdd, Nat.reduceMul, Nat.reduceSub, Nat.zero_add, Nat.add_zero] at h0
      all_goals (try (exfalso; omega))
      all_goals
        refine Rq.e (b83_9) ?_
        exact ⟨rfl, rfl⟩
    · try simp (disch := omega) only [Int32.le_iff_toInt_le, Int32.lt_iff_toInt_lt, z_eq, z_nI, z_0, z_m1, z_sub, z_iI, nI_add, nI_mulN, pk_sub, nI_clamp, Nat.reduceAdd, Nat.reduceMul, Nat.reduceSub, Nat.zero_add, Nat.add_zero] at h0
      all_goals (try (exfalso; omega))
      all_goals
        refine Rq.b (fun _ => b83_4) (fun h4 => ?_) (fun h4 => ?_)
        · try simp (disch := omega) only [Int32.le_iff_toInt_le, Int32.lt_iff_toInt_lt, z_eq, z_nI, z_0, z_m1, z_sub, z_iI, nI_add, nI_mulN, pk_sub, nI_clamp, Nat.reduceAdd, Nat.reduceMul, Nat.reduceSub, Nat.zero_add, Nat.add_zero] at h4
          all_goals (try (exfalso; omega))
          all_goals
            refine Rq.e (b83_20) ?_
            exact ⟨rfl, rfl⟩
        · try simp (disch := omega) only [Int32.le_iff_toInt_le, Int32.lt_iff_toInt_lt, z_eq, z_nI, z_0, z_m1, z_sub, z_iI, nI_add, nI_mulN, pk_sub, nI_clamp, Nat.reduceAdd, Nat.reduceMul, Nat.reduceSub, Nat.zero_add, Nat.add_zero] at h4
          all_goals (try (exfalso; omega))
          all_goals
            refine Rq.e (b83_9) ?_
            exact ⟨rfl, rfl⟩
  obtain ⟨r, D2, h2, rfl, rfl⟩ := K
  exact h2
theorem m81T {sc : Nat × (Nat → Int32)} {d : Nat} {D : Nat → Nat → Int32} {G : Nat → Nat → Int64} {x : Int} (hx1 : -2147483648 ≤ x) (hx2 : x < 2147483648) {p w : Nat} (e0 : D 2 p = nI w) (hp : p < 7) (hw : w < 1000) (h : 0 ≤ x ∧ x < (w : Int)) : Cl sc d 81 [.ref 0, .int (nI p), .int (iI x)] (hx_S0, D, G) (.inl none) (hx_S0, D, G) := by
  have K : Cq sc d 81 [.ref 0, .int (nI p), .int (iI x)] D G (fun r D2 => r = .inl none ∧ D2 = D) := by
    refine Cq.c (fun _ _ _ => c81) ?_
    refine Rq.b (fun _ => b81_0) (fun h0 => ?_) (fun h0 => ?_)
    · try simp (disch := omega) only [Int32.le_iff_toInt_le, Int32.lt_iff_toInt_lt, z_eq, z_nI, z_0, z_m1, z_sub, z_iI, nI_add, nI_mulN, pk_sub, nI_clamp, Nat.reduceAdd, Nat.reduceMul, Nat.reduceSub, Nat.zero_add, Nat.add_zero, e0] at h0
      all_goals (try (exfalso; omega))
      all_goals
        refine Rq.e (b81_17) ?_
        exact ⟨rfl, rfl⟩
    · try simp (disch := omega) only [Int32.le_iff_toInt_le, Int32.lt_iff_toInt_lt, z_eq, z_nI, z_0, z_m1, z_sub, z_iI, nI_add, nI_mulN, pk_sub, nI_clamp, Nat.reduceAdd, Nat.reduceMul, Nat.reduceSub, Nat.zero_add, Nat.add_zero, e0] at h0
      all_goals (try (exfalso; omega))
      all_goals
        refine Rq.b (fun _ => b81_4 (by (try simp (disch := omega) only [nI_add, nI_mulN, pk_sub, nI_clamp, Nat.reduceAdd, Nat.reduceMul, Nat.reduceSub, Nat.zero_add, Nat.add_zero, e0]); exact nI_inbT (by omega) (by omega))) (fun h4 => ?_) (fun h4 => ?_)
        · try simp (disch := omega) only [Int32.le_iff_toInt_le, Int32.lt_iff_toInt_lt, z_eq, z_nI, z_0, z_m1, z_sub, z_iI, nI_add, nI_mulN, pk_sub, nI_clamp, Nat.reduceAdd, Nat.reduceMul, Nat.reduceSub, Nat.zero_add, Nat.add_zero, e0] at h4
          all_goals (try (exfalso; omega))
          all_goals
            refine Rq.e (b81_28) ?_
            exact ⟨rfl, rfl⟩
        · try simp (disch := omega) only [Int32.le_iff_toInt_le, Int32.lt_iff_toInt_lt, z_eq, z_nI, z_0, z_m1, z_sub, z_iI, nI_add, nI_mulN, pk_sub, nI_clamp, Nat.reduceAdd, Nat.reduceMul, Nat.reduceSub, Nat.zero_add, Nat.add_zero, e0] at h4
          all_goals (try (exfalso; omega))
          all_goals
            refine Rq.e (b81_17) ?_
            exact ⟨rfl, rfl⟩
  obtain ⟨r, D2, h2, rfl, rfl⟩ := K
  exact h2
theorem m81F {sc : Nat × (Nat → Int32)} {d : Nat} {D : Nat → Nat → Int32} {G : Nat → Nat → Int64} {x : Int} (hx1 : -2147483648 ≤ x) (hx2 : x < 2147483648) {p w : Nat} (e0 : D 2 p = nI w) (hp : p < 7) (hw : w < 1000) (h : ¬ (0 ≤ x ∧ x < (w : Int))) : Cl sc d 81 [.ref 0, .int (nI p), .int (iI x)] (hx_S0, D, G) (.inr 0) (hx_S0, D, G) := by
  have K : Cq sc d 81 [.ref 0, .int (nI p), .int (iI x)] D G (fun r D2 => r = .inr 0 ∧ D2 = D) := by
    refine Cq.c (fun _ _ _ => c81) ?_
    refine Rq.b (fun _ => b81_0) (fun h0 => ?_) (fun h0 => ?_)
    · try simp (disch := omega) only [Int32.le_iff_toInt_le, Int32.lt_iff_toInt_lt, z_eq, z_nI, z_0, z_m1, z_sub, z_iI, nI_add, nI_mulN, pk_sub, nI_clamp, Nat.reduceAdd, Nat.reduceMul, Nat.reduceSub, Nat.zero_add, Nat.add_zero, e0] at h0
      all_goals (try (exfalso; omega))
      all_goals
        refine Rq.e (b81_17) ?_
        exact ⟨rfl, rfl⟩
    · try simp (disch := omega) only [Int32.le_iff_toInt_le, Int32.lt_iff_toInt_lt, z_eq, z_nI, z_0, z_m1, z_sub, z_iI, nI_add, nI_mulN, pk_sub, nI_clamp, Nat.reduceAdd, Nat.reduceMul, Nat.reduceSub, Nat.zero_add, Nat.add_zero, e0] at h0
      all_goals (try (exfalso; omega))
      all_goals
        refine Rq.b (fun _ => b81_4 (by (try simp (disch := omega) only [nI_add, nI_mulN, pk_sub, nI_clamp, Nat.reduceAdd, Nat.reduceMul, Nat.reduceSub, Nat.zero_add, Nat.add_zero, e0]); exact nI_inbT (by omega) (by omega))) (fun h4 => ?_) (fun h4 => ?_)
        · try simp (disch := omega) only [Int32.le_iff_toInt_le, Int32.lt_iff_toInt_lt, z_eq, z_nI, z_0, z_m1, z_sub, z_iI, nI_add, nI_mulN, pk_sub, nI_clamp, Nat.reduceAdd, Nat.reduceMul, Nat.reduceSub, Nat.zero_add, Nat.add_zero, e0] at h4
          all_goals (try (exfalso; omega))
          all_goals
            refine Rq.e (b81_28) ?_
            exact ⟨rfl, rfl⟩
        · try simp (disch := omega) only [Int32.le_iff_toInt_le, Int32.lt_iff_toInt_lt, z_eq, z_nI, z_0, z_m1, z_sub, z_iI, nI_add, nI_mulN, pk_sub, nI_clamp, Nat.reduceAdd, Nat.reduceMul, Nat.reduceSub, Nat.zero_add, Nat.add_zero, e0] at h4
          all_goals (try (exfalso; omega))
          all_goals
            refine Rq.e (b81_17) ?_
            exact ⟨rfl, rfl⟩
  obtain ⟨r, D2, h2, rfl, rfl⟩ := K
  exact h2
