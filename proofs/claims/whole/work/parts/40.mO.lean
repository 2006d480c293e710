/-! ===== the class: a hole is made, or taken away ===== -/
theorem pk_m1s {n : Nat} (h : 1 ≤ n) : nI n + (-1) = nI (n - 1) := by
  have := pk_m1 (n - 1)
  rw [show n - 1 + 1 = n by omega] at this
  exact this
def opHol (V : ZV) (p x : Nat) : ZV := (zn V, zm V, zw V, ze V, gup (zh V) p (gup (zh V p) x (!zh V p x)), zr V, zs V)
theorem range_cut {x : Nat} (hx : x < 60) : List.range 60 = List.range x ++ (x :: List.range' (x + 1) (59 - x)) := by
  rw [List.range_eq_range', List.range_eq_range', ← List.range'_succ, show 59 - x + 1 = 60 - x by omega]
  have := List.range'_append_1 (s := 0) (m := x) (n := 60 - x)
  rw [Nat.zero_add, show x + (60 - x) = 60 by omega] at this
  exact this.symm
theorem zE_cut (h : Nat → Bool) {x : Nat} (hx : x < 60) : (List.range 60).filter h = (List.range x).filter h ++ ((if h x = true then [x] else []) ++ (List.range' (x + 1) (59 - x)).filter h) := by
  rw [range_cut hx, List.filter_append, List.filter_cons]
  by_cases c : h x = true
  · rw [if_pos c, if_pos c]
    rfl
  · rw [if_neg c, if_neg c]
    rfl
/-- the i-th hole of a piece -/
def zEi (V : ZV) (p i : Nat) : Nat := ((zE V p)[i]?).getD 0
theorem zEi_some {V : ZV} {p i : Nat} (h : i < (zE V p).length) : hx_nth (zE V p) i = some (zEi V p i) := by
  unfold zEi
  rw [hx_nth_eq, List.getElem?_eq_getElem h]
  rfl
theorem zE_hol_o {V : ZV} {p q x : Nat} (h : q ≠ p) : zE (opHol V p x) q = zE V q := by
  show (List.range 60).filter (gup (zh V) p (gup (zh V p) x (!zh V p x)) q) = _
  rw [gup_n _ _ h]
  rfl
theorem zE_hol (V : ZV) (p : Nat) {x : Nat} (hx : x < 60) : zE V p = (List.range x).filter (zh V p) ++ ((if zh V p x = true then [x] else []) ++ (List.range' (x + 1) (59 - x)).filter (zh V p)) ∧ zE (opHol V p x) p = (List.range x).filter (zh V p) ++ ((if zh V p x = true then [] else [x]) ++ (List.range' (x + 1) (59 - x)).filter (zh V p)) := by
  refine ⟨zE_cut _ hx, ?_⟩
  show (List.range 60).filter (gup (zh V) p (gup (zh V p) x (!zh V p x)) p) = _
  rw [gup_s, zE_cut _ hx, gup_s]
  congr 1
  · refine List.filter_congr (fun a ha => ?_)
    rw [gup_n _ _ (by rw [List.mem_range] at ha; omega)]
  · congr 1
    · cases zh V p x <;> rfl
    · refine List.filter_congr (fun a ha => ?_)
      rw [gup_n _ _ (by rw [List.mem_range'_1] at ha; omega)]
theorem zE_open {V : ZV} {p x : Nat} (hx : x < 60) (h0 : zh V p x = false) : ∃ k, k ≤ (zE V p).length ∧ (∀ i, i < k → zEi V p i < x) ∧ (∀ i, k ≤ i → i < (zE V p).length → x < zEi V p i) ∧ (zE (opHol V p x) p).length = (zE V p).length + 1 ∧ ∀ i, i < (zE V p).length + 1 → hx_nth (zE (opHol V p x) p) i = some (if i < k then zEi V p i else if i = k then x else zEi V p (i - 1)) := by
  obtain ⟨e1, e2⟩ := zE_hol V p hx
  rw [h0] at e1 e2
  simp only [Bool.false_eq_true, if_false, List.nil_append] at e1 e2
  have hl1 : ∀ y, y ∈ (List.range x).filter (zh V p) → y < x := fun y hy => by
    rw [List.mem_filter, List.mem_range] at hy
    exact hy.1
  have hl2 : ∀ y, y ∈ (List.range' (x + 1) (59 - x)).filter (zh V p) → x < y := fun y hy => by
    rw [List.mem_filter, List.mem_range'_1] at hy
    omega
  generalize (List.range x).filter (zh V p) = l1 at *
  generalize (List.range' (x + 1) (59 - x)).filter (zh V p) = l2 at *
  have hz : ∀ i, zEi V p i = ((l1 ++ l2)[i]?).getD 0 := fun i => by unfold zEi; rw [e1]
  have hlen : (zE V p).length = l1.length + l2.length := by rw [e1, List.length_append]
  refine ⟨l1.length, by omega, fun i hi => ?_, fun i hi hi2 => ?_, ?_, fun i hi => ?_⟩
  · rw [hz, List.getElem?_append_left hi, List.getElem?_eq_getElem hi]
    exact hl1 _ (List.getElem_mem hi)
  · rw [hz, List.getElem?_append_right hi, List.getElem?_eq_getElem (by omega)]
    exact hl2 _ (List.getElem_mem (by omega))
  · rw [e2, hlen, List.length_append, List.length_append, List.length_singleton]
    omega
  · rw [hx_nth_eq, e2]
    by_cases c : i < l1.length
    · rw [if_pos c, hz, List.getElem?_append_left c, List.getElem?_append_left c, List.getElem?_eq_getElem c]
      rfl
    · rw [if_neg c, List.getElem?_append_right (by omega)]
      by_cases c2 : i = l1.length
      · rw [if_pos c2, c2, Nat.sub_self]
        rfl
      · rw [if_neg c2, hz, List.getElem?_append_right (show l1.length ≤ i - 1 by omega), show i - l1.length = (i - 1 - l1.length) + 1 by omega, List.getElem?_append_right (by rw [List.length_singleton]; omega), List.length_singleton, Nat.add_sub_cancel, List.getElem?_eq_getElem (show i - 1 - l1.length < l2.length by omega)]
        rfl
theorem zE_close {V : ZV} {p x : Nat} (hx : x < 60) (h0 : zh V p x = true) : ∃ k, k < (zE V p).length ∧ (∀ i, i < (zE V p).length → (zEi V p i = x ↔ i = k)) ∧ (zE (opHol V p x) p).length + 1 = (zE V p).length ∧ ∀ i, i + 1 < (zE V p).length → hx_nth (zE (opHol V p x) p) i = some (zEi V p (sk k i)) := by
  obtain ⟨e1, e2⟩ := zE_hol V p hx
  rw [h0] at e1 e2
  simp only [if_true, List.nil_append] at e1 e2
  have hl1 : ∀ y, y ∈ (List.range x).filter (zh V p) → y < x := fun y hy => by
    rw [List.mem_filter, List.mem_range] at hy
    exact hy.1
  have hl2 : ∀ y, y ∈ (List.range' (x + 1) (59 - x)).filter (zh V p) → x < y := fun y hy => by
    rw [List.mem_filter, List.mem_range'_1] at hy
    omega
  generalize (List.range x).filter (zh V p) = l1 at *
  generalize (List.range' (x + 1) (59 - x)).filter (zh V p) = l2 at *
  have hz : ∀ i, zEi V p i = ((l1 ++ ([x] ++ l2))[i]?).getD 0 := fun i => by unfold zEi; rw [e1]
  have hlen : (zE V p).length = l1.length + (1 + l2.length) := by rw [e1, List.length_append, List.length_append, List.length_singleton]
  have ha : ∀ i, i < l1.length → zEi V p i < x ∧ l1[i]? = some (zEi V p i) := fun i hi => by
    rw [hz, List.getElem?_append_left hi, List.getElem?_eq_getElem hi]
    exact ⟨hl1 _ (List.getElem_mem hi), rfl⟩
  have hb : zEi V p l1.length = x := by
    rw [hz, List.getElem?_append_right (Nat.le_refl _), Nat.sub_self]
    rfl
  have hc : ∀ i, i < l2.length → x < zEi V p (l1.length + 1 + i) ∧ l2[i]? = some (zEi V p (l1.length + 1 + i)) := fun i hi => by
    rw [hz, List.getElem?_append_right (by omega), show l1.length + 1 + i - l1.length = i + 1 by omega, List.getElem?_append_right (by rw [List.length_singleton]; omega), List.length_singleton, Nat.add_sub_cancel, List.getElem?_eq_getElem hi]
    exact ⟨hl2 _ (List.getElem_mem hi), rfl⟩
  refine ⟨l1.length, by omega, fun i hi => ⟨fun e => ?_, fun e => by rw [e]; exact hb⟩, ?_, fun i hi => ?_⟩
  · rcases Nat.lt_trichotomy i l1.length with c | c | c
    · have := (ha i c).1
      omega
    · exact c
    · have := (hc (i - l1.length - 1) (by omega)).1
      rw [show l1.length + 1 + (i - l1.length - 1) = i by omega] at this
      omega
  · rw [e2, hlen, List.length_append]
    omega
  · rw [hx_nth_eq, e2]
    unfold sk
    by_cases c : i < l1.length
    · rw [if_pos c, List.getElem?_append_left c]
      exact (ha i c).2
    · rw [if_neg c, List.getElem?_append_right (by omega)]
      have := (hc (i - l1.length) (by omega)).2
      rw [show l1.length + 1 + (i - l1.length) = i + 1 by omega] at this
      exact this
theorem Valid_hol {V : ZV} {p x : Nat} (hv : Valid V) (hp : p < zn V) (hx : x < zw V p) (h4 : zh V p x = false → (zE V p).length < 4) : Valid (opHol V p x) := by
  obtain ⟨h7, vw, ve, vh, vE, vr, vj, vs0, vs1⟩ := id hv
  have hx60 : x < 60 := by have := vw p hp; omega
  refine ⟨h7, vw, ve, fun q y hq hy => ?_, fun q hq => ?_, vr, vj, vs0, vs1⟩
  · have hy2 : gup (zh V) p (gup (zh V p) x (!zh V p x)) q y = true := hy
    show y < zw V q
    by_cases e : q = p
    · rw [e] at hy2 ⊢
      rw [gup_s] at hy2
      by_cases ey : y = x
      · rw [ey]; exact hx
      · rw [gup_n _ _ ey] at hy2
        exact vh p y hp hy2
    · rw [gup_n _ _ e] at hy2
      exact vh q y hq hy2
  · by_cases e : q = p
    · rw [e]
      cases hh : zh V p x with
      | false =>
        obtain ⟨k, _, _, _, hl, _⟩ := zE_open hx60 hh
        have := h4 hh
        omega
      | true =>
        obtain ⟨k, _, _, hl, _⟩ := zE_close hx60 hh
        have := vE p hp
        omega
    · rw [zE_hol_o e]
      exact vE q hq
theorem RepC_hol {D D2 : Nat → Nat → Int32} {V : ZV} {p x : Nat} (R : RepC D 1 V) (hp : p < zn V) (ho : ∀ a, a ≠ 4 → a ≠ 5 → D2 a = D a) (h4 : D2 4 p = nI (zE (opHol V p x) p).length) (h4o : ∀ q, q ≠ p → D2 4 q = D 4 q) (h5 : ∀ i y, hx_nth (zE (opHol V p x) p) i = some y → D2 5 (p * 4 + i) = nI y) (h5o : ∀ j, (j < p * 4 ∨ p * 4 + 4 ≤ j) → D2 5 j = D 5 j) (hE : ∀ q, q < zn V → (zE V q).length ≤ 4) : RepC D2 1 (opHol V p x) := by
  obtain ⟨r0, r1, rw, re, rc, rh, rr, rs0, rs1⟩ := rC R
  refine ⟨by rw [ho 1 (by omega) (by omega)]; exact r0, by rw [ho 1 (by omega) (by omega)]; exact r1, fun q hq => by show D2 2 q = _; rw [ho 2 (by omega) (by omega)]; exact rw q hq, fun q j hq hj => by show D2 3 _ = _; rw [ho 3 (by omega) (by omega)]; exact re q j hq hj, fun q hq => ?_, fun q i y hq hy => ?_, fun i hi => by show D2 6 i = _; rw [ho 6 (by omega) (by omega)]; exact rr i hi, by show D2 7 0 = _; rw [ho 7 (by omega) (by omega)]; exact rs0, by show D2 7 1 = _; rw [ho 7 (by omega) (by omega)]; exact rs1⟩
  · show D2 4 q = _
    by_cases e : q = p
    · rw [e]; exact h4
    · rw [h4o q e, zE_hol_o e]; exact rc q hq
  · show D2 5 (q * 4 + i) = _
    by_cases e : q = p
    · rw [e] at hy ⊢
      exact h5 i y hy
    · rw [zE_hol_o e] at hy
      have hy2 := hy
      rw [hx_nth_eq] at hy2
      have h1 := (List.getElem?_eq_some_iff.mp hy2).1
      have h2 := hE q hq
      rw [h5o _ (by omega)]
      exact rh q i y hq hy
theorem m40 {sc : Nat × (Nat → Int32)} {d : Nat} {D : Nat → Nat → Int32} {G : Nat → Nat → Int64} {V : ZV} {p x : Nat} (R : RepC D 1 V) (hv : Valid V) (hp : p < zn V) (hx : x < 60) (h0 : zh V p x = false) (hl : (zE V p).length < 4) : Cq sc d 40 [.ref 1, .int (nI p), .int (nI x)] D G (fun r D2 => r = .inl none ∧ RepC D2 1 (opHol V p x) ∧ ∀ a, a ≠ 4 → a ≠ 5 → D2 a = D a) := by
  obtain ⟨r0, r1, rw, re, rc, rh, rr, rs0, rs1⟩ := rC R
  obtain ⟨h7, vw, ve, vh, vE, vr, vj, vs0, vs1⟩ := id hv
  obtain ⟨k, e1, e2, e3, e4, e5⟩ := zE_open hx h0
  have rcp := rc p hp
  have z60 : ∀ i, i < (zE V p).length → zEi V p i < 60 := fun i hi => (zE_nth (zEi_some hi)).1
  have L : ∀ f D3, k ≤ f → f ≤ (zE V p).length → (∀ a, a ≠ 5 → D3 a = D a) → (∀ j, (j < p * 4 ∨ p * 4 + 4 ≤ j) → D3 5 j = D 5 j) → (∀ i, i < f → D3 5 (p * 4 + i) = nI (zEi V p i)) → (∀ i, f ≤ i → i < (zE V p).length → D3 5 (p * 4 + (i + 1)) = nI (zEi V p i)) → Rq sc d 40 (14, [some (.ref 1), some (.int (nI p)), some (.int (nI x)), some (.int (nI (p * 4))), some (.int (nI (p * 4 + f)))], [], (hx_S0, D3, G), 0) G (fun r D2 => r = .inl none ∧ RepC D2 1 (opHol V p x) ∧ ∀ a, a ≠ 4 → a ≠ 5 → D2 a = D a) := by
    intro f
    induction f with
    | zero =>
      intro D3 hf1 hf2 hI h1 h2 h3
      have k4 : D3 4 = D 4 := hI 4 (by omega)
      refine Rq.b (fun _ => b40_14) (fun h14 => ?_) (fun h14 => ?_)
      · try simp (disch := omega) only [Int32.le_iff_toInt_le, Int32.lt_iff_toInt_lt, z_eq, z_nI, z_0, z_m1, z_sub, nI_add, nI_mulN, pk_sub, nI_clamp, Nat.reduceAdd, Nat.reduceMul, Nat.reduceSub, Nat.zero_add, Nat.add_zero, pk_m1s, hx_up_ne, k4, rcp] at h14
        all_goals (try (exfalso; omega))
        all_goals
          refine Rq.s (fun _ => b40_55 (by (try simp (disch := omega) only [nI_add, nI_mulN, pk_sub, nI_clamp, Nat.reduceAdd, Nat.reduceMul, Nat.reduceSub, Nat.zero_add, Nat.add_zero, pk_m1s, hx_up_ne, k4, rcp]); exact nI_inbT (by omega) (by omega)) (by (try simp (disch := omega) only [nI_add, nI_mulN, pk_sub, nI_clamp, Nat.reduceAdd, Nat.reduceMul, Nat.reduceSub, Nat.zero_add, Nat.add_zero, pk_m1s, hx_up_ne, k4, rcp]); exact nI_inbT (by omega) (by omega)) (by (try simp (disch := omega) only [nI_add, nI_mulN, pk_sub, nI_clamp, Nat.reduceAdd, Nat.reduceMul, Nat.reduceSub, Nat.zero_add, Nat.add_zero, pk_m1s, hx_up_ne, k4, rcp]); exact nI_inbT (by omega) (by omega))) ?_
          try simp (disch := omega) only [nI_add, nI_mulN, pk_sub, nI_clamp, Nat.reduceAdd, Nat.reduceMul, Nat.reduceSub, Nat.zero_add, Nat.add_zero, pk_m1s, hx_up_ne, k4, rcp]
          refine Rq.e (b40_73) ?_
          refine ⟨rfl, ?_, fun a a1 a2 => by rw [hx_up_ne a1, hx_up_ne a2]; exact hI a a2⟩
          have hk : k = 0 := by omega
          refine RepC_hol R hp (fun a a1 a2 => by rw [hx_up_ne a1, hx_up_ne a2]; exact hI a a2) ?_ (fun q hq => by rw [hx_up_in _ _ _ hq, hx_up_ne (by omega), hI 4 (by omega)]) (fun i y hy => ?_) (fun j hj => by rw [hx_up_ne (by omega), hx_up_in _ _ _ (by omega)]; exact h1 j hj) vE
          · rw [hx_up_s, e4]
          · rw [hx_up_ne (by omega)]
            have hy2 := hy
            rw [hx_nth_eq] at hy2
            have hi := (List.getElem?_eq_some_iff.mp hy2).1
            rw [e5 i (by omega)] at hy
            cases hy
            by_cases c : i = 0
            · rw [if_neg (by omega), if_pos (by omega), show p * 4 + i = p * 4 by omega, hx_up_s]
            · rw [hx_up_in _ _ _ (by omega)]
              by_cases c2 : i < 0
              · rw [if_pos (by omega)]
                exact h2 i c2
              · rw [if_neg (by omega), if_neg (by omega)]
                have := h3 (i - 1) (by omega) (by omega)
                rw [show i - 1 + 1 = i by omega] at this
                exact this
      · try simp (disch := omega) only [Int32.le_iff_toInt_le, Int32.lt_iff_toInt_lt, z_eq, z_nI, z_0, z_m1, z_sub, nI_add, nI_mulN, pk_sub, nI_clamp, Nat.reduceAdd, Nat.reduceMul, Nat.reduceSub, Nat.zero_add, Nat.add_zero, pk_m1s, hx_up_ne, k4, rcp] at h14
        all_goals (try (exfalso; omega))
        all_goals
          refine Rq.b (fun _ => b40_20 (by (try simp (disch := omega) only [nI_add, nI_mulN, pk_sub, nI_clamp, Nat.reduceAdd, Nat.reduceMul, Nat.reduceSub, Nat.zero_add, Nat.add_zero, pk_m1s, hx_up_ne, k4, rcp]); exact nI_inbT (by omega) (by omega))) (fun h20 => ?_) (fun h20 => ?_)
          · try simp (disch := omega) only [Int32.le_iff_toInt_le, Int32.lt_iff_toInt_lt, z_eq, z_nI, z_0, z_m1, z_sub, nI_add, nI_mulN, pk_sub, nI_clamp, Nat.reduceAdd, Nat.reduceMul, Nat.reduceSub, Nat.zero_add, Nat.add_zero, pk_m1s, hx_up_ne, k4, rcp] at h20
            all_goals (try (exfalso; omega))
            all_goals
              refine Rq.s (fun _ => b40_55 (by (try simp (disch := omega) only [nI_add, nI_mulN, pk_sub, nI_clamp, Nat.reduceAdd, Nat.reduceMul, Nat.reduceSub, Nat.zero_add, Nat.add_zero, pk_m1s, hx_up_ne, k4, rcp]); exact nI_inbT (by omega) (by omega)) (by (try simp (disch := omega) only [nI_add, nI_mulN, pk_sub, nI_clamp, Nat.reduceAdd, Nat.reduceMul, Nat.reduceSub, Nat.zero_add, Nat.add_zero, pk_m1s, hx_up_ne, k4, rcp]); exact nI_inbT (by omega) (by omega)) (by (try simp (disch := omega) only [nI_add, nI_mulN, pk_sub, nI_clamp, Nat.reduceAdd, Nat.reduceMul, Nat.reduceSub, Nat.zero_add, Nat.add_zero, pk_m1s, hx_up_ne, k4, rcp]); exact nI_inbT (by omega) (by omega))) ?_
              try simp (disch := omega) only [nI_add, nI_mulN, pk_sub, nI_clamp, Nat.reduceAdd, Nat.reduceMul, Nat.reduceSub, Nat.zero_add, Nat.add_zero, pk_m1s, hx_up_ne, k4, rcp]
              refine Rq.e (b40_73) ?_
              refine ⟨rfl, ?_, fun a a1 a2 => by rw [hx_up_ne a1, hx_up_ne a2]; exact hI a a2⟩
              have hk : k = 0 := by omega
              refine RepC_hol R hp (fun a a1 a2 => by rw [hx_up_ne a1, hx_up_ne a2]; exact hI a a2) ?_ (fun q hq => by rw [hx_up_in _ _ _ hq, hx_up_ne (by omega), hI 4 (by omega)]) (fun i y hy => ?_) (fun j hj => by rw [hx_up_ne (by omega), hx_up_in _ _ _ (by omega)]; exact h1 j hj) vE
              · rw [hx_up_s, e4]
              · rw [hx_up_ne (by omega)]
                have hy2 := hy
                rw [hx_nth_eq] at hy2
                have hi := (List.getElem?_eq_some_iff.mp hy2).1
                rw [e5 i (by omega)] at hy
                cases hy
                by_cases c : i = 0
                · rw [if_neg (by omega), if_pos (by omega), show p * 4 + i = p * 4 by omega, hx_up_s]
                · rw [hx_up_in _ _ _ (by omega)]
                  by_cases c2 : i < 0
                  · rw [if_pos (by omega)]
                    exact h2 i c2
                  · rw [if_neg (by omega), if_neg (by omega)]
                    have := h3 (i - 1) (by omega) (by omega)
                    rw [show i - 1 + 1 = i by omega] at this
                    exact this
          · try simp (disch := omega) only [Int32.le_iff_toInt_le, Int32.lt_iff_toInt_lt, z_eq, z_nI, z_0, z_m1, z_sub, nI_add, nI_mulN, pk_sub, nI_clamp, Nat.reduceAdd, Nat.reduceMul, Nat.reduceSub, Nat.zero_add, Nat.add_zero, pk_m1s, hx_up_ne, k4, rcp] at h20
            all_goals (try (exfalso; omega))
            all_goals
              refine Rq.s (fun _ => b40_33 (by (try simp (disch := omega) only [nI_add, nI_mulN, pk_sub, nI_clamp, Nat.reduceAdd, Nat.reduceMul, Nat.reduceSub, Nat.zero_add, Nat.add_zero, pk_m1s, hx_up_ne, k4, rcp]); exact nI_inbT (by omega) (by omega)) (by (try simp (disch := omega) only [nI_add, nI_mulN, pk_sub, nI_clamp, Nat.reduceAdd, Nat.reduceMul, Nat.reduceSub, Nat.zero_add, Nat.add_zero, pk_m1s, hx_up_ne, k4, rcp]); exact nI_inbT (by omega) (by omega))) ?_
              try simp (disch := omega) only [nI_add, nI_mulN, pk_sub, nI_clamp, Nat.reduceAdd, Nat.reduceMul, Nat.reduceSub, Nat.zero_add, Nat.add_zero, pk_m1s, hx_up_ne, k4, rcp]
              refine ih _ (by omega) (by omega) (fun a ha => by rw [hx_up_ne ha]; exact hI a ha) (fun j hj => by rw [hx_up_in _ _ _ (by omega)]; exact h1 j hj) (fun i hi => by rw [hx_up_in _ _ _ (by omega)]; exact h2 i (by omega)) (fun i hi hi2 => ?_)
              by_cases c : i = f
              · rw [c, hx_up_s]
              · rw [hx_up_in _ _ _ (by omega)]
                exact h3 i (by omega) hi2
    | succ f ih =>
      intro D3 hf1 hf2 hI h1 h2 h3
      have k4 : D3 4 = D 4 := hI 4 (by omega)
      have h2f := h2 f (by omega)
      have z6 := z60 f (by omega)
      have g1 : k ≤ f → x < zEi V p f := fun h => e3 f h (by omega)
      have g2 : f < k → zEi V p f < x := fun h => e2 f h
      have s1 : p * 4 + (f + 1) - 1 = p * 4 + f := by omega
      refine Rq.b (fun _ => b40_14) (fun h14 => ?_) (fun h14 => ?_)
      · try simp (disch := omega) only [Int32.le_iff_toInt_le, Int32.lt_iff_toInt_lt, z_eq, z_nI, z_0, z_m1, z_sub, nI_add, nI_mulN, pk_sub, nI_clamp, Nat.reduceAdd, Nat.reduceMul, Nat.reduceSub, Nat.zero_add, Nat.add_zero, pk_m1s, hx_up_ne, k4, rcp, s1, h2f] at h14
        all_goals (try (exfalso; omega))
        all_goals
          refine Rq.s (fun _ => b40_55 (by (try simp (disch := omega) only [nI_add, nI_mulN, pk_sub, nI_clamp, Nat.reduceAdd, Nat.reduceMul, Nat.reduceSub, Nat.zero_add, Nat.add_zero, pk_m1s, hx_up_ne, k4, rcp, s1, h2f]); exact nI_inbT (by omega) (by omega)) (by (try simp (disch := omega) only [nI_add, nI_mulN, pk_sub, nI_clamp, Nat.reduceAdd, Nat.reduceMul, Nat.reduceSub, Nat.zero_add, Nat.add_zero, pk_m1s, hx_up_ne, k4, rcp, s1, h2f]); exact nI_inbT (by omega) (by omega)) (by (try simp (disch := omega) only [nI_add, nI_mulN, pk_sub, nI_clamp, Nat.reduceAdd, Nat.reduceMul, Nat.reduceSub, Nat.zero_add, Nat.add_zero, pk_m1s, hx_up_ne, k4, rcp, s1, h2f]); exact nI_inbT (by omega) (by omega))) ?_
          try simp (disch := omega) only [nI_add, nI_mulN, pk_sub, nI_clamp, Nat.reduceAdd, Nat.reduceMul, Nat.reduceSub, Nat.zero_add, Nat.add_zero, pk_m1s, hx_up_ne, k4, rcp, s1, h2f]
          refine Rq.e (b40_73) ?_
          refine ⟨rfl, ?_, fun a a1 a2 => by rw [hx_up_ne a1, hx_up_ne a2]; exact hI a a2⟩
          have hk : k = f + 1 := by omega
          refine RepC_hol R hp (fun a a1 a2 => by rw [hx_up_ne a1, hx_up_ne a2]; exact hI a a2) ?_ (fun q hq => by rw [hx_up_in _ _ _ hq, hx_up_ne (by omega), hI 4 (by omega)]) (fun i y hy => ?_) (fun j hj => by rw [hx_up_ne (by omega), hx_up_in _ _ _ (by omega)]; exact h1 j hj) vE
          · rw [hx_up_s, e4]
          · rw [hx_up_ne (by omega)]
            have hy2 := hy
            rw [hx_nth_eq] at hy2
            have hi := (List.getElem?_eq_some_iff.mp hy2).1
            rw [e5 i (by omega)] at hy
            cases hy
            by_cases c : i = f + 1
            · rw [if_neg (by omega), if_pos (by omega), show p * 4 + i = p * 4 + (f + 1) by omega, hx_up_s]
            · rw [hx_up_in _ _ _ (by omega)]
              by_cases c2 : i < f + 1
              · rw [if_pos (by omega)]
                exact h2 i c2
              · rw [if_neg (by omega), if_neg (by omega)]
                have := h3 (i - 1) (by omega) (by omega)
                rw [show i - 1 + 1 = i by omega] at this
                exact this
      · try simp (disch := omega) only [Int32.le_iff_toInt_le, Int32.lt_iff_toInt_lt, z_eq, z_nI, z_0, z_m1, z_sub, nI_add, nI_mulN, pk_sub, nI_clamp, Nat.reduceAdd, Nat.reduceMul, Nat.reduceSub, Nat.zero_add, Nat.add_zero, pk_m1s, hx_up_ne, k4, rcp, s1, h2f] at h14
        all_goals (try (exfalso; omega))
        all_goals
          refine Rq.b (fun _ => b40_20 (by (try simp (disch := omega) only [nI_add, nI_mulN, pk_sub, nI_clamp, Nat.reduceAdd, Nat.reduceMul, Nat.reduceSub, Nat.zero_add, Nat.add_zero, pk_m1s, hx_up_ne, k4, rcp, s1, h2f]); exact nI_inbT (by omega) (by omega))) (fun h20 => ?_) (fun h20 => ?_)
          · try simp (disch := omega) only [Int32.le_iff_toInt_le, Int32.lt_iff_toInt_lt, z_eq, z_nI, z_0, z_m1, z_sub, nI_add, nI_mulN, pk_sub, nI_clamp, Nat.reduceAdd, Nat.reduceMul, Nat.reduceSub, Nat.zero_add, Nat.add_zero, pk_m1s, hx_up_ne, k4, rcp, s1, h2f] at h20
            all_goals (try (exfalso; omega))
            all_goals
              refine Rq.s (fun _ => b40_55 (by (try simp (disch := omega) only [nI_add, nI_mulN, pk_sub, nI_clamp, Nat.reduceAdd, Nat.reduceMul, Nat.reduceSub, Nat.zero_add, Nat.add_zero, pk_m1s, hx_up_ne, k4, rcp, s1, h2f]); exact nI_inbT (by omega) (by omega)) (by (try simp (disch := omega) only [nI_add, nI_mulN, pk_sub, nI_clamp, Nat.reduceAdd, Nat.reduceMul, Nat.reduceSub, Nat.zero_add, Nat.add_zero, pk_m1s, hx_up_ne, k4, rcp, s1, h2f]); exact nI_inbT (by omega) (by omega)) (by (try simp (disch := omega) only [nI_add, nI_mulN, pk_sub, nI_clamp, Nat.reduceAdd, Nat.reduceMul, Nat.reduceSub, Nat.zero_add, Nat.add_zero, pk_m1s, hx_up_ne, k4, rcp, s1, h2f]); exact nI_inbT (by omega) (by omega))) ?_
              try simp (disch := omega) only [nI_add, nI_mulN, pk_sub, nI_clamp, Nat.reduceAdd, Nat.reduceMul, Nat.reduceSub, Nat.zero_add, Nat.add_zero, pk_m1s, hx_up_ne, k4, rcp, s1, h2f]
              refine Rq.e (b40_73) ?_
              refine ⟨rfl, ?_, fun a a1 a2 => by rw [hx_up_ne a1, hx_up_ne a2]; exact hI a a2⟩
              have hk : k = f + 1 := by omega
              refine RepC_hol R hp (fun a a1 a2 => by rw [hx_up_ne a1, hx_up_ne a2]; exact hI a a2) ?_ (fun q hq => by rw [hx_up_in _ _ _ hq, hx_up_ne (by omega), hI 4 (by omega)]) (fun i y hy => ?_) (fun j hj => by rw [hx_up_ne (by omega), hx_up_in _ _ _ (by omega)]; exact h1 j hj) vE
              · rw [hx_up_s, e4]
              · rw [hx_up_ne (by omega)]
                have hy2 := hy
                rw [hx_nth_eq] at hy2
                have hi := (List.getElem?_eq_some_iff.mp hy2).1
                rw [e5 i (by omega)] at hy
                cases hy
                by_cases c : i = f + 1
                · rw [if_neg (by omega), if_pos (by omega), show p * 4 + i = p * 4 + (f + 1) by omega, hx_up_s]
                · rw [hx_up_in _ _ _ (by omega)]
                  by_cases c2 : i < f + 1
                  · rw [if_pos (by omega)]
                    exact h2 i c2
                  · rw [if_neg (by omega), if_neg (by omega)]
                    have := h3 (i - 1) (by omega) (by omega)
                    rw [show i - 1 + 1 = i by omega] at this
                    exact this
          · try simp (disch := omega) only [Int32.le_iff_toInt_le, Int32.lt_iff_toInt_lt, z_eq, z_nI, z_0, z_m1, z_sub, nI_add, nI_mulN, pk_sub, nI_clamp, Nat.reduceAdd, Nat.reduceMul, Nat.reduceSub, Nat.zero_add, Nat.add_zero, pk_m1s, hx_up_ne, k4, rcp, s1, h2f] at h20
            all_goals (try (exfalso; omega))
            all_goals
              refine Rq.s (fun _ => b40_33 (by (try simp (disch := omega) only [nI_add, nI_mulN, pk_sub, nI_clamp, Nat.reduceAdd, Nat.reduceMul, Nat.reduceSub, Nat.zero_add, Nat.add_zero, pk_m1s, hx_up_ne, k4, rcp, s1, h2f]); exact nI_inbT (by omega) (by omega)) (by (try simp (disch := omega) only [nI_add, nI_mulN, pk_sub, nI_clamp, Nat.reduceAdd, Nat.reduceMul, Nat.reduceSub, Nat.zero_add, Nat.add_zero, pk_m1s, hx_up_ne, k4, rcp, s1, h2f]); exact nI_inbT (by omega) (by omega))) ?_
              try simp (disch := omega) only [nI_add, nI_mulN, pk_sub, nI_clamp, Nat.reduceAdd, Nat.reduceMul, Nat.reduceSub, Nat.zero_add, Nat.add_zero, pk_m1s, hx_up_ne, k4, rcp, s1, h2f]
              refine ih _ (by omega) (by omega) (fun a ha => by rw [hx_up_ne ha]; exact hI a ha) (fun j hj => by rw [hx_up_in _ _ _ (by omega)]; exact h1 j hj) (fun i hi => by rw [hx_up_in _ _ _ (by omega)]; exact h2 i (by omega)) (fun i hi hi2 => ?_)
              by_cases c : i = f
              · rw [c, hx_up_s]
              · rw [hx_up_in _ _ _ (by omega)]
                exact h3 i (by omega) hi2
  refine Cq.c (fun _ _ _ => c40) ?_
  refine Rq.s (fun _ => b40_0 (by (try simp (disch := omega) only [nI_add, nI_mulN, pk_sub, nI_clamp, Nat.reduceAdd, Nat.reduceMul, Nat.reduceSub, Nat.zero_add, Nat.add_zero, rcp]); exact nI_inbT (by omega) (by omega))) ?_
  try simp (disch := omega) only [nI_add, nI_mulN, pk_sub, nI_clamp, Nat.reduceAdd, Nat.reduceMul, Nat.reduceSub, Nat.zero_add, Nat.add_zero, rcp]
  exact L _ D e1 (Nat.le_refl _) (fun a _ => rfl) (fun j _ => rfl) (fun i hi => rh p i _ hp (zEi_some hi)) (fun i a b => by omega)
theorem m41 {sc : Nat × (Nat → Int32)} {d : Nat} {D : Nat → Nat → Int32} {G : Nat → Nat → Int64} {V : ZV} {p x : Nat} (R : RepC D 1 V) (hv : Valid V) (hp : p < zn V) (hx : x < 60) (h0 : zh V p x = true) : Cq sc d 41 [.ref 1, .int (nI p), .int (nI x)] D G (fun r D2 => r = .inl none ∧ RepC D2 1 (opHol V p x) ∧ ∀ a, a ≠ 4 → a ≠ 5 → D2 a = D a) := by
  obtain ⟨r0, r1, rw, re, rc, rh, rr, rs0, rs1⟩ := rC R
  obtain ⟨h7, vw, ve, vh, vE, vr, vj, vs0, vs1⟩ := id hv
  obtain ⟨k, e1, e2, e4, e5⟩ := zE_close hx h0
  have rcp := rc p hp
  have vEp := vE p hp
  have z60 : ∀ i, i < (zE V p).length → zEi V p i < 60 := fun i hi => (zE_nth (zEi_some hi)).1
  have L : ∀ m i lf D3, (zE V p).length - i = m → i ≤ (zE V p).length → (∀ a, a ≠ 5 → D3 a = D a) → (∀ j, (j < p * 4 ∨ p * 4 + 4 ≤ j) → D3 5 j = D 5 j) → (∀ j, j < lf → D3 5 (p * 4 + j) = nI (zEi V p (sk k j))) → (∀ j, i ≤ j → j < (zE V p).length → D3 5 (p * 4 + j) = nI (zEi V p j)) → lf = (if i ≤ k then i else i - 1) → Rq sc d 41 (5, [some (.ref 1), some (.int (nI p)), some (.int (nI x)), some (.int (nI lf)), some (.int (nI i)), none], [], (hx_S0, D3, G), 0) G (fun r D2 => r = .inl none ∧ RepC D2 1 (opHol V p x) ∧ ∀ a, a ≠ 4 → a ≠ 5 → D2 a = D a) := by
    intro m
    induction m using Nat.strongRecOn with
    | _ m ih =>
    intro i lf D3 hm hi hI h1 h2 h3 hlf
    have k4 : D3 4 = D 4 := hI 4 (by omega)
    have hlfb : lf ≤ i := by split at hlf <;> omega
    refine Rq.b (fun _ => b41_5 (by (try simp (disch := omega) only [nI_add, nI_mulN, pk_sub, nI_clamp, Nat.reduceAdd, Nat.reduceMul, Nat.reduceSub, Nat.zero_add, Nat.add_zero, k4, rcp]); exact nI_inbT (by omega) (by omega))) (fun h5 => ?_) (fun h5 => ?_)
    · try simp (disch := omega) only [Int32.le_iff_toInt_le, Int32.lt_iff_toInt_lt, z_eq, z_nI, z_0, z_m1, z_sub, nI_add, nI_mulN, pk_sub, nI_clamp, Nat.reduceAdd, Nat.reduceMul, Nat.reduceSub, Nat.zero_add, Nat.add_zero, k4, rcp] at h5
      all_goals (try (exfalso; omega))
      all_goals
        refine Rq.e (b41_56 (by (try simp (disch := omega) only [nI_add, nI_mulN, pk_sub, nI_clamp, Nat.reduceAdd, Nat.reduceMul, Nat.reduceSub, Nat.zero_add, Nat.add_zero, k4, rcp]); exact nI_inbT (by omega) (by omega))) ?_
        have hl2 : lf + 1 = (zE V p).length := by split at hlf <;> omega
        refine ⟨rfl, ?_, fun a a1 a2 => by rw [hx_up_ne a1]; exact hI a a2⟩
        rw [nI_clamp (by omega)]
        refine RepC_hol R hp (fun a a1 a2 => by rw [hx_up_ne a1]; exact hI a a2) ?_ (fun q hq => by rw [hx_up_in _ _ _ hq, hI 4 (by omega)]) (fun j y hy => ?_) (fun j hj => by rw [hx_up_ne (by omega)]; exact h1 j hj) vE
        · rw [hx_up_s]
          congr 1
          omega
        · rw [hx_up_ne (by omega)]
          have hy2 := hy
          rw [hx_nth_eq] at hy2
          have hj := (List.getElem?_eq_some_iff.mp hy2).1
          rw [e5 j (by omega)] at hy
          cases hy
          exact h2 j (by omega)
    · try simp (disch := omega) only [Int32.le_iff_toInt_le, Int32.lt_iff_toInt_lt, z_eq, z_nI, z_0, z_m1, z_sub, nI_add, nI_mulN, pk_sub, nI_clamp, Nat.reduceAdd, Nat.reduceMul, Nat.reduceSub, Nat.zero_add, Nat.add_zero, k4, rcp] at h5
      all_goals (try (exfalso; omega))
      all_goals
        have h3i := h3 i (Nat.le_refl _) (by omega)
        have z6 := z60 i (by omega)
        have g1 := (e2 i (by omega)).mp
        have g2 := (e2 i (by omega)).mpr
        refine Rq.b (fun _ => b41_16 (by (try simp (disch := omega) only [nI_add, nI_mulN, pk_sub, nI_clamp, Nat.reduceAdd, Nat.reduceMul, Nat.reduceSub, Nat.zero_add, Nat.add_zero, k4, rcp, h3i]); exact nI_inbT (by omega) (by omega))) (fun h16 => ?_) (fun h16 => ?_)
        · try simp (disch := omega) only [Int32.le_iff_toInt_le, Int32.lt_iff_toInt_lt, z_eq, z_nI, z_0, z_m1, z_sub, nI_add, nI_mulN, pk_sub, nI_clamp, Nat.reduceAdd, Nat.reduceMul, Nat.reduceSub, Nat.zero_add, Nat.add_zero, k4, rcp, h3i] at h16
          all_goals (try (exfalso; omega))
          all_goals (try simp (disch := omega) only [nI_add, nI_mulN, pk_sub, nI_clamp, Nat.reduceAdd, Nat.reduceMul, Nat.reduceSub, Nat.zero_add, Nat.add_zero, k4, rcp, h3i])
          all_goals
            refine Rq.s (fun _ => b41_50) ?_
            try simp (disch := omega) only [nI_add, nI_mulN, pk_sub, nI_clamp, Nat.reduceAdd, Nat.reduceMul, Nat.reduceSub, Nat.zero_add, Nat.add_zero, k4, rcp, h3i]
            exact ih _ (by omega) (i + 1) lf D3 rfl (by omega) hI h1 h2 (fun j a b => h3 j (by omega) b) (by split at hlf <;> split <;> omega)
        · try simp (disch := omega) only [Int32.le_iff_toInt_le, Int32.lt_iff_toInt_lt, z_eq, z_nI, z_0, z_m1, z_sub, nI_add, nI_mulN, pk_sub, nI_clamp, Nat.reduceAdd, Nat.reduceMul, Nat.reduceSub, Nat.zero_add, Nat.add_zero, k4, rcp, h3i] at h16
          all_goals (try (exfalso; omega))
          all_goals (try simp (disch := omega) only [nI_add, nI_mulN, pk_sub, nI_clamp, Nat.reduceAdd, Nat.reduceMul, Nat.reduceSub, Nat.zero_add, Nat.add_zero, k4, rcp, h3i])
          all_goals
            refine Rq.s (fun _ => b41_35 (by (try simp (disch := omega) only [nI_add, nI_mulN, pk_sub, nI_clamp, Nat.reduceAdd, Nat.reduceMul, Nat.reduceSub, Nat.zero_add, Nat.add_zero, k4, rcp, h3i]); exact nI_inbT (by omega) (by omega))) ?_
            try simp (disch := omega) only [nI_add, nI_mulN, pk_sub, nI_clamp, Nat.reduceAdd, Nat.reduceMul, Nat.reduceSub, Nat.zero_add, Nat.add_zero, k4, rcp, h3i]
            refine Rq.s (fun _ => b41_50b) ?_
            try simp (disch := omega) only [nI_add, nI_mulN, pk_sub, nI_clamp, Nat.reduceAdd, Nat.reduceMul, Nat.reduceSub, Nat.zero_add, Nat.add_zero, k4, rcp, h3i]
            refine ih _ (by omega) (i + 1) (lf + 1) _ rfl (by omega) (fun a ha => by rw [hx_up_ne ha]; exact hI a ha) (fun j hj => by rw [hx_up_in _ _ _ (by omega)]; exact h1 j hj) (fun j hj => ?_) (fun j hj hj2 => by rw [hx_up_in _ _ _ (by omega)]; exact h3 j (by omega) hj2) (by split at hlf <;> split <;> omega)
            by_cases c : j = lf
            · rw [c, hx_up_s]
              have : sk k lf = i := by unfold sk; split at hlf <;> split <;> omega
              rw [this]
            · rw [hx_up_in _ _ _ (by omega)]
              exact h2 j (by omega)
  refine Cq.c (fun _ _ _ => c41) ?_
  refine Rq.s (fun _ => b41_0) ?_
  try simp (disch := omega) only [nI_add, nI_mulN, pk_sub, nI_clamp, Nat.reduceAdd, Nat.reduceMul, Nat.reduceSub, Nat.zero_add, Nat.add_zero]
  exact L _ 0 0 D rfl (by omega) (fun a _ => rfl) (fun j _ => rfl) (fun j hj => absurd hj (Nat.not_lt_zero _)) (fun j _ hj => rh p j _ hp (zEi_some hj)) (by simp)
