/-! ===== the class: load ===== -/
theorem sorted_last {l : List Nat} {x : Nat} (h : l.Pairwise (· < ·)) (hx : hx_nth l (l.length - 1) = some x) : ∀ y, y ∈ l → y ≤ x := by
  intro y hy
  rw [hx_nth_eq] at hx
  obtain ⟨i, hi, rfl⟩ := List.getElem_of_mem hy
  have hl : l.length - 1 < l.length := by omega
  rw [List.getElem?_eq_getElem hl] at hx
  have hx2 := Option.some.inj hx
  rw [← hx2]
  by_cases c : i = l.length - 1
  · subst c
    exact Nat.le_refl _
  · exact Nat.le_of_lt (List.pairwise_iff_getElem.mp h i (l.length - 1) hi hl (by omega))
theorem filter_sorted : ∀ (n s : Nat) (l : List Nat), l.Pairwise (· < ·) → (∀ x, x ∈ l → s ≤ x ∧ x < s + n) → (List.range' s n).filter (fun x => decide (x ∈ l)) = l
  | 0, s, l, _, h2 => by
    cases l with
    | nil => rfl
    | cons a l => have := h2 a (List.mem_cons_self ..); omega
  | n + 1, s, l, h1, h2 => by
    rw [List.range'_succ]
    by_cases c : s ∈ l
    · rw [List.filter_cons, if_pos (decide_eq_true c)]
      cases l with
      | nil => cases c
      | cons a l =>
        have h3 := List.pairwise_cons.mp h1
        have ha := h2 a (List.mem_cons_self ..)
        have e : a = s := by
          rcases List.mem_cons.mp c with c | c
          · exact c.symm
          · have := h3.1 s c
            omega
        subst e
        congr 1
        have := filter_sorted n (a + 1) l h3.2 (fun x hx => by have := h3.1 x hx; have := h2 x (List.mem_cons_of_mem _ hx); omega)
        refine Eq.trans (List.filter_congr (fun x hx => ?_)) this
        rw [List.mem_range'_1] at hx
        have : (x ∈ a :: l) ↔ (x ∈ l) := ⟨fun z => by
          rcases List.mem_cons.mp z with z | z
          · omega
          · exact z, fun z => List.mem_cons_of_mem _ z⟩
        exact decide_eq_decide.mpr this
    · rw [List.filter_cons, if_neg (fun z => c (of_decide_eq_true z))]
      exact filter_sorted n (s + 1) l h1 (fun x hx => by
        have := h2 x hx
        have : x ≠ s := fun z => c (z ▸ hx)
        omega)
/-- what holds of the pieces read -/
def Qd (q : RS) : Prop := (1 ≤ qp q → 1 ≤ qw q) ∧ (2 ≤ qp q → qe q = 10) ∧ (∀ j, j < qe q → qd q j ≤ 9 ∧ (j ≠ 4 → j ≠ 9 → qd q j ≤ 5)) ∧ (qh q).Pairwise (· < ·) ∧ (∀ x, x ∈ qh q → x < qw q) ∧ (qp q ≤ 1 → qh q = [])
def PcOK (q : RS) : Prop := 1 ≤ qw q ∧ qw q ≤ 60 ∧ qe q = 10 ∧ (∀ j, j < 10 → qd q j ≤ 9 ∧ (j ≠ 4 → j ≠ 9 → qd q j ≤ 5)) ∧ (qh q).Pairwise (· < ·) ∧ (∀ x, x ∈ qh q → x < qw q) ∧ (qh q).length ≤ 4
theorem qclose_d {q : RS} (HD : Qd q) (hx : qp q = 3 → qisP q (qx q) = true) : Qd (qclose q) := by
  obtain ⟨k1, k2, k3, k4, k5, k6⟩ := id HD
  unfold qclose
  split
  · rename_i h
    have hp := of_decide_eq_true (hx h.1)
    have hs : ∀ y, y ∈ qh q → (y : Int) < qx q := fun y hy => by
      unfold qlast at hp
      cases e : hx_nth (qh q) ((qh q).length - 1) with
      | some x =>
        rw [e] at hp
        have := sorted_last k4 e y hy
        have h9 : (x : Int) < qx q := hp.1
        omega
      | none =>
        rw [hx_nth_eq, List.getElem?_eq_none_iff] at e
        have : (qh q).length ≠ 0 := fun z => by rw [List.length_eq_zero_iff.mp z] at hy; cases hy
        omega
    have hq : -1 ≤ qlast q := by
      unfold qlast
      split <;> omega
    refine ⟨fun _ => k1 (by omega), fun _ => k2 (by omega), k3, ?_, fun x hx2 => ?_, fun z => absurd z (by show ¬ 2 ≤ 1; omega)⟩
    · show (qh q ++ [(qx q).toNat]).Pairwise (· < ·)
      refine List.pairwise_append.mpr ⟨k4, List.pairwise_singleton _ _, fun a ha b hb => ?_⟩
      rw [List.mem_singleton] at hb
      have := hs a ha
      omega
    · have hx3 : x ∈ qh q ++ [(qx q).toNat] := hx2
      show x < qw q
      rcases List.mem_append.mp hx3 with h3 | h3
      · exact k5 x h3
      · rw [List.mem_singleton] at h3
        omega
  · exact HD
theorem aN_d {q q2 : RS} {c : Nat} (hp : 2 ≤ qp q) (HD : Qd q) (h : aN q c = some q2) : Qd q2 := by
  obtain ⟨k1, k2, k3, k4, k5, k6⟩ := id HD
  unfold aN at h
  split at h
  · cases h
    exact ⟨fun z => absurd z (by show ¬ 1 ≤ 0; omega), fun z => absurd z (by show ¬ 2 ≤ 0; omega), fun j hj => absurd hj (by show ¬ j < 0; omega), List.Pairwise.nil, fun x hx => (by cases hx), fun _ => rfl⟩
  · split at h
    · cases h
      exact ⟨fun _ => k1 (by omega), fun _ => k2 hp, k3, k4, k5, fun z => absurd z (by show ¬ 3 ≤ 1; omega)⟩
    · cases h
theorem qclose_p {q : RS} (h : qwhole q = true) : qp q = 2 ∨ (qp q = 3 ∧ qisP q (qx q) = true) := by
  unfold qwhole at h
  rcases (Bool.or_eq_true _ _).mp h with h | h
  · exact Or.inl (of_decide_eq_true h)
  · have h2 := (Bool.and_eq_true _ _).mp h
    exact Or.inr ⟨of_decide_eq_true h2.1, h2.2⟩
theorem qclose_2 {q : RS} (HQ : Qok q) (h : qp q = 2 ∨ qp q = 3) : qp (qclose q) = 2 := by
  unfold qclose
  rcases h with h | h
  · rw [if_neg (by omega)]; exact h
  · rw [if_pos ⟨h, HQ.2.2.2.2.2.2.2 h⟩]
theorem qclose_b (q : RS) : qb (qclose q) = qb q := by
  unfold qclose
  split <;> rfl
theorem aT_d {q q2 : RS} {c : Nat} (HQ : Qok q) (HD : Qd q) (h : aT q c = some q2) : Qd q2 := by
  obtain ⟨k1, k2, k3, k4, k5, k6⟩ := id HD
  have hd := zdg_r c
  have hq := HQ.2.2.1
  have hq0 := HQ.1
  unfold aT at h
  split at h
  · rename_i h0
    have hh := k6 (by omega)
    unfold aW at h
    split at h
    · split at h
      · rename_i h1
        cases h
        exact ⟨fun _ => h1, fun z => absurd z (by show ¬ 2 ≤ 1; omega), k3, k4, k5, fun _ => hh⟩
      · cases h
    · split at h
      · cases h
      · rename_i h3
        cases h
        refine ⟨fun z => absurd z (by show ¬ 1 ≤ qp q; omega), fun z => absurd z (by show ¬ 2 ≤ qp q; omega), k3, k4, fun x hx => ?_, fun _ => hh⟩
        have hx2 : x ∈ qh q := hx
        rw [hh] at hx2
        cases hx2
  · split at h
    · rename_i h1
      have hh := k6 (by omega)
      unfold aE at h
      split at h
      · split at h
        · cases h
          exact ⟨k1, k2, k3, k4, k5, k6⟩
        · cases h
      · split at h
        · split at h
          · cases h
            exact ⟨fun _ => k1 (by omega), fun _ => by show qe q = 10; omega, k3, k4, k5, fun z => absurd z (by show ¬ 2 ≤ 1; omega)⟩
          · cases h
        · by_cases h9 : zdg c = -1 ∨ (if qe q % 5 = 4 then 9 else 5) < zdg c
          · rw [if_pos h9] at h
            cases h
          · rw [if_neg h9] at h
            cases h
            refine ⟨k1, fun z => absurd z (by show ¬ 2 ≤ qp q; omega), fun j hj => ?_, k4, k5, k6⟩
            have hj2 : j < qe q + 1 := hj
            show (if j = qe q then (zdg c).toNat else qd q j) ≤ 9 ∧ (j ≠ 4 → j ≠ 9 → (if j = qe q then (zdg c).toNat else qd q j) ≤ 5)
            by_cases e : j = qe q
            · rw [if_pos e]
              refine ⟨by omega, fun a a2 => ?_⟩
              rw [if_neg (show ¬ qe q % 5 = 4 by omega)] at h9
              omega
            · rw [if_neg e]
              exact k3 j (by omega)
    · split at h
      · exact aN_d (by omega) HD h
      · rename_i h1 h2 h3
        have hp3 : qp q = 3 := by omega
        unfold aP at h
        split at h
        · split at h
          · rename_i h5
            exact aN_d (by rw [qclose_2 HQ (Or.inr hp3)]; exact Nat.le_refl _) (qclose_d HD (fun _ => h5)) h
          · cases h
        · split at h
          · cases h
          · by_cases h6 : qisP q (if qx q = -1 then zdg c else qx q * 10 + zdg c) = true ∨ qbegP q (if qx q = -1 then zdg c else qx q * 10 + zdg c) = true
            · rw [if_pos h6] at h
              cases h
              exact ⟨k1, k2, k3, k4, k5, k6⟩
            · rw [if_neg h6] at h
              cases h
theorem q0_d : Qd q0 := ⟨fun z => absurd z (by decide), fun z => absurd z (by decide), fun j hj => absurd hj (Nat.not_lt_zero _), List.Pairwise.nil, fun x hx => (by cases hx), fun _ => rfl⟩
theorem aSt_d {b : Nat → Nat} : ∀ s q, aSt b s = some q → Qd q
  | 0, q, h => by
    cases h
    exact q0_d
  | s + 1, q, h => by
    cases e : aSt b s with
    | none =>
      have := aSt_none e 1
      rw [this] at h
      cases h
    | some q1 =>
      rw [aSt_s e] at h
      exact aT_d (aSt_ok s q1 e) (aSt_d s q1 e) h
theorem zdg59 : zdg 59 = -1 := by decide
theorem aT_59 {q q2 : RS} (HQ : Qok q) (h : aT q 59 = some q2) : qwhole q = true ∧ q2 = qbegin (qclose q) := by
  unfold aT at h
  split at h
  · rename_i h0
    unfold aW at h
    rw [if_neg (by decide), zdg59, if_pos (Or.inl rfl)] at h
    cases h
  · split at h
    · unfold aE at h
      rw [zdg59] at h
      split at h
      · rw [if_neg (by decide)] at h; cases h
      · split at h
        · rw [if_neg (by decide)] at h; cases h
        · rw [if_pos (Or.inl rfl)] at h; cases h
    · have hq3 := HQ.1
      split at h
      · rename_i h2
        unfold aN at h
        rw [if_pos rfl] at h
        cases h
        refine ⟨by unfold qwhole; rw [decide_eq_true h2]; rfl, ?_⟩
        unfold qclose
        rw [if_neg (by omega)]
      · unfold aP at h
        rw [zdg59, if_pos rfl] at h
        split at h
        · rename_i h5
          unfold aN at h
          rw [if_pos rfl] at h
          cases h
          refine ⟨?_, rfl⟩
          unfold qwhole
          rw [decide_eq_true (show qp q = 3 by omega), h5, Bool.and_self, Bool.or_true]
        · cases h
theorem aT_qb {q q2 : RS} {c : Nat} (hc : c ≠ 59) (h : aT q c = some q2) : qb q2 = qb q := by
  have hN : ∀ q3, aN q3 c = some q2 → qb q2 = qb q3 := fun q3 h3 => by
    unfold aN at h3
    rw [if_neg hc] at h3
    split at h3
    · cases h3; rfl
    · cases h3
  unfold aT at h
  split at h
  · unfold aW at h
    split at h
    · split at h <;> cases h
      rfl
    · split at h <;> cases h
      rfl
  · split at h
    · unfold aE at h
      split at h
      · split at h <;> cases h
        rfl
      · split at h
        · split at h <;> cases h
          rfl
        · by_cases h9 : zdg c = -1 ∨ (if qe q % 5 = 4 then 9 else 5) < zdg c
          · rw [if_pos h9] at h
            cases h
          · rw [if_neg h9] at h
            cases h
            rfl
    · split at h
      · exact hN _ h
      · unfold aP at h
        split at h
        · split at h
          · rw [hN _ h, qclose_b]
          · cases h
        · split at h
          · cases h
          · by_cases h6 : qisP q (if qx q = -1 then zdg c else qx q * 10 + zdg c) = true ∨ qbegP q (if qx q = -1 then zdg c else qx q * 10 + zdg c) = true
            · rw [if_pos h6] at h
              cases h
              rfl
            · rw [if_neg h6] at h
              cases h
/-- the pieces ended by a ';' among the first characters -/
def zpcs (b : Nat → Nat) : Nat → List RS
  | 0 => []
  | i + 1 => if b i = 59 then (match aSt b i with
    | some q => zpcs b i ++ [qclose q]
    | none => zpcs b i) else zpcs b i
theorem zpcs_e {b : Nat → Nat} {i : Nat} {q : RS} (h : b i = 59) (hq : aSt b i = some q) : zpcs b (i + 1) = zpcs b i ++ [qclose q] := by
  rw [zpcs, if_pos h, hq]
theorem zpcs_n {b : Nat → Nat} {i : Nat} (h : b i ≠ 59) : zpcs b (i + 1) = zpcs b i := by
  rw [zpcs, if_neg h]
theorem aSt_prev {b : Nat → Nat} {i : Nat} {q : RS} (h : aSt b (i + 1) = some q) : ∃ q1, aSt b i = some q1 ∧ aT q1 (b i) = some q := by
  cases e : aSt b i with
  | none =>
    have := aSt_none e 1
    rw [this] at h
    cases h
  | some q1 =>
    rw [aSt_s e] at h
    exact ⟨q1, rfl, h⟩
theorem aSt_back {b : Nat → Nat} {i n : Nat} {q : RS} (h : aSt b n = some q) (hi : i ≤ n) : ∃ q1, aSt b i = some q1 := by
  cases e : aSt b i with
  | none =>
    have := aSt_none e (n - i)
    rw [show i + (n - i) = n by omega, h] at this
    cases this
  | some q1 => exact ⟨q1, rfl⟩
theorem PcOK_i {q : RS} (HQ : Qok q) (HD : Qd q) (hw : qwhole q = true) : PcOK (qclose q) := by
  have hp := qclose_p hw
  have h3 : qp q = 3 → qisP q (qx q) = true := fun z => by
    rcases hp with h | h
    · omega
    · exact h.2
  have h2 := qclose_2 HQ (by omega)
  obtain ⟨j0, j1, j2, j3, j4, j5, j6, j7⟩ := qclose_ok HQ h3
  obtain ⟨k1, k2, k3, k4, k5, k6⟩ := qclose_d HD h3
  have e10 := k2 (by omega)
  exact ⟨k1 (by omega), j1, e10, fun j hj => k3 j (by omega), k4, k5, j3⟩
theorem zpcs_len {b : Nat → Nat} : ∀ i q, aSt b i = some q → (zpcs b i).length + 1 = qb q
  | 0, q, h => by cases h; rfl
  | i + 1, q, h => by
    obtain ⟨q1, h1, h2⟩ := aSt_prev h
    have ih := zpcs_len i q1 h1
    by_cases c : b i = 59
    · rw [zpcs_e c h1, List.length_append, List.length_singleton]
      rw [c] at h2
      obtain ⟨h3, rfl⟩ := aT_59 (aSt_ok i q1 h1) h2
      show _ = qb (qclose q1) + 1
      rw [qclose_b]
      omega
    · rw [zpcs_n c, aT_qb c h2]
      exact ih
theorem zpcs_ok {b : Nat → Nat} : ∀ i q, aSt b i = some q → ∀ r, r ∈ zpcs b i → PcOK r
  | 0, q, h, r, hr => by cases hr
  | i + 1, q, h, r, hr => by
    obtain ⟨q1, h1, h2⟩ := aSt_prev h
    by_cases c : b i = 59
    · rw [zpcs_e c h1] at hr
      rcases List.mem_append.mp hr with h3 | h3
      · exact zpcs_ok i q1 h1 r h3
      · rw [List.mem_singleton] at h3
        subst h3
        rw [c] at h2
        exact PcOK_i (aSt_ok i q1 h1) (aSt_d i q1 h1) (aT_59 (aSt_ok i q1 h1) h2).1
    · rw [zpcs_n c] at hr
      exact zpcs_ok i q1 h1 r hr
/-- a piece as read comes to the end -/
def opPc (V : ZV) (q : RS) : ZV := (zn V + 1, zm V, gup (zw V) (zn V) (qw q), gup (ze V) (zn V) (qd q), gup (zh V) (zn V) (fun x => decide (x ∈ qh q)), gup (zr V) (zn V) (zn V), zs V)
theorem zE_pc {V : ZV} {q : RS} {p : Nat} (h : p ≠ zn V) : zE (opPc V q) p = zE V p := by
  show (List.range 60).filter (gup (zh V) (zn V) (fun x => decide (x ∈ qh q)) p) = _
  rw [gup_n _ _ h]
  rfl
theorem zE_pc0 {V : ZV} {q : RS} (ok : PcOK q) : zE (opPc V q) (zn V) = qh q := by
  show (List.range 60).filter (gup (zh V) (zn V) (fun x => decide (x ∈ qh q)) (zn V)) = _
  rw [gup_s, List.range_eq_range']
  exact filter_sorted 60 0 (qh q) ok.2.2.2.2.1 (fun x hx => by have := ok.2.2.2.2.2.1 x hx; have := ok.2.1; omega)
theorem Valid_pc {V : ZV} {q : RS} (hv : Valid V) (hn : zn V < 7) (ok : PcOK q) : Valid (opPc V q) := by
  obtain ⟨w1, w2, w3, w4, w5, w6, w7, vs0, vs1⟩ := Valid_add hv hn ok.1 ok.2.1
  refine ⟨w1, w2, fun p j hp hj => ?_, fun p x hp hx => ?_, fun p hp => ?_, w6, w7, vs0, vs1⟩
  · show gup (ze V) (zn V) (qd q) p j ≤ 9 ∧ (j ≠ 4 → j ≠ 9 → gup (ze V) (zn V) (qd q) p j ≤ 5)
    by_cases e : p = zn V
    · rw [e, gup_s]; exact ok.2.2.2.1 j hj
    · have := w3 p j hp hj
      have e2 : ze (opAdd V (qw q)) p = ze V p := gup_n _ _ e
      rw [e2] at this
      rw [gup_n _ _ e]; exact this
  · have hx2 : gup (zh V) (zn V) (fun x => decide (x ∈ qh q)) p x = true := hx
    show x < gup (zw V) (zn V) (qw q) p
    by_cases e : p = zn V
    · rw [e, gup_s] at hx2
      rw [e, gup_s]
      exact ok.2.2.2.2.2.1 x (of_decide_eq_true hx2)
    · rw [gup_n _ _ e] at hx2
      refine w4 p x hp ?_
      show gup (zh V) (zn V) (fun _ => false) p x = true
      rw [gup_n _ _ e]; exact hx2
  · by_cases e : p = zn V
    · rw [e, zE_pc0 ok]; exact ok.2.2.2.2.2.2
    · rw [zE_pc e, ← zE_add (w := qw q) e]; exact w5 p hp
theorem RepC_pc {D D4 D2 : Nat → Nat → Int32} {V : ZV} {q : RS} (hv : Valid V) (R : RepC D4 1 (opAdd V (qw q))) (HR : RepR D q) (ok : PcOK q) (h3 : ∀ j, D2 3 j = va_cpy (D 13) (D4 3) 0 (zn V * 10) 10 j) (h5 : ∀ j, D2 5 j = va_cpy (D 14) (D4 5) 0 (zn V * 4) (qh q).length j) (h4 : D2 4 = hx_up D4 4 (zn V) (nI (qh q).length) 4) (e : ∀ a, a ≠ 3 → a ≠ 4 → a ≠ 5 → D2 a = D4 a) : RepC D2 1 (opPc V q) := by
  obtain ⟨p0, p1, p3, p5, p6, p7, p8, ph, pd⟩ := id HR
  obtain ⟨o1, o2, o3, o4, o5, o6, o7⟩ := id ok
  obtain ⟨r0, r1, rw, re, rc, rh, rr, rs0, rs1⟩ := rC R
  have n1 : zn (opAdd V (qw q)) = zn V + 1 := rfl
  have n2 : zn (opPc V q) = zn V + 1 := rfl
  refine ⟨by rw [e 1 (by omega) (by omega) (by omega)]; exact r0, by rw [e 1 (by omega) (by omega) (by omega)]; exact r1, fun p hp => by show D2 2 p = _; rw [e 2 (by omega) (by omega) (by omega)]; exact rw p hp, fun p j hp hj => ?_, fun p hp => ?_, fun p i x hp hx => ?_, fun i hi => by show D2 6 i = _; rw [e 6 (by omega) (by omega) (by omega)]; exact rr i hi, by show D2 7 0 = _; rw [e 7 (by omega) (by omega) (by omega)]; exact rs0, by show D2 7 1 = _; rw [e 7 (by omega) (by omega) (by omega)]; exact rs1⟩
  · show D2 3 (p * 10 + j) = nI (gup (ze V) (zn V) (qd q) p j)
    rw [h3]
    by_cases c : p = zn V
    · rw [pk_cpy_in (by rw [c]; omega) (by rw [c]; omega), c, gup_s, show 0 + (zn V * 10 + j - zn V * 10) = j by omega]
      exact pd j (by omega)
    · rw [pk_cpy_out (by omega), gup_n _ _ c]
      have := re p j hp hj
      have e2 : ze (opAdd V (qw q)) p = ze V p := gup_n _ _ c
      rw [e2] at this
      exact this
  · show D2 4 p = _
    rw [h4, hx_up_at]
    by_cases c : p = zn V
    · rw [if_pos ⟨rfl, c⟩, c, zE_pc0 ok]
    · rw [if_neg (fun z => c z.2), zE_pc c, ← zE_add (w := qw q) c]
      exact rc p hp
  · show D2 5 (p * 4 + i) = nI x
    rw [h5]
    by_cases c : p = zn V
    · rw [c, zE_pc0 ok] at hx
      have hi : i < (qh q).length := by
        rw [hx_nth_eq] at hx
        exact (List.getElem?_eq_some_iff.mp hx).1
      rw [pk_cpy_in (by rw [c]; omega) (by rw [c]; omega), c, show 0 + (zn V * 4 + i - zn V * 4) = i by omega]
      exact ph i x hx
    · rw [zE_pc c] at hx
      have hi : i < (zE V p).length := by
        rw [hx_nth_eq] at hx
        exact (List.getElem?_eq_some_iff.mp hx).1
      have h4p := hv.2.2.2.2.1 p (by omega)
      rw [← zE_add (w := qw q) c] at hx
      rw [pk_cpy_out (by omega)]
      exact rh p i x hp hx
/-- addRead -/
theorem m88 {sc : Nat × (Nat → Int32)} {d : Nat} {D : Nat → Nat → Int32} {G : Nat → Nat → Int64} {V : ZV} {q : RS} (R : RepC D 1 V) (hv : Valid V) (hn : zn V < 7) (HR : RepR D q) (ok : PcOK q) : Cq sc (d + 1) 88 [.ref 0] D G (fun r D2 => r = .inl none ∧ RepC D2 1 (opPc V q) ∧ ∀ a, a = 0 ∨ 7 ≤ a → D2 a = D a) := by
  obtain ⟨p0, p1, p3, p5, p6, p7, p8, ph, pd⟩ := id HR
  obtain ⟨o1, o2, o3, o4, o5, o6, o7⟩ := id ok
  have r0 := (rC R).1
  refine Cq.c (fun _ _ _ => c88) ?_
  refine Rq.bt (fun _ => b88_0) (by rw [r0]; simp (disch := omega) only [Int32.lt_iff_toInt_lt, z_nI]; omega) ?_
  obtain ⟨_, D4, hC4, rfl, R4, k4⟩ := m35 (sc := sc) (d := d) (G := G) (w := qw q) R hv hn
  refine Rq.s (fun _ => b88_13 (by rw [p1]; exact hC4)) ?_
  have e12 : D4 12 = D 12 := k4 12 (by omega)
  have e13 : D4 13 = D 13 := k4 13 (by omega)
  have e14 : D4 14 = D 14 := k4 14 (by omega)
  have q3 : D4 12 3 = nI (qh q).length := by rw [e12]; exact p3
  refine Rq.s (fun _ => b88_27 (by rw [nI_mulN]; exact dcp (by omega) (by omega) (by omega) (by omega))) ?_
  refine Rq.s (fun _ => b88_52 (by rw [hx_row_ne (by omega), q3, nI_mulN]; exact dcp (by omega) (by omega) (by omega) (by omega))) ?_
  refine Rq.e (b88_80 (nI_inbT (by omega) (by omega))) ?_
  simp (disch := omega) only [nI_mulN, nI_clamp, hx_row_ne, q3, e13, e14, Nat.zero_add]
  exact ⟨trivial, RepC_pc hv R4 HR ok (fun j => by rw [hx_up_ne (by omega), hx_row_ne (by omega), hx_row_s]) (fun j => by rw [hx_up_ne (by omega), hx_row_s]) (by funext j; rw [hx_up_at, hx_up_at, hx_row_ne (by omega), hx_row_ne (by omega)]) (fun a a1 a2 a3 => by rw [hx_up_ne (by omega), hx_row_ne (by omega), hx_row_ne (by omega)]), fun a ha => by rw [hx_up_ne (by omega), hx_row_ne (by omega), hx_row_ne (by omega)]; exact k4 a ha⟩

theorem foldl_zn (V : ZV) : ∀ l : List RS, zn (l.foldl opPc V) = zn V + l.length
  | [] => rfl
  | q :: l => by
    rw [List.foldl_cons, foldl_zn (opPc V q) l, List.length_cons]
    show zn V + 1 + l.length = _
    omega
theorem foldl_valid : ∀ (l : List RS) (V : ZV), Valid V → zn V + l.length ≤ 7 → (∀ r, r ∈ l → PcOK r) → Valid (l.foldl opPc V)
  | [], V, hv, _, _ => hv
  | q :: l, V, hv, hn, h => by
    rw [List.foldl_cons]
    rw [List.length_cons] at hn
    exact foldl_valid l (opPc V q) (Valid_pc hv (by omega) (h q (List.mem_cons_self ..))) (by show zn V + 1 + l.length ≤ 7; omega) (fun r hr => h r (List.mem_cons_of_mem _ hr))
theorem zpcs_mono (b : Nat → Nat) (i : Nat) : ∀ k, (zpcs b i).length ≤ (zpcs b (i + k)).length
  | 0 => Nat.le_refl _
  | k + 1 => by
    refine Nat.le_trans (zpcs_mono b i k) ?_
    show _ ≤ (zpcs b (i + k + 1)).length
    by_cases c : b (i + k) = 59
    · cases e : aSt b (i + k) with
      | some q => rw [zpcs_e c e, List.length_append]; omega
      | none => rw [zpcs, if_pos c, e]; exact Nat.le_refl _
    · rw [zpcs_n c]; exact Nat.le_refl _
theorem RepR_k {D D2 : Nat → Nat → Int32} {q : RS} (h : RepR D q) (e12 : D2 12 = D 12) (e13 : D2 13 = D 13) (e14 : D2 14 = D 14) : RepR D2 q := by
  unfold RepR
  rw [e12, e13, e14]
  exact h
theorem m87 {sc : Nat × (Nat → Int32)} {d : Nat} {D : Nat → Nat → Int32} {G : Nat → Nat → Int64} {V : ZV} {len : Nat} {b : Nat → Nat} {qf : RS} (R : RepC D 1 V) (hv : Valid V) (HB : BF D len b) (hf : aSt b len = some qf) (hw : qwhole qf = true) (hn : zn V + qb qf ≤ 7) : Cq sc (d + 5) 87 [.ref 0] D G (fun r D2 => r = .inl none ∧ RepC D2 1 ((zpcs b len ++ [qclose qf]).foldl opPc V) ∧ ∀ a, a = 0 ∨ (7 ≤ a ∧ a ≠ 12 ∧ a ≠ 13 ∧ a ≠ 14) → D2 a = D a) := by
  obtain ⟨b0, b1, b2, b3⟩ := id HB
  have hlen := zpcs_len len qf hf
  have L : ∀ m i q D3, len - i = m → i ≤ len → aSt b i = some q → RepR D3 q → RepC D3 1 ((zpcs b i).foldl opPc V) → (∀ a, a = 0 ∨ (7 ≤ a ∧ a ≠ 12 ∧ a ≠ 13 ∧ a ≠ 14) → D3 a = D a) → Rq sc (d + 5) 87 (9, [some (.ref 0), some (.int (nI i)), none], [], (hx_S0, D3, G), 0) G (fun r D2 => r = .inl none ∧ RepC D2 1 ((zpcs b len ++ [qclose qf]).foldl opPc V) ∧ ∀ a, a = 0 ∨ (7 ≤ a ∧ a ≠ 12 ∧ a ≠ 13 ∧ a ≠ 14) → D2 a = D a) := by
    intro m
    induction m using Nat.strongRecOn with
    | _ m ih =>
    intro i q D3 hm hi hq HR R3 k3
    have hqo := aSt_ok i q hq
    have hql := zpcs_len i q hq
    have hml := zpcs_mono b i (len - i)
    rw [show i + (len - i) = len by omega] at hml
    have hv3 : Valid ((zpcs b i).foldl opPc V) := foldl_valid _ _ hv (by omega) (zpcs_ok i q hq)
    have k07 : D3 0 7 = nI len := by rw [k3 0 (by omega)]; exact b0
    refine Rq.bf (fun _ => b87_9) (by rw [k07]; simp (disch := omega) only [Int32.lt_iff_toInt_lt, z_nI]; omega) ?_
    by_cases hl : i < len
    · have b2i := b2 i hl
      have b3i := b3 i hl
      obtain ⟨qn, hqn⟩ := aSt_back hf (show i + 1 ≤ len by omega)
      have haT : aT q (b i) = some qn := by rw [← aSt_s hq]; exact hqn
      refine Rq.bf (fun _ => b87_17) (by rw [k07]; simp (disch := omega) only [Int32.le_iff_toInt_le, z_nI]; omega) ?_
      refine Rq.s (fun _ => b87_25 (nI_inbT (by omega) (by omega))) ?_
      rw [nI_clamp (by omega), k3 11 (by omega), b2i]
      by_cases c : b i = 59
      · rw [c] at haT ⊢
        obtain ⟨hwq, rfl⟩ := aT_59 hqo haT
        have hqp := qclose_p hwq
        have hq3 : qp q = 3 → qisP q (qx q) = true := fun z => by
          rcases hqp with h | h
          · omega
          · exact h.2
        have hlr := qlast_r hqo
        have hx0 : qp q = 3 → 0 ≤ qx q := fun z => by
          have := of_decide_eq_true (hq3 z)
          omega
        refine Rq.bf (fun _ => b87_36) (fun z => z rfl) ?_
        obtain ⟨_, D4, hC4, rfl, e4, R4⟩ := m24 (sc := sc) (d := d + 4) (G := G) HR hqo hx0
        refine Rq.s (fun _ => b87_43 hC4) ?_
        obtain ⟨_, D5, hC5, rfl, R5, k5⟩ := m88 (sc := sc) (d := d + 3) (G := G) (RepC_g (fun a a1 a2 => e4 a (by omega) (by omega) (by omega)) R3) hv3 (by rw [foldl_zn]; omega) R4 (PcOK_i hqo (aSt_d i q hq) hwq)
        refine Rq.s (fun _ => b87_50 hC5) ?_
        obtain ⟨r9, D6, hC6, e6, e7⟩ := m22 (sc := sc) (d := d) (G := G) (c := 59) (RepR_k R4 (k5 12 (by omega)) (k5 13 (by omega)) (k5 14 (by omega))) (qclose_ok hqo hq3) (by omega)
        have e9 : aT (qclose q) 59 = some (qbegin (qclose q)) := by
          unfold aT
          rw [qclose_2 hqo (by omega), if_neg (by omega), if_neg (by omega), if_pos rfl]
          rfl
        rw [e9] at e7
        rcases e7 with ⟨q2, e8, rfl, R6⟩ | ⟨e8, _⟩
        · cases e8
          refine Rq.s (fun _ => b87_54 hC6) ?_
          refine Rq.s (fun _ => b87_62) ?_
          rw [nI_add]
          refine ih _ (by omega) (i + 1) _ D6 rfl (by omega) hqn R6 ?_ (fun a ha => by rw [e6 a (by omega) (by omega) (by omega), k5 a (by omega), e4 a (by omega) (by omega) (by omega)]; exact k3 a ha)
          rw [zpcs_e c hq, List.foldl_append]
          exact RepC_g (fun a a1 a2 => e6 a (by omega) (by omega) (by omega)) R5
        · cases e8
      · refine Rq.bt (fun _ => b87_36) (by simp (disch := omega) only [z_eq, z_nI]; omega) ?_
        obtain ⟨r9, D6, hC6, e6, e7⟩ := m22 (sc := sc) (d := d) (G := G) HR hqo b3i
        rw [haT] at e7
        rcases e7 with ⟨q2, e8, rfl, R6⟩ | ⟨e8, _⟩
        · cases e8
          refine Rq.s (fun _ => b87_54 hC6) ?_
          refine Rq.s (fun _ => b87_62) ?_
          rw [nI_add]
          refine ih _ (by omega) (i + 1) _ D6 rfl (by omega) hqn R6 ?_ (fun a ha => by rw [e6 a (by omega) (by omega) (by omega)]; exact k3 a ha)
          rw [zpcs_n c]
          exact RepC_g (fun a a1 a2 => e6 a (by omega) (by omega) (by omega)) R3
        · cases e8
    · have hil : i = len := by omega
      subst hil
      rw [hf] at hq
      cases hq
      refine Rq.bt (fun _ => b87_17) (by rw [k07]; simp (disch := omega) only [Int32.le_iff_toInt_le, z_nI]; omega) ?_
      refine Rq.s (fun _ => b87_34) ?_
      have hqp := qclose_p hw
      have hq3 : qp qf = 3 → qisP qf (qx qf) = true := fun z => by
        rcases hqp with h | h
        · omega
        · exact h.2
      have hlr := qlast_r hqo
      have hx0 : qp qf = 3 → 0 ≤ qx qf := fun z => by
        have := of_decide_eq_true (hq3 z)
        omega
      refine Rq.bf (fun _ => b87_36) (fun z => z rfl) ?_
      obtain ⟨_, D4, hC4, rfl, e4, R4⟩ := m24 (sc := sc) (d := d + 4) (G := G) HR hqo hx0
      refine Rq.s (fun _ => b87_43 hC4) ?_
      obtain ⟨_, D5, hC5, rfl, R5, k5⟩ := m88 (sc := sc) (d := d + 3) (G := G) (RepC_g (fun a a1 a2 => e4 a (by omega) (by omega) (by omega)) R3) hv3 (by rw [foldl_zn]; omega) R4 (PcOK_i hqo (aSt_d i qf hf) hw)
      refine Rq.s (fun _ => b87_50 hC5) ?_
      obtain ⟨r9, D6, hC6, e6, e7⟩ := m22 (sc := sc) (d := d) (G := G) (c := 59) (RepR_k R4 (k5 12 (by omega)) (k5 13 (by omega)) (k5 14 (by omega))) (qclose_ok hqo hq3) (by omega)
      have K6 : ∀ z : Int32, Rq sc (d + 5) 87 (62, [some (.ref 0), some (.int (nI i)), some (.int (nI 59))], [.int z], (hx_S0, D6, G), 0) G (fun r D2 => r = .inl none ∧ RepC D2 1 ((zpcs b i ++ [qclose qf]).foldl opPc V) ∧ ∀ a, a = 0 ∨ (7 ≤ a ∧ a ≠ 12 ∧ a ≠ 13 ∧ a ≠ 14) → D2 a = D a) := fun z => by
        refine Rq.s (fun _ => b87_62) ?_
        rw [nI_add]
        have k67 : D6 0 7 = nI i := by rw [e6 0 (by omega) (by omega) (by omega), k5 0 (by omega), e4 0 (by omega) (by omega) (by omega)]; exact k07
        refine Rq.bt (fun _ => b87_9) (by rw [k67]; simp (disch := omega) only [Int32.lt_iff_toInt_lt, z_nI]; omega) ?_
        refine Rq.e b87_69 ⟨rfl, ?_, fun a ha => by rw [e6 a (by omega) (by omega) (by omega), k5 a (by omega), e4 a (by omega) (by omega) (by omega)]; exact k3 a ha⟩
        rw [List.foldl_append]
        exact RepC_g (fun a a1 a2 => e6 a (by omega) (by omega) (by omega)) R5
      rcases e7 with ⟨q2, e8, rfl, R6⟩ | ⟨e8, rfl⟩
      · exact Rq.s (fun _ => b87_54 hC6) (K6 _)
      · exact Rq.s (fun _ => b87_54 hC6) (K6 _)
  refine Cq.c (fun _ _ _ => c87) ?_
  obtain ⟨_, D4, hC4, rfl, e1, e2⟩ := m20 (sc := sc) (d := d + 3) (D := D) (G := G)
  refine Rq.s (fun _ => b87_0 hC4) ?_
  refine Rq.s (fun _ => b87_7) ?_
  exact L _ 0 q0 D4 rfl (by omega) rfl e2 (RepC_g (fun a a1 a2 => e1 a (by omega) (by omega) (by omega)) R) (fun a ha => e1 a (by omega) (by omega) (by omega))
/-- load -/
def opLoad (V : ZV) (b : Nat → Nat) (len : Nat) (q : RS) : ZV := (zpcs b len ++ [qclose q]).foldl opPc V
def oLoad (t : ST) : OUT := match aSt (tb t) (tn t) with
  | none => (1, 0, t)
  | some q => if qwhole q = true then (if zn (tV t) + qb q ≤ 7 then (0, nI (zn (tV t) + qb q), (opLoad (tV t) (tb t) (tn t) q, tS (zsv t), tK t, 0, tb t)) else (2, 0, t)) else (1, 0, t)
theorem kLoad {sc : Nat × (Nat → Int32)} {d : Nat} {D : Nat → Nat → Int32} {G : Nat → Nat → Int64} {t : ST} (I : InvC D t) (hs : SV t) : Cq sc (d + 6) 62 [.ref 0] D G (OKc D [0, 1] (oLoad t)) := by
  obtain ⟨i1, i2, i3, i4⟩ := id I
  obtain ⟨f0, f1, f2, f3⟩ := id i4
  refine Cq.c (fun _ _ _ => c62) ?_
  obtain ⟨_, D4, hC4, rfl, e4, h4⟩ := m86 (sc := sc) (d := d) (G := G) i4
  have I4 : InvC D4 t := InvC_keep I (fun a ha => e4 a (by omega) (by omega) (by omega))
  have M4 : eqM D D4 := fun a ha => e4 a (by omega) (by omega) (by omega)
  have q07 : D4 0 7 = nI (tn t) := I4.2.2.2.1
  refine Rq.s (fun _ => b62_0 hC4) ?_
  obtain ⟨z1, z2, ⟨z3, z4⟩, z5⟩ := zfe_spec (b := tb t) (tn t) 0 ⟨_, rfl⟩
  unfold oLoad
  cases hq : aSt (tb t) (tn t) with
  | none =>
    have hlt : zfe (tb t) (tn t) 0 < tn t := by
      refine Nat.lt_of_le_of_ne (by omega) (fun z => ?_)
      rw [z, hq] at z4
      cases z4
    refine Rq.bt (fun _ => b62_4) (by rw [q07]; simp (disch := omega) only [Int32.lt_iff_toInt_lt, z_nI]; omega) ?_
    exact Rq.e b62_21 ⟨rfl, I4, M4⟩
  | some q =>
    have hz := zfe_end hq
    have R4 := h4 q hq
    have hqo := aSt_ok _ _ hq
    have r0 := (rC I4.1).1
    refine Rq.bf (fun _ => b62_4) (by rw [q07, hz]; simp (disch := omega) only [Int32.lt_iff_toInt_lt, z_nI]; omega) ?_
    refine Rq.s (fun _ => b62_11 (m23 (d := d + 3) R4 hqo)) ?_
    by_cases hw : qwhole q = true
    · refine Rq.bt (fun _ => b62_18) (by rw [if_pos hw]; decide) ?_
      have hl := zpcs_len _ _ hq
      have hb : qb q ≤ 61 := by
        have : ∀ k, (zpcs (tb t) k).length ≤ k := fun k => by
          induction k with
          | zero => exact Nat.le_refl _
          | succ k ih =>
            by_cases c : tb t k = 59
            · cases e : aSt (tb t) k with
              | some q => rw [zpcs_e c e, List.length_append, List.length_singleton]; omega
              | none => rw [zpcs, if_pos c, e]; show (zpcs (tb t) k).length ≤ k + 1; omega
            · rw [zpcs_n c]; omega
        have := this (tn t)
        omega
      have hv7 := hs.1.1
      have p0 := R4.1
      show Rq sc (d + 6) 62 _ G (OKc D [0, 1] (if qwhole q = true then (if zn (tV t) + qb q ≤ 7 then (0, nI (zn (tV t) + qb q), (opLoad (tV t) (tb t) (tn t) q, tS (zsv t), tK t, 0, tb t)) else (2, 0, t)) else (1, 0, t)))
      rw [if_pos hw]
      by_cases h7 : zn (tV t) + qb q ≤ 7
      · rw [if_pos h7]
        refine Rq.bt (fun _ => b62_31) (by rw [r0, p0, nI_add]; simp (disch := omega) only [Int32.le_iff_toInt_le, z_nI]; omega) ?_
        obtain ⟨_, D5, hC5, rfl, I5, k5⟩ := m85 (sc := sc) (d := d + 4) (G := G) I4 hs
        refine Rq.s (fun _ => b62_61 hC5) ?_
        obtain ⟨_, D6, hC6, rfl, R6, k6⟩ := m87 (sc := sc) (d := d) (G := G) I5.1 hs.1 I5.2.2.2 hq hw h7
        refine Rq.s (fun _ => b62_65 hC6) ?_
        refine Rq.e b62_69 ?_
        have r6 : D6 1 0 = nI (zn (tV t) + qb q) := by
          have := (rC R6).1
          rw [this, foldl_zn, List.length_append, List.length_singleton]
          show nI (zn (tV t) + ((zpcs (tb t) (tn t)).length + 1)) = _
          rw [hl]
        rw [r6]
        obtain ⟨j1, j2, j3, j4, j5, j6⟩ := id I5
        refine OKc.v rfl ⟨RepC_g (fun a a1 a2 => by rw [hx_up_ne (by omega)]) R6, RingC_k (by rw [hx_up_in _ _ _ (by omega), k6 0 (by omega)]) (by rw [hx_up_in _ _ _ (by omega), k6 0 (by omega)]) (fun a a1 a2 => by rw [hx_up_ne (by omega), k6 a (by omega)]) I5.2.1, SlotC_k (by rw [hx_up_ne (by omega), k6 10 (by omega)]) (fun a a1 a2 => by rw [hx_up_ne (by omega), k6 a (by omega)]) I5.2.2.1, ⟨hx_up_s _ _ _ _, Nat.zero_le _, fun i hi => absurd hi (Nat.not_lt_zero _), fun i hi => absurd hi (Nat.not_lt_zero _)⟩⟩ (fun a ha => by rw [hx_up_ne (by omega), k6 a (by omega), k5 a (by omega) (by omega)]; exact M4 a ha)
      · rw [if_neg h7]
        refine Rq.bf (fun _ => b62_31) (by rw [r0, p0, nI_add]; simp (disch := omega) only [Int32.le_iff_toInt_le, z_nI]; omega) ?_
        exact Rq.e b62_51 ⟨rfl, I4, M4⟩
    · refine Rq.bf (fun _ => b62_18) (by rw [if_neg hw]; exact fun z => z rfl) ?_
      show Rq sc (d + 6) 62 _ G (OKc D [0, 1] (if qwhole q = true then (if zn (tV t) + qb q ≤ 7 then (0, nI (zn (tV t) + qb q), (opLoad (tV t) (tb t) (tn t) q, tS (zsv t), tK t, 0, tb t)) else (2, 0, t)) else (1, 0, t)))
      rw [if_neg hw]
      exact Rq.e b62_21 ⟨rfl, I4, M4⟩
