/-! ===== the class: load ===== -/
theorem sorted_last {l : List Nat} {x : Nat} (h : l.Pairwise (· < ·)) (hx : hx_nth l (l.length - 1) = some x) : ∀ y, y ∈ l → y ≤ x := by
  intro y hy
  rw [hx_nth_eq] at hx
  obtain ⟨i, hi, rfl⟩ := List.getElem_of_mem hy
  have hl : l.length - 1 < l.length := by omega
  rw [List.getElem?_eq_getElem hl] at hx
  have hx2 := Option.some.inj hx
  rw [← hx2]
  by_cases c : i = l.length - 1
  · subst c
    exact Nat.le_refl _
  · exact Nat.le_of_lt (List.pairwise_iff_getElem.mp h i (l.length - 1) hi hl (by omega))
theorem filter_sorted : ∀ (n s : Nat) (l : List Nat), l.Pairwise (· < ·) → (∀ x, x ∈ l → s ≤ x ∧ x < s + n) → (List.range' s n).filter (fun x => decide (x ∈ l)) = l
  | 0, s, l, _, h2 => by
    cases l with
    | nil => rfl
    | cons a l => have := h2 a (List.mem_cons_self ..); omega
  | n + 1, s, l, h1, h2 => by
    rw [List.range'_succ]
    by_cases c : s ∈ l
    · rw [List.filter_cons, if_pos (decide_eq_true c)]
      cases l with
      | nil => cases c
      | cons a l =>
        have h3 := List.pairwise_cons.mp h1
        have ha := h2 a (List.mem_cons_self ..)
        have e : a = s := by
          rcases List.mem_cons.mp c with c | c
          · exact c.symm
          · have := h3.1 s c
            omega
        subst e
        congr 1
        have := filter_sorted n (a + 1) l h3.2 (fun x hx => by have := h3.1 x hx; have := h2 x (List.mem_cons_of_mem _ hx); omega)
        refine Eq.trans (List.filter_congr (fun x hx => ?_)) this
        rw [List.mem_range'_1] at hx
        have : (x ∈ a :: l) ↔ (x ∈ l) := ⟨fun z => by
          rcases List.mem_cons.mp z with z | z
          · omega
          · exact z, fun z => List.mem_cons_of_mem _ z⟩
        exact decide_eq_decide.mpr this
    · rw [List.filter_cons, if_neg (fun z => c (of_decide_eq_true z))]
      exact filter_sorted n (s + 1) l h1 (fun x hx => by
        have := h2 x hx
        have : x ≠ s := fun z => c (z ▸ hx)
        omega)
/-- what holds of the pieces read -/
def Qd (q : RS) : Prop := (1 ≤ qp q → 1 ≤ qw q) ∧ (2 ≤ qp q → qe q = 10) ∧ (∀ j, j < qe q → qd q j ≤ 9 ∧ (j ≠ 4 → j ≠ 9 → qd q j ≤ 5)) ∧ (qh q).Pairwise (· < ·) ∧ (∀ x, x ∈ qh q → x < qw q) ∧ (qp q ≤ 1 → qh q = [])
def PcOK (q : RS) : Prop := 1 ≤ qw q ∧ qw q ≤ 60 ∧ qe q = 10 ∧ (∀ j, j < 10 → qd q j ≤ 9 ∧ (j ≠ 4 → j ≠ 9 → qd q j ≤ 5)) ∧ (qh q).Pairwise (· < ·) ∧ (∀ x, x ∈ qh q → x < qw q) ∧ (qh q).length ≤ 4
theorem qclose_d {q : RS} (HD : Qd q) (hx : qp q = 3 → qisP q (qx q) = true) : Qd (qclose q) := by
  obtain ⟨k1, k2, k3, k4, k5, k6⟩ := id HD
  unfold qclose
  split
  · rename_i h
    have hp := of_decide_eq_true (hx h.1)
    have hs : ∀ y, y ∈ qh q → (y : Int) < qx q := fun y hy => by
      unfold qlast at hp
      cases e : hx_nth (qh q) ((qh q).length - 1) with
      | some x =>
        rw [e] at hp
        have := sorted_last k4 e y hy
        have h9 : (x : Int) < qx q := hp.1
        omega
      | none =>
        rw [hx_nth_eq, List.getElem?_eq_none_iff] at e
        have : (qh q).length ≠ 0 := fun z => by rw [List.length_eq_zero_iff.mp z] at hy; cases hy
        omega
    have hq : -1 ≤ qlast q := by
      unfold qlast
      split <;> omega
    refine ⟨fun _ => k1 (by omega), fun _ => k2 (by omega), k3, ?_, fun x hx2 => ?_, fun z => absurd z (by show ¬ 2 ≤ 1; omega)⟩
    · show (qh q ++ [(qx q).toNat]).Pairwise (· < ·)
      refine List.pairwise_append.mpr ⟨k4, List.pairwise_singleton _ _, fun a ha b hb => ?_⟩
      rw [List.mem_singleton] at hb
      have := hs a ha
      omega
    · have hx3 : x ∈ qh q ++ [(qx q).toNat] := hx2
      show x < qw q
      rcases List.mem_append.mp hx3 with h3 | h3
      · exact k5 x h3
      · rw [List.mem_singleton] at h3
        omega
  · exact HD
theorem aN_d {q q2 : RS} {c : Nat} (hp : 2 ≤ qp q) (HD : Qd q) (h : aN q c = some q2) : Qd q2 := by
  obtain ⟨k1, k2, k3, k4, k5, k6⟩ := id HD
  unfold aN at h
  split at h
  · cases h
    exact ⟨fun z => absurd z (by show ¬ 1 ≤ 0; omega), fun z => absurd z (by show ¬ 2 ≤ 0; omega), fun j hj => absurd hj (by show ¬ j < 0; omega), List.Pairwise.nil, fun x hx => (by cases hx), fun _ => rfl⟩
  · split at h
    · cases h
      exact ⟨fun _ => k1 (by omega), fun _ => k2 hp, k3, k4, k5, fun z => absurd z (by show ¬ 3 ≤ 1; omega)⟩
    · cases h
theorem qclose_p {q : RS} (h : qwhole q = true) : qp q = 2 ∨ (qp q = 3 ∧ qisP q (qx q) = true) := by
  unfold qwhole at h
  rcases (Bool.or_eq_true _ _).mp h with h | h
  · exact Or.inl (of_decide_eq_true h)
  · have h2 := (Bool.and_eq_true _ _).mp h
    exact Or.inr ⟨of_decide_eq_true h2.1, h2.2⟩
theorem qclose_2 {q : RS} (HQ : Qok q) (h : qp q = 2 ∨ qp q = 3) : qp (qclose q) = 2 := by
  unfold qclose
  rcases h with h | h
  · rw [if_neg (by omega)]; exact h
  · rw [if_pos ⟨h, HQ.2.2.2.2.2.2.2 h⟩]
theorem qclose_b (q : RS) : qb (qclose q) = qb q := by
  unfold qclose
  split <;> rfl
theorem aT_d {q q2 : RS} {c : Nat} (HQ : Qok q) (HD : Qd q) (h : aT q c = some q2) : Qd q2 := by
  obtain ⟨k1, k2, k3, k4, k5, k6⟩ := id HD
  have hd := zdg_r c
  have hq := HQ.2.2.1
  have hq0 := HQ.1
  unfold aT at h
  split at h
  · rename_i h0
    have hh := k6 (by omega)
    unfold aW at h
    split at h
    · split at h
      · rename_i h1
        cases h
        exact ⟨fun _ => h1, fun z => absurd z (by show ¬ 2 ≤ 1; omega), k3, k4, k5, fun _ => hh⟩
      · cases h
    · split at h
      · cases h
      · rename_i h3
        cases h
        refine ⟨fun z => absurd z (by show ¬ 1 ≤ qp q; omega), fun z => absurd z (by show ¬ 2 ≤ qp q; omega), k3, k4, fun x hx => ?_, fun _ => hh⟩
        have hx2 : x ∈ qh q := hx
        rw [hh] at hx2
        cases hx2
  · split at h
    · rename_i h1
      have hh := k6 (by omega)
      unfold aE at h
      split at h
      · split at h
        · cases h
          exact ⟨k1, k2, k3, k4, k5, k6⟩
        · cases h
      · split at h
        · split at h
          · cases h
            exact ⟨fun _ => k1 (by omega), fun _ => by show qe q = 10; omega, k3, k4, k5, fun z => absurd z (by show ¬ 2 ≤ 1; omega)⟩
          · cases h
        · by_cases h9 : zdg c = -1 ∨ (if qe q % 5 = 4 then 9 else 5) < zdg c
          · rw [if_pos h9] at h
            cases h
          · rw [if_neg h9] at h
            cases h
            refine ⟨k1, fun z => absurd z (by show ¬ 2 ≤ qp q; omega), fun j hj => ?_, k4, k5, k6⟩
            have hj2 : j < qe q + 1 := hj
            show (if j = qe q then (zdg c).toNat else qd q j) ≤ 9 ∧ (j ≠ 4 → j ≠ 9 → (if j = qe q then (zdg c).toNat else qd q j) ≤ 5)
            by_cases e : j = qe q
            · rw [if_pos e]
              refine ⟨by omega, fun a a2 => ?_⟩
              rw [if_neg (show ¬ qe q % 5 = 4 by omega)] at h9
              omega
            · rw [if_neg e]
              exact k3 j (by omega)
    · split at h
      · exact aN_d (by omega) HD h
      · rename_i h1 h2 h3
        have hp3 : qp q = 3 := by omega
        unfold aP at h
        split at h
        · split at h
          · rename_i h5
            exact aN_d (by rw [qclose_2 HQ (Or.inr hp3)]; exact Nat.le_refl _) (qclose_d HD (fun _ => h5)) h
          · cases h
        · split at h
          · cases h
          · by_cases h6 : qisP q (if qx q = -1 then zdg c else qx q * 10 + zdg c) = true ∨ qbegP q (if qx q = -1 then zdg c else qx q * 10 + zdg c) = true
            · rw [if_pos h6] at h
              cases h
              exact ⟨k1, k2, k3, k4, k5, k6⟩
            · rw [if_neg h6] at h
              cases h
theorem q0_d : Qd q0 := ⟨fun z => absurd z (by decide), fun z => absurd z (by decide), fun j hj => absurd hj (Nat.not_lt_zero _), List.Pairwise.nil, fun x hx => (by cases hx), fun _ => rfl⟩
theorem aSt_d {b : Nat → Nat} : ∀ s q, aSt b s = some q → Qd q
  | 0, q, h => by
    cases h
    exact q0_d
  | s + 1, q, h => by
    cases e : aSt b s with
    | none =>
      have := aSt_none e 1
      rw [this] at h
      cases h
    | some q1 =>
      rw [aSt_s e] at h
      exact aT_d (aSt_ok s q1 e) (aSt_d s q1 e) h
theorem zdg59 : zdg 59 = -1 := by decide
theorem aT_59 {q q2 : RS} (HQ : Qok q) (h : aT q 59 = some q2) : qwhole q = true ∧ q2 = qbegin (qclose q) := by
  unfold aT at h
  split at h
  · rename_i h0
    unfold aW at h
    rw [if_neg (by decide), zdg59, if_pos (Or.inl rfl)] at h
    cases h
  · split at h
    · unfold aE at h
      rw [zdg59] at h
      split at h
      · rw [if_neg (by decide)] at h; cases h
      · split at h
        · rw [if_neg (by decide)] at h; cases h
        · rw [if_pos (Or.inl rfl)] at h; cases h
    · have hq3 := HQ.1
      split at h
      · rename_i h2
        unfold aN at h
        rw [if_pos rfl] at h
        cases h
        refine ⟨by unfold qwhole; rw [decide_eq_true h2]; rfl, ?_⟩
        unfold qclose
        rw [if_neg (by omega)]
      · unfold aP at h
        rw [zdg59, if_pos rfl] at h
        split at h
        · rename_i h5
          unfold aN at h
          rw [if_pos rfl] at h
          cases h
          refine ⟨?_, rfl⟩
          unfold qwhole
          rw [decide_eq_true (show qp q = 3 by omega), h5, Bool.and_self, Bool.or_true]
        · cases h
theorem aT_qb {q q2 : RS} {c : Nat} (hc : c ≠ 59) (h : aT q c = some q2) : qb q2 = qb q := by
  have hN : ∀ q3, aN q3 c = some q2 → qb q2 = qb q3 := fun q3 h3 => by
    unfold aN at h3
    rw [if_neg hc] at h3
    split at h3
    · cases h3; rfl
    · cases h3
  unfold aT at h
  split at h
  · unfold aW at h
    split at h
    · split at h <;> cases h
      rfl
    · split at h <;> cases h
      rfl
  · split at h
    · unfold aE at h
      split at h
      · split at h <;> cases h
        rfl
      · split at h
        · split at h <;> cases h
          rfl
        · by_cases h9 : zdg c = -1 ∨ (if qe q % 5 = 4 then 9 else 5) < zdg c
          · rw [if_pos h9] at h
            cases h
          · rw [if_neg h9] at h
            cases h
            rfl
    · split at h
      · exact hN _ h
      · unfold aP at h
        split at h
        · split at h
          · rw [hN _ h, qclose_b]
          · cases h
        · split at h
          · cases h
          · by_cases h6 : qisP q (if qx q = -1 then zdg c else qx q * 10 + zdg c) = true ∨ qbegP q (if qx q = -1 then zdg c else qx q * 10 + zdg c) = true
            · rw [if_pos h6] at h
              cases h
              rfl
            · rw [if_neg h6] at h
              cases h
/-- the pieces ended by a ';' among the first characters -/
def zpcs (b : Nat → Nat) : Nat → List RS
  | 0 => []
  | i + 1 => if b i = 59 then (match aSt b i with
    | some q => zpcs b i ++ [qclose q]
    | none => zpcs b i) else zpcs b i
theorem zpcs_e {b : Nat → Nat} {i : Nat} {q : RS} (h : b i = 59) (hq : aSt b i = some q) : zpcs b (i + 1) = zpcs b i ++ [qclose q] := by
  rw [zpcs, if_pos h, hq]
theorem zpcs_n {b : Nat → Nat} {i : Nat} (h : b i ≠ 59) : zpcs b (i + 1) = zpcs b i := by
  rw [zpcs, if_neg h]
theorem aSt_prev {b : Nat → Nat} {i : Nat} {q : RS} (h : aSt b (i + 1) = some q) : ∃ q1, aSt b i = some q1 ∧ aT q1 (b i) = some q := by
  cases e : aSt b i with
  | none =>
    have := aSt_none e 1
    rw [this] at h
    cases h
  | some q1 =>
    rw [aSt_s e] at h
    exact ⟨q1, rfl, h⟩
theorem aSt_back {b : Nat → Nat} {i n : Nat} {q : RS} (h : aSt b n = some q) (hi : i ≤ n) : ∃ q1, aSt b i = some q1 := by
  cases e : aSt b i with
  | none =>
    have := aSt_none e (n - i)
    rw [show i + (n - i) = n by omega, h] at this
    cases this
  | some q1 => exact ⟨q1, rfl⟩
theorem PcOK_i {q : RS} (HQ : Qok q) (HD : Qd q) (hw : qwhole q = true) : PcOK (qclose q) := by
  have hp := qclose_p hw
  have h3 : qp q = 3 → qisP q (qx q) = true := fun z => by
    rcases hp with h | h
    · omega
    · exact h.2
  have h2 := qclose_2 HQ (by omega)
  obtain ⟨j0, j1, j2, j3, j4, j5, j6, j7⟩ := qclose_ok HQ h3
  obtain ⟨k1, k2, k3, k4, k5, k6⟩ := qclose_d HD h3
  have e10 := k2 (by omega)
  exact ⟨k1 (by omega), j1, e10, fun j hj => k3 j (by omega), k4, k5, j3⟩
theorem zpcs_len {b : Nat → Nat} : ∀ i q, aSt b i = some q → (zpcs b i).length + 1 = qb q
  | 0, q, h => by cases h; rfl
  | i + 1, q, h => by
    obtain ⟨q1, h1, h2⟩ := aSt_prev h
    have ih := zpcs_len i q1 h1
    by_cases c : b i = 59
    · rw [zpcs_e c h1, List.length_append, List.length_singleton]
      rw [c] at h2
      obtain ⟨h3, rfl⟩ := aT_59 (aSt_ok i q1 h1) h2
      show _ = qb (qclose q1) + 1
      rw [qclose_b]
      omega
    · rw [zpcs_n c, aT_qb c h2]
      exact ih
theorem zpcs_ok {b : Nat → Nat} : ∀ i q, aSt b i = some q → ∀ r, r ∈ zpcs b i → PcOK r
  | 0, q, h, r, hr => by cases hr
  | i + 1, q, h, r, hr => by
    obtain ⟨q1, h1, h2⟩ := aSt_prev h
    by_cases c : b i = 59
    · rw [zpcs_e c h1] at hr
      rcases List.mem_append.mp hr with h3 | h3
      · exact zpcs_ok i q1 h1 r h3
      · rw [List.mem_singleton] at h3
        subst h3
        rw [c] at h2
        exact PcOK_i (aSt_ok i q1 h1) (aSt_d i q1 h1) (aT_59 (aSt_ok i q1 h1) h2).1
    · rw [zpcs_n c] at hr
      exact zpcs_ok i q1 h1 r hr
/-- a piece as read comes to the end -/
def opPc (V : ZV) (q : RS) : ZV := (zn V + 1, zm V, gup (zw V) (zn V) (qw q), gup (ze V) (zn V) (qd q), gup (zh V) (zn V) (fun x => decide (x ∈ qh q)), gup (zr V) (zn V) (zn V), zs V)
theorem zE_pc {V : ZV} {q : RS} {p : Nat} (h : p ≠ zn V) : zE (opPc V q) p = zE V p := by
  show (List.range 60).filter (gup (zh V) (zn V) (fun x => decide (x ∈ qh q)) p) = _
  rw [gup_n _ _ h]
  rfl
theorem zE_pc0 {V : ZV} {q : RS} (ok : PcOK q) : zE (opPc V q) (zn V) = qh q := by
  show (List.range 60).filter (gup (zh V) (zn V) (fun x => decide (x ∈ qh q)) (zn V)) = _
  rw [gup_s, List.range_eq_range']
  exact filter_sorted 60 0 (qh q) ok.2.2.2.2.1 (fun x hx => by have := ok.2.2.2.2.2.1 x hx; have := ok.2.1; omega)
theorem Valid_pc {V : ZV} {q : RS} (hv : Valid V) (hn : zn V < 7) (ok : PcOK q) : Valid (opPc V q) := by
  obtain ⟨w1, w2, w3, w4, w5, w6, w7, vs0, vs1⟩ := Valid_add hv hn ok.1 ok.2.1
  refine ⟨w1, w2, fun p j hp hj => ?_, fun p x hp hx => ?_, fun p hp => ?_, w6, w7, vs0, vs1⟩
  · show gup (ze V) (zn V) (qd q) p j ≤ 9 ∧ (j ≠ 4 → j ≠ 9 → gup (ze V) (zn V) (qd q) p j ≤ 5)
    by_cases e : p = zn V
    · rw [e, gup_s]; exact ok.2.2.2.1 j hj
    · have := w3 p j hp hj
      have e2 : ze (opAdd V (qw q)) p = ze V p := gup_n _ _ e
      rw [e2] at this
      rw [gup_n _ _ e]; exact this
  · have hx2 : gup (zh V) (zn V) (fun x => decide (x ∈ qh q)) p x = true := hx
    show x < gup (zw V) (zn V) (qw q) p
    by_cases e : p = zn V
    · rw [e, gup_s] at hx2
      rw [e, gup_s]
      exact ok.2.2.2.2.2.1 x (of_decide_eq_true hx2)
    · rw [gup_n _ _ e] at hx2
      refine w4 p x hp ?_
      show gup (zh V) (zn V) (fun _ => false) p x = true
      rw [gup_n _ _ e]; exact hx2
  · by_cases e : p = zn V
    · rw [e, zE_pc0 ok]; exact ok.2.2.2.2.2.2
    · rw [zE_pc e, ← zE_add (w := qw q) e]; exact w5 p hp
theorem RepC_pc {D D4 D2 : Nat → Nat → Int32} {V : ZV} {q : RS} (hv : Valid V) (R : RepC D4 1 (opAdd V (qw q))) (HR : RepR D q) (ok : PcOK q) (h3 : ∀ j, D2 3 j = va_cpy (D 13) (D4 3) 0 (zn V * 10) 10 j) (h5 : ∀ j, D2 5 j = va_cpy (D 14) (D4 5) 0 (zn V * 4) (qh q).length j) (h4 : D2 4 = hx_up D4 4 (zn V) (nI (qh q).length) 4) (e : ∀ a, a ≠ 3 → a ≠ 4 → a ≠ 5 → D2 a = D4 a) : RepC D2 1 (opPc V q) := by
  obtain ⟨p0, p1, p3, p5, p6, p7, p8, ph, pd⟩ := id HR
  obtain ⟨o1, o2, o3, o4, o5, o6, o7⟩ := id ok
  obtain ⟨r0, r1, rw, re, rc, rh, rr, rs0, rs1⟩ := rC R
  have n1 : zn (opAdd V (qw q)) = zn V + 1 := rfl
  have n2 : zn (opPc V q) = zn V + 1 := rfl
  refine ⟨by rw [e 1 (by omega) (by omega) (by omega)]; exact r0, by rw [e 1 (by omega) (by omega) (by omega)]; exact r1, fun p hp => by show D2 2 p = _; rw [e 2 (by omega) (by omega) (by omega)]; exact rw p hp, fun p j hp hj => ?_, fun p hp => ?_, fun p i x hp hx => ?_, fun i hi => by show D2 6 i = _; rw [e 6 (by omega) (by omega) (by omega)]; exact rr i hi, by show D2 7 0 = _; rw [e 7 (by omega) (by omega) (by omega)]; exact rs0, by show D2 7 1 = _; rw [e 7 (by omega) (by omega) (by omega)]; exact rs1⟩
  · show D2 3 (p * 10 + j) = nI (gup (ze V) (zn V) (qd q) p j)
    rw [h3]
    by_cases c : p = zn V
    · rw [pk_cpy_in (by rw [c]; omega) (by rw [c]; omega), c, gup_s, show 0 + (zn V * 10 + j - zn V * 10) = j by omega]
      exact pd j (by omega)
    · rw [pk_cpy_out (by omega), gup_n _ _ c]
      have := re p j hp hj
      have e2 : ze (opAdd V (qw q)) p = ze V p := gup_n _ _ c
      rw [e2] at this
      exact this
  · show D2 4 p = _
    rw [h4, hx_up_at]
    by_cases c : p = zn V
    · rw [if_pos ⟨rfl, c⟩, c, zE_pc0 ok]
    · rw [if_neg (fun z => c z.2), zE_pc c, ← zE_add (w := qw q) c]
      exact rc p hp
  · show D2 5 (p * 4 + i) = nI x
    rw [h5]
    by_cases c : p = zn V
    · rw [c, zE_pc0 ok] at hx
      have hi : i < (qh q).length := by
        rw [hx_nth_eq] at hx
        exact (List.getElem?_eq_some_iff.mp hx).1
      rw [pk_cpy_in (by rw [c]; omega) (by rw [c]; omega), c, show 0 + (zn V * 4 + i - zn V * 4) = i by omega]
      exact ph i x hx
    · rw [zE_pc c] at hx
      have hi : i < (zE V p).length := by
        rw [hx_nth_eq] at hx
        exact (List.getElem?_eq_some_iff.mp hx).1
      have h4p := hv.2.2.2.2.1 p (by omega)
      rw [← zE_add (w := qw q) c] at hx
      rw [pk_cpy_out (by omega)]
      exact rh p i x hp hx
/-- addRead -/
theorem m88 {sc : Nat × (Nat → Int32)} {d : Nat} {D : Nat → Nat → Int32} {G : Nat → Nat → Int64} {V : ZV} {q : RS} (R : RepC D 1 V) (hv : Valid V) (hn : zn V < 7) (HR : RepR D q) (ok : PcOK q) : Cq sc (d + 1) 88 [.ref 0] D G (fun r D2 => r = .inl none ∧ RepC D2 1 (opPc V q) ∧ ∀ a, a = 0 ∨ 7 ≤ a → D2 a = D a) := by
  obtain ⟨p0, p1, p3, p5, p6, p7, p8, ph, pd⟩ := id HR
  obtain ⟨o1, o2, o3, o4, o5, o6, o7⟩ := id ok
  have r0 := (rC R).1
  refine Cq.c (fun _ _ _ => c88) ?_
  refine Rq.bt (fun _ => b88_0) (by rw [r0]; simp (disch := omega) only [Int32.lt_iff_toInt_lt, z_nI]; omega) ?_
  obtain ⟨_, D4, hC4, rfl, R4, k4⟩ := m35 (sc := sc) (d := d) (G := G) (w := qw q) R hv hn
  refine Rq.s (fun _ => b88_13 (by rw [p1]; exact hC4)) ?_
  have e12 : D4 12 = D 12 := k4 12 (by omega)
  have e13 : D4 13 = D 13 := k4 13 (by omega)
  have e14 : D4 14 = D 14 := k4 14 (by omega)
  have q3 : D4 12 3 = nI (qh q).length := by rw [e12]; exact p3
  refine Rq.s (fun _ => b88_27 (by rw [nI_mulN]; exact dcp (by omega) (by omega) (by omega) (by omega))) ?_
  refine Rq.s (fun _ => b88_52 (by rw [hx_row_ne (by omega), q3, nI_mulN]; exact dcp (by omega) (by omega) (by omega) (by omega))) ?_
  refine Rq.e (b88_80 (nI_inbT (by omega) (by omega))) ?_
  simp (disch := omega) only [nI_mulN, nI_clamp, hx_row_ne, q3, e13, e14, Nat.zero_add]
  exact ⟨trivial, RepC_pc hv R4 HR ok (fun j => by rw [hx_up_ne (by omega), hx_row_ne (by omega), hx_row_s]) (fun j => by rw [hx_up_ne (by omega), hx_row_s]) (by funext j; rw [hx_up_at, hx_up_at, hx_row_ne (by omega), hx_row_ne (by omega)]) (fun a a1 a2 a3 => by rw [hx_up_ne (by omega), hx_row_ne (by omega), hx_row_ne (by omega)]), fun a ha => by rw [hx_up_ne (by omega), hx_row_ne (by omega), hx_row_ne (by omega)]; exact k4 a ha⟩

