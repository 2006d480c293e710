/-! ===== the reference reads the holes, a piece ===== -/
def zH (l : List Nat) : Nat → Bool := fun x => decide (x ∈ l)
def q3 (q : RS) (l : List Nat) (x : Int) : RS := (qb q, 3, qw q, qe q, qr q, x, l, qd q)
theorem qclose_w (q : RS) : qw (qclose q) = qw q := by unfold qclose; split <;> rfl
theorem qclose_e (q : RS) : qd (qclose q) = qd q := by unfold qclose; split <;> rfl
theorem aT_q3 (q : RS) (l : List Nat) (x : Int) (c : Nat) : aT (q3 q l x) c = aP (q3 q l x) c := by
  unfold aT
  rw [if_neg (by show ¬ 3 = 0; omega), if_neg (by show ¬ 3 = 1; omega), if_neg (by show ¬ 3 = 2; omega)]
theorem isP_iff {q : RS} {l : List Nat} {x : Int} {lo hi : Nat} (v : Nat) (hlo : (lo : Int) = qlast (q3 q l x) + 1) (hhi : hi + 1 = qw q) : qisP (q3 q l x) (v : Int) = true ↔ lo ≤ v ∧ v ≤ hi := by
  unfold qisP
  rw [decide_eq_true_iff]
  show qlast (q3 q l x) < (v : Int) ∧ (v : Int) < (qw q : Int) ↔ _
  omega
theorem begP_iff {q : RS} {l : List Nat} {x : Int} {lo hi : Nat} (v : Nat) (hlo : (lo : Int) = qlast (q3 q l x) + 1) (hhi : hi + 1 = qw q) : qbegP (q3 q l x) (v : Int) = true ↔ 0 < v ∧ 10 * v ≤ hi ∧ lo ≤ 10 * v + 9 := by
  unfold qbegP
  rw [decide_eq_true_iff]
  show 0 < (v : Int) ∧ (v : Int) * 10 < (qw q : Int) ∧ qlast (q3 q l x) < (v : Int) * 10 + 9 ↔ _
  omega
theorem bg_iff {q : RS} {l : List Nat} {x : Int} {lo hi : Nat} (v : Nat) (hlo : (lo : Int) = qlast (q3 q l x) + 1) (hhi : hi + 1 = qw q) : (qisP (q3 q l x) (v : Int) = true ∨ qbegP (q3 q l x) (v : Int) = true) ↔ BG lo hi v := or_congr (isP_iff v hlo hhi) (begP_iff v hlo hhi)
theorem d3_n1 {q : RS} {l : List Nat} {lo : Nat} (c : Nat) (hlo : (lo : Int) = qlast (q3 q l (-1)) + 1) (hc : ¬ DG c) : aT (q3 q l (-1)) c = none := by
  rw [aT_q3]
  unfold aP
  rw [zdg_n hc, if_pos rfl, if_neg]
  intro z
  have := of_decide_eq_true z
  have z2 : qlast (q3 q l (-1)) < -1 := this.1
  omega
theorem d3_1 {q : RS} {l : List Nat} {lo hi : Nat} (c : Nat) (hlo : (lo : Int) = qlast (q3 q l (-1)) + 1) (hhi : hi + 1 = qw q) (hc : DG c) : aT (q3 q l (-1)) c = if BG lo hi (c - 48) then some (q3 q l ((c - 48 : Nat) : Int)) else none := by
  have hc' : 48 ≤ c ∧ c ≤ 57 := hc
  rw [aT_q3]
  unfold aP
  have e : (if qx (q3 q l (-1)) = -1 then zdg c else qx (q3 q l (-1)) * 10 + zdg c) = ((c - 48 : Nat) : Int) := by
    rw [if_pos (show qx (q3 q l (-1)) = -1 from rfl), zdg_d hc]
    omega
  rw [if_neg (by rw [zdg_d hc]; omega), if_neg (show ¬ qx (q3 q l (-1)) = 0 by show ¬ (-1 : Int) = 0; omega), e]
  by_cases cb : BG lo hi (c - 48)
  · rw [if_pos ((bg_iff _ hlo hhi).mpr cb), if_pos cb]
    rfl
  · rw [if_neg (fun z => cb ((bg_iff _ hlo hhi).mp z)), if_neg cb]
theorem d3_2 {q : RS} {l : List Nat} {lo hi v : Nat} (c : Nat) (hlo : (lo : Int) = qlast (q3 q l v) + 1) (hhi : hi + 1 = qw q) (hc : DG c) : aT (q3 q l v) c = if v = 0 then none else if BG lo hi (10 * v + (c - 48)) then some (q3 q l ((10 * v + (c - 48) : Nat) : Int)) else none := by
  have hc' : 48 ≤ c ∧ c ≤ 57 := hc
  rw [aT_q3]
  unfold aP
  have e : (if qx (q3 q l v) = -1 then zdg c else qx (q3 q l v) * 10 + zdg c) = ((10 * v + (c - 48) : Nat) : Int) := by
    rw [if_neg (show ¬ qx (q3 q l v) = -1 by show ¬ (v : Int) = -1; omega), zdg_d hc]
    show (v : Int) * 10 + _ = _
    omega
  rw [if_neg (by rw [zdg_d hc]; omega)]
  by_cases h0 : v = 0
  · rw [if_pos (show qx (q3 q l v) = 0 by show (v : Int) = 0; omega), if_pos h0]
  · rw [if_neg (show ¬ qx (q3 q l v) = 0 by show ¬ (v : Int) = 0; omega), if_neg h0, e]
    by_cases cb : BG lo hi (10 * v + (c - 48))
    · rw [if_pos ((bg_iff _ hlo hhi).mpr cb), if_pos cb]
      rfl
    · rw [if_neg (fun z => cb ((bg_iff _ hlo hhi).mp z)), if_neg cb]
theorem d3_3 {q : RS} {l : List Nat} {v : Nat} (c : Nat) (hc : ¬ DG c) (h1 : c ≠ 59) (h2 : c ≠ 46) : aT (q3 q l v) c = none := by
  rw [aT_q3]
  unfold aP
  rw [zdg_n hc, if_pos rfl]
  split
  · unfold aN
    rw [if_neg h1, if_neg (fun z => h2 z.1)]
  · rfl
theorem d3_4 {q : RS} {l : List Nat} {lo hi v : Nat} (c : Nat) (hlo : (lo : Int) = qlast (q3 q l v) + 1) (hhi : hi + 1 = qw q) (hc : ¬ DG c) (h : ¬ (lo ≤ v ∧ v ≤ hi)) : aT (q3 q l v) c = none := by
  rw [aT_q3]
  unfold aP
  rw [zdg_n hc, if_pos rfl, if_neg]
  intro z
  exact h ((isP_iff v hlo hhi).mp z)
theorem aT_46 {q : RS} (HQ : Qok q) (h : qwhole q = true) : aT q 46 = if (qh (qclose q)).length < 4 ∧ qlast (qclose q) < (qw q : Int) - 1 then some (q3 q (qh (qclose q)) (-1)) else none := by
  have e : aT q 46 = aN (qclose q) 46 := by
    rcases qclose_p h with h2 | h2
    · unfold aT
      rw [if_neg (by omega), if_neg (by omega), if_pos h2]
      congr 1
      unfold qclose
      rw [if_neg (by omega)]
    · unfold aT
      rw [if_neg (by omega), if_neg (by omega), if_neg (by omega)]
      unfold aP
      rw [show zdg 46 = -1 by decide, if_pos rfl, if_pos h2.2]
  rw [e]
  unfold aN
  rw [if_neg (by omega), qclose_w]
  by_cases c : (qh (qclose q)).length < 4 ∧ qlast (qclose q) < (qw q : Int) - 1
  · rw [if_pos ⟨rfl, c⟩, if_pos c]
    unfold q3 qclose
    split <;> rfl
  · rw [if_neg (fun z => c z.2), if_neg c]
theorem close_q3 {q : RS} {l : List Nat} {v : Nat} (h : l.length < 4) : qh (qclose (q3 q l v)) = l ++ [v] ∧ qlast (qclose (q3 q l v)) = (v : Int) := by
  have e : qclose (q3 q l v) = (qb q, 2, qw q, qe q, qr q, (v : Int), l ++ [v], qd q) := by
    unfold qclose
    rw [if_pos ⟨rfl, h⟩]
    rfl
  rw [e]
  refine ⟨rfl, ?_⟩
  unfold qlast
  show (match hx_nth (l ++ [v]) ((l ++ [v]).length - 1) with
    | some x => (x : Int)
    | none => -1) = (v : Int)
  rw [hx_nth_eq, List.length_append, List.length_singleton, Nat.add_sub_cancel, List.getElem?_append_right (Nat.le_refl _), Nat.sub_self]
  rfl
theorem zM_add (l : List Nat) {v w : Nat} (hv : v < 60) (hw : w ≤ 1) : zM (zH (l ++ [v])) w = if w = v / 30 then zM (zH l) w ||| 2 ^ (v % 30) else zM (zH l) w := by
  have hm : ∀ x, zH (l ++ [v]) x = (zH l x || decide (x = v)) := fun x => by
    unfold zH
    rw [← Bool.decide_or]
    exact decide_eq_decide.mpr (by rw [List.mem_append, List.mem_singleton])
  refine Nat.eq_of_testBit_eq (fun i => ?_)
  rw [zM_tb _ hw, hm]
  by_cases c : w = v / 30
  · rw [if_pos c, Nat.testBit_or, Nat.testBit_two_pow, zM_tb _ hw]
    by_cases hi : i < 30
    · rw [decide_eq_true hi, Bool.true_and, Bool.true_and]
      congr 1
      exact decide_eq_decide.mpr (by omega)
    · rw [decide_eq_false hi, Bool.false_and, Bool.false_and, decide_eq_false (by omega)]
      rfl
  · rw [if_neg c, zM_tb _ hw]
    by_cases hi : i < 30
    · rw [decide_eq_false (show ¬ 30 * w + i = v by omega), Bool.or_false]
    · rw [decide_eq_false hi, Bool.false_and, Bool.false_and]
/-- the piece read -/
def RD (D : Nat → Nat → Int32) (q : RS) : Prop := D 88 0 = nI (qw q) ∧ (∀ j, j < 10 → D 88 (1 + j) = nI (qd q j)) ∧ ∀ w, w ≤ 1 → D 88 (11 + w) = nI (zM (zH (qh (qclose q))) w)
def PEnd (D : Nat → Nat → Int32) (len : Nat) (b : Nat → Nat) (k : Nat) : Prop := (∃ s q, s ≤ len ∧ PF D s ∧ aSt b s = some q ∧ qb q = k ∧ qwhole q = true ∧ RD D q ∧ (s < len → b s ≠ 59 → aT q (b s) = none)) ∨ PB D len b
def PHL (D : Nat → Nat → Int32) (len : Nat) (b : Nat → Nat) (k lo cnt : Nat) : Prop := (∃ s q, s ≤ len ∧ PF D s ∧ aSt b s = some q ∧ qb q = k ∧ qwhole q = true ∧ RD D q ∧ (s < len → b s ≠ 59 → b s ≠ 46 → aT q (b s) = none) ∧ (lo : Int) = qlast (qclose q) + 1 ∧ cnt = (qh (qclose q)).length) ∨ PB D len b
