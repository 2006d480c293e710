/-! ===== the bits of means ===== -/
def iI (z : Int) : Int32 := Int32.ofInt z
abbrev fok (x : UInt32) : Bool := decide (x &&& 0x7fffffff ≤ 0x7f800000)
abbrev dok (x : UInt64) : Bool := decide (x &&& 0x7fffffffffffffff ≤ 0x7ff0000000000000)
def frc {α : Type} (n : Nat) (f : Nat → α) : α := Nat.rec (f 0) (fun k _ => f (k + 1)) n
theorem frc_eq {α : Type} (n : Nat) (f : Nat → α) : frc n f = f n := by cases n <;> rfl
def fr {α : Type} (x : UInt32) (f : UInt32 → α) : α := frc x.toNat (fun n => f (UInt32.ofNat n))
theorem fr_eq {α : Type} (x : UInt32) (f : UInt32 → α) : fr x f = f x := by
  unfold fr
  rw [frc_eq, UInt32.ofNat_toNat]
def dr {α : Type} (x : UInt64) (f : UInt64 → α) : α := frc x.toNat (fun n => f (UInt64.ofNat n))
theorem dr_eq {α : Type} (x : UInt64) (f : UInt64 → α) : dr x f = f x := by
  unfold dr
  rw [frc_eq, UInt64.ofNat_toNat]
abbrev flt (x y : UInt32) : Prop := (Op.cmpValue (FP.fcmp x y) .l) < 0
abbrev fge (x y : UInt32) : Prop := 0 ≤ (Op.cmpValue (FP.fcmp x y) .g)
abbrev dlt (x y : UInt64) : Prop := (Op.cmpValue (FP.dcmp x y) .l) < 0
abbrev dge (x y : UInt64) : Prop := 0 ≤ (Op.cmpValue (FP.dcmp x y) .g)
def fU : Nat → UInt32 → Nat → Option (UInt32 × Nat)
  | 0, _, _ => none
  | k + 1, x, e => if flt x (FP.fconst2) then some (x, e) else fr (FP.fdiv x (FP.fconst2)) fun y => if fok y then fU k y (e + 1) else none
def fD : Nat → UInt32 → Nat → Option (UInt32 × Nat)
  | 0, _, _ => none
  | k + 1, x, e => if (Op.cmpValue (FP.fcmp x (FP.fconst0)) .l) ≤ 0 then none else if fge x (FP.fconst1) then some (x, e) else if e = 0 then none else fr (FP.fmul x (FP.fconst2)) fun y => if fok y then fD k y (e - 1) else none
def dU : Nat → UInt64 → Nat → Option (UInt64 × Nat)
  | 0, _, _ => none
  | k + 1, x, e => if dlt x (4611686018427387904) then some (x, e) else dr (FP.ddiv x (4611686018427387904)) fun y => if dok y then dU k y (e + 1) else none
def dD : Nat → UInt64 → Nat → Option (UInt64 × Nat)
  | 0, _, _ => none
  | k + 1, x, e => if dge x (FP.dconst1) then some (x, e) else if e = 0 then none else dr (FP.dmul x (4611686018427387904)) fun y => if dok y then dD k y (e - 1) else none
def fM (x : UInt32) : Int32 := FP.f2i (FP.fmul (FP.fsub x (FP.fconst1)) (1258291200))
def dM (x : UInt64) : Int64 := FP.d2l (FP.dmul (FP.dsub x (FP.dconst1)) (4841369599423283200))
/-- halved and doubled till it lies between 1 and 2 -/
def fN (v : UInt32) : Option (UInt32 × Nat) := match fU 13 v 127 with
  | none => none
  | some q => match fD 12 q.1 q.2 with
    | none => none
    | some q => if fok (FP.fsub q.1 (FP.fconst1)) ∧ fok (FP.fmul (FP.fsub q.1 (FP.fconst1)) (1258291200)) ∧ (nI 0 ||| (nI q.2 <<< ((nI 23) &&& 31))) ||| fM q.1 = nI q.2 * nI 8388608 + fM q.1 then some q else none
def dN (v : UInt64) : Option (UInt64 × Nat) := match dU 13 v 1023 with
  | none => none
  | some q => match dD 12 q.1 q.2 with
    | none => none
    | some q => if dok (FP.dsub q.1 (FP.dconst1)) ∧ dok (FP.dmul (FP.dsub q.1 (FP.dconst1)) (4841369599423283200)) ∧ (lN q.2 <<< ((nI 52).toInt64 &&& 63)) ||| dM q.1 = lN q.2 * (4503599627370496) + dM q.1 then some q else none
def fW (v : UInt32) : Bool := match fN v with
  | none => false
  | some _ => true
def dW (v : UInt64) : Bool := match dN v with
  | none => false
  | some _ => true
/-- what is needed of a mean: 0, above 0, or below 0 -/
def fA (v : UInt32) : Prop := fok v = true ∧ dok (FP.f2d v) = true ∧ (((Op.cmpValue (FP.fcmp v (FP.fconst0)) .l) = 0 ∧ fge v (FP.fconst0) ∧ flt v (FP.fconst2)) ∨ (¬ (Op.cmpValue (FP.fcmp v (FP.fconst0)) .l) = 0 ∧ fge v (FP.fconst0) ∧ fW v = true) ∨ (¬ (Op.cmpValue (FP.fcmp v (FP.fconst0)) .l) = 0 ∧ ¬ fge v (FP.fconst0) ∧ fW (FP.fneg v) = true))
def dA (v : UInt64) : Prop := dok v = true ∧ (((Op.cmpValue (FP.dcmp v (FP.dconst0)) .l) = 0 ∧ ¬ 0 < (Op.cmpValue (FP.dcmp v (FP.dconst0)) .g)) ∨ (¬ (Op.cmpValue (FP.dcmp v (FP.dconst0)) .l) = 0 ∧ 0 < (Op.cmpValue (FP.dcmp v (FP.dconst0)) .g) ∧ dW v = true))
abbrev fQ (a : Int) (b : Nat) : UInt32 := FP.fdiv (FP.i2f (iI a)) (FP.i2f (nI b))
abbrev dQ (a b : Nat) : UInt64 := FP.ddiv (FP.i2d (nI a)) (FP.i2d (nI b))
def fcheck (a : Nat) (v w : UInt32) : Bool := fok v && dok (FP.f2d v) && decide (fge v (FP.fconst0)) && (if a = 0 then decide ((Op.cmpValue (FP.fcmp v (FP.fconst0)) .l) = 0) && decide (flt v (FP.fconst2)) else decide (¬ (Op.cmpValue (FP.fcmp v (FP.fconst0)) .l) = 0) && fW v && fok w && dok (FP.f2d w) && decide (¬ (Op.cmpValue (FP.fcmp w (FP.fconst0)) .l) = 0) && decide (¬ fge w (FP.fconst0)) && decide (FP.fneg w = v))
def fRow (b : Nat) : Nat → Nat → Bool
  | 0, _ => true
  | k + 1, a => fr (fQ (a : Int) b) (fun v => fr (fQ (-(a : Int)) b) (fun w => fcheck a v w)) && fRow b k (a + 1)
def dRow (b : Nat) : Nat → Nat → Bool
  | 0, _ => true
  | k + 1, a => dr (dQ a b) (fun v => dok v && (if a = 0 then decide ((Op.cmpValue (FP.dcmp v (FP.dconst0)) .l) = 0) && decide (¬ 0 < (Op.cmpValue (FP.dcmp v (FP.dconst0)) .g)) else decide (¬ (Op.cmpValue (FP.dcmp v (FP.dconst0)) .l) = 0) && decide (0 < (Op.cmpValue (FP.dcmp v (FP.dconst0)) .g)) && dW v)) && dRow b k (a + 1)
theorem fRow_of {b : Nat} : ∀ k a, fRow b k a = true → ∀ j, a ≤ j → j < a + k → fcheck j (fQ (j : Int) b) (fQ (-(j : Int)) b) = true
  | 0, a, _, j, h1, h2 => by omega
  | k + 1, a, h, j, h1, h2 => by
    unfold fRow at h
    rw [fr_eq, fr_eq, Bool.and_eq_true] at h
    by_cases e : j = a
    · rw [e]
      exact h.1
    · exact fRow_of k (a + 1) h.2 j (by omega) (by omega)
theorem fA_of {a : Nat} {b : Nat} (h : fcheck a (fQ (a : Int) b) (fQ (-(a : Int)) b) = true) : fA (fQ (a : Int) b) ∧ fA (fQ (-(a : Int)) b) := by
  unfold fcheck at h
  simp only [Bool.and_eq_true, decide_eq_true_eq] at h
  obtain ⟨⟨⟨h1, h2⟩, h3⟩, h4⟩ := h
  by_cases e : a = 0
  · rw [if_pos e] at h4
    simp only [Bool.and_eq_true, decide_eq_true_eq] at h4
    have h5 : fA (fQ (a : Int) b) := ⟨decide_eq_true h1, decide_eq_true h2, Or.inl ⟨h4.1, h3, h4.2⟩⟩
    have e2 : (-(a : Int)) = (a : Int) := by omega
    rw [e2]
    exact ⟨h5, h5⟩
  · rw [if_neg e] at h4
    simp only [Bool.and_eq_true, decide_eq_true_eq] at h4
    obtain ⟨⟨⟨⟨⟨⟨g1, g2⟩, g3⟩, g4⟩, g5⟩, g6⟩, g7⟩ := h4
    refine ⟨⟨decide_eq_true h1, decide_eq_true h2, Or.inr (Or.inl ⟨g1, h3, g2⟩)⟩, ⟨decide_eq_true g3, decide_eq_true g4, Or.inr (Or.inr ⟨g5, g6, ?_⟩)⟩⟩
    rw [g7]
    exact g2
theorem dRow_of {b : Nat} : ∀ k a, dRow b k a = true → ∀ j, a ≤ j → j < a + k → dA (dQ j b)
  | 0, a, _, j, h1, h2 => by omega
  | k + 1, a, h, j, h1, h2 => by
    unfold dRow at h
    rw [dr_eq, Bool.and_eq_true] at h
    by_cases e : j = a
    · subst e
      have h3 := h.1
      rw [Bool.and_eq_true] at h3
      refine ⟨h3.1, ?_⟩
      have h4 := h3.2
      by_cases e : j = 0
      · rw [if_pos e] at h4
        simp only [Bool.and_eq_true, decide_eq_true_eq] at h4
        exact Or.inl h4
      · rw [if_neg e] at h4
        simp only [Bool.and_eq_true, decide_eq_true_eq] at h4
        exact Or.inr ⟨h4.1.1, h4.1.2, h4.2⟩
    · exact dRow_of k (a + 1) h.2 j (by omega) (by omega)
set_option maxRecDepth 100000 in
theorem fRow_1 : fRow 1 419 0 = true := by decide +kernel
set_option maxRecDepth 100000 in
theorem fRow_2 : fRow 2 419 0 = true := by decide +kernel
set_option maxRecDepth 100000 in
theorem fRow_3 : fRow 3 419 0 = true := by decide +kernel
set_option maxRecDepth 100000 in
theorem fRow_4 : fRow 4 419 0 = true := by decide +kernel
set_option maxRecDepth 100000 in
theorem fRow_5 : fRow 5 419 0 = true := by decide +kernel
set_option maxRecDepth 100000 in
theorem fRow_6 : fRow 6 419 0 = true := by decide +kernel
set_option maxRecDepth 100000 in
theorem fRow_7 : fRow 7 419 0 = true := by decide +kernel
set_option maxRecDepth 100000 in
theorem fRow_8 : fRow 8 419 0 = true := by decide +kernel
set_option maxRecDepth 100000 in
theorem fRow_9 : fRow 9 419 0 = true := by decide +kernel
set_option maxRecDepth 100000 in
theorem fRow_10 : fRow 10 419 0 = true := by decide +kernel
set_option maxRecDepth 100000 in
theorem fRow_11 : fRow 11 419 0 = true := by decide +kernel
set_option maxRecDepth 100000 in
theorem fRow_12 : fRow 12 419 0 = true := by decide +kernel
set_option maxRecDepth 100000 in
theorem fRow_13 : fRow 13 419 0 = true := by decide +kernel
set_option maxRecDepth 100000 in
theorem fRow_14 : fRow 14 419 0 = true := by decide +kernel
set_option maxRecDepth 100000 in
theorem fRow_15 : fRow 15 419 0 = true := by decide +kernel
set_option maxRecDepth 100000 in
theorem fRow_16 : fRow 16 419 0 = true := by decide +kernel
set_option maxRecDepth 100000 in
theorem fRow_17 : fRow 17 419 0 = true := by decide +kernel
set_option maxRecDepth 100000 in
theorem fRow_18 : fRow 18 419 0 = true := by decide +kernel
set_option maxRecDepth 100000 in
theorem fRow_19 : fRow 19 419 0 = true := by decide +kernel
set_option maxRecDepth 100000 in
theorem fRow_20 : fRow 20 419 0 = true := by decide +kernel
set_option maxRecDepth 100000 in
theorem fRow_21 : fRow 21 419 0 = true := by decide +kernel
set_option maxRecDepth 100000 in
theorem fRow_22 : fRow 22 419 0 = true := by decide +kernel
set_option maxRecDepth 100000 in
theorem fRow_23 : fRow 23 419 0 = true := by decide +kernel
set_option maxRecDepth 100000 in
theorem fRow_24 : fRow 24 419 0 = true := by decide +kernel
set_option maxRecDepth 100000 in
theorem fRow_25 : fRow 25 419 0 = true := by decide +kernel
set_option maxRecDepth 100000 in
theorem fRow_26 : fRow 26 419 0 = true := by decide +kernel
set_option maxRecDepth 100000 in
theorem dRow_1 : dRow 1 229 0 = true := by decide +kernel
set_option maxRecDepth 100000 in
theorem dRow_2 : dRow 2 229 0 = true := by decide +kernel
set_option maxRecDepth 100000 in
theorem dRow_3 : dRow 3 229 0 = true := by decide +kernel
set_option maxRecDepth 100000 in
theorem dRow_4 : dRow 4 229 0 = true := by decide +kernel
set_option maxRecDepth 100000 in
theorem dRow_5 : dRow 5 229 0 = true := by decide +kernel
set_option maxRecDepth 100000 in
theorem dRow_6 : dRow 6 229 0 = true := by decide +kernel
theorem fRow_all (b : Nat) (h1 : 1 ≤ b) (h2 : b ≤ 26) : fRow b 419 0 = true := by
  match b, h1, h2 with
  | 1, _, _ => exact fRow_1
  | 2, _, _ => exact fRow_2
  | 3, _, _ => exact fRow_3
  | 4, _, _ => exact fRow_4
  | 5, _, _ => exact fRow_5
  | 6, _, _ => exact fRow_6
  | 7, _, _ => exact fRow_7
  | 8, _, _ => exact fRow_8
  | 9, _, _ => exact fRow_9
  | 10, _, _ => exact fRow_10
  | 11, _, _ => exact fRow_11
  | 12, _, _ => exact fRow_12
  | 13, _, _ => exact fRow_13
  | 14, _, _ => exact fRow_14
  | 15, _, _ => exact fRow_15
  | 16, _, _ => exact fRow_16
  | 17, _, _ => exact fRow_17
  | 18, _, _ => exact fRow_18
  | 19, _, _ => exact fRow_19
  | 20, _, _ => exact fRow_20
  | 21, _, _ => exact fRow_21
  | 22, _, _ => exact fRow_22
  | 23, _, _ => exact fRow_23
  | 24, _, _ => exact fRow_24
  | 25, _, _ => exact fRow_25
  | 26, _, _ => exact fRow_26
  | n + 27, _, h => exact absurd h (by omega)
theorem dRow_all (b : Nat) (h1 : 1 ≤ b) (h2 : b ≤ 6) : dRow b 229 0 = true := by
  match b, h1, h2 with
  | 1, _, _ => exact dRow_1
  | 2, _, _ => exact dRow_2
  | 3, _, _ => exact dRow_3
  | 4, _, _ => exact dRow_4
  | 5, _, _ => exact dRow_5
  | 6, _, _ => exact dRow_6
  | n + 7, _, h => exact absurd h (by omega)
theorem fA_all {a : Int} {b : Nat} (ha : -419 < a) (ha2 : a < 419) (h1 : 1 ≤ b) (h2 : b ≤ 26) : fA (fQ a b) := by
  have h := fA_of (fRow_of 419 0 (fRow_all b h1 h2) a.natAbs (by omega) (by omega))
  by_cases e : 0 ≤ a
  · have := h.1
    rw [show ((a.natAbs : Nat) : Int) = a by omega] at this
    exact this
  · have := h.2
    rw [show -((a.natAbs : Nat) : Int) = a by omega] at this
    exact this
theorem dA_all {a b : Nat} (ha : a < 229) (h1 : 1 ≤ b) (h2 : b ≤ 6) : dA (dQ a b) := dRow_of 229 0 (dRow_all b h1 h2) a (by omega) (by omega)
theorem fA_0 : fA (FP.fconst0) := ⟨by decide +kernel, by decide +kernel, Or.inl ⟨by decide +kernel, by decide +kernel, by decide +kernel⟩⟩
theorem dA_0 : dA (FP.dconst0) := ⟨by decide +kernel, Or.inl ⟨by decide +kernel, by decide +kernel⟩⟩
