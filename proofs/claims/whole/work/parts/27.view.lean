/-! ===== what a scroll is, for the class and for the reference ===== -/
/-- pieces, moves, widths, edges (ten numbers a piece), holes, the row, the settings -/
abbrev ZV : Type := Nat × Nat × (Nat → Nat) × (Nat → Nat → Nat) × (Nat → Nat → Bool) × (Nat → Nat) × (Nat → Nat)
abbrev zn (V : ZV) : Nat := V.1
abbrev zm (V : ZV) : Nat := V.2.1
abbrev zw (V : ZV) : Nat → Nat := V.2.2.1
abbrev ze (V : ZV) : Nat → Nat → Nat := V.2.2.2.1
abbrev zh (V : ZV) : Nat → Nat → Bool := V.2.2.2.2.1
abbrev zr (V : ZV) : Nat → Nat := V.2.2.2.2.2.1
abbrev zs (V : ZV) : Nat → Nat := V.2.2.2.2.2.2
/-- a piece's holes, in order -/
def zE (V : ZV) (p : Nat) : List Nat := (List.range 60).filter (zh V p)
def Valid (V : ZV) : Prop := zn V ≤ 7 ∧ (∀ p, p < zn V → 1 ≤ zw V p ∧ zw V p ≤ 60) ∧ (∀ p j, p < zn V → j < 10 → ze V p j ≤ 9 ∧ (j ≠ 4 → j ≠ 9 → ze V p j ≤ 5)) ∧ (∀ p x, p < zn V → zh V p x = true → x < zw V p) ∧ (∀ p, p < zn V → (zE V p).length ≤ 4) ∧ (∀ i, i < zn V → zr V i < zn V) ∧ (∀ i j, i < zn V → j < zn V → zr V i = zr V j → i = j) ∧ zs V 0 ≤ 9 ∧ zs V 1 ≤ 9
/-- the class's scroll whose object is the cell b, its arrays behind it -/
def RepC (D : Nat → Nat → Int32) (b : Nat) (V : ZV) : Prop :=
  D b 0 = nI (zn V) ∧ D b 1 = nI (zm V) ∧ (∀ p, p < zn V → D (b + 1) p = nI (zw V p)) ∧ (∀ p j, p < zn V → j < 10 → D (b + 2) (p * 10 + j) = nI (ze V p j)) ∧ (∀ p, p < zn V → D (b + 3) p = nI (zE V p).length) ∧ (∀ p i x, p < zn V → hx_nth (zE V p) i = some x → D (b + 4) (p * 4 + i) = nI x) ∧ (∀ i, i < zn V → D (b + 5) i = nI (zr V i)) ∧ D (b + 6) 0 = nI (zs V 0) ∧ D (b + 6) 1 = nI (zs V 1)
/-- the bits of the holes from a place on -/
def zB (h : Nat → Bool) : Nat → Nat
  | 0 => 0
  | k + 1 => zB h k + (if h k then 2 ^ k else 0)
/-- the reference's scroll: 102 numbers from o on in the cell c -/
def RepM (D : Nat → Nat → Int32) (c o : Nat) (V : ZV) : Prop :=
  D c (o + 98) = nI (zn V) ∧ D c (o + 99) = nI (zm V) ∧ (∀ p, p < zn V → D c (o + p * 13) = nI (zw V p)) ∧ (∀ p j, p < zn V → j < 10 → D c (o + (p * 13 + (j + 1))) = nI (ze V p j)) ∧ (∀ p, p < zn V → D c (o + (p * 13 + 11)) = nI (zB (zh V p) 30) ∧ D c (o + (p * 13 + 12)) = nI (zB (fun x => zh V p (x + 30)) 30)) ∧ (∀ i, i < zn V → D c (o + (91 + i)) = nI (zr V i)) ∧ D c (o + 100) = nI (zs V 0) ∧ D c (o + 101) = nI (zs V 1)
/-- what a join costs -/
def zj (V : ZV) (f s : Nat) : Nat := 2 * nd (ze V f 9) (ze V s 4) + nd (ze V f 5 + ze V s 0) 5 + nd (ze V f 6 + ze V s 1) 5 + nd (ze V f 7 + ze V s 2) 5 + nd (ze V f 8 + ze V s 3) 5
