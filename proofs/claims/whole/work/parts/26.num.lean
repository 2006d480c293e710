/-! ===== numbers: Int32 out of Nat ===== -/
theorem nI_lit (n : Nat) : (OfNat.ofNat n : Int32) = nI n := rfl
theorem nI_mulN (a b : Nat) : nI a * nI b = nI (a * b) := pk_mul a b
theorem nI_ofInt (n : Nat) : Int32.ofInt (n : Int) = nI n := by
  unfold nI
  exact Int32.ofInt_eq_ofNat
theorem nI_inbT {i n : Nat} (h : i < n) (hn : n < 2 ^ 31) : hx_inb (nI i) n = true := by
  unfold hx_inb
  exact decide_eq_true (nI_in h hn)
/-- the distance of two numbers -/
def nd (a b : Nat) : Nat := if a < b then b - a else a - b
theorem nd_comm (a b : Nat) : nd a b = nd b a := by
  unfold nd
  split <;> split <;> omega
theorem nI_subT {a b : Nat} (ha : a < 2 ^ 30) (hb : b < 2 ^ 30) : (nI a - nI b).toInt = (a : Int) - b := pk_sub_toInt ha hb
theorem nI_abs {a b : Nat} (ha : a < 2 ^ 30) (hb : b < 2 ^ 30) : hx_absv (nI a - nI b) = nI (nd a b) := by
  unfold hx_absv
  have h := nI_subT ha hb
  unfold nd
  by_cases hab : a < b
  · rw [if_pos hab, if_neg]
    · apply Int32.toInt_inj.mp
      have h2 := nI_subT hb ha
      rw [← pk_sub (Nat.le_of_lt hab), h2]
      have h0 : (0 : Int32) - (nI a - nI b) = nI b - nI a := by
        rw [Int32.zero_sub, Int32.neg_sub]
      rw [h0, h2]
    · intro z
      rw [Int32.le_iff_toInt_le, h] at z
      have : (0 : Int32).toInt = 0 := rfl
      omega
  · rw [if_neg hab, if_pos]
    · rw [pk_sub (by omega)]
    · rw [Int32.le_iff_toInt_le, h]
      have : (0 : Int32).toInt = 0 := rfl
      omega
theorem nI_abs2 {a b : Nat} (ha : a < 2 ^ 30) (hb : b < 2 ^ 30) : (if nI a - nI b < 0 then -(nI a - nI b) else nI a - nI b) = nI (nd a b) := by
  have h := nI_subT ha hb
  unfold nd
  by_cases hab : a < b
  · rw [if_pos hab, if_pos]
    · rw [Int32.neg_sub, pk_sub (by omega)]
    · rw [Int32.lt_iff_toInt_lt, h]
      have : (0 : Int32).toInt = 0 := rfl
      omega
  · rw [if_neg hab, if_neg]
    · rw [pk_sub (by omega)]
    · intro z
      rw [Int32.lt_iff_toInt_lt, h] at z
      have : (0 : Int32).toInt = 0 := rfl
      omega
theorem hx_up_at {α : Type} (d : Nat → Nat → α) (k i : Nat) (x : α) (a j : Nat) : hx_up d k i x a j = if a = k ∧ j = i then x else d a j := by
  unfold hx_up
  by_cases h : a = k
  · by_cases h2 : j = i
    · rw [if_pos h, if_pos h2, if_pos ⟨h, h2⟩]
    · rw [if_pos h, if_neg h2, if_neg (fun z => h2 z.2)]
  · rw [if_neg h, if_neg (fun z => h z.1)]
theorem hx_row_at {α : Type} (d : Nat → Nat → α) (k : Nat) (f : Nat → α) (a j : Nat) : hx_row d k f a j = if a = k then f j else d a j := by
  unfold hx_row
  by_cases h : a = k
  · rw [if_pos h, if_pos h]
  · rw [if_neg h, if_neg h]
