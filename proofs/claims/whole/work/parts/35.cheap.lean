/-! ===== the cheapest row, as a number and as a row ===== -/
def zla (c : Nat → Nat) : Option Nat → Nat
  | none => 1000
  | some b => c b
/-- of the first k numbers that are allowed the lowest of the cheapest -/
def zba (ok : Nat → Bool) (c : Nat → Nat) : Nat → Option Nat
  | 0 => none
  | k + 1 => if ok k = true ∧ c k < zla c (zba ok c k) then some k else zba ok c k
theorem zba_T {ok : Nat → Bool} {c : Nat → Nat} {k : Nat} (h : ok k = true) (h2 : c k < zla c (zba ok c k)) : zba ok c (k + 1) = some k := by rw [zba, if_pos ⟨h, h2⟩]
theorem zba_F {ok : Nat → Bool} {c : Nat → Nat} {k : Nat} (h : ¬ (ok k = true ∧ c k < zla c (zba ok c k))) : zba ok c (k + 1) = zba ok c k := by rw [zba, if_neg h]
theorem zba_of {ok : Nat → Bool} {c : Nat → Nat} : ∀ k b, zba ok c k = some b → b < k ∧ ok b = true
  | 0, b, h => by cases h
  | k + 1, b, h => by
    unfold zba at h
    split at h
    · rename_i e
      cases h
      exact ⟨by omega, e.1⟩
    · have := zba_of k b h
      exact ⟨by omega, this.2⟩
theorem zba_le {ok : Nat → Bool} {c : Nat → Nat} : ∀ k j, j < k → ok j = true → zla c (zba ok c k) ≤ c j
  | 0, j, h, _ => by omega
  | k + 1, j, h, h1 => by
    unfold zba
    split
    · rename_i e
      by_cases ej : j = k
      · subst ej
        exact Nat.le_refl _
      · have := zba_le (c := c) k j (by omega) h1
        have h3 : zla c (some k) = c k := rfl
        omega
    · rename_i e
      by_cases ej : j = k
      · subst ej
        have : ¬ c j < zla c (zba ok c j) := fun z => e ⟨h1, z⟩
        omega
      · exact zba_le k j (by omega) h1
theorem zba_first {ok : Nat → Bool} {c : Nat → Nat} : ∀ k b, zba ok c k = some b → ∀ j, j < b → ok j = true → c b < c j
  | 0, b, h, _, _, _ => by cases h
  | k + 1, b, h, j, hj, h1 => by
    unfold zba at h
    split at h
    · rename_i e
      cases h
      have := zba_le (c := c) k j hj h1
      omega
    · exact zba_first k b h j hj h1
theorem zba_some {ok : Nat → Bool} {c : Nat → Nat} {k j : Nat} (h : j < k) (h1 : ok j = true) (hJ : c j < 1000) : ∃ b, zba ok c k = some b := by
  have := zba_le (c := c) k j h h1
  cases e : zba ok c k with
  | none => rw [e] at this; have e2 : zla c none = 1000 := rfl; omega
  | some b => exact ⟨b, rfl⟩
theorem zba_congr {ok : Nat → Bool} {c c2 : Nat → Nat} : ∀ k, (∀ j, j < k → ok j = true → c j = c2 j) → zba ok c k = zba ok c2 k ∧ zla c (zba ok c k) = zla c2 (zba ok c2 k)
  | 0, _ => ⟨rfl, rfl⟩
  | k + 1, h => by
    obtain ⟨h1, h2⟩ := zba_congr (ok := ok) (c := c) (c2 := c2) k (fun j hj => h j (by omega))
    by_cases hk : ok k = true
    · have hc := h k (by omega) hk
      by_cases hl : c k < zla c (zba ok c k)
      · rw [zba_T hk hl, zba_T hk (by rw [← h2, ← hc]; exact hl)]
        exact ⟨rfl, hc⟩
      · rw [zba_F (fun z => hl z.2), zba_F (c := c2) (fun z => hl (by rw [h2, hc]; exact z.2))]
        exact ⟨h1, h2⟩
    · rw [zba_F (fun z => hk z.1), zba_F (c := c2) (fun z => hk z.1)]
      exact ⟨h1, h2⟩
theorem zla_lt {ok : Nat → Bool} {c : Nat → Nat} {k B : Nat} (h : ∀ j, j < k → ok j = true → c j ≤ B) (hB : B < 2147483648) : zla c (zba ok c k) < 2 ^ 31 := by
  cases e : zba ok c k with
  | none => have e2 : zla c none = 1000 := rfl; omega
  | some b =>
    have := zba_of _ _ e
    have := h b this.1 this.2
    have e2 : zla c (some b) = c b := rfl
    omega
/-! bits of sets of pieces -/
def zclr (s i : Nat) : Nat := if s.testBit i = true then s - 2 ^ i else s
def zset (s i : Nat) : Nat := if s.testBit i = true then s else s + 2 ^ i
def zpc (s : Nat) : Nat := ((List.range 7).filter (fun i => s.testBit i)).length
set_option maxRecDepth 100000 in
theorem zB1 : ∀ s, s < 128 → ∀ i, i < 7 → nI s &&& ((nI 1 <<< (nI i &&& 31)) ^^^ (-1)) = nI (zclr s i) := by decide +kernel
set_option maxRecDepth 100000 in
theorem zB2 : ∀ s, s < 128 → ∀ i, i < 7 → (nI s >>> (nI i &&& 31)) &&& nI 1 = nI (if s.testBit i = true then 1 else 0) := by decide +kernel
set_option maxRecDepth 100000 in
theorem zB3 : ∀ s, s < 128 → ∀ i, i < 7 → nI s ||| (nI 1 <<< (nI i &&& 31)) = nI (zset s i) := by decide +kernel
set_option maxRecDepth 100000 in
theorem zB4 : ∀ n, n < 8 → (nI 1 <<< (nI n &&& 31)) - nI 1 = nI (2 ^ n - 1) := by decide +kernel
set_option maxRecDepth 100000 in
theorem zclr_lt : ∀ s, s < 128 → ∀ i, i < 7 → s.testBit i = true → zclr s i < s ∧ zpc (zclr s i) + 1 = zpc s := by decide +kernel
set_option maxRecDepth 100000 in
theorem zclr_bit : ∀ s, s < 128 → ∀ i, i < 7 → ∀ j, j < 7 → (zclr s i).testBit j = (s.testBit j && decide (j ≠ i)) := by decide +kernel
set_option maxRecDepth 100000 in
theorem zset_bit : ∀ s, s < 128 → ∀ i, i < 7 → zset s i < 128 ∧ s ≤ zset s i ∧ ∀ j, j < 7 → (zset s i).testBit j = (s.testBit j || decide (j = i)) := by decide +kernel
set_option maxRecDepth 100000 in
theorem zall_bit : ∀ n, n < 8 → 2 ^ n - 1 < 128 ∧ zpc (2 ^ n - 1) = n ∧ ∀ i, i < 7 → (2 ^ n - 1).testBit i = decide (i < n) := by decide +kernel
set_option maxRecDepth 100000 in
theorem zbit_ex : ∀ s, s < 128 → s ≠ 0 → ∃ i, i < 7 ∧ s.testBit i = true := by decide +kernel
set_option maxRecDepth 100000 in
theorem zpc_0 : ∀ s, s < 128 → (zpc s = 0 ↔ s = 0) := by decide +kernel
set_option maxRecDepth 100000 in
theorem zbit_eq : ∀ s, s < 128 → ∀ t, t < 128 → (∀ i, i < 7 → s.testBit i = t.testBit i) → s = t := by decide +kernel
theorem zclr_le {s i : Nat} (h : s < 128) (hi : i < 7) : zclr s i ≤ s ∧ zclr s i < 128 := by
  by_cases e : s.testBit i = true
  · have := (zclr_lt s h i hi e).1
    omega
  · unfold zclr
    rw [if_neg e]
    omega
/-- a join, or the beginning of a row -/
def zJJ (V : ZV) : Option Nat → Nat → Nat
  | none, _ => 0
  | some l, x => zj V l x
def zF (V : ZV) : Nat → Nat → Option Nat → Nat
  | 0, _, _ => 0
  | k + 1, R, l => zla (fun x => zJJ V l x + zF V k (zclr R x) (some x)) (zba (fun x => R.testBit x) (fun x => zJJ V l x + zF V k (zclr R x) (some x)) (zn V))
/-- what the pieces of R cost at least behind l -/
def zFF (V : ZV) (R : Nat) (l : Option Nat) : Nat := zF V (zpc R) R l
def zcst (V : ZV) (R : Nat) (l : Option Nat) (x : Nat) : Nat := zJJ V l x + zFF V (zclr R x) (some x)
def zpk (V : ZV) (R : Nat) (l : Option Nat) : Option Nat := zba (fun x => R.testBit x) (zcst V R l) (zn V)
def zRo (V : ZV) (R : Nat) : Prop := R < 128 ∧ ∀ i, i < 7 → R.testBit i = true → i < zn V
theorem zJJ_le {V : ZV} (hv : Valid V) {l : Option Nat} {x : Nat} (hl : ∀ y, l = some y → y < zn V) (hx : x < zn V) : zJJ V l x ≤ 38 := by
  cases l with
  | none => exact Nat.zero_le _
  | some y => exact zj_le hv (hl y rfl) hx
theorem zRo_clr {V : ZV} (hv : Valid V) {R x : Nat} (h : zRo V R) (hx : x < 7) : zRo V (zclr R x) := by
  refine ⟨(zclr_le h.1 hx).2, fun i hi hb => ?_⟩
  rw [zclr_bit R h.1 x hx i hi, Bool.and_eq_true] at hb
  exact h.2 i hi hb.1
theorem zFF_0 (V : ZV) (l : Option Nat) : zFF V 0 l = 0 := by
  unfold zFF
  rw [(zpc_0 0 (by omega)).mpr rfl]
  rfl
theorem zFF_eq {V : ZV} (hv : Valid V) {R : Nat} {l : Option Nat} (hR : zRo V R) (h0 : R ≠ 0) : zFF V R l = zla (zcst V R l) (zpk V R l) := by
  have h7 := hv.1
  have hp : zpc R ≠ 0 := fun z => h0 ((zpc_0 R hR.1).mp z)
  obtain ⟨k, hk⟩ : ∃ k, zpc R = k + 1 := ⟨zpc R - 1, by omega⟩
  unfold zFF zpk
  rw [hk, zF]
  refine (zba_congr (zn V) (fun j hj hb => ?_)).2
  have e : zpc (zclr R j) = k := by
    have := (zclr_lt R hR.1 j (by omega) hb).2
    omega
  unfold zcst zFF
  rw [e]
theorem zF_le {V : ZV} (hv : Valid V) : ∀ k R l, zRo V R → zpc R = k → (∀ y, l = some y → y < zn V) → zF V k R l ≤ 38 * k
  | 0, _, _, _, _, _ => Nat.le_refl _
  | k + 1, R, l, hR, hk, hl => by
    have h7 := hv.1
    have h0 : R ≠ 0 := fun z => by rw [(zpc_0 R hR.1).mpr z] at hk; omega
    obtain ⟨i, hi, hb⟩ := zbit_ex R hR.1 h0
    have hin := hR.2 i hi hb
    have e : zpc (zclr R i) = k := by
      have := (zclr_lt R hR.1 i hi hb).2
      omega
    have h1 := zF_le hv k (zclr R i) (some i) (zRo_clr hv hR hi) e (fun y h => by cases h; exact hin)
    have h2 := zba_le (ok := fun x => R.testBit x) (c := fun x => zJJ V l x + zF V k (zclr R x) (some x)) (zn V) i hin hb
    have h3 := zJJ_le hv hl hin
    rw [zF]
    omega
theorem zFF_le {V : ZV} (hv : Valid V) {R : Nat} {l : Option Nat} (hR : zRo V R) (hl : ∀ y, l = some y → y < zn V) : zFF V R l ≤ 266 := by
  have h := zF_le hv (zpc R) R l hR rfl hl
  have : zpc R ≤ 7 := by
    unfold zpc
    exact Nat.le_trans (List.length_filter_le _ _) (by rw [List.length_range]; exact Nat.le_refl 7)
  unfold zFF
  omega
theorem zcst_le {V : ZV} (hv : Valid V) {R : Nat} {l : Option Nat} {x : Nat} (hR : zRo V R) (hl : ∀ y, l = some y → y < zn V) (hx : x < zn V) : zcst V R l x ≤ 304 := by
  have h1 := zJJ_le hv hl hx
  have h2 := zFF_le hv (zRo_clr hv hR (x := x) (by have := hv.1; omega)) (l := some x) (fun y h => by cases h; exact hx)
  unfold zcst
  omega
theorem zpk_some {V : ZV} (hv : Valid V) {R : Nat} {l : Option Nat} (hR : zRo V R) (h0 : R ≠ 0) (hl : ∀ y, l = some y → y < zn V) : ∃ b, zpk V R l = some b ∧ b < zn V ∧ R.testBit b = true ∧ zFF V R l = zcst V R l b := by
  obtain ⟨i, hi, hb⟩ := zbit_ex R hR.1 h0
  have hin := hR.2 i hi hb
  obtain ⟨b, e⟩ := zba_some (ok := fun x => R.testBit x) (c := zcst V R l) (k := zn V) hin hb (by have := zcst_le hv hR hl hin; omega)
  have h2 := zba_of _ _ e
  refine ⟨b, e, h2.1, h2.2, ?_⟩
  rw [zFF_eq hv hR h0]
  unfold zpk
  rw [e]
  rfl
theorem zJs_r (V : ZV) (w : Nat → Nat) : ∀ m i, zJs V w i (m + 1) = zJs V w i m + zj V (w (i + m - 1)) (w (i + m))
  | 0, i => by
    show zj V (w (i - 1)) (w i) + 0 = 0 + _
    rw [Nat.add_zero, Nat.zero_add, Nat.add_zero]
  | m + 1, i => by
    show zj V (w (i - 1)) (w i) + zJs V w (i + 1) (m + 1) = zj V (w (i - 1)) (w i) + zJs V w (i + 1) m + _
    rw [zJs_r V w m (i + 1), show i + 1 + m = i + (m + 1) by omega, Nat.add_assoc]
/-- the cheapest row: what is left, and the latest piece, after k places -/
def zks (V : ZV) : Nat → Nat × Option Nat
  | 0 => (2 ^ zn V - 1, none)
  | k + 1 => (zclr (zks V k).1 ((zpk V (zks V k).1 (zks V k).2).getD 0), some ((zpk V (zks V k).1 (zks V k).2).getD 0))
/-- the cheapest row -/
def zbr (V : ZV) (k : Nat) : Nat := (zpk V (zks V k).1 (zks V k).2).getD 0
theorem zks_ok {V : ZV} (hv : Valid V) : ∀ k, k ≤ zn V → zRo V (zks V k).1 ∧ zpc (zks V k).1 + k = zn V ∧ (∀ y, (zks V k).2 = some y → y < zn V) ∧ (∀ p, p < zn V → ((zks V k).1.testBit p = true ↔ ∀ i, i < k → zbr V i ≠ p))
  | 0, _ => by
    have h7 := hv.1
    have h := zall_bit (zn V) (by omega)
    refine ⟨⟨h.1, fun i hi hb => ?_⟩, h.2.1, fun y hy => (by cases hy), fun p hp => ⟨fun _ i hi => by omega, fun _ => ?_⟩⟩
    · have e : (2 ^ zn V - 1).testBit i = true := hb
      rw [h.2.2 i hi] at e
      exact of_decide_eq_true e
    · show (2 ^ zn V - 1).testBit p = true
      rw [h.2.2 p (by omega)]
      exact decide_eq_true hp
  | k + 1, hk => by
    have h7 := hv.1
    obtain ⟨h1, h2, h3, h4⟩ := zks_ok hv k (by omega)
    have h0 : (zks V k).1 ≠ 0 := fun z => by have := (zpc_0 _ h1.1).mpr z; omega
    obtain ⟨b, e1, e2, e3, e4⟩ := zpk_some hv h1 h0 h3
    have eb : zbr V k = b := by
      unfold zbr
      rw [e1]
      rfl
    have es : zks V (k + 1) = (zclr (zks V k).1 b, some b) := by
      rw [zks, e1]
      rfl
    rw [es]
    refine ⟨zRo_clr hv h1 (by omega), ?_, fun y hy => (by cases hy; exact e2), fun p hp => ?_⟩
    · have := (zclr_lt _ h1.1 b (by omega) e3).2
      show zpc (zclr (zks V k).1 b) + (k + 1) = zn V
      omega
    · show (zclr (zks V k).1 b).testBit p = true ↔ _
      rw [zclr_bit _ h1.1 b (by omega) p (by omega), Bool.and_eq_true, decide_eq_true_eq, h4 p hp]
      constructor
      · intro h i hi
        by_cases ei : i = k
        · rw [ei, eb]
          exact fun z => h.2 z.symm
        · exact h.1 i (by omega)
      · intro h
        exact ⟨fun i hi => h i (by omega), fun z => h k (by omega) (by rw [eb]; exact z.symm)⟩
theorem zbr_ok {V : ZV} (hv : Valid V) {k : Nat} (hk : k < zn V) : zpk V (zks V k).1 (zks V k).2 = some (zbr V k) ∧ zbr V k < zn V ∧ (zks V k).1.testBit (zbr V k) = true ∧ zFF V (zks V k).1 (zks V k).2 = zcst V (zks V k).1 (zks V k).2 (zbr V k) ∧ zks V (k + 1) = (zclr (zks V k).1 (zbr V k), some (zbr V k)) := by
  obtain ⟨h1, h2, h3, h4⟩ := zks_ok hv k (by omega)
  have h0 : (zks V k).1 ≠ 0 := fun z => by have := (zpc_0 _ h1.1).mpr z; omega
  obtain ⟨b, e1, e2, e3, e4⟩ := zpk_some hv h1 h0 h3
  have eb : zbr V k = b := by
    unfold zbr
    rw [e1]
    rfl
  rw [eb]
  refine ⟨e1, e2, e3, e4, ?_⟩
  rw [zks, e1]
  rfl
theorem zbr_inj {V : ZV} (hv : Valid V) {i j : Nat} (hi : i < zn V) (hj : j < zn V) (h : zbr V i = zbr V j) : i = j := by
  rcases Nat.lt_trichotomy i j with e | e | e
  · exact absurd h (((zks_ok hv j (by omega)).2.2.2 (zbr V j) (zbr_ok hv hj).2.1).mp (zbr_ok hv hj).2.2.1 i e)
  · exact e
  · exact absurd h.symm (((zks_ok hv i (by omega)).2.2.2 (zbr V i) (zbr_ok hv hi).2.1).mp (zbr_ok hv hi).2.2.1 j e)
/-- the least cost -/
abbrev zleast (V : ZV) : Nat := zFF V (2 ^ zn V - 1) none
theorem zleast_k {V : ZV} (hv : Valid V) : ∀ k, k < zn V → zleast V = zJs V (zbr V) 1 k + zFF V (zks V (k + 1)).1 (zks V (k + 1)).2
  | 0, hk => by
    have h := zbr_ok hv hk
    rw [h.2.2.2.2]
    show zFF V (zks V 0).1 (zks V 0).2 = 0 + _
    rw [h.2.2.2.1]
    rfl
  | k + 1, hk => by
    have h := zbr_ok hv hk
    have h2 := zbr_ok hv (show k < zn V by omega)
    rw [zleast_k hv k (by omega), zJs_r, h.2.2.2.1, h.2.2.2.2]
    unfold zcst
    rw [h2.2.2.2.2, ← Nat.add_assoc]
    rw [h2.2.2.2.2] at h
    show _ + zj V (zbr V k) _ + _ = _ + zj V (zbr V (1 + k - 1)) (zbr V (1 + k)) + _
    rw [show 1 + k - 1 = k by omega, show 1 + k = k + 1 by omega]
theorem zleast_eq {V : ZV} (hv : Valid V) : zJs V (zbr V) 1 (zn V - 1) = zleast V := by
  by_cases h : zn V = 0
  · rw [h]
    have : zleast V = zFF V 0 none := by
      show zFF V (2 ^ zn V - 1) none = _
      rw [h]
    rw [this, zFF_0]
    rfl
  · have h1 := zleast_k hv (zn V - 1) (by omega)
    have h2 := zks_ok hv (zn V) (Nat.le_refl _)
    rw [show zn V - 1 + 1 = zn V by omega] at h1
    have : (zks V (zn V)).1 = 0 := (zpc_0 _ h2.1.1).mp (by omega)
    rw [this, zFF_0] at h1
    omega

