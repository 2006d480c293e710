/-! ===== the reference: holes as bits ===== -/
theorem zB_lt (h : Nat → Bool) : ∀ k, zB h k < 2 ^ k
  | 0 => by show 0 < 1; omega
  | k + 1 => by
    have := zB_lt h k
    show zB h k + (if h k = true then 2 ^ k else 0) < 2 ^ (k + 1)
    rw [Nat.pow_succ]
    split <;> omega
theorem zB_bit (h : Nat → Bool) : ∀ k i, (zB h k).testBit i = (decide (i < k) && h i)
  | 0, i => by
    show (0 : Nat).testBit i = _
    rw [Nat.zero_testBit]
    simp
  | k + 1, i => by
    have h1 := zB_lt h k
    have h2 := zB_bit h k i
    show (zB h k + (if h k = true then 2 ^ k else 0)).testBit i = _
    by_cases c : h k = true
    · rw [if_pos c, Nat.add_comm]
      have e := Nat.two_pow_add_eq_or_of_lt h1 1
      rw [Nat.mul_one] at e
      rw [e, Nat.testBit_or, h2, Nat.testBit_two_pow]
      by_cases c1 : k = i
      · subst c1
        simp [c]
      · by_cases c2 : i < k
        · simp [c1, c2, show i < k + 1 by omega]
        · simp [c1, c2, show ¬ i < k + 1 by omega]
    · rw [if_neg c, Nat.add_zero, h2]
      by_cases c1 : k = i
      · subst c1
        simp [c]
      · by_cases c2 : i < k
        · simp [c2, show i < k + 1 by omega]
        · simp [c2, show ¬ i < k + 1 by omega]
theorem zB_sl : ∀ n, n < 32 → ((nI n &&& 31).toBitVec.smod 32).toNat = n := by decide +kernel
theorem zB_and (a : Nat) : nI a &&& nI 1 = nI (a % 2) := by
  have := pk_andN (n := a % 2 ^ 32) (Nat.mod_lt _ (by decide)) (m := nI 1) 1 (by decide)
  have e : nI (a % 2 ^ 32) = nI a := by
    refine Int32.toBitVec_inj.mp ?_
    show BitVec.ofNat 32 (a % 2 ^ 32) = BitVec.ofNat 32 a
    exact BitVec.eq_of_toNat_eq (by simp)
  rw [e] at this
  rw [this]
  congr 1
  omega
theorem zB_get {m k : Nat} (hm : m < 2 ^ 31) (hk : k < 32) : (nI m >>> (nI k &&& 31)) &&& nI 1 = nI (if m.testBit k = true then 1 else 0) := by
  rw [pk_shrN hm _ k (zB_sl k hk), zB_and]
  congr 1
  rw [Nat.testBit_eq_decide_div_mod_eq]
  by_cases c : m / 2 ^ k % 2 = 1
  · rw [c]
    simp
  · have : m / 2 ^ k % 2 = 0 := by omega
    rw [this]
    simp
/-- the two numbers that hold a piece's holes -/
def zM (h : Nat → Bool) (w : Nat) : Nat := if w = 0 then zB h 30 else zB (fun x => h (x + 30)) 30
theorem zM_bit (h : Nat → Bool) {x : Nat} (hx : x < 60) : (zM h (x / 30)).testBit (x % 30) = h x := by
  unfold zM
  by_cases c : x < 30
  · rw [if_pos (by omega), zB_bit, show x % 30 = x by omega, decide_eq_true c]
    rfl
  · rw [if_neg (by omega), zB_bit, decide_eq_true (by omega), Bool.true_and]
    congr 1
    omega
theorem zM_lt (h : Nat → Bool) (w : Nat) : zM h w < 2 ^ 31 := by
  have h1 := zB_lt h 30
  have h2 := zB_lt (fun x => h (x + 30)) 30
  unfold zM
  split <;> omega
theorem m118 {sc : Nat × (Nat → Int32)} {d : Nat} {D : Nat → Nat → Int32} {G : Nat → Nat → Int64} {V : ZV} {p x : Nat} (R : RepM D 80 0 V) (hv : Valid V) (hp : p < zn V) (hx : x < 60) : Cl sc (d + 1) 118 [.ref 79, .int (nI p), .int (nI x)] (hx_S0, D, G) (.inl (some (.int (nI (if zh V p x = true then 1 else 0))))) (hx_S0, D, G) := by
  obtain ⟨s0, s1, sw, se, sb, sr, ss0, ss1⟩ := rM R
  obtain ⟨h7, vw, ve, vh, vE, vr, vj, vs0, vs1⟩ := id hv
  have e1 : nI 11 + nI x / nI 30 = nI (11 + x / 30) := by rw [pk_div (by omega) (by omega) (by omega), nI_add]
  have e2 : D 80 (13 * p + (11 + x / 30)) = nI (zM (zh V p) (x / 30)) := by
    unfold zM
    rcases (by omega : x / 30 = 0 ∨ x / 30 = 1) with c | c
    · rw [c, if_pos rfl]; exact (sb p hp).1
    · rw [c, if_neg (by omega)]; exact (sb p hp).2
  have e3 : nI x - nI x / nI 30 * nI 30 = nI (x % 30) := pk_rem (by omega) (by omega) (by omega)
  refine Cq.p (Cq.c (fun _ _ _ => c118) ?_)
  refine Rq.s (fun _ => b118_0 (by decide) (by rw [e1]; exact m105)) ?_
  have e4 : ((D 80 (nI (13 * p + (11 + x / 30))).toNatClampNeg) >>> ((nI x - nI x / nI 30 * nI 30) &&& 31)) &&& nI 1 = nI (if zh V p x = true then 1 else 0) := by
    rw [nI_clamp (by omega), e2, e3, zB_get (zM_lt _ _) (by omega), zM_bit _ hx]
  by_cases c : zh V p x = true
  · rw [if_pos c] at e4 ⊢
    refine Rq.bf (fun _ => b118_15 (nI_inbT (by omega) (by omega)) (by decide)) (by rw [e4]; exact fun z => z rfl) ?_
    refine Rq.s (fun _ => b118_27) ?_
    exact Rq.e (b118_32b (Or.inr rfl)) (Qp.i rfl)
  · rw [if_neg c] at e4 ⊢
    refine Rq.bt (fun _ => b118_15 (nI_inbT (by omega) (by omega)) (by decide)) (by rw [e4]; decide) ?_
    refine Rq.s (fun _ => b118_31) ?_
    exact Rq.e (b118_32 (Or.inl rfl)) (Qp.i rfl)
theorem zE_cnt (h : Nat → Bool) : ∀ k, ((List.range k).filter h).length = zS (fun x => if h x = true then 1 else 0) k
  | 0 => rfl
  | k + 1 => by
    rw [List.range_succ, List.filter_append, List.length_append, zE_cnt h k]
    show _ = zS (fun x => if h x = true then 1 else 0) k + (if h k = true then 1 else 0)
    congr 1
    by_cases c : h k = true
    · rw [if_pos c, List.filter_cons_of_pos c]
      rfl
    · rw [if_neg c, List.filter_cons_of_neg c]
      rfl
theorem m119 {sc : Nat × (Nat → Int32)} {d : Nat} {D : Nat → Nat → Int32} {G : Nat → Nat → Int64} {V : ZV} {p : Nat} (R : RepM D 80 0 V) (hv : Valid V) (hp : p < zn V) : Cl sc (d + 2) 119 [.ref 79, .int (nI p)] (hx_S0, D, G) (.inl (some (.int (nI (zE V p).length)))) (hx_S0, D, G) := by
  rw [show (zE V p).length = zS (fun x => if zh V p x = true then 1 else 0) 60 from zE_cnt _ _]
  have L : ∀ m i, 60 - i = m → i ≤ 60 → Rq sc (d + 2) 119 (4, [some (.ref 79), some (.int (nI p)), some (.int (nI (zS (fun x => if zh V p x = true then 1 else 0) i))), some (.int (nI i))], [], (hx_S0, D, G), 0) G (Qp (nI (zS (fun x => if zh V p x = true then 1 else 0) 60)) D) := by
    intro m
    induction m using Nat.strongRecOn with
    | _ m ih =>
    intro i hm hi
    refine Rq.b (fun _ => b119_4) (fun h4 => ?_) (fun h4 => ?_)
    · try simp (disch := omega) only [Int32.le_iff_toInt_le, Int32.lt_iff_toInt_lt, z_eq, z_nI, z_0, z_m1, z_sub, nI_add, nI_mulN, pk_sub, nI_clamp, Nat.reduceAdd, Nat.reduceMul, Nat.reduceSub, Nat.zero_add, Nat.add_zero] at h4
      all_goals (try (exfalso; omega))
      all_goals
        refine Rq.e (b119_33) ?_
        exact Qp.i (by rw [show i = 60 by omega])
    · try simp (disch := omega) only [Int32.le_iff_toInt_le, Int32.lt_iff_toInt_lt, z_eq, z_nI, z_0, z_m1, z_sub, nI_add, nI_mulN, pk_sub, nI_clamp, Nat.reduceAdd, Nat.reduceMul, Nat.reduceSub, Nat.zero_add, Nat.add_zero] at h4
      all_goals (try (exfalso; omega))
      all_goals
        refine Rq.s (fun _ => b119_10 (by (try simp (disch := omega) only [nI_add, nI_mulN, pk_sub, nI_clamp, Nat.reduceAdd, Nat.reduceMul, Nat.reduceSub, Nat.zero_add, Nat.add_zero]); exact m118 (d := d) R hv hp (by omega))) ?_
        by_cases hw : zh V p i = false
        · refine Rq.bt (fun _ => b119_17) (by rw [hw]; rfl) ?_
          refine Rq.s (fun _ => b119_24) ?_
          try simp (disch := omega) only [nI_add, nI_mulN, pk_sub, nI_clamp, Nat.reduceAdd, Nat.reduceMul, Nat.reduceSub, Nat.zero_add, Nat.add_zero]
          refine Rq.s (fun _ => b119_25) ?_
          try simp (disch := omega) only [nI_add, nI_mulN, pk_sub, nI_clamp, Nat.reduceAdd, Nat.reduceMul, Nat.reduceSub, Nat.zero_add, Nat.add_zero]
          have e : zS (fun x => if zh V p x = true then 1 else 0) (i + 1) = zS (fun x => if zh V p x = true then 1 else 0) i + (if zh V p i = true then 1 else 0) := rfl
          have := ih _ (by omega) (i + 1) rfl (by omega)
          rw [e] at this
          first | (rw [if_neg (by rw [hw]; decide)] at this; exact this) | (rw [if_pos (eq_true_of_ne_false hw)] at this; exact this)
        · refine Rq.bf (fun _ => b119_17) (by rw [eq_true_of_ne_false hw]; decide) ?_
          refine Rq.s (fun _ => b119_20) ?_
          try simp (disch := omega) only [nI_add, nI_mulN, pk_sub, nI_clamp, Nat.reduceAdd, Nat.reduceMul, Nat.reduceSub, Nat.zero_add, Nat.add_zero]
          refine Rq.s (fun _ => b119_25b) ?_
          try simp (disch := omega) only [nI_add, nI_mulN, pk_sub, nI_clamp, Nat.reduceAdd, Nat.reduceMul, Nat.reduceSub, Nat.zero_add, Nat.add_zero]
          have e : zS (fun x => if zh V p x = true then 1 else 0) (i + 1) = zS (fun x => if zh V p x = true then 1 else 0) i + (if zh V p i = true then 1 else 0) := rfl
          have := ih _ (by omega) (i + 1) rfl (by omega)
          rw [e] at this
          first | (rw [if_neg (by rw [hw]; decide)] at this; exact this) | (rw [if_pos (eq_true_of_ne_false hw)] at this; exact this)
  refine Cq.p ?_
  refine Cq.c (fun _ _ _ => c119) ?_
  refine Rq.s (fun _ => b119_0) ?_
  try simp (disch := omega) only [nI_add, nI_mulN, pk_sub, nI_clamp, Nat.reduceAdd, Nat.reduceMul, Nat.reduceSub, Nat.zero_add, Nat.add_zero]
  exact L _ 0 rfl (by omega)
def MLine (D : Nat → Nat → Int32) (m : Nat) (st ow : Nat → Nat) (s0 s1 : Nat) : Prop := D 79 10 = nI m ∧ m ≤ 28 ∧ (∀ i, i < m → D 86 i = nI (st i)) ∧ (∀ i, i < m → D 87 i = nI (ow i)) ∧ (∀ i, i < m → st i < 420) ∧ D 80 100 = nI s0 ∧ D 80 101 = nI s1 ∧ s0 ≤ 9 ∧ s1 ≤ 9 ∧ (∀ i, i + 1 < m → st i < st (i + 1))
def MLD (D : Nat → Nat → Int32) (L : List (Nat × Nat)) : Prop := D 79 10 = nI L.length ∧ (∀ i, i < L.length → D 86 i = nI (zst L i)) ∧ (∀ i, i < L.length → D 87 i = nI (zow L i))
/-- only what the line of holes is written into has changed -/
def eqL (D D2 : Nat → Nat → Int32) : Prop := (∀ a, a ≠ 79 → a ≠ 86 → a ≠ 87 → D2 a = D a) ∧ ∀ j, j ≠ 10 → D2 79 j = D 79 j
theorem MLD.push {D : Nat → Nat → Int32} {L : List (Nat × Nat)} (h : MLD D L) (a b : Nat) : MLD (hx_up (hx_up (hx_up D 86 L.length (nI a)) 87 L.length (nI b)) 79 10 (nI (L.length + 1))) (L ++ [(a, b)]) := by
  obtain ⟨h0, h1, h2⟩ := h
  refine ⟨?_, fun i hi => ?_, fun i hi => ?_⟩
  · rw [hx_up_s, List.length_append]
    rfl
  · unfold zst
    rw [zst_push _ _ _ hi]
    rw [List.length_append, List.length_singleton] at hi
    have e2 : hx_up (hx_up (hx_up D 86 L.length (nI a)) 87 L.length (nI b)) 79 10 (nI (L.length + 1)) 86 i = if i = L.length then nI a else D 86 i := by simp [hx_up_at]
    rw [e2]
    by_cases e : i = L.length
    · rw [if_pos e, if_pos e]
    · rw [if_neg e, if_neg e]
      exact h1 i (by omega)
  · unfold zow
    rw [zst_push _ _ _ hi]
    rw [List.length_append, List.length_singleton] at hi
    have e2 : hx_up (hx_up (hx_up D 86 L.length (nI a)) 87 L.length (nI b)) 79 10 (nI (L.length + 1)) 87 i = if i = L.length then nI b else D 87 i := by simp [hx_up_at]
    rw [e2]
    by_cases e : i = L.length
    · rw [if_pos e, if_pos e]
    · rw [if_neg e, if_neg e]
      exact h2 i (by omega)
theorem eqL.push {D D2 : Nat → Nat → Int32} (h : eqL D D2) {i j k : Nat} {x y z : Int32} (hk : k = 10) : eqL D (hx_up (hx_up (hx_up D2 86 i x) 87 j y) 79 k z) := by
  subst hk
  exact ⟨fun a a1 a2 a3 => by rw [hx_up_ne a1, hx_up_ne a3, hx_up_ne a2]; exact h.1 a a1 a2 a3, fun j hj => by rw [hx_up_in _ _ _ hj, hx_up_ne (by omega), hx_up_ne (by omega)]; exact h.2 j hj⟩
theorem MLD.full {D : Nat → Nat → Int32} {V : ZV} (hv : Valid V) (h : MLD D (zLn V)) (e0 : D 80 100 = nI (zs V 0)) (e1 : D 80 101 = nI (zs V 1)) : MLine D (zLn V).length (zst (zLn V)) (zow (zLn V)) (zs V 0) (zs V 1) := by
  obtain ⟨h0, h1, h2⟩ := h
  obtain ⟨h7, vw, ve, vh, vE, vr, vj, vs0, vs1⟩ := id hv
  have hl := zL_len hv vr (zn V) (Nat.le_refl _)
  have hs := zL_sorted hv vr (zn V) (Nat.le_refl _)
  have hg := zbg_le hv vr (zn V) (Nat.le_refl _)
  have el : (zLn V).length = (zL V (zr V) (zn V)).length := rfl
  refine ⟨h0, by omega, h1, h2, fun i hi => ?_, e0, e1, vs0, vs1, fun i hi => zst_lt hs.1 (by omega) hi⟩
  have e : zst (zLn V) i < zbg V (zr V) (zn V) := hs.2 _ (zst_mem hi)
  omega
/-- while the holes of the piece at place k are gone through -/
def zX (V : ZV) (k x : Nat) : List (Nat × Nat) := zL V (zr V) k ++ ((List.range x).filter (zh V (zr V k))).map (fun y => (zbg V (zr V) k + y, zr V k))
theorem zX_0 (V : ZV) (k : Nat) : zX V k 0 = zL V (zr V) k := List.append_nil _
theorem zE_w {V : ZV} (hv : Valid V) {p : Nat} (hp : p < zn V) : zE V p = (List.range (zw V p)).filter (zh V p) := by
  have hw := hv.2.1 p hp
  have hh := hv.2.2.2.1 p
  unfold zE
  have e : List.range 60 = List.range (zw V p) ++ List.range' (zw V p) (60 - zw V p) := by
    rw [List.range_eq_range', List.range_eq_range']
    have := List.range'_append_1 (s := 0) (m := zw V p) (n := 60 - zw V p)
    rw [Nat.zero_add, show zw V p + (60 - zw V p) = 60 by omega] at this
    exact this.symm
  rw [e, List.filter_append]
  have : (List.range' (zw V p) (60 - zw V p)).filter (zh V p) = [] := by
    rw [List.filter_eq_nil_iff]
    intro a ha hb
    rw [List.mem_range'_1] at ha
    have := hh a hp hb
    omega
  rw [this, List.append_nil]
theorem zX_l {V : ZV} (hv : Valid V) {k : Nat} (hk : k < zn V) : zX V k (zw V (zr V k)) = zL V (zr V) (k + 1) := by
  have hp := hv.2.2.2.2.2.1 k hk
  unfold zX
  show _ = zL V (zr V) k ++ (zE V (zr V k)).map (fun y => (zbg V (zr V) k + y, zr V k))
  rw [zE_w hv hp]
theorem zX_s (V : ZV) (k x : Nat) : zX V k (x + 1) = if zh V (zr V k) x = true then zX V k x ++ [(zbg V (zr V) k + x, zr V k)] else zX V k x := by
  unfold zX
  rw [List.range_succ, List.filter_append, List.map_append, ← List.append_assoc]
  by_cases c : zh V (zr V k) x = true
  · rw [if_pos c, List.filter_cons_of_pos c]
    rfl
  · rw [if_neg c, List.filter_cons_of_neg c]
    exact List.append_nil _
theorem zX_len {V : ZV} (hv : Valid V) {k x : Nat} (hk : k < zn V) (hx : x < 60) (h : zh V (zr V k) x = true) : (zX V k x).length < 28 := by
  have h7 := hv.1
  have h1 := zL_len hv hv.2.2.2.2.2.1 k (by omega)
  have h2 := hv.2.2.2.2.1 (zr V k) (hv.2.2.2.2.2.1 k hk)
  have h3 := zE_cut (zh V (zr V k)) hx
  have h4 : (zE V (zr V k)).length = _ := congrArg List.length h3
  rw [List.length_append, List.length_append, if_pos h, List.length_singleton] at h4
  unfold zX
  rw [List.length_append, List.length_map]
  omega
theorem m120 {sc : Nat × (Nat → Int32)} {d : Nat} {D : Nat → Nat → Int32} {G : Nat → Nat → Int64} {V : ZV} (R : RepM D 80 0 V) (hv : Valid V) : Cq sc (d + 2) 120 [.ref 79] D G (fun r D2 => r = .inl none ∧ eqL D D2 ∧ MLine D2 (zLn V).length (zst (zLn V)) (zow (zLn V)) (zs V 0) (zs V 1)) := by
  obtain ⟨s0, s1, sw, se, sb, sr, ss0, ss1⟩ := rM R
  obtain ⟨h7, vw, ve, vh, vE, vr, vj, vs0, vs1⟩ := id hv
  have L : ∀ n k D3, zn V - k = n → k ≤ zn V → eqL D D3 → MLD D3 (zL V (zr V) k) → Rq sc (d + 2) 120 (9, [some (.ref 79), some (.int (nI (zbg V (zr V) k))), some (.int (nI k)), none, none], [], (hx_S0, D3, G), 0) G (fun r D2 => r = .inl none ∧ eqL D D2 ∧ MLine D2 (zLn V).length (zst (zLn V)) (zow (zLn V)) (zs V 0) (zs V 1)) := by
    intro n
    induction n using Nat.strongRecOn with
    | _ n ih =>
    intro k D3 hn hk hI hL
    have k80 : D3 80 = D 80 := hI.1 80 (by omega) (by omega) (by omega)
    have J : k < zn V → ∀ m x D4, zw V (zr V k) - x = m → x ≤ zw V (zr V k) → eqL D D4 → MLD D4 (zX V k x) → Rq sc (d + 2) 120 (33, [some (.ref 79), some (.int (nI (zbg V (zr V) k))), some (.int (nI k)), some (.int (nI (zr V k))), some (.int (nI x))], [], (hx_S0, D4, G), 0) G (fun r D2 => r = .inl none ∧ eqL D D2 ∧ MLine D2 (zLn V).length (zst (zLn V)) (zow (zLn V)) (zs V 0) (zs V 1)) := by
      intro hkn m
      have vrk := vr k hkn
      have swk := sw _ vrk
      have vwk := vw _ vrk
      induction m using Nat.strongRecOn with
      | _ m ih2 =>
      intro x D4 hm hx hI2 hL2
      have k80 : D4 80 = D 80 := hI2.1 80 (by omega) (by omega) (by omega)
      have R4 : RepM D4 80 0 V := RepM_k hv (fun i _ => by rw [k80]) R
      have hl0 := hL2.1
      have hzs := zX_s V k x
      refine Rq.s (fun _ => b120_33 (by (try simp (disch := omega) only [nI_add, nI_mulN, pk_sub, nI_clamp, Nat.reduceAdd, Nat.reduceMul, Nat.reduceSub, Nat.zero_add, Nat.add_zero, hx_up_ne, k80, swk, hl0]); exact m105 (b := 0))) ?_
      refine Rq.b (fun _ => b120_44 (by (try simp (disch := omega) only [nI_add, nI_mulN, pk_sub, nI_clamp, Nat.reduceAdd, Nat.reduceMul, Nat.reduceSub, Nat.zero_add, Nat.add_zero, hx_up_ne, k80, swk, hl0]); exact nI_inbT (by omega) (by omega))) (fun h44 => ?_) (fun h44 => ?_)
      · try simp (disch := omega) only [Int32.le_iff_toInt_le, Int32.lt_iff_toInt_lt, z_eq, z_nI, z_0, z_m1, z_sub, nI_add, nI_mulN, pk_sub, nI_clamp, Nat.reduceAdd, Nat.reduceMul, Nat.reduceSub, Nat.zero_add, Nat.add_zero, hx_up_ne, k80, swk, hl0] at h44
        all_goals (try (exfalso; omega))
        all_goals
          refine Rq.s (fun _ => b120_97 (by (try simp (disch := omega) only [nI_add, nI_mulN, pk_sub, nI_clamp, Nat.reduceAdd, Nat.reduceMul, Nat.reduceSub, Nat.zero_add, Nat.add_zero, hx_up_ne, k80, swk, hl0]); exact m105 (b := 0))) ?_
          refine Rq.s (fun _ => b120_107 (by (try simp (disch := omega) only [nI_add, nI_mulN, pk_sub, nI_clamp, Nat.reduceAdd, Nat.reduceMul, Nat.reduceSub, Nat.zero_add, Nat.add_zero, hx_up_ne, k80, swk, hl0]); exact nI_inbT (by omega) (by omega))) ?_
          try simp (disch := omega) only [nI_add, nI_mulN, pk_sub, nI_clamp, Nat.reduceAdd, Nat.reduceMul, Nat.reduceSub, Nat.zero_add, Nat.add_zero, hx_up_ne, k80, swk, hl0]
          have e9 := zX_l hv hkn
          rw [show zw V (zr V k) = x by omega] at e9
          rw [e9] at hL2
          exact ih _ (by omega) (k + 1) D4 rfl (by omega) hI2 hL2
      · try simp (disch := omega) only [Int32.le_iff_toInt_le, Int32.lt_iff_toInt_lt, z_eq, z_nI, z_0, z_m1, z_sub, nI_add, nI_mulN, pk_sub, nI_clamp, Nat.reduceAdd, Nat.reduceMul, Nat.reduceSub, Nat.zero_add, Nat.add_zero, hx_up_ne, k80, swk, hl0] at h44
        all_goals (try (exfalso; omega))
        all_goals
          refine Rq.s (fun _ => b120_48 (by (try simp (disch := omega) only [nI_add, nI_mulN, pk_sub, nI_clamp, Nat.reduceAdd, Nat.reduceMul, Nat.reduceSub, Nat.zero_add, Nat.add_zero, hx_up_ne, k80, swk, hl0]); exact m118 (d := d) R4 hv vrk (by omega))) ?_
          by_cases hw : zh V (zr V k) x = false
          · refine Rq.bt (fun _ => b120_55) (by rw [hw]; rfl) ?_
            refine Rq.s (fun _ => b120_91) ?_
            try simp (disch := omega) only [nI_add, nI_mulN, pk_sub, nI_clamp, Nat.reduceAdd, Nat.reduceMul, Nat.reduceSub, Nat.zero_add, Nat.add_zero, hx_up_ne, k80, swk, hl0]
            rw [if_neg (by rw [hw]; decide)] at hzs
            rw [← hzs] at hL2
            exact ih2 _ (by omega) (x + 1) D4 rfl (by omega) hI2 hL2
          · refine Rq.bf (fun _ => b120_55) (by rw [eq_true_of_ne_false hw]; decide) ?_
            have hlen := zX_len hv hkn (x := x) (by omega) (eq_true_of_ne_false hw)
            refine Rq.s (fun _ => b120_58 (by (try simp (disch := omega) only [nI_add, nI_mulN, pk_sub, nI_clamp, Nat.reduceAdd, Nat.reduceMul, Nat.reduceSub, Nat.zero_add, Nat.add_zero, hx_up_ne, k80, swk, hl0]); exact nI_inbT (by omega) (by omega)) (by (try simp (disch := omega) only [nI_add, nI_mulN, pk_sub, nI_clamp, Nat.reduceAdd, Nat.reduceMul, Nat.reduceSub, Nat.zero_add, Nat.add_zero, hx_up_ne, k80, swk, hl0]); exact nI_inbT (by omega) (by omega))) ?_
            try simp (disch := omega) only [nI_add, nI_mulN, pk_sub, nI_clamp, Nat.reduceAdd, Nat.reduceMul, Nat.reduceSub, Nat.zero_add, Nat.add_zero, hx_up_ne, k80, swk, hl0]
            refine Rq.s (fun _ => b120_81) ?_
            try simp (disch := omega) only [nI_add, nI_mulN, pk_sub, nI_clamp, Nat.reduceAdd, Nat.reduceMul, Nat.reduceSub, Nat.zero_add, Nat.add_zero, hx_up_ne, k80, swk, hl0]
            refine Rq.s (fun _ => b120_91) ?_
            try simp (disch := omega) only [nI_add, nI_mulN, pk_sub, nI_clamp, Nat.reduceAdd, Nat.reduceMul, Nat.reduceSub, Nat.zero_add, Nat.add_zero, hx_up_ne, k80, swk, hl0]
            rw [if_pos (eq_true_of_ne_false hw)] at hzs
            have h9 := hL2.push (zbg V (zr V) k + x) (zr V k)
            rw [← hzs] at h9
            exact ih2 _ (by omega) (x + 1) _ rfl (by omega) (eqL.push hI2 rfl) h9
    refine Rq.b (fun _ => b120_9 (by (try simp (disch := omega) only [nI_add, nI_mulN, pk_sub, nI_clamp, Nat.reduceAdd, Nat.reduceMul, Nat.reduceSub, Nat.zero_add, Nat.add_zero, k80, s0]); exact nI_inbT (by omega) (by omega))) (fun h9 => ?_) (fun h9 => ?_)
    · try simp (disch := omega) only [Int32.le_iff_toInt_le, Int32.lt_iff_toInt_lt, z_eq, z_nI, z_0, z_m1, z_sub, nI_add, nI_mulN, pk_sub, nI_clamp, Nat.reduceAdd, Nat.reduceMul, Nat.reduceSub, Nat.zero_add, Nat.add_zero, k80, s0] at h9
      all_goals (try (exfalso; omega))
      all_goals
        refine Rq.e (b120_116) ?_
        rw [show k = zn V by omega] at hL
        exact ⟨rfl, hI, MLD.full hv hL (by rw [k80]; exact ss0) (by rw [k80]; exact ss1)⟩
    · try simp (disch := omega) only [Int32.le_iff_toInt_le, Int32.lt_iff_toInt_lt, z_eq, z_nI, z_0, z_m1, z_sub, nI_add, nI_mulN, pk_sub, nI_clamp, Nat.reduceAdd, Nat.reduceMul, Nat.reduceSub, Nat.zero_add, Nat.add_zero, k80, s0] at h9
      all_goals (try (exfalso; omega))
      all_goals
        have srk := sr k (by omega)
        refine Rq.s (fun _ => b120_20 (by (try simp (disch := omega) only [nI_add, nI_mulN, pk_sub, nI_clamp, Nat.reduceAdd, Nat.reduceMul, Nat.reduceSub, Nat.zero_add, Nat.add_zero, k80, s0, srk]); exact nI_inbT (by omega) (by omega))) ?_
        try simp (disch := omega) only [nI_add, nI_mulN, pk_sub, nI_clamp, Nat.reduceAdd, Nat.reduceMul, Nat.reduceSub, Nat.zero_add, Nat.add_zero, k80, s0, srk]
        exact J (by omega) _ 0 D3 rfl (by omega) hI (by rw [zX_0]; exact hL)
  refine Cq.c (fun _ _ _ => c120) ?_
  refine Rq.s (fun _ => b120_0) ?_
  try simp (disch := omega) only [nI_add, nI_mulN, pk_sub, nI_clamp, Nat.reduceAdd, Nat.reduceMul, Nat.reduceSub, Nat.zero_add, Nat.add_zero]
  exact L _ 0 _ rfl (by omega) ⟨fun a a1 a2 a3 => by rw [hx_up_ne a1], fun j hj => by rw [hx_up_in _ _ _ hj]⟩ ⟨hx_up_s _ _ _ _, fun i hi => absurd hi (Nat.not_lt_zero _), fun i hi => absurd hi (Nat.not_lt_zero _)⟩
theorem m121 {sc : Nat × (Nat → Int32)} {d : Nat} {D : Nat → Nat → Int32} {G : Nat → Nat → Int64} {m : Nat} {st ow : Nat → Nat} {s0 s1 : Nat} {i : Nat} (HL : MLine D m st ow s0 s1) (hi : i + 1 < m) : Cl sc d 121 [.ref 79, .int (nI i)] (hx_S0, D, G) (.inl (some (.int (iI (zd st i))))) (hx_S0, D, G) := by
  obtain ⟨l0, lm, l1, l2, l3, l4, l5, l6, l7, l8⟩ := id HL
  have l1i := l1 i (by omega)
  have l1j := l1 (i + 1) (by omega)
  refine Cq.p (Cq.c (fun _ _ _ => c121) ?_)
  refine Rq.e (b121_0 (by rw [nI_add]; exact nI_inbT (by omega) (by omega)) (nI_inbT (by omega) (by omega))) (Qp.i ?_)
  rw [nI_add, nI_clamp (by omega), nI_clamp (by omega), l1i, l1j, i_nI, i_nI, iI_sub]
theorem m122 {sc : Nat × (Nat → Int32)} {d : Nat} {D : Nat → Nat → Int32} {G : Nat → Nat → Int64} {m : Nat} {st ow : Nat → Nat} {s0 s1 : Nat} {i : Nat} (HL : MLine D m st ow s0 s1) (hi : i < m) : Cl sc (d + 1) 122 [.ref 79, .int (nI i)] (hx_S0, D, G) (.inl (some (.int (nI (if zwr m st s0 s1 i = true then 1 else 0))))) (hx_S0, D, G) := by
  obtain ⟨l0, lm, l1, l2, l3, l4, l5, l6, l7, l8⟩ := id HL
  have b0 := l3 i hi
  have b1 : i + 1 < m → st (i + 1) < 420 := fun h => l3 _ h
  have b2 : 1 ≤ i → st (i - 1) < 420 := fun h => l3 _ (by omega)
  have b3 : 1 ≤ i → i - 1 + 1 = i := by omega
  refine Cq.p ?_
  refine Cq.c (fun _ _ _ => c122) ?_
  refine Rq.b (fun _ => b122_0) (fun h0 => ?_) (fun h0 => ?_)
  · try simp (disch := omega) only [Int32.le_iff_toInt_le, Int32.lt_iff_toInt_lt, z_eq, z_nI, z_0, z_m1, z_sub, z_iI, nI_add, nI_mulN, pk_sub, nI_clamp, Nat.reduceAdd, Nat.reduceMul, Nat.reduceSub, Nat.zero_add, Nat.add_zero, l0] at h0
    all_goals (try (exfalso; omega))
    all_goals
      refine Rq.s (fun _ => b122_52) ?_
      try simp (disch := omega) only [nI_add, nI_mulN, pk_sub, nI_clamp, Nat.reduceAdd, Nat.reduceMul, Nat.reduceSub, Nat.zero_add, Nat.add_zero, l0]
      refine Rq.e (b122_53 (by first | exact Or.inl rfl | exact Or.inr rfl | (split <;> first | exact Or.inl rfl | exact Or.inr rfl))) ?_
      first | (refine Qp.i ?_; rw [show zwr m st s0 s1 i = false by unfold zwr; exact decide_eq_false (by omega)]; rfl) | (refine Qp.i ?_; rw [show zwr m st s0 s1 i = true by unfold zwr; exact decide_eq_true ⟨by omega, by omega, by omega⟩]; rfl)
  · try simp (disch := omega) only [Int32.le_iff_toInt_le, Int32.lt_iff_toInt_lt, z_eq, z_nI, z_0, z_m1, z_sub, z_iI, nI_add, nI_mulN, pk_sub, nI_clamp, Nat.reduceAdd, Nat.reduceMul, Nat.reduceSub, Nat.zero_add, Nat.add_zero, l0] at h0
    all_goals (try (exfalso; omega))
    all_goals
      refine Rq.b (fun _ => b122_4) (fun h4 => ?_) (fun h4 => ?_)
      · try simp (disch := omega) only [Int32.le_iff_toInt_le, Int32.lt_iff_toInt_lt, z_eq, z_nI, z_0, z_m1, z_sub, z_iI, nI_add, nI_mulN, pk_sub, nI_clamp, Nat.reduceAdd, Nat.reduceMul, Nat.reduceSub, Nat.zero_add, Nat.add_zero, l0] at h4
        all_goals (try (exfalso; omega))
        all_goals
          refine Rq.s (fun _ => b122_52) ?_
          try simp (disch := omega) only [nI_add, nI_mulN, pk_sub, nI_clamp, Nat.reduceAdd, Nat.reduceMul, Nat.reduceSub, Nat.zero_add, Nat.add_zero, l0]
          refine Rq.e (b122_53 (by first | exact Or.inl rfl | exact Or.inr rfl | (split <;> first | exact Or.inl rfl | exact Or.inr rfl))) ?_
          first | (refine Qp.i ?_; rw [show zwr m st s0 s1 i = false by unfold zwr; exact decide_eq_false (by omega)]; rfl) | (refine Qp.i ?_; rw [show zwr m st s0 s1 i = true by unfold zwr; exact decide_eq_true ⟨by omega, by omega, by omega⟩]; rfl)
      · try simp (disch := omega) only [Int32.le_iff_toInt_le, Int32.lt_iff_toInt_lt, z_eq, z_nI, z_0, z_m1, z_sub, z_iI, nI_add, nI_mulN, pk_sub, nI_clamp, Nat.reduceAdd, Nat.reduceMul, Nat.reduceSub, Nat.zero_add, Nat.add_zero, l0] at h4
        all_goals (try (exfalso; omega))
        all_goals
          have b4 := b1 (by omega)
          have b5 := b2 (by omega)
          have b6 := b3 (by omega)
          have d0 : zd st i = (st (i + 1) : Int) - st i := rfl
          have d1 : zd st (i - 1) = (st (i - 1 + 1) : Int) - st (i - 1) := rfl
          rw [b6] at d1
          refine Rq.s (fun _ => b122_14 (by (try simp (disch := omega) only [nI_add, nI_mulN, pk_sub, nI_clamp, Nat.reduceAdd, Nat.reduceMul, Nat.reduceSub, Nat.zero_add, Nat.add_zero, l0]); exact m121 (d := d) HL (by omega))) ?_
          have e9 := m121 (sc := sc) (d := d) (G := G) (i := i - 1) HL (by omega)
          refine Rq.s (fun _ => b122_19 (by rw [pk_sub (by omega)]; exact e9)) ?_
          refine Rq.s (fun _ => b122_26 (nI_inbT (by omega) (by omega)) (by rw [nI_clamp (show 100 < 2 ^ 31 by omega), l4, i_nI s0, iI_sub, iI_add]; exact m109i (d := d) (by omega) (by omega))) ?_
          refine Rq.b (fun _ => b122_38 (by (try simp (disch := omega) only [nI_add, nI_mulN, pk_sub, nI_clamp, Nat.reduceAdd, Nat.reduceMul, Nat.reduceSub, Nat.zero_add, Nat.add_zero, l0, l5]); exact nI_inbT (by omega) (by omega))) (fun h38 => ?_) (fun h38 => ?_)
          · try simp (disch := omega) only [Int32.le_iff_toInt_le, Int32.lt_iff_toInt_lt, z_eq, z_nI, z_0, z_m1, z_sub, z_iI, nI_add, nI_mulN, pk_sub, nI_clamp, Nat.reduceAdd, Nat.reduceMul, Nat.reduceSub, Nat.zero_add, Nat.add_zero, l0, l5] at h38
            all_goals (try (exfalso; omega))
            all_goals
              refine Rq.s (fun _ => b122_52) ?_
              try simp (disch := omega) only [nI_add, nI_mulN, pk_sub, nI_clamp, Nat.reduceAdd, Nat.reduceMul, Nat.reduceSub, Nat.zero_add, Nat.add_zero, l0, l5]
              refine Rq.e (b122_53 (by first | exact Or.inl rfl | exact Or.inr rfl | (split <;> first | exact Or.inl rfl | exact Or.inr rfl))) ?_
              first | (refine Qp.i ?_; rw [show zwr m st s0 s1 i = false by unfold zwr; exact decide_eq_false (by omega)]; rfl) | (refine Qp.i ?_; rw [show zwr m st s0 s1 i = true by unfold zwr; exact decide_eq_true ⟨by omega, by omega, by omega⟩]; rfl)
          · try simp (disch := omega) only [Int32.le_iff_toInt_le, Int32.lt_iff_toInt_lt, z_eq, z_nI, z_0, z_m1, z_sub, z_iI, nI_add, nI_mulN, pk_sub, nI_clamp, Nat.reduceAdd, Nat.reduceMul, Nat.reduceSub, Nat.zero_add, Nat.add_zero, l0, l5] at h38
            all_goals (try (exfalso; omega))
            all_goals
              refine Rq.s (fun _ => b122_48) ?_
              try simp (disch := omega) only [nI_add, nI_mulN, pk_sub, nI_clamp, Nat.reduceAdd, Nat.reduceMul, Nat.reduceSub, Nat.zero_add, Nat.add_zero, l0, l5]
              refine Rq.e (b122_53b (by first | exact Or.inl rfl | exact Or.inr rfl | (split <;> first | exact Or.inl rfl | exact Or.inr rfl))) ?_
              first | (refine Qp.i ?_; rw [show zwr m st s0 s1 i = false by unfold zwr; exact decide_eq_false (by omega)]; rfl) | (refine Qp.i ?_; rw [show zwr m st s0 s1 i = true by unfold zwr; exact decide_eq_true ⟨by omega, by omega, by omega⟩]; rfl)
theorem m123 {sc : Nat × (Nat → Int32)} {d : Nat} {D : Nat → Nat → Int32} {G : Nat → Nat → Int64} {m : Nat} {st ow : Nat → Nat} {s0 s1 : Nat} {i : Nat} (HL : MLine D m st ow s0 s1) (hi : i < m) : Cl sc (d + 2) 123 [.ref 79, .int (nI i)] (hx_S0, D, G) (.inl (some (.int (nI (zlk m st s0 s1 i))))) (hx_S0, D, G) := by
  obtain ⟨l0, lm, l1, l2, l3, l4, l5, l6, l7, l8⟩ := id HL
  have b0 := l3 i hi
  have b1 : i + 1 < m → st (i + 1) < 420 := fun h => l3 _ h
  have b2 : 1 ≤ i → st (i - 1) < 420 := fun h => l3 _ (by omega)
  have b3 : 1 ≤ i → i - 1 + 1 = i := by omega
  by_cases hw : zwr m st s0 s1 i = true
  · have hw2 := hw
    unfold zwr at hw2
    rw [decide_eq_true_eq] at hw2
    have hw3 := hw2.1
    have hw4 := hw2.2.1
    have b4 := b1 (by omega)
    have b5 := b2 (by omega)
    have b6 := b3 (by omega)
    have d0 : zd st i = (st (i + 1) : Int) - st i := rfl
    have d1 : zd st (i - 1) = (st (i - 1 + 1) : Int) - st (i - 1) := rfl
    rw [b6] at d1
    have e9 := m121 (sc := sc) (d := d + 1) (G := G) (i := i - 1) HL (by omega)
    have L : ∀ (k t : Nat) (next sum : Int), t + k = 5 → next ≤ 1000 → -1100 + 9 * (k : Int) ≤ next → sum ≤ 10000 - 1000 * (k : Int) → -10000 + 1100 * (k : Int) ≤ sum → (0 < next → sum < zd st i → zlk m st s0 s1 i = zlo s0 (zd st i) k next sum (t + 1)) → (next ≤ 0 → zlk m st s0 s1 i = 0) → (0 < next → zd st i ≤ sum → zlk m st s0 s1 i = t) → Rq sc (d + 2) 123 (54, [some (.ref 79), some (.int (nI i)), some (.int (iI next)), some (.int (iI sum)), some (.int (nI t))], [], (hx_S0, D, G), 0) G (Qp (nI (zlk m st s0 s1 i)) D) := by
      intro k
      induction k with
      | zero =>
        intro t next sum h1 n1 n2 n3 n4 z1 z2 z3
        refine Rq.b (fun _ => b123_54) (fun h54 => ?_) (fun h54 => ?_)
        · try simp (disch := omega) only [Int32.le_iff_toInt_le, Int32.lt_iff_toInt_lt, z_eq, z_nI, z_0, z_m1, z_sub, z_iI, nI_add, nI_mulN, pk_sub, nI_clamp, Nat.reduceAdd, Nat.reduceMul, Nat.reduceSub, Nat.zero_add, Nat.add_zero, l0] at h54
          all_goals (try (exfalso; omega))
          all_goals
            refine Rq.b (fun _ => b123_93) (fun h93 => ?_) (fun h93 => ?_)
            · try simp (disch := omega) only [Int32.le_iff_toInt_le, Int32.lt_iff_toInt_lt, z_eq, z_nI, z_0, z_m1, z_sub, z_iI, nI_add, nI_mulN, pk_sub, nI_clamp, Nat.reduceAdd, Nat.reduceMul, Nat.reduceSub, Nat.zero_add, Nat.add_zero, l0] at h93
              all_goals (try (exfalso; omega))
              all_goals
                refine Rq.s (fun _ => b123_111) ?_
                try simp (disch := omega) only [nI_add, nI_mulN, pk_sub, nI_clamp, Nat.reduceAdd, Nat.reduceMul, Nat.reduceSub, Nat.zero_add, Nat.add_zero, l0]
                refine Rq.e (b123_112) ?_
                first
                  | (exact Qp.i (by rw [z2 (by omega)]))
                  | (exact Qp.i (by rw [z1 (by omega) (by omega)]; rfl))
            · try simp (disch := omega) only [Int32.le_iff_toInt_le, Int32.lt_iff_toInt_lt, z_eq, z_nI, z_0, z_m1, z_sub, z_iI, nI_add, nI_mulN, pk_sub, nI_clamp, Nat.reduceAdd, Nat.reduceMul, Nat.reduceSub, Nat.zero_add, Nat.add_zero, l0] at h93
              all_goals (try (exfalso; omega))
              all_goals
                refine Rq.s (fun _ => b123_97 (by (try simp (disch := omega) only [nI_add, nI_mulN, pk_sub, nI_clamp, Nat.reduceAdd, Nat.reduceMul, Nat.reduceSub, Nat.zero_add, Nat.add_zero, l0]); exact m121 (d := d + 1) HL hw4)) ?_
                refine Rq.b (fun _ => b123_103) (fun h103 => ?_) (fun h103 => ?_)
                · try simp (disch := omega) only [Int32.le_iff_toInt_le, Int32.lt_iff_toInt_lt, z_eq, z_nI, z_0, z_m1, z_sub, z_iI, nI_add, nI_mulN, pk_sub, nI_clamp, Nat.reduceAdd, Nat.reduceMul, Nat.reduceSub, Nat.zero_add, Nat.add_zero, l0] at h103
                  all_goals (try (exfalso; omega))
                  all_goals
                    refine Rq.s (fun _ => b123_111) ?_
                    try simp (disch := omega) only [nI_add, nI_mulN, pk_sub, nI_clamp, Nat.reduceAdd, Nat.reduceMul, Nat.reduceSub, Nat.zero_add, Nat.add_zero, l0]
                    refine Rq.e (b123_112) ?_
                    first
                      | (exact Qp.i (by rw [z2 (by omega)]))
                      | (exact Qp.i (by rw [z1 (by omega) (by omega)]; rfl))
                · try simp (disch := omega) only [Int32.le_iff_toInt_le, Int32.lt_iff_toInt_lt, z_eq, z_nI, z_0, z_m1, z_sub, z_iI, nI_add, nI_mulN, pk_sub, nI_clamp, Nat.reduceAdd, Nat.reduceMul, Nat.reduceSub, Nat.zero_add, Nat.add_zero, l0] at h103
                  all_goals (try (exfalso; omega))
                  all_goals
                    refine Rq.s (fun _ => b123_106) ?_
                    refine Rq.e (b123_112b) ?_
                    exact Qp.i (by rw [z3 (by omega) (by omega)])
        · try simp (disch := omega) only [Int32.le_iff_toInt_le, Int32.lt_iff_toInt_lt, z_eq, z_nI, z_0, z_m1, z_sub, z_iI, nI_add, nI_mulN, pk_sub, nI_clamp, Nat.reduceAdd, Nat.reduceMul, Nat.reduceSub, Nat.zero_add, Nat.add_zero, l0] at h54
          all_goals (try (exfalso; omega))
          all_goals
            exfalso; omega
      | succ k ih =>
        intro t next sum h1 n1 n2 n3 n4 z1 z2 z3
        refine Rq.b (fun _ => b123_54) (fun h54 => ?_) (fun h54 => ?_)
        · try simp (disch := omega) only [Int32.le_iff_toInt_le, Int32.lt_iff_toInt_lt, z_eq, z_nI, z_0, z_m1, z_sub, z_iI, nI_add, nI_mulN, pk_sub, nI_clamp, Nat.reduceAdd, Nat.reduceMul, Nat.reduceSub, Nat.zero_add, Nat.add_zero, iI_sub, iI_add, l0, l4] at h54
          all_goals (try (exfalso; omega))
          all_goals
            refine Rq.b (fun _ => b123_93) (fun h93 => ?_) (fun h93 => ?_)
            · try simp (disch := omega) only [Int32.le_iff_toInt_le, Int32.lt_iff_toInt_lt, z_eq, z_nI, z_0, z_m1, z_sub, z_iI, nI_add, nI_mulN, pk_sub, nI_clamp, Nat.reduceAdd, Nat.reduceMul, Nat.reduceSub, Nat.zero_add, Nat.add_zero, iI_sub, iI_add, l0, l4] at h93
              all_goals (try (exfalso; omega))
              all_goals
                refine Rq.s (fun _ => b123_111) ?_
                try simp (disch := omega) only [nI_add, nI_mulN, pk_sub, nI_clamp, Nat.reduceAdd, Nat.reduceMul, Nat.reduceSub, Nat.zero_add, Nat.add_zero, iI_sub, iI_add, l0, l4]
                refine Rq.e (b123_112) ?_
                first
                  | (exact Qp.i (by rw [z2 (by omega)]))
                  | (exfalso; omega)
            · try simp (disch := omega) only [Int32.le_iff_toInt_le, Int32.lt_iff_toInt_lt, z_eq, z_nI, z_0, z_m1, z_sub, z_iI, nI_add, nI_mulN, pk_sub, nI_clamp, Nat.reduceAdd, Nat.reduceMul, Nat.reduceSub, Nat.zero_add, Nat.add_zero, iI_sub, iI_add, l0, l4] at h93
              all_goals (try (exfalso; omega))
              all_goals
                refine Rq.s (fun _ => b123_97 (by (try simp (disch := omega) only [nI_add, nI_mulN, pk_sub, nI_clamp, Nat.reduceAdd, Nat.reduceMul, Nat.reduceSub, Nat.zero_add, Nat.add_zero, iI_sub, iI_add, l0, l4]); exact m121 (d := d + 1) HL hw4)) ?_
                refine Rq.b (fun _ => b123_103) (fun h103 => ?_) (fun h103 => ?_)
                · try simp (disch := omega) only [Int32.le_iff_toInt_le, Int32.lt_iff_toInt_lt, z_eq, z_nI, z_0, z_m1, z_sub, z_iI, nI_add, nI_mulN, pk_sub, nI_clamp, Nat.reduceAdd, Nat.reduceMul, Nat.reduceSub, Nat.zero_add, Nat.add_zero, iI_sub, iI_add, l0, l4] at h103
                  all_goals (try (exfalso; omega))
                  all_goals
                    refine Rq.s (fun _ => b123_111) ?_
                    try simp (disch := omega) only [nI_add, nI_mulN, pk_sub, nI_clamp, Nat.reduceAdd, Nat.reduceMul, Nat.reduceSub, Nat.zero_add, Nat.add_zero, iI_sub, iI_add, l0, l4]
                    refine Rq.e (b123_112) ?_
                    first
                      | (exact Qp.i (by rw [z2 (by omega)]))
                      | (exfalso; omega)
                · try simp (disch := omega) only [Int32.le_iff_toInt_le, Int32.lt_iff_toInt_lt, z_eq, z_nI, z_0, z_m1, z_sub, z_iI, nI_add, nI_mulN, pk_sub, nI_clamp, Nat.reduceAdd, Nat.reduceMul, Nat.reduceSub, Nat.zero_add, Nat.add_zero, iI_sub, iI_add, l0, l4] at h103
                  all_goals (try (exfalso; omega))
                  all_goals
                    refine Rq.s (fun _ => b123_106) ?_
                    refine Rq.e (b123_112b) ?_
                    exact Qp.i (by rw [z3 (by omega) (by omega)])
        · try simp (disch := omega) only [Int32.le_iff_toInt_le, Int32.lt_iff_toInt_lt, z_eq, z_nI, z_0, z_m1, z_sub, z_iI, nI_add, nI_mulN, pk_sub, nI_clamp, Nat.reduceAdd, Nat.reduceMul, Nat.reduceSub, Nat.zero_add, Nat.add_zero, iI_sub, iI_add, l0, l4] at h54
          all_goals (try (exfalso; omega))
          all_goals
            refine Rq.s (fun _ => b123_60 (by (try simp (disch := omega) only [nI_add, nI_mulN, pk_sub, nI_clamp, Nat.reduceAdd, Nat.reduceMul, Nat.reduceSub, Nat.zero_add, Nat.add_zero, iI_sub, iI_add, l0, l4]); exact m121 (d := d + 1) HL hw4)) ?_
            refine Rq.b (fun _ => b123_66) (fun h66 => ?_) (fun h66 => ?_)
            · try simp (disch := omega) only [Int32.le_iff_toInt_le, Int32.lt_iff_toInt_lt, z_eq, z_nI, z_0, z_m1, z_sub, z_iI, nI_add, nI_mulN, pk_sub, nI_clamp, Nat.reduceAdd, Nat.reduceMul, Nat.reduceSub, Nat.zero_add, Nat.add_zero, iI_sub, iI_add, l0, l4] at h66
              all_goals (try (exfalso; omega))
              all_goals
                refine Rq.b (fun _ => b123_93) (fun h93 => ?_) (fun h93 => ?_)
                · try simp (disch := omega) only [Int32.le_iff_toInt_le, Int32.lt_iff_toInt_lt, z_eq, z_nI, z_0, z_m1, z_sub, z_iI, nI_add, nI_mulN, pk_sub, nI_clamp, Nat.reduceAdd, Nat.reduceMul, Nat.reduceSub, Nat.zero_add, Nat.add_zero, iI_sub, iI_add, l0, l4] at h93
                  all_goals (try (exfalso; omega))
                  all_goals
                    refine Rq.s (fun _ => b123_111) ?_
                    try simp (disch := omega) only [nI_add, nI_mulN, pk_sub, nI_clamp, Nat.reduceAdd, Nat.reduceMul, Nat.reduceSub, Nat.zero_add, Nat.add_zero, iI_sub, iI_add, l0, l4]
                    refine Rq.e (b123_112) ?_
                    first
                      | (exact Qp.i (by rw [z2 (by omega)]))
                      | (exfalso; omega)
                · try simp (disch := omega) only [Int32.le_iff_toInt_le, Int32.lt_iff_toInt_lt, z_eq, z_nI, z_0, z_m1, z_sub, z_iI, nI_add, nI_mulN, pk_sub, nI_clamp, Nat.reduceAdd, Nat.reduceMul, Nat.reduceSub, Nat.zero_add, Nat.add_zero, iI_sub, iI_add, l0, l4] at h93
                  all_goals (try (exfalso; omega))
                  all_goals
                    refine Rq.s (fun _ => b123_97 (by (try simp (disch := omega) only [nI_add, nI_mulN, pk_sub, nI_clamp, Nat.reduceAdd, Nat.reduceMul, Nat.reduceSub, Nat.zero_add, Nat.add_zero, iI_sub, iI_add, l0, l4]); exact m121 (d := d + 1) HL hw4)) ?_
                    refine Rq.b (fun _ => b123_103) (fun h103 => ?_) (fun h103 => ?_)
                    · try simp (disch := omega) only [Int32.le_iff_toInt_le, Int32.lt_iff_toInt_lt, z_eq, z_nI, z_0, z_m1, z_sub, z_iI, nI_add, nI_mulN, pk_sub, nI_clamp, Nat.reduceAdd, Nat.reduceMul, Nat.reduceSub, Nat.zero_add, Nat.add_zero, iI_sub, iI_add, l0, l4] at h103
                      all_goals (try (exfalso; omega))
                      all_goals
                        refine Rq.s (fun _ => b123_111) ?_
                        try simp (disch := omega) only [nI_add, nI_mulN, pk_sub, nI_clamp, Nat.reduceAdd, Nat.reduceMul, Nat.reduceSub, Nat.zero_add, Nat.add_zero, iI_sub, iI_add, l0, l4]
                        refine Rq.e (b123_112) ?_
                        first
                          | (exact Qp.i (by rw [z2 (by omega)]))
                          | (exfalso; omega)
                    · try simp (disch := omega) only [Int32.le_iff_toInt_le, Int32.lt_iff_toInt_lt, z_eq, z_nI, z_0, z_m1, z_sub, z_iI, nI_add, nI_mulN, pk_sub, nI_clamp, Nat.reduceAdd, Nat.reduceMul, Nat.reduceSub, Nat.zero_add, Nat.add_zero, iI_sub, iI_add, l0, l4] at h103
                      all_goals (try (exfalso; omega))
                      all_goals
                        refine Rq.s (fun _ => b123_106) ?_
                        refine Rq.e (b123_112b) ?_
                        exact Qp.i (by rw [z3 (by omega) (by omega)])
            · try simp (disch := omega) only [Int32.le_iff_toInt_le, Int32.lt_iff_toInt_lt, z_eq, z_nI, z_0, z_m1, z_sub, z_iI, nI_add, nI_mulN, pk_sub, nI_clamp, Nat.reduceAdd, Nat.reduceMul, Nat.reduceSub, Nat.zero_add, Nat.add_zero, iI_sub, iI_add, l0, l4] at h66
              all_goals (try (exfalso; omega))
              all_goals
                refine Rq.b (fun _ => b123_69) (fun h69 => ?_) (fun h69 => ?_)
                · try simp (disch := omega) only [Int32.le_iff_toInt_le, Int32.lt_iff_toInt_lt, z_eq, z_nI, z_0, z_m1, z_sub, z_iI, nI_add, nI_mulN, pk_sub, nI_clamp, Nat.reduceAdd, Nat.reduceMul, Nat.reduceSub, Nat.zero_add, Nat.add_zero, iI_sub, iI_add, l0, l4] at h69
                  all_goals (try (exfalso; omega))
                  all_goals
                    refine Rq.b (fun _ => b123_93) (fun h93 => ?_) (fun h93 => ?_)
                    · try simp (disch := omega) only [Int32.le_iff_toInt_le, Int32.lt_iff_toInt_lt, z_eq, z_nI, z_0, z_m1, z_sub, z_iI, nI_add, nI_mulN, pk_sub, nI_clamp, Nat.reduceAdd, Nat.reduceMul, Nat.reduceSub, Nat.zero_add, Nat.add_zero, iI_sub, iI_add, l0, l4] at h93
                      all_goals (try (exfalso; omega))
                      all_goals
                        refine Rq.s (fun _ => b123_111) ?_
                        try simp (disch := omega) only [nI_add, nI_mulN, pk_sub, nI_clamp, Nat.reduceAdd, Nat.reduceMul, Nat.reduceSub, Nat.zero_add, Nat.add_zero, iI_sub, iI_add, l0, l4]
                        refine Rq.e (b123_112) ?_
                        first
                          | (exact Qp.i (by rw [z2 (by omega)]))
                          | (exfalso; omega)
                    · try simp (disch := omega) only [Int32.le_iff_toInt_le, Int32.lt_iff_toInt_lt, z_eq, z_nI, z_0, z_m1, z_sub, z_iI, nI_add, nI_mulN, pk_sub, nI_clamp, Nat.reduceAdd, Nat.reduceMul, Nat.reduceSub, Nat.zero_add, Nat.add_zero, iI_sub, iI_add, l0, l4] at h93
                      all_goals (try (exfalso; omega))
                      all_goals
                        refine Rq.s (fun _ => b123_97 (by (try simp (disch := omega) only [nI_add, nI_mulN, pk_sub, nI_clamp, Nat.reduceAdd, Nat.reduceMul, Nat.reduceSub, Nat.zero_add, Nat.add_zero, iI_sub, iI_add, l0, l4]); exact m121 (d := d + 1) HL hw4)) ?_
                        refine Rq.b (fun _ => b123_103) (fun h103 => ?_) (fun h103 => ?_)
                        · try simp (disch := omega) only [Int32.le_iff_toInt_le, Int32.lt_iff_toInt_lt, z_eq, z_nI, z_0, z_m1, z_sub, z_iI, nI_add, nI_mulN, pk_sub, nI_clamp, Nat.reduceAdd, Nat.reduceMul, Nat.reduceSub, Nat.zero_add, Nat.add_zero, iI_sub, iI_add, l0, l4] at h103
                          all_goals (try (exfalso; omega))
                          all_goals
                            refine Rq.s (fun _ => b123_111) ?_
                            try simp (disch := omega) only [nI_add, nI_mulN, pk_sub, nI_clamp, Nat.reduceAdd, Nat.reduceMul, Nat.reduceSub, Nat.zero_add, Nat.add_zero, iI_sub, iI_add, l0, l4]
                            refine Rq.e (b123_112) ?_
                            first
                              | (exact Qp.i (by rw [z2 (by omega)]))
                              | (exfalso; omega)
                        · try simp (disch := omega) only [Int32.le_iff_toInt_le, Int32.lt_iff_toInt_lt, z_eq, z_nI, z_0, z_m1, z_sub, z_iI, nI_add, nI_mulN, pk_sub, nI_clamp, Nat.reduceAdd, Nat.reduceMul, Nat.reduceSub, Nat.zero_add, Nat.add_zero, iI_sub, iI_add, l0, l4] at h103
                          all_goals (try (exfalso; omega))
                          all_goals
                            refine Rq.s (fun _ => b123_106) ?_
                            refine Rq.e (b123_112b) ?_
                            exact Qp.i (by rw [z3 (by omega) (by omega)])
                · try simp (disch := omega) only [Int32.le_iff_toInt_le, Int32.lt_iff_toInt_lt, z_eq, z_nI, z_0, z_m1, z_sub, z_iI, nI_add, nI_mulN, pk_sub, nI_clamp, Nat.reduceAdd, Nat.reduceMul, Nat.reduceSub, Nat.zero_add, Nat.add_zero, iI_sub, iI_add, l0, l4] at h69
                  all_goals (try (exfalso; omega))
                  all_goals
                    have z9 := z1 (by omega) (by omega)
                    rw [zlo_u] at z9
                    have es0 := i_nI s0
                    refine Rq.s (fun _ => b123_73 (by (try simp (disch := omega) only [nI_add, nI_mulN, pk_sub, nI_clamp, Nat.reduceAdd, Nat.reduceMul, Nat.reduceSub, Nat.zero_add, Nat.add_zero, iI_sub, iI_add, l0, l4, es0]); exact nI_inbT (by omega) (by omega))) ?_
                    try simp (disch := omega) only [nI_add, nI_mulN, pk_sub, nI_clamp, Nat.reduceAdd, Nat.reduceMul, Nat.reduceSub, Nat.zero_add, Nat.add_zero, iI_sub, iI_add, l0, l4, es0]
                    refine Rq.s (fun _ => b123_90) ?_
                    refine ih (t + 1) _ _ (by omega) (by omega) (by omega) (by omega) (by omega) (fun a b => ?_) (fun a => ?_) (fun a b => ?_)
                    · rw [if_neg (by omega), if_neg (by omega)] at z9
                      exact z9
                    · rw [if_pos (by omega)] at z9
                      exact z9
                    · rw [if_neg (by omega), if_pos (by omega)] at z9
                      exact z9
    refine Cq.p ?_
    refine Cq.c (fun _ _ _ => c123) ?_
    refine Rq.s (fun _ => b123_0 (by (try simp (disch := omega) only [nI_add, nI_mulN, pk_sub, nI_clamp, Nat.reduceAdd, Nat.reduceMul, Nat.reduceSub, Nat.zero_add, Nat.add_zero, iI_sub, l0, l4]); exact m122 (d := d) HL hi)) ?_
    rw [if_pos hw]
    refine Rq.bf (fun _ => b123_5) (by decide) ?_
    refine Rq.s (fun _ => b123_8 (by (try simp (disch := omega) only [nI_add, nI_mulN, pk_sub, nI_clamp, Nat.reduceAdd, Nat.reduceMul, Nat.reduceSub, Nat.zero_add, Nat.add_zero, iI_sub, l0, l4]); exact m121 (d := d + 1) HL hw4)) ?_
    refine Rq.s (fun _ => b123_13 (by rw [pk_sub (by omega)]; exact e9)) ?_
    have es0 := i_nI s0
    refine Rq.b (fun _ => b123_20 (by (try simp (disch := omega) only [nI_add, nI_mulN, pk_sub, nI_clamp, Nat.reduceAdd, Nat.reduceMul, Nat.reduceSub, Nat.zero_add, Nat.add_zero, iI_sub, l0, l4, es0]); exact nI_inbT (by omega) (by omega))) (fun h20 => ?_) (fun h20 => ?_)
    · try simp (disch := omega) only [Int32.le_iff_toInt_le, Int32.lt_iff_toInt_lt, z_eq, z_nI, z_0, z_m1, z_sub, z_iI, iI_sub, nI_add, nI_mulN, pk_sub, nI_clamp, Nat.reduceAdd, Nat.reduceMul, Nat.reduceSub, Nat.zero_add, Nat.add_zero, l0, l4, es0] at h20
      all_goals (try (exfalso; omega))
      all_goals
        refine Rq.s (fun _ => b123_33 (by rw [pk_sub (by omega)]; exact e9)) ?_
        refine Rq.s (fun _ => b123_40 (by (try simp (disch := omega) only [nI_add, nI_mulN, pk_sub, nI_clamp, Nat.reduceAdd, Nat.reduceMul, Nat.reduceSub, Nat.zero_add, Nat.add_zero, iI_sub, l0, l4, es0]); exact nI_inbT (by omega) (by omega))) ?_
        try simp (disch := omega) only [nI_add, nI_mulN, pk_sub, nI_clamp, Nat.reduceAdd, Nat.reduceMul, Nat.reduceSub, Nat.zero_add, Nat.add_zero, iI_sub, l0, l4, es0]
        have hz : zlk m st s0 s1 i = zlo s0 (zd st i) 5 (zd st (i - 1) - s0) (zd st (i - 1) - s0) 1 := by unfold zlk; rw [if_pos hw, if_neg (by omega)]
        refine L 5 0 _ _ rfl (by omega) (by omega) (by omega) (by omega) (fun _ _ => hz) (fun a => ?_) (fun a b => by exfalso; omega)
        rw [hz, zlo_u, if_pos (by omega)]
    · try simp (disch := omega) only [Int32.le_iff_toInt_le, Int32.lt_iff_toInt_lt, z_eq, z_nI, z_0, z_m1, z_sub, z_iI, iI_sub, nI_add, nI_mulN, pk_sub, nI_clamp, Nat.reduceAdd, Nat.reduceMul, Nat.reduceSub, Nat.zero_add, Nat.add_zero, l0, l4, es0] at h20
      all_goals (try (exfalso; omega))
      all_goals
        refine Rq.e (b123_31) ?_
        refine Qp.i ?_
        unfold zlk
        rw [if_pos hw, if_pos (by omega)]
  · have hz : zlk m st s0 s1 i = 0 := by unfold zlk; rw [if_neg hw]
    refine Cq.p ?_
    refine Cq.c (fun _ _ _ => c123) ?_
    refine Rq.s (fun _ => b123_0 (by (try simp (disch := omega) only [nI_add, nI_mulN, pk_sub, nI_clamp, Nat.reduceAdd, Nat.reduceMul, Nat.reduceSub, Nat.zero_add, Nat.add_zero, l0]); exact m122 (d := d) HL hi)) ?_
    rw [if_neg hw]
    refine Rq.bt (fun _ => b123_5) (rfl) ?_
    refine Rq.e (b123_31) ?_
    exact Qp.i (by rw [hz])
theorem m124 {sc : Nat × (Nat → Int32)} {d : Nat} {D : Nat → Nat → Int32} {G : Nat → Nat → Int64} {V : ZV} {j : Nat} (R : RepM D 80 0 V) (hv : Valid V) (hj : j ≤ 1) : Cq sc (d + 3) 124 [.ref 79, .int (nI j)] D G (fun r D2 => r = .inl (some (.int (nI (if j = 1 then zTs V else zWs V (zr V))))) ∧ eqL D D2) := by
  refine Cq.c (fun _ _ _ => c124) ?_
  obtain ⟨_, D4, hC4, rfl, hI, HL⟩ := m120 (sc := sc) (d := d) (G := G) R hv
  refine Rq.s (fun _ => b124_0 hC4) ?_
  have l0 := HL.1
  have lm := HL.2.1
  generalize hm : (zLn V).length = m at *
  have L : ∀ n i, m - i = n → i ≤ m → Rq sc (d + 3) 124 (8, [some (.ref 79), some (.int (nI j)), some (.int (nI (if j = 1 then zls m (zst (zLn V)) (zs V 0) (zs V 1) i else zws m (zst (zLn V)) (zs V 0) (zs V 1) i))), some (.int (nI i))], [], (hx_S0, D4, G), 0) G (fun r D2 => r = .inl (some (.int (nI (if j = 1 then zTs V else zWs V (zr V))))) ∧ eqL D D2) := by
    intro n
    induction n using Nat.strongRecOn with
    | _ n ih =>
    intro i hn hi
    refine Rq.b (fun _ => b124_8) (fun h8 => ?_) (fun h8 => ?_)
    · try simp (disch := omega) only [Int32.le_iff_toInt_le, Int32.lt_iff_toInt_lt, z_eq, z_nI, z_0, z_m1, z_sub, nI_add, nI_mulN, pk_sub, nI_clamp, Nat.reduceAdd, Nat.reduceMul, Nat.reduceSub, Nat.zero_add, Nat.add_zero, l0] at h8
      all_goals (try (exfalso; omega))
      all_goals
        refine Rq.e (b124_51) ?_
        refine ⟨?_, hI⟩
        rw [show i = m by omega]
        unfold zTs zWs
        rw [hm]
    · try simp (disch := omega) only [Int32.le_iff_toInt_le, Int32.lt_iff_toInt_lt, z_eq, z_nI, z_0, z_m1, z_sub, nI_add, nI_mulN, pk_sub, nI_clamp, Nat.reduceAdd, Nat.reduceMul, Nat.reduceSub, Nat.zero_add, Nat.add_zero, l0] at h8
      all_goals (try (exfalso; omega))
      all_goals
        by_cases hj1 : ¬ j = 1
        · refine Rq.bt (fun _ => b124_16) (by rw [z_eq, z_nI (by omega), z_nI (by omega)]; omega) ?_
          refine Rq.s (fun _ => b124_30 (by (try simp (disch := omega) only [nI_add, nI_mulN, pk_sub, nI_clamp, Nat.reduceAdd, Nat.reduceMul, Nat.reduceSub, Nat.zero_add, Nat.add_zero, l0]); exact m122 (d := d + 1) HL (by omega))) ?_
          by_cases hw : zwr m (zst (zLn V)) (zs V 0) (zs V 1) i = false
          · refine Rq.bt (fun _ => b124_35) (by rw [hw]; rfl) ?_
            refine Rq.s (fun _ => b124_42) ?_
            try simp (disch := omega) only [nI_add, nI_mulN, pk_sub, nI_clamp, Nat.reduceAdd, Nat.reduceMul, Nat.reduceSub, Nat.zero_add, Nat.add_zero, l0]
            refine Rq.s (fun _ => b124_43b) ?_
            try simp (disch := omega) only [nI_add, nI_mulN, pk_sub, nI_clamp, Nat.reduceAdd, Nat.reduceMul, Nat.reduceSub, Nat.zero_add, Nat.add_zero, l0]
            have := ih _ (by omega) (i + 1) rfl (by omega)
            rw [if_neg hj1] at this ⊢
            have e : zws m (zst (zLn V)) (zs V 0) (zs V 1) (i + 1) = zws m (zst (zLn V)) (zs V 0) (zs V 1) i + (if zwr m (zst (zLn V)) (zs V 0) (zs V 1) i = true then 1 else 0) := rfl
            rw [e, if_neg (by rw [hw]; decide)] at this
            exact this
          · refine Rq.bf (fun _ => b124_35) (by rw [eq_true_of_ne_false hw]; decide) ?_
            refine Rq.s (fun _ => b124_38) ?_
            try simp (disch := omega) only [nI_add, nI_mulN, pk_sub, nI_clamp, Nat.reduceAdd, Nat.reduceMul, Nat.reduceSub, Nat.zero_add, Nat.add_zero, l0]
            refine Rq.s (fun _ => b124_43) ?_
            try simp (disch := omega) only [nI_add, nI_mulN, pk_sub, nI_clamp, Nat.reduceAdd, Nat.reduceMul, Nat.reduceSub, Nat.zero_add, Nat.add_zero, l0]
            have := ih _ (by omega) (i + 1) rfl (by omega)
            rw [if_neg hj1] at this ⊢
            have e : zws m (zst (zLn V)) (zs V 0) (zs V 1) (i + 1) = zws m (zst (zLn V)) (zs V 0) (zs V 1) i + (if zwr m (zst (zLn V)) (zs V 0) (zs V 1) i = true then 1 else 0) := rfl
            rw [e, if_pos (eq_true_of_ne_false hw)] at this
            exact this
        · refine Rq.bf (fun _ => b124_16) (by rw [z_eq, z_nI (by omega), z_nI (by omega)]; omega) ?_
          refine Rq.s (fun _ => b124_22 (by (try simp (disch := omega) only [nI_add, nI_mulN, pk_sub, nI_clamp, Nat.reduceAdd, Nat.reduceMul, Nat.reduceSub, Nat.zero_add, Nat.add_zero, l0]); exact m123 (d := d) HL (by omega))) ?_
          refine Rq.s (fun _ => b124_27) ?_
          refine Rq.s (fun _ => b124_43) ?_
          try simp (disch := omega) only [nI_add, nI_mulN, pk_sub, nI_clamp, Nat.reduceAdd, Nat.reduceMul, Nat.reduceSub, Nat.zero_add, Nat.add_zero, l0]
          have := ih _ (by omega) (i + 1) rfl (by omega)
          rw [if_pos (Decidable.not_not.mp hj1)] at this ⊢
          exact this
  refine Rq.s (fun _ => b124_4) ?_
  try simp (disch := omega) only [nI_add, nI_mulN, pk_sub, nI_clamp, Nat.reduceAdd, Nat.reduceMul, Nat.reduceSub, Nat.zero_add, Nat.add_zero]
  have := L _ 0 rfl (by omega)
  rw [show (if j = 1 then zls m (zst (zLn V)) (zs V 0) (zs V 1) 0 else zws m (zst (zLn V)) (zs V 0) (zs V 1) 0) = 0 by split <;> rfl] at this
  exact this
theorem m171 {sc : Nat × (Nat → Int32)} {d : Nat} {D : Nat → Nat → Int32} {G : Nat → Nat → Int64} {V : ZV} (R : RepM D 80 0 V) (hv : Valid V) : Cq sc (d + 3) 171 [.ref 79] D G (fun r D2 => r = .inl (some (.float (zSh V))) ∧ eqL D D2) := by
  refine Cq.c (fun _ _ _ => c171) ?_
  obtain ⟨_, D4, hC4, rfl, hI, HL⟩ := m120 (sc := sc) (d := d) (G := G) R hv
  refine Rq.s (fun _ => b171_0 hC4) ?_
  have l0 := HL.1
  have lm := HL.2.1
  have hA : fA (zSh V) := by
    obtain ⟨a0, am, a1, a2, a3, a4, a5, a6, a7, a8⟩ := id HL
    unfold zSh zsh
    split
    · exact fA_0
    · have e1 := a8 0 (by omega)
      have e2 := a8 ((zLn V).length - 1 - 1) (by omega)
      have e3 := a3 (0 + 1) (by omega)
      have e4 := a3 ((zLn V).length - 1 - 1 + 1) (by omega)
      have d0 : zd (zst (zLn V)) 0 = (zst (zLn V) (0 + 1) : Int) - zst (zLn V) 0 := rfl
      have d1 : zd (zst (zLn V)) ((zLn V).length - 1 - 1) = (zst (zLn V) ((zLn V).length - 1 - 1 + 1) : Int) - zst (zLn V) ((zLn V).length - 1 - 1) := rfl
      exact fA_all (by omega) (by omega) (by omega) (by omega)
  have hS : zSh V = if (zLn V).length < 3 then FP.fconst0 else fQ (zd (zst (zLn V)) 0 - zd (zst (zLn V)) ((zLn V).length - 2)) ((zLn V).length - 2) := by
    unfold zSh zsh
    rw [Nat.sub_sub]
  refine Rq.b (fun _ => b171_4) (fun h4 => ?_) (fun h4 => ?_)
  · try simp (disch := omega) only [Int32.le_iff_toInt_le, Int32.lt_iff_toInt_lt, z_eq, z_nI, z_0, z_m1, z_sub, nI_add, nI_mulN, pk_sub, nI_clamp, Nat.reduceAdd, Nat.reduceMul, Nat.reduceSub, Nat.zero_add, Nat.add_zero, l0] at h4
    all_goals (try (exfalso; omega))
    all_goals
      refine Rq.s (fun _ => b171_16 (by (try simp (disch := omega) only [nI_add, nI_mulN, pk_sub, nI_clamp, Nat.reduceAdd, Nat.reduceMul, Nat.reduceSub, Nat.zero_add, Nat.add_zero, l0]); exact m121 (d := d + 2) HL (by omega))) ?_
      refine Rq.s (fun _ => b171_21 (by (try simp (disch := omega) only [nI_add, nI_mulN, pk_sub, nI_clamp, Nat.reduceAdd, Nat.reduceMul, Nat.reduceSub, Nat.zero_add, Nat.add_zero, l0]); exact m121 (d := d + 2) HL (by omega))) ?_
      refine Rq.s (fun _ => b171_31 (by rw [l0, iI_sub, pk_sub (by omega)]; have h9 := hA.1; rw [hS, if_neg (by omega)] at h9; exact h9)) ?_
      try simp (disch := omega) only [nI_add, nI_mulN, pk_sub, nI_clamp, Nat.reduceAdd, Nat.reduceMul, Nat.reduceSub, Nat.zero_add, Nat.add_zero, l0]
      refine Rq.e (b171_41b) ?_
      refine ⟨?_, hI⟩
      first | (rw [hS, if_pos (by omega)]; done) | (rw [hS, if_neg (by omega), iI_sub]; done)
  · try simp (disch := omega) only [Int32.le_iff_toInt_le, Int32.lt_iff_toInt_lt, z_eq, z_nI, z_0, z_m1, z_sub, nI_add, nI_mulN, pk_sub, nI_clamp, Nat.reduceAdd, Nat.reduceMul, Nat.reduceSub, Nat.zero_add, Nat.add_zero, l0] at h4
    all_goals (try (exfalso; omega))
    all_goals
      refine Rq.s (fun _ => b171_12) ?_
      refine Rq.e (b171_41) ?_
      refine ⟨?_, hI⟩
      first | (rw [hS, if_pos (by omega)]; done) | (rw [hS, if_neg (by omega), iI_sub]; done)
