/-! ===== the reference: the cheapest row ===== -/
theorem zB5 : ∀ p, p < 7 → (nI 1 <<< (nI p &&& 31)) = nI (2 ^ p) := by decide +kernel
theorem zcp_bit {n U x : Nat} (hU : U < 2 ^ n) : (2 ^ n - 1 - U).testBit x = (decide (x < n) && !U.testBit x) := by
  rw [Nat.sub_sub, Nat.add_comm]
  exact Nat.testBit_two_pow_sub_succ hU x
theorem z2n {V : ZV} (hv : Valid V) : 0 < 2 ^ zn V ∧ 2 ^ zn V ≤ 128 := ⟨Nat.two_pow_pos _, Nat.pow_le_pow_right (n := 2) (by omega) hv.1⟩
theorem zcp_clr {V : ZV} (hv : Valid V) {U x : Nat} (hU : U < 2 ^ zn V) (hx : x < zn V) (hb : U.testBit x = false) : zset U x < 2 ^ zn V ∧ U < zset U x ∧ zclr (2 ^ zn V - 1 - U) x = 2 ^ zn V - 1 - zset U x := by
  have h7 := hv.1
  have hz := z2n hv
  have hRb : (2 ^ zn V - 1 - U).testBit x = true := by rw [zcp_bit hU, hb, decide_eq_true hx]; rfl
  have hge := Nat.ge_two_pow_of_testBit hRb
  have hp := Nat.two_pow_pos x
  have e : zset U x = U + 2 ^ x := by unfold zset; rw [if_neg (by rw [hb]; decide)]
  have e2 : zclr (2 ^ zn V - 1 - U) x = 2 ^ zn V - 1 - U - 2 ^ x := by unfold zclr; rw [if_pos hRb]
  rw [e, e2]
  omega
def TBM (D : Nat → Nat → Int32) (V : ZV) (s : Nat) : Prop := ∀ U, s ≤ U → U < 2 ^ zn V → ∀ l, l < zn V → D 85 (7 * U + l) = nI (zFF V (2 ^ zn V - 1 - U) (some l))
theorem m115 {sc : Nat × (Nat → Int32)} {d : Nat} {D : Nat → Nat → Int32} {G : Nat → Nat → Int64} {V : ZV} {U l : Nat} (s0 : D 80 98 = nI (zn V)) (se : ∀ p j, p < zn V → j < 10 → D 80 (13 * p + (j + 1)) = nI (ze V p j)) (hv : Valid V) (hU : U + 1 < 2 ^ zn V) (hl : l < zn V) (HT : TBM D V (U + 1)) : Cl sc (d + 2) 115 [.ref 79, .int (nI U), .int (nI l)] (hx_S0, D, G) (.inl (some (.int (nI (zFF V (2 ^ zn V - 1 - U) (some l)))))) (hx_S0, D, G) := by
  have h7 := hv.1
  have hz := z2n hv
  have hR : zRo V (2 ^ zn V - 1 - U) := zRo_lt hv (by omega)
  have hlo : ∀ y, some l = some y → y < zn V := fun y h => by cases h; exact hl
  have L : ∀ n i, zn V - i = n → i ≤ zn V → Rq sc (d + 2) 115 (6, [some (.ref 79), some (.int (nI U)), some (.int (nI l)), some (.int (nI (min 1000000 (zla (zcst V (2 ^ zn V - 1 - U) (some l)) (zba (fun x => (2 ^ zn V - 1 - U).testBit x) (zcst V (2 ^ zn V - 1 - U) (some l)) i))))), some (.int (nI i)), none], [], (hx_S0, D, G), 0) G (Qp (nI (zFF V (2 ^ zn V - 1 - U) (some l))) D) := by
    intro n
    induction n using Nat.strongRecOn with
    | _ n ih =>
    intro i hm hi
    refine Rq.b (fun _ => b115_6 (by (try simp (disch := omega) only [nI_add, nI_mulN, pk_sub, nI_clamp, Nat.reduceAdd, Nat.reduceMul, Nat.reduceSub, Nat.zero_add, Nat.add_zero, s0]); exact nI_inbT (by omega) (by omega))) (fun h6 => ?_) (fun h6 => ?_)
    · try simp (disch := omega) only [Int32.le_iff_toInt_le, Int32.lt_iff_toInt_lt, z_eq, z_nI, z_0, z_m1, z_sub, nI_add, nI_mulN, pk_sub, nI_clamp, Nat.reduceAdd, Nat.reduceMul, Nat.reduceSub, Nat.zero_add, Nat.add_zero, s0] at h6
      all_goals (try (exfalso; omega))
      all_goals
        refine Rq.e (b115_79) ?_
        refine Qp.i ?_
        rw [show i = zn V by omega]
        have h0 : 2 ^ zn V - 1 - U ≠ 0 := by omega
        have e6 := zFF_eq hv hR (l := some l) h0
        have e7 := zFF_le hv hR hlo
        have e8 : zla (zcst V (2 ^ zn V - 1 - U) (some l)) (zba (fun x => (2 ^ zn V - 1 - U).testBit x) (zcst V (2 ^ zn V - 1 - U) (some l)) (zn V)) = zla (zcst V (2 ^ zn V - 1 - U) (some l)) (zpk V (2 ^ zn V - 1 - U) (some l)) := rfl
        congr 1
        omega
    · try simp (disch := omega) only [Int32.le_iff_toInt_le, Int32.lt_iff_toInt_lt, z_eq, z_nI, z_0, z_m1, z_sub, nI_add, nI_mulN, pk_sub, nI_clamp, Nat.reduceAdd, Nat.reduceMul, Nat.reduceSub, Nat.zero_add, Nat.add_zero, s0] at h6
      all_goals (try (exfalso; omega))
      all_goals
        have hbi : (2 ^ zn V - 1 - U).testBit i = !U.testBit i := by rw [zcp_bit (by omega), decide_eq_true (show i < zn V by omega)]; rfl
        have bS := zB3 U (by omega) i (by omega)
        by_cases hb : ¬ U.testBit i = true
        · refine Rq.bt (fun _ => b115_18) (by rw [zB2 U (by omega) i (by omega), if_neg hb]; decide) ?_
          refine Rq.s (fun _ => b115_33 (by (try simp (disch := omega) only [nI_add, nI_mulN, pk_sub, nI_clamp, Nat.reduceAdd, Nat.reduceMul, Nat.reduceSub, Nat.zero_add, Nat.add_zero, s0]); exact m110e (d := d) se hv hl (by omega))) ?_
          have hub : U.testBit i = false := by rw [Bool.not_eq_true] at hb; exact hb
          obtain ⟨g1, g2, g3⟩ := zcp_clr hv (by omega) (show i < zn V by omega) hub
          have g4 := HT (zset U i) (by omega) g1 i (by omega)
          rw [← g3] at g4
          have hci := zcst_le hv hR hlo (x := i) (by omega)
          have hcs : (zcst V (2 ^ zn V - 1 - U) (some l)) i = zj V l i + zFF V (zclr (2 ^ zn V - 1 - U) i) (some i) := rfl
          have hz128 : zset U i < 128 := (zset_bit U (by omega) i (by omega)).1
          refine Rq.s (fun _ => b115_40 (by (try simp (disch := omega) only [nI_add, nI_mulN, pk_sub, nI_clamp, Nat.reduceAdd, Nat.reduceMul, Nat.reduceSub, Nat.zero_add, Nat.add_zero, s0, bS, g4]); exact nI_inbT (by omega) (by omega))) ?_
          try simp (disch := omega) only [nI_add, nI_mulN, pk_sub, nI_clamp, Nat.reduceAdd, Nat.reduceMul, Nat.reduceSub, Nat.zero_add, Nat.add_zero, s0, bS, g4]
          refine Rq.b (fun _ => b115_58) (fun h58 => ?_) (fun h58 => ?_)
          · try simp (disch := omega) only [Int32.le_iff_toInt_le, Int32.lt_iff_toInt_lt, z_eq, z_nI, z_0, z_m1, z_sub, nI_add, nI_mulN, pk_sub, nI_clamp, Nat.reduceAdd, Nat.reduceMul, Nat.reduceSub, Nat.zero_add, Nat.add_zero, s0, bS, g4] at h58
            all_goals (try (exfalso; omega))
            all_goals
              refine Rq.s (fun _ => b115_71) ?_
              refine Rq.s (fun _ => b115_72) ?_
              try simp (disch := omega) only [nI_add, nI_mulN, pk_sub, nI_clamp, Nat.reduceAdd, Nat.reduceMul, Nat.reduceSub, Nat.zero_add, Nat.add_zero, s0, bS, g4]
              by_cases c : (zcst V (2 ^ zn V - 1 - U) (some l)) i < zla (zcst V (2 ^ zn V - 1 - U) (some l)) (zba (fun x => (2 ^ zn V - 1 - U).testBit x) (zcst V (2 ^ zn V - 1 - U) (some l)) i)
              · have e := zba_T (ok := (fun x => (2 ^ zn V - 1 - U).testBit x)) (c := (zcst V (2 ^ zn V - 1 - U) (some l))) (k := i) (by show (2 ^ zn V - 1 - U).testBit i = true; rw [hbi, hub]; rfl) c
                have := ih _ (by omega) (i + 1) rfl (by omega)
                rw [e] at this
                have e5 : zla (zcst V (2 ^ zn V - 1 - U) (some l)) (some i) = (zcst V (2 ^ zn V - 1 - U) (some l)) i := rfl
                rw [e5] at this
                first | (rw [show min 1000000 ((zcst V (2 ^ zn V - 1 - U) (some l)) i) = zj V l i + zFF V (zclr (2 ^ zn V - 1 - U) i) (some i) by omega] at this; exact this) | (exfalso; omega)
              · have e := zba_F (ok := (fun x => (2 ^ zn V - 1 - U).testBit x)) (c := (zcst V (2 ^ zn V - 1 - U) (some l))) (k := i) (fun z => c z.2)
                have := ih _ (by omega) (i + 1) rfl (by omega)
                rw [e] at this
                first | exact this | (exfalso; omega) | (rw [show min 1000000 (zla (zcst V (2 ^ zn V - 1 - U) (some l)) (zba (fun x => (2 ^ zn V - 1 - U).testBit x) (zcst V (2 ^ zn V - 1 - U) (some l)) i)) = zj V l i + zFF V (zclr (2 ^ zn V - 1 - U) i) (some i) by omega] at this; exact this)
          · try simp (disch := omega) only [Int32.le_iff_toInt_le, Int32.lt_iff_toInt_lt, z_eq, z_nI, z_0, z_m1, z_sub, nI_add, nI_mulN, pk_sub, nI_clamp, Nat.reduceAdd, Nat.reduceMul, Nat.reduceSub, Nat.zero_add, Nat.add_zero, s0, bS, g4] at h58
            all_goals (try (exfalso; omega))
            all_goals
              refine Rq.s (fun _ => b115_66) ?_
              refine Rq.s (fun _ => b115_72b) ?_
              try simp (disch := omega) only [nI_add, nI_mulN, pk_sub, nI_clamp, Nat.reduceAdd, Nat.reduceMul, Nat.reduceSub, Nat.zero_add, Nat.add_zero, s0, bS, g4]
              by_cases c : (zcst V (2 ^ zn V - 1 - U) (some l)) i < zla (zcst V (2 ^ zn V - 1 - U) (some l)) (zba (fun x => (2 ^ zn V - 1 - U).testBit x) (zcst V (2 ^ zn V - 1 - U) (some l)) i)
              · have e := zba_T (ok := (fun x => (2 ^ zn V - 1 - U).testBit x)) (c := (zcst V (2 ^ zn V - 1 - U) (some l))) (k := i) (by show (2 ^ zn V - 1 - U).testBit i = true; rw [hbi, hub]; rfl) c
                have := ih _ (by omega) (i + 1) rfl (by omega)
                rw [e] at this
                have e5 : zla (zcst V (2 ^ zn V - 1 - U) (some l)) (some i) = (zcst V (2 ^ zn V - 1 - U) (some l)) i := rfl
                rw [e5] at this
                first | (rw [show min 1000000 ((zcst V (2 ^ zn V - 1 - U) (some l)) i) = zj V l i + zFF V (zclr (2 ^ zn V - 1 - U) i) (some i) by omega] at this; exact this) | (exfalso; omega)
              · have e := zba_F (ok := (fun x => (2 ^ zn V - 1 - U).testBit x)) (c := (zcst V (2 ^ zn V - 1 - U) (some l))) (k := i) (fun z => c z.2)
                have := ih _ (by omega) (i + 1) rfl (by omega)
                rw [e] at this
                first | exact this | (exfalso; omega) | (rw [show min 1000000 (zla (zcst V (2 ^ zn V - 1 - U) (some l)) (zba (fun x => (2 ^ zn V - 1 - U).testBit x) (zcst V (2 ^ zn V - 1 - U) (some l)) i)) = zj V l i + zFF V (zclr (2 ^ zn V - 1 - U) i) (some i) by omega] at this; exact this)
        · refine Rq.bf (fun _ => b115_18) (by rw [zB2 U (by omega) i (by omega), if_pos (Decidable.not_not.mp hb)]; exact fun z => z rfl) ?_
          refine Rq.s (fun _ => b115_28) ?_
          try simp (disch := omega) only [nI_add, nI_mulN, pk_sub, nI_clamp, Nat.reduceAdd, Nat.reduceMul, Nat.reduceSub, Nat.zero_add, Nat.add_zero, s0]
          refine Rq.b (fun _ => b115_58) (fun h58 => ?_) (fun h58 => ?_)
          · try simp (disch := omega) only [Int32.le_iff_toInt_le, Int32.lt_iff_toInt_lt, z_eq, z_nI, z_0, z_m1, z_sub, nI_add, nI_mulN, pk_sub, nI_clamp, Nat.reduceAdd, Nat.reduceMul, Nat.reduceSub, Nat.zero_add, Nat.add_zero, s0] at h58
            all_goals (try (exfalso; omega))
            all_goals
              refine Rq.s (fun _ => b115_71) ?_
              refine Rq.s (fun _ => b115_72) ?_
              try simp (disch := omega) only [nI_add, nI_mulN, pk_sub, nI_clamp, Nat.reduceAdd, Nat.reduceMul, Nat.reduceSub, Nat.zero_add, Nat.add_zero, s0]
              have e := zba_F (ok := (fun x => (2 ^ zn V - 1 - U).testBit x)) (c := (zcst V (2 ^ zn V - 1 - U) (some l))) (k := i) (fun z => by have z1 : (2 ^ zn V - 1 - U).testBit i = true := z.1; rw [hbi, Decidable.not_not.mp hb] at z1; cases z1)
              have := ih _ (by omega) (i + 1) rfl (by omega)
              rw [e] at this
              first | exact this | (exfalso; omega)
          · try simp (disch := omega) only [Int32.le_iff_toInt_le, Int32.lt_iff_toInt_lt, z_eq, z_nI, z_0, z_m1, z_sub, nI_add, nI_mulN, pk_sub, nI_clamp, Nat.reduceAdd, Nat.reduceMul, Nat.reduceSub, Nat.zero_add, Nat.add_zero, s0] at h58
            all_goals (try (exfalso; omega))
            all_goals
              refine Rq.s (fun _ => b115_66) ?_
              refine Rq.s (fun _ => b115_72b) ?_
              try simp (disch := omega) only [nI_add, nI_mulN, pk_sub, nI_clamp, Nat.reduceAdd, Nat.reduceMul, Nat.reduceSub, Nat.zero_add, Nat.add_zero, s0]
              have e := zba_F (ok := (fun x => (2 ^ zn V - 1 - U).testBit x)) (c := (zcst V (2 ^ zn V - 1 - U) (some l))) (k := i) (fun z => by have z1 : (2 ^ zn V - 1 - U).testBit i = true := z.1; rw [hbi, Decidable.not_not.mp hb] at z1; cases z1)
              have := ih _ (by omega) (i + 1) rfl (by omega)
              rw [e] at this
              first | exact this | (exfalso; omega)
  refine Cq.p ?_
  refine Cq.c (fun _ _ _ => c115) ?_
  refine Rq.s (fun _ => b115_0) ?_
  try simp (disch := omega) only [nI_add, nI_mulN, pk_sub, nI_clamp, Nat.reduceAdd, Nat.reduceMul, Nat.reduceSub, Nat.zero_add, Nat.add_zero]
  exact L _ 0 rfl (by omega)
theorem m114 {sc : Nat × (Nat → Int32)} {d : Nat} {D : Nat → Nat → Int32} {G : Nat → Nat → Int64} {V : ZV} (s0 : D 80 98 = nI (zn V)) (se : ∀ p j, p < zn V → j < 10 → D 80 (13 * p + (j + 1)) = nI (ze V p j)) (hv : Valid V) : Cq sc (d + 3) 114 [.ref 79] D G (fun r D2 => r = .inl (some (.int (nI (zleast V)))) ∧ TBM D2 V 1 ∧ ∀ a, a ≠ 85 → D2 a = D a) := by
  have h7 := hv.1
  have hz := z2n hv
  have b4 := zB4 (zn V) (by omega)
  have hR : zRo V (2 ^ zn V - 1) := zRo_lt hv (Nat.le_refl _)
  have hno : ∀ y, (none : Option Nat) = some y → y < zn V := fun y h => by cases h
  have P : ∀ n i D3, zn V - i = n → i ≤ zn V → (∀ a, a ≠ 85 → D3 a = D a) → TBM D3 V 1 → Rq sc (d + 3) 114 (74, [some (.ref 79), some (.int (nI (zn V))), none, some (.int (nI (if i = 0 then 0 else zla (zcst V (2 ^ zn V - 1) none) (zba (fun x => (2 ^ zn V - 1).testBit x) (zcst V (2 ^ zn V - 1) none) i)))), some (.int (nI i)), none], [], (hx_S0, D3, G), 0) G (fun r D2 => r = .inl (some (.int (nI (zleast V)))) ∧ TBM D2 V 1 ∧ ∀ a, a ≠ 85 → D2 a = D a) := by
    intro n
    induction n using Nat.strongRecOn with
    | _ n ih =>
    intro i D3 hm hi hI HT
    have hzl : zla (zcst V (2 ^ zn V - 1) none) (zba (fun x => (2 ^ zn V - 1).testBit x) (zcst V (2 ^ zn V - 1) none) i) < 2 ^ 31 := zla_lt (B := 304) (fun j hj _ => zcst_le hv hR hno (by omega)) (by omega)
    by_cases hx : zn V ≤ i
    · refine Rq.bt (fun _ => b114_74) (nI_le hx (by omega)) ?_
      refine Rq.e (b114_121) ?_
      refine ⟨?_, HT, hI⟩
      rw [show i = zn V by omega]
      by_cases h : zn V = 0
      · rw [if_pos h]
        have : zleast V = 0 := by show zFF V (2 ^ zn V - 1) none = 0; rw [h]; exact zFF_0 V none
        rw [this]
      · rw [if_neg h]
        have h0 : 2 ^ zn V - 1 ≠ 0 := by have : 2 ^ 1 ≤ 2 ^ zn V := Nat.pow_le_pow_right (by omega) (by omega); omega
        have : zleast V = zla (zcst V (2 ^ zn V - 1) none) (zba (fun x => (2 ^ zn V - 1).testBit x) (zcst V (2 ^ zn V - 1) none) (zn V)) := zFF_eq hv hR h0
        rw [this]
    · refine Rq.bf (fun _ => b114_74) (nI_ge (by omega) (by omega)) ?_
      have b5 := zB5 i (by omega)
      have hp2 : 2 ^ i < 2 ^ zn V := Nat.pow_lt_pow_right (by omega) (by omega)
      have hp0 : 0 < 2 ^ i := Nat.two_pow_pos i
      have hRi : (2 ^ zn V - 1).testBit i = true := by have := (zall_bit (zn V) (by omega)).2.2 i (by omega); rw [this, decide_eq_true]; omega
      have g3 : zclr (2 ^ zn V - 1) i = 2 ^ zn V - 1 - 2 ^ i := by unfold zclr; rw [if_pos hRi]
      have g4 := HT (2 ^ i) (by omega) hp2 i (by omega)
      rw [← g3] at g4
      have hci := zcst_le hv hR hno (x := i) (by omega)
      have hcs : (zcst V (2 ^ zn V - 1) none) i = zFF V (zclr (2 ^ zn V - 1) i) (some i) := Nat.zero_add _
      by_cases hi0 : i = 0
      · refine Rq.bt (fun _ => b114_80 (by (try simp (disch := omega) only [nI_add, nI_mulN, pk_sub, nI_clamp, Nat.reduceAdd, Nat.reduceMul, Nat.reduceSub, Nat.zero_add, Nat.add_zero, b5, g4]); exact nI_inbT (by omega) (by omega))) (by rw [hi0]; rfl) ?_
        try simp (disch := omega) only [nI_add, nI_mulN, pk_sub, nI_clamp, Nat.reduceAdd, Nat.reduceMul, Nat.reduceSub, Nat.zero_add, Nat.add_zero, b5, g4]
        refine Rq.s (fun _ => b114_108) ?_
        refine Rq.s (fun _ => b114_114) ?_
        try simp (disch := omega) only [nI_add, nI_mulN, pk_sub, nI_clamp, Nat.reduceAdd, Nat.reduceMul, Nat.reduceSub, Nat.zero_add, Nat.add_zero, b5, g4]
        have hc3 : (zcst V (2 ^ zn V - 1) none) i < zla (zcst V (2 ^ zn V - 1) none) (zba (fun x => (2 ^ zn V - 1).testBit x) (zcst V (2 ^ zn V - 1) none) i) := by
          by_cases h : i = 0
          · subst h
            have : zla (zcst V (2 ^ zn V - 1) none) (zba (fun x => (2 ^ zn V - 1).testBit x) (zcst V (2 ^ zn V - 1) none) 0) = 2147483647 := rfl
            omega
          · omega
        have e := zba_T (ok := (fun x => (2 ^ zn V - 1).testBit x)) (c := (zcst V (2 ^ zn V - 1) none)) (k := i) hRi hc3
        have := ih _ (by omega) (i + 1) D3 rfl (by omega) hI HT
        rw [e, if_neg (by omega)] at this
        have e5 : zla (zcst V (2 ^ zn V - 1) none) (some i) = (zcst V (2 ^ zn V - 1) none) i := rfl
        rw [e5, hcs] at this
        exact this
      · refine Rq.bf (fun _ => b114_80 (by (try simp (disch := omega) only [nI_add, nI_mulN, pk_sub, nI_clamp, Nat.reduceAdd, Nat.reduceMul, Nat.reduceSub, Nat.zero_add, Nat.add_zero, b5, g4]); exact nI_inbT (by omega) (by omega))) (by rw [z_eq, z_nI (by omega), z_0]; omega) ?_
        try simp (disch := omega) only [nI_add, nI_mulN, pk_sub, nI_clamp, Nat.reduceAdd, Nat.reduceMul, Nat.reduceSub, Nat.zero_add, Nat.add_zero, b5, g4]
        by_cases hc2 : zla (zcst V (2 ^ zn V - 1) none) (zba (fun x => (2 ^ zn V - 1).testBit x) (zcst V (2 ^ zn V - 1) none) i) ≤ (zcst V (2 ^ zn V - 1) none) i
        · refine Rq.bt (fun _ => b114_102) (by rw [← hcs, if_neg hi0]; exact nI_le hc2 (by omega)) ?_
          refine Rq.s (fun _ => b114_113) ?_
          refine Rq.s (fun _ => b114_114b) ?_
          try simp (disch := omega) only [nI_add, nI_mulN, pk_sub, nI_clamp, Nat.reduceAdd, Nat.reduceMul, Nat.reduceSub, Nat.zero_add, Nat.add_zero, b5, g4]
          have e := zba_F (ok := (fun x => (2 ^ zn V - 1).testBit x)) (c := (zcst V (2 ^ zn V - 1) none)) (k := i) (fun z => by have := z.2; omega)
          have := ih _ (by omega) (i + 1) D3 rfl (by omega) hI HT
          rw [e, if_neg (by omega)] at this
          rw [if_neg hi0]
          exact this
        · refine Rq.bf (fun _ => b114_102) (by rw [← hcs, if_neg hi0]; exact nI_ge (by omega) (by omega)) ?_
          refine Rq.s (fun _ => b114_108) ?_
          refine Rq.s (fun _ => b114_114) ?_
          try simp (disch := omega) only [nI_add, nI_mulN, pk_sub, nI_clamp, Nat.reduceAdd, Nat.reduceMul, Nat.reduceSub, Nat.zero_add, Nat.add_zero, b5, g4]
          have hc3 : (zcst V (2 ^ zn V - 1) none) i < zla (zcst V (2 ^ zn V - 1) none) (zba (fun x => (2 ^ zn V - 1).testBit x) (zcst V (2 ^ zn V - 1) none) i) := by
            by_cases h : i = 0
            · subst h
              have : zla (zcst V (2 ^ zn V - 1) none) (zba (fun x => (2 ^ zn V - 1).testBit x) (zcst V (2 ^ zn V - 1) none) 0) = 2147483647 := rfl
              omega
            · omega
          have e := zba_T (ok := (fun x => (2 ^ zn V - 1).testBit x)) (c := (zcst V (2 ^ zn V - 1) none)) (k := i) hRi hc3
          have := ih _ (by omega) (i + 1) D3 rfl (by omega) hI HT
          rw [e, if_neg (by omega)] at this
          have e5 : zla (zcst V (2 ^ zn V - 1) none) (some i) = (zcst V (2 ^ zn V - 1) none) i := rfl
          rw [e5, hcs] at this
          exact this
  have L : ∀ s D3, s < 2 ^ zn V → (∀ a, a ≠ 85 → D3 a = D a) → TBM D3 V (s + 1) → Rq sc (d + 3) 114 (16, [some (.ref 79), some (.int (nI (zn V))), some (.int (nI (2 ^ zn V - 1))), some (.int (nI s)), none, none], [], (hx_S0, D3, G), 0) G (fun r D2 => r = .inl (some (.int (nI (zleast V)))) ∧ TBM D2 V 1 ∧ ∀ a, a ≠ 85 → D2 a = D a) := by
    intro s
    induction s with
    | zero =>
      intro D3 hs hI HT
      refine Rq.bt (fun _ => b114_16) (by decide) ?_
      refine Rq.s (fun _ => b114_69) ?_
      try simp (disch := omega) only [nI_add, nI_mulN, pk_sub, nI_clamp, Nat.reduceAdd, Nat.reduceMul, Nat.reduceSub, Nat.zero_add, Nat.add_zero]
      exact P _ 0 D3 rfl (by omega) hI HT
    | succ s ihs =>
      intro D3 hs hI HT
      have M : ∀ n l D4, zn V - l = n → l ≤ zn V → (∀ a, a ≠ 85 → D4 a = D a) → TBM D4 V (s + 1 + 1) → (∀ k, k < l → D4 85 (7 * (s + 1) + k) = nI (zFF V (2 ^ zn V - 1 - (s + 1)) (some k))) → Rq sc (d + 3) 114 (23, [some (.ref 79), some (.int (nI (zn V))), some (.int (nI (2 ^ zn V - 1))), some (.int (nI (s + 1))), some (.int (nI l)), none], [], (hx_S0, D4, G), 0) G (fun r D2 => r = .inl (some (.int (nI (zleast V)))) ∧ TBM D2 V 1 ∧ ∀ a, a ≠ 85 → D2 a = D a) := by
        intro n
        induction n using Nat.strongRecOn with
        | _ n ih =>
        intro l D4 hm hl hI4 HT4 hC
        by_cases hx : zn V ≤ l
        · refine Rq.bt (fun _ => b114_23) (nI_le hx (by omega)) ?_
          refine Rq.s (fun _ => b114_63) ?_
          try simp (disch := omega) only [nI_add, nI_mulN, pk_sub, nI_clamp, Nat.reduceAdd, Nat.reduceMul, Nat.reduceSub, Nat.zero_add, Nat.add_zero]
          rw [pk_m1s (by omega), Nat.add_sub_cancel]
          refine ihs D4 (by omega) hI4 (fun U h1 h2 k h3 => ?_)
          by_cases c : U = s + 1
          · rw [c]; exact hC k (by omega)
          · exact HT4 U (by omega) h2 k h3
        · refine Rq.bf (fun _ => b114_23) (nI_ge (by omega) (by omega)) ?_
          by_cases he : ¬ s + 1 = 2 ^ zn V - 1
          · refine Rq.bt (fun _ => b114_29) (by rw [z_eq, z_nI (by omega), z_nI (by omega)]; omega) ?_
            try simp (disch := omega) only [nI_add, nI_mulN, pk_sub, nI_clamp, Nat.reduceAdd, Nat.reduceMul, Nat.reduceSub, Nat.zero_add, Nat.add_zero]
            refine Rq.s (fun _ => b114_49 (by (try simp (disch := omega) only [nI_add, nI_mulN, pk_sub, nI_clamp, Nat.reduceAdd, Nat.reduceMul, Nat.reduceSub, Nat.zero_add, Nat.add_zero]); exact m115 (d := d) (by rw [hI4 80 (by omega)]; exact s0) (fun p j a b => by rw [hI4 80 (by omega)]; exact se p j a b) hv (by omega) (by omega) HT4)) ?_
            refine Rq.s (fun _ => b114_56 (by (try simp (disch := omega) only [nI_add, nI_mulN, pk_sub, nI_clamp, Nat.reduceAdd, Nat.reduceMul, Nat.reduceSub, Nat.zero_add, Nat.add_zero]); exact nI_inbT (by omega) (by omega))) ?_
            try simp (disch := omega) only [nI_add, nI_mulN, pk_sub, nI_clamp, Nat.reduceAdd, Nat.reduceMul, Nat.reduceSub, Nat.zero_add, Nat.add_zero]
            refine ih _ (by omega) (l + 1) _ rfl (by omega) (fun a ha => by rw [hx_up_ne ha]; exact hI4 a ha) (fun U h1 h2 k h3 => by rw [hx_up_in _ _ _ (by omega)]; exact HT4 U h1 h2 k h3) (fun k hk => ?_)
            by_cases c : k = l
            · rw [c, hx_up_s]
            · rw [hx_up_in _ _ _ (by omega)]
              exact hC k (by omega)
          · refine Rq.bf (fun _ => b114_29) (by rw [z_eq, z_nI (by omega), z_nI (by omega)]; omega) ?_
            try simp (disch := omega) only [nI_add, nI_mulN, pk_sub, nI_clamp, Nat.reduceAdd, Nat.reduceMul, Nat.reduceSub, Nat.zero_add, Nat.add_zero]
            refine Rq.s (fun _ => b114_45) ?_
            try simp (disch := omega) only [nI_add, nI_mulN, pk_sub, nI_clamp, Nat.reduceAdd, Nat.reduceMul, Nat.reduceSub, Nat.zero_add, Nat.add_zero]
            refine Rq.s (fun _ => b114_56 (by (try simp (disch := omega) only [nI_add, nI_mulN, pk_sub, nI_clamp, Nat.reduceAdd, Nat.reduceMul, Nat.reduceSub, Nat.zero_add, Nat.add_zero]); exact nI_inbT (by omega) (by omega))) ?_
            try simp (disch := omega) only [nI_add, nI_mulN, pk_sub, nI_clamp, Nat.reduceAdd, Nat.reduceMul, Nat.reduceSub, Nat.zero_add, Nat.add_zero]
            refine ih _ (by omega) (l + 1) _ rfl (by omega) (fun a ha => by rw [hx_up_ne ha]; exact hI4 a ha) (fun U h1 h2 k h3 => by rw [hx_up_in _ _ _ (by omega)]; exact HT4 U h1 h2 k h3) (fun k hk => ?_)
            by_cases c : k = l
            · rw [c, hx_up_s, show 2 ^ zn V - 1 - (s + 1) = 0 by omega, zFF_0]
            · rw [hx_up_in _ _ _ (by omega)]
              exact hC k (by omega)
      refine Rq.bf (fun _ => b114_16) (by rw [Int32.le_iff_toInt_le, z_nI (by omega), z_0]; omega) ?_
      refine Rq.s (fun _ => b114_20) ?_
      try simp (disch := omega) only [nI_add, nI_mulN, pk_sub, nI_clamp, Nat.reduceAdd, Nat.reduceMul, Nat.reduceSub, Nat.zero_add, Nat.add_zero]
      exact M _ 0 D3 rfl (by omega) hI HT (fun k hk => absurd hk (Nat.not_lt_zero _))
  refine Cq.c (fun _ _ _ => c114) ?_
  refine Rq.s (fun _ => b114_0 (by (try simp (disch := omega) only [nI_add, nI_mulN, pk_sub, nI_clamp, Nat.reduceAdd, Nat.reduceMul, Nat.reduceSub, Nat.zero_add, Nat.add_zero, s0, b4]); exact nI_inbT (by omega) (by omega))) ?_
  try simp (disch := omega) only [nI_add, nI_mulN, pk_sub, nI_clamp, Nat.reduceAdd, Nat.reduceMul, Nat.reduceSub, Nat.zero_add, Nat.add_zero, s0, b4]
  exact L _ D (by omega) (fun a _ => rfl) (fun U h1 h2 => absurd h1 (by omega))
