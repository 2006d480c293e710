/-! ===== the reference: the cheapest row ===== -/
theorem zB5 : ∀ p, p < 7 → (nI 1 <<< (nI p &&& 31)) = nI (2 ^ p) := by decide +kernel
theorem zcp_bit {n U x : Nat} (hU : U < 2 ^ n) : (2 ^ n - 1 - U).testBit x = (decide (x < n) && !U.testBit x) := by
  rw [Nat.sub_sub, Nat.add_comm]
  exact Nat.testBit_two_pow_sub_succ hU x
theorem z2n {V : ZV} (hv : Valid V) : 0 < 2 ^ zn V ∧ 2 ^ zn V ≤ 128 := ⟨Nat.two_pow_pos _, Nat.pow_le_pow_right (n := 2) (by omega) hv.1⟩
theorem zcp_clr {V : ZV} (hv : Valid V) {U x : Nat} (hU : U < 2 ^ zn V) (hx : x < zn V) (hb : U.testBit x = false) : zset U x < 2 ^ zn V ∧ U < zset U x ∧ zclr (2 ^ zn V - 1 - U) x = 2 ^ zn V - 1 - zset U x := by
  have h7 := hv.1
  have hz := z2n hv
  have hRb : (2 ^ zn V - 1 - U).testBit x = true := by rw [zcp_bit hU, hb, decide_eq_true hx]; rfl
  have hge := Nat.ge_two_pow_of_testBit hRb
  have hp := Nat.two_pow_pos x
  have e : zset U x = U + 2 ^ x := by unfold zset; rw [if_neg (by rw [hb]; decide)]
  have e2 : zclr (2 ^ zn V - 1 - U) x = 2 ^ zn V - 1 - U - 2 ^ x := by unfold zclr; rw [if_pos hRb]
  rw [e, e2]
  omega
def TBM (D : Nat → Nat → Int32) (V : ZV) (s : Nat) : Prop := ∀ U, s ≤ U → U < 2 ^ zn V → ∀ l, l < zn V → D 85 (7 * U + l) = nI (zFF V (2 ^ zn V - 1 - U) (some l))
/-- as zla, with the reference's own number where there is none -/
def zlm (c : Nat → Nat) : Option Nat → Nat
  | none => 1000000
  | some b => c b
theorem zlm_or (c : Nat → Nat) (o : Option Nat) : zlm c o = zla c o ∨ (zlm c o = 1000000 ∧ zla c o = 1000) := by
  cases o with
  | none => exact Or.inr ⟨rfl, rfl⟩
  | some b => exact Or.inl rfl
theorem zlm_le {ok : Nat → Bool} {c : Nat → Nat} {k : Nat} (h : ∀ j, j < k → c j ≤ 1000000) : zlm c (zba ok c k) ≤ 1000000 := by
  cases e : zba ok c k with
  | none => exact Nat.le_refl _
  | some b => exact h b (zba_of _ _ e).1
theorem m115 {sc : Nat × (Nat → Int32)} {d : Nat} {D : Nat → Nat → Int32} {G : Nat → Nat → Int64} {V : ZV} {U l : Nat} (s0 : D 80 98 = nI (zn V)) (se : ∀ p j, p < zn V → j < 10 → D 80 (13 * p + (j + 1)) = nI (ze V p j)) (hv : Valid V) (hU : U + 1 < 2 ^ zn V) (hl : l < zn V) (HT : TBM D V (U + 1)) : Cl sc (d + 2) 115 [.ref 79, .int (nI U), .int (nI l)] (hx_S0, D, G) (.inl (some (.int (nI (zFF V (2 ^ zn V - 1 - U) (some l)))))) (hx_S0, D, G) := by
  have h7 := hv.1
  have hz := z2n hv
  have hR : zRo V (2 ^ zn V - 1 - U) := zRo_lt hv (by omega)
  have hlo : ∀ y, some l = some y → y < zn V := fun y h => by cases h; exact hl
  have L : ∀ n i, zn V - i = n → i ≤ zn V → Rq sc (d + 2) 115 (6, [some (.ref 79), some (.int (nI U)), some (.int (nI l)), some (.int (nI (zlm (zcst V (2 ^ zn V - 1 - U) (some l)) (zba (fun x => (2 ^ zn V - 1 - U).testBit x) (zcst V (2 ^ zn V - 1 - U) (some l)) i)))), some (.int (nI i)), none], [], (hx_S0, D, G), 0) G (Qp (nI (zFF V (2 ^ zn V - 1 - U) (some l))) D) := by
    intro n
    induction n using Nat.strongRecOn with
    | _ n ih =>
    intro i hm hi
    have hzm := zlm_or (zcst V (2 ^ zn V - 1 - U) (some l)) (zba (fun x => (2 ^ zn V - 1 - U).testBit x) (zcst V (2 ^ zn V - 1 - U) (some l)) i)
    have hzb : zlm (zcst V (2 ^ zn V - 1 - U) (some l)) (zba (fun x => (2 ^ zn V - 1 - U).testBit x) (zcst V (2 ^ zn V - 1 - U) (some l)) i) ≤ 1000000 := zlm_le (fun j hj => by have := zcst_le hv hR hlo (x := j) (by omega); omega)
    refine Rq.b (fun _ => b115_6 (by (try simp (disch := omega) only [nI_add, nI_mulN, pk_sub, nI_clamp, Nat.reduceAdd, Nat.reduceMul, Nat.reduceSub, Nat.zero_add, Nat.add_zero, s0]); exact nI_inbT (by omega) (by omega))) (fun h6 => ?_) (fun h6 => ?_)
    · try simp (disch := omega) only [Int32.le_iff_toInt_le, Int32.lt_iff_toInt_lt, z_eq, z_nI, z_0, z_m1, z_sub, nI_add, nI_mulN, pk_sub, nI_clamp, Nat.reduceAdd, Nat.reduceMul, Nat.reduceSub, Nat.zero_add, Nat.add_zero, s0] at h6
      all_goals (try (exfalso; omega))
      all_goals
        refine Rq.e (b115_79) ?_
        refine Qp.i ?_
        rw [show i = zn V by omega]
        have h0 : 2 ^ zn V - 1 - U ≠ 0 := by omega
        have e6 := zFF_eq hv hR (l := some l) h0
        have e7 := zFF_le hv hR hlo
        have e8 : zla (zcst V (2 ^ zn V - 1 - U) (some l)) (zba (fun x => (2 ^ zn V - 1 - U).testBit x) (zcst V (2 ^ zn V - 1 - U) (some l)) (zn V)) = zla (zcst V (2 ^ zn V - 1 - U) (some l)) (zpk V (2 ^ zn V - 1 - U) (some l)) := rfl
        have e9 := zlm_or (zcst V (2 ^ zn V - 1 - U) (some l)) (zba (fun x => (2 ^ zn V - 1 - U).testBit x) (zcst V (2 ^ zn V - 1 - U) (some l)) (zn V))
        congr 1
        omega
    · try simp (disch := omega) only [Int32.le_iff_toInt_le, Int32.lt_iff_toInt_lt, z_eq, z_nI, z_0, z_m1, z_sub, nI_add, nI_mulN, pk_sub, nI_clamp, Nat.reduceAdd, Nat.reduceMul, Nat.reduceSub, Nat.zero_add, Nat.add_zero, s0] at h6
      all_goals (try (exfalso; omega))
      all_goals
        have hbi : (2 ^ zn V - 1 - U).testBit i = !U.testBit i := by rw [zcp_bit (by omega), decide_eq_true (show i < zn V by omega)]; rfl
        have bS := zB3 U (by omega) i (by omega)
        by_cases hb : ¬ U.testBit i = true
        · refine Rq.bt (fun _ => b115_18) (by rw [zB2 U (by omega) i (by omega), if_neg hb]; decide) ?_
          refine Rq.s (fun _ => b115_33 (by (try simp (disch := omega) only [nI_add, nI_mulN, pk_sub, nI_clamp, Nat.reduceAdd, Nat.reduceMul, Nat.reduceSub, Nat.zero_add, Nat.add_zero, s0]); exact m110e (d := d) se hv hl (by omega))) ?_
          have hub : U.testBit i = false := by rw [Bool.not_eq_true] at hb; exact hb
          obtain ⟨g1, g2, g3⟩ := zcp_clr hv (by omega) (show i < zn V by omega) hub
          have g4 := HT (zset U i) (by omega) g1 i (by omega)
          rw [← g3] at g4
          have hci := zcst_le hv hR hlo (x := i) (by omega)
          have hcs : (zcst V (2 ^ zn V - 1 - U) (some l)) i = zj V l i + zFF V (zclr (2 ^ zn V - 1 - U) i) (some i) := rfl
          have hz128 : zset U i < 128 := (zset_bit U (by omega) i (by omega)).1
          refine Rq.s (fun _ => b115_40 (by (try simp (disch := omega) only [nI_add, nI_mulN, pk_sub, nI_clamp, Nat.reduceAdd, Nat.reduceMul, Nat.reduceSub, Nat.zero_add, Nat.add_zero, s0, bS, g4]); exact nI_inbT (by omega) (by omega))) ?_
          try simp (disch := omega) only [nI_add, nI_mulN, pk_sub, nI_clamp, Nat.reduceAdd, Nat.reduceMul, Nat.reduceSub, Nat.zero_add, Nat.add_zero, s0, bS, g4]
          refine Rq.b (fun _ => b115_58) (fun h58 => ?_) (fun h58 => ?_)
          · try simp (disch := omega) only [Int32.le_iff_toInt_le, Int32.lt_iff_toInt_lt, z_eq, z_nI, z_0, z_m1, z_sub, nI_add, nI_mulN, pk_sub, nI_clamp, Nat.reduceAdd, Nat.reduceMul, Nat.reduceSub, Nat.zero_add, Nat.add_zero, s0, bS, g4] at h58
            all_goals (try (exfalso; omega))
            all_goals
              refine Rq.s (fun _ => b115_71) ?_
              refine Rq.s (fun _ => b115_72) ?_
              try simp (disch := omega) only [nI_add, nI_mulN, pk_sub, nI_clamp, Nat.reduceAdd, Nat.reduceMul, Nat.reduceSub, Nat.zero_add, Nat.add_zero, s0, bS, g4]
              by_cases c : (zcst V (2 ^ zn V - 1 - U) (some l)) i < zla (zcst V (2 ^ zn V - 1 - U) (some l)) (zba (fun x => (2 ^ zn V - 1 - U).testBit x) (zcst V (2 ^ zn V - 1 - U) (some l)) i)
              · have e := zba_T (ok := (fun x => (2 ^ zn V - 1 - U).testBit x)) (c := (zcst V (2 ^ zn V - 1 - U) (some l))) (k := i) (by show (2 ^ zn V - 1 - U).testBit i = true; rw [hbi, hub]; rfl) c
                have := ih _ (by omega) (i + 1) rfl (by omega)
                rw [e] at this
                have e5 : zlm (zcst V (2 ^ zn V - 1 - U) (some l)) (some i) = (zcst V (2 ^ zn V - 1 - U) (some l)) i := rfl
                rw [e5] at this
                first | (rw [hcs] at this; exact this) | (exfalso; omega)
              · have e := zba_F (ok := (fun x => (2 ^ zn V - 1 - U).testBit x)) (c := (zcst V (2 ^ zn V - 1 - U) (some l))) (k := i) (fun z => c z.2)
                have := ih _ (by omega) (i + 1) rfl (by omega)
                rw [e] at this
                first | exact this | (exfalso; omega) | (rw [show zlm (zcst V (2 ^ zn V - 1 - U) (some l)) (zba (fun x => (2 ^ zn V - 1 - U).testBit x) (zcst V (2 ^ zn V - 1 - U) (some l)) i) = zj V l i + zFF V (zclr (2 ^ zn V - 1 - U) i) (some i) by omega] at this; exact this)
          · try simp (disch := omega) only [Int32.le_iff_toInt_le, Int32.lt_iff_toInt_lt, z_eq, z_nI, z_0, z_m1, z_sub, nI_add, nI_mulN, pk_sub, nI_clamp, Nat.reduceAdd, Nat.reduceMul, Nat.reduceSub, Nat.zero_add, Nat.add_zero, s0, bS, g4] at h58
            all_goals (try (exfalso; omega))
            all_goals
              refine Rq.s (fun _ => b115_66) ?_
              refine Rq.s (fun _ => b115_72b) ?_
              try simp (disch := omega) only [nI_add, nI_mulN, pk_sub, nI_clamp, Nat.reduceAdd, Nat.reduceMul, Nat.reduceSub, Nat.zero_add, Nat.add_zero, s0, bS, g4]
              by_cases c : (zcst V (2 ^ zn V - 1 - U) (some l)) i < zla (zcst V (2 ^ zn V - 1 - U) (some l)) (zba (fun x => (2 ^ zn V - 1 - U).testBit x) (zcst V (2 ^ zn V - 1 - U) (some l)) i)
              · have e := zba_T (ok := (fun x => (2 ^ zn V - 1 - U).testBit x)) (c := (zcst V (2 ^ zn V - 1 - U) (some l))) (k := i) (by show (2 ^ zn V - 1 - U).testBit i = true; rw [hbi, hub]; rfl) c
                have := ih _ (by omega) (i + 1) rfl (by omega)
                rw [e] at this
                have e5 : zlm (zcst V (2 ^ zn V - 1 - U) (some l)) (some i) = (zcst V (2 ^ zn V - 1 - U) (some l)) i := rfl
                rw [e5] at this
                first | (rw [hcs] at this; exact this) | (exfalso; omega)
              · have e := zba_F (ok := (fun x => (2 ^ zn V - 1 - U).testBit x)) (c := (zcst V (2 ^ zn V - 1 - U) (some l))) (k := i) (fun z => c z.2)
                have := ih _ (by omega) (i + 1) rfl (by omega)
                rw [e] at this
                first | exact this | (exfalso; omega) | (rw [show zlm (zcst V (2 ^ zn V - 1 - U) (some l)) (zba (fun x => (2 ^ zn V - 1 - U).testBit x) (zcst V (2 ^ zn V - 1 - U) (some l)) i) = zj V l i + zFF V (zclr (2 ^ zn V - 1 - U) i) (some i) by omega] at this; exact this)
        · refine Rq.bf (fun _ => b115_18) (by rw [zB2 U (by omega) i (by omega), if_pos (Decidable.not_not.mp hb)]; exact fun z => z rfl) ?_
          refine Rq.s (fun _ => b115_28) ?_
          try simp (disch := omega) only [nI_add, nI_mulN, pk_sub, nI_clamp, Nat.reduceAdd, Nat.reduceMul, Nat.reduceSub, Nat.zero_add, Nat.add_zero, s0]
          refine Rq.b (fun _ => b115_58) (fun h58 => ?_) (fun h58 => ?_)
          · try simp (disch := omega) only [Int32.le_iff_toInt_le, Int32.lt_iff_toInt_lt, z_eq, z_nI, z_0, z_m1, z_sub, nI_add, nI_mulN, pk_sub, nI_clamp, Nat.reduceAdd, Nat.reduceMul, Nat.reduceSub, Nat.zero_add, Nat.add_zero, s0] at h58
            all_goals (try (exfalso; omega))
            all_goals
              refine Rq.s (fun _ => b115_71) ?_
              refine Rq.s (fun _ => b115_72) ?_
              try simp (disch := omega) only [nI_add, nI_mulN, pk_sub, nI_clamp, Nat.reduceAdd, Nat.reduceMul, Nat.reduceSub, Nat.zero_add, Nat.add_zero, s0]
              have e := zba_F (ok := (fun x => (2 ^ zn V - 1 - U).testBit x)) (c := (zcst V (2 ^ zn V - 1 - U) (some l))) (k := i) (fun z => by have z1 : (2 ^ zn V - 1 - U).testBit i = true := z.1; rw [hbi, Decidable.not_not.mp hb] at z1; cases z1)
              have := ih _ (by omega) (i + 1) rfl (by omega)
              rw [e] at this
              first | exact this | (exfalso; omega)
          · try simp (disch := omega) only [Int32.le_iff_toInt_le, Int32.lt_iff_toInt_lt, z_eq, z_nI, z_0, z_m1, z_sub, nI_add, nI_mulN, pk_sub, nI_clamp, Nat.reduceAdd, Nat.reduceMul, Nat.reduceSub, Nat.zero_add, Nat.add_zero, s0] at h58
            all_goals (try (exfalso; omega))
            all_goals
              refine Rq.s (fun _ => b115_66) ?_
              refine Rq.s (fun _ => b115_72b) ?_
              try simp (disch := omega) only [nI_add, nI_mulN, pk_sub, nI_clamp, Nat.reduceAdd, Nat.reduceMul, Nat.reduceSub, Nat.zero_add, Nat.add_zero, s0]
              have e := zba_F (ok := (fun x => (2 ^ zn V - 1 - U).testBit x)) (c := (zcst V (2 ^ zn V - 1 - U) (some l))) (k := i) (fun z => by have z1 : (2 ^ zn V - 1 - U).testBit i = true := z.1; rw [hbi, Decidable.not_not.mp hb] at z1; cases z1)
              have := ih _ (by omega) (i + 1) rfl (by omega)
              rw [e] at this
              first | exact this | (exfalso; omega)
  refine Cq.p ?_
  refine Cq.c (fun _ _ _ => c115) ?_
  refine Rq.s (fun _ => b115_0) ?_
  try simp (disch := omega) only [nI_add, nI_mulN, pk_sub, nI_clamp, Nat.reduceAdd, Nat.reduceMul, Nat.reduceSub, Nat.zero_add, Nat.add_zero]
  exact L _ 0 rfl (by omega)
theorem m114 {sc : Nat × (Nat → Int32)} {d : Nat} {D : Nat → Nat → Int32} {G : Nat → Nat → Int64} {V : ZV} (s0 : D 80 98 = nI (zn V)) (se : ∀ p j, p < zn V → j < 10 → D 80 (13 * p + (j + 1)) = nI (ze V p j)) (hv : Valid V) : Cq sc (d + 3) 114 [.ref 79] D G (fun r D2 => r = .inl (some (.int (nI (zleast V)))) ∧ TBM D2 V 1 ∧ ∀ a, a ≠ 85 → D2 a = D a) := by
  have h7 := hv.1
  have hz := z2n hv
  have b4 := zB4 (zn V) (by omega)
  have hR : zRo V (2 ^ zn V - 1) := zRo_lt hv (Nat.le_refl _)
  have hno : ∀ y, (none : Option Nat) = some y → y < zn V := fun y h => by cases h
  have P : ∀ n i D3, zn V - i = n → i ≤ zn V → (∀ a, a ≠ 85 → D3 a = D a) → TBM D3 V 1 → Rq sc (d + 3) 114 (74, [some (.ref 79), some (.int (nI (zn V))), none, some (.int (nI (if i = 0 then 0 else zla (zcst V (2 ^ zn V - 1) none) (zba (fun x => (2 ^ zn V - 1).testBit x) (zcst V (2 ^ zn V - 1) none) i)))), some (.int (nI i)), none], [], (hx_S0, D3, G), 0) G (fun r D2 => r = .inl (some (.int (nI (zleast V)))) ∧ TBM D2 V 1 ∧ ∀ a, a ≠ 85 → D2 a = D a) := by
    intro n
    induction n using Nat.strongRecOn with
    | _ n ih =>
    intro i D3 hm hi hI HT
    have hzl : zla (zcst V (2 ^ zn V - 1) none) (zba (fun x => (2 ^ zn V - 1).testBit x) (zcst V (2 ^ zn V - 1) none) i) < 2 ^ 31 := zla_lt (B := 304) (fun j hj _ => zcst_le hv hR hno (by omega)) (by omega)
    by_cases hx : zn V ≤ i
    · refine Rq.bt (fun _ => b114_74) (nI_le hx (by omega)) ?_
      refine Rq.e (b114_121) ?_
      refine ⟨?_, HT, hI⟩
      rw [show i = zn V by omega]
      by_cases h : zn V = 0
      · rw [if_pos h]
        have : zleast V = 0 := by show zFF V (2 ^ zn V - 1) none = 0; rw [h]; exact zFF_0 V none
        rw [this]
      · rw [if_neg h]
        have h0 : 2 ^ zn V - 1 ≠ 0 := by have : 2 ^ 1 ≤ 2 ^ zn V := Nat.pow_le_pow_right (by omega) (by omega); omega
        have : zleast V = zla (zcst V (2 ^ zn V - 1) none) (zba (fun x => (2 ^ zn V - 1).testBit x) (zcst V (2 ^ zn V - 1) none) (zn V)) := zFF_eq hv hR h0
        rw [this]
    · refine Rq.bf (fun _ => b114_74) (nI_ge (by omega) (by omega)) ?_
      have b5 := zB5 i (by omega)
      have hp2 : 2 ^ i < 2 ^ zn V := Nat.pow_lt_pow_right (by omega) (by omega)
      have hp0 : 0 < 2 ^ i := Nat.two_pow_pos i
      have hRi : (2 ^ zn V - 1).testBit i = true := by have := (zall_bit (zn V) (by omega)).2.2 i (by omega); rw [this, decide_eq_true]; omega
      have g3 : zclr (2 ^ zn V - 1) i = 2 ^ zn V - 1 - 2 ^ i := by unfold zclr; rw [if_pos hRi]
      have g4 := HT (2 ^ i) (by omega) hp2 i (by omega)
      rw [← g3] at g4
      have hci := zcst_le hv hR hno (x := i) (by omega)
      have hcs : (zcst V (2 ^ zn V - 1) none) i = zFF V (zclr (2 ^ zn V - 1) i) (some i) := Nat.zero_add _
      by_cases hi0 : i = 0
      · refine Rq.bt (fun _ => b114_80 (by (try simp (disch := omega) only [nI_add, nI_mulN, pk_sub, nI_clamp, Nat.reduceAdd, Nat.reduceMul, Nat.reduceSub, Nat.zero_add, Nat.add_zero, b5, g4]); exact nI_inbT (by omega) (by omega))) (by rw [hi0]; rfl) ?_
        try simp (disch := omega) only [nI_add, nI_mulN, pk_sub, nI_clamp, Nat.reduceAdd, Nat.reduceMul, Nat.reduceSub, Nat.zero_add, Nat.add_zero, b5, g4]
        refine Rq.s (fun _ => b114_108) ?_
        refine Rq.s (fun _ => b114_114) ?_
        try simp (disch := omega) only [nI_add, nI_mulN, pk_sub, nI_clamp, Nat.reduceAdd, Nat.reduceMul, Nat.reduceSub, Nat.zero_add, Nat.add_zero, b5, g4]
        have hc3 : (zcst V (2 ^ zn V - 1) none) i < zla (zcst V (2 ^ zn V - 1) none) (zba (fun x => (2 ^ zn V - 1).testBit x) (zcst V (2 ^ zn V - 1) none) i) := by
          by_cases h : i = 0
          · subst h
            have : zla (zcst V (2 ^ zn V - 1) none) (zba (fun x => (2 ^ zn V - 1).testBit x) (zcst V (2 ^ zn V - 1) none) 0) = 1000 := rfl
            omega
          · omega
        have e := zba_T (ok := (fun x => (2 ^ zn V - 1).testBit x)) (c := (zcst V (2 ^ zn V - 1) none)) (k := i) hRi hc3
        have := ih _ (by omega) (i + 1) D3 rfl (by omega) hI HT
        rw [e, if_neg (by omega)] at this
        have e5 : zla (zcst V (2 ^ zn V - 1) none) (some i) = (zcst V (2 ^ zn V - 1) none) i := rfl
        rw [e5, hcs] at this
        exact this
      · refine Rq.bf (fun _ => b114_80 (by (try simp (disch := omega) only [nI_add, nI_mulN, pk_sub, nI_clamp, Nat.reduceAdd, Nat.reduceMul, Nat.reduceSub, Nat.zero_add, Nat.add_zero, b5, g4]); exact nI_inbT (by omega) (by omega))) (by rw [z_eq, z_nI (by omega), z_0]; omega) ?_
        try simp (disch := omega) only [nI_add, nI_mulN, pk_sub, nI_clamp, Nat.reduceAdd, Nat.reduceMul, Nat.reduceSub, Nat.zero_add, Nat.add_zero, b5, g4]
        by_cases hc2 : zla (zcst V (2 ^ zn V - 1) none) (zba (fun x => (2 ^ zn V - 1).testBit x) (zcst V (2 ^ zn V - 1) none) i) ≤ (zcst V (2 ^ zn V - 1) none) i
        · refine Rq.bt (fun _ => b114_102) (by rw [← hcs, if_neg hi0]; exact nI_le hc2 (by omega)) ?_
          refine Rq.s (fun _ => b114_113) ?_
          refine Rq.s (fun _ => b114_114b) ?_
          try simp (disch := omega) only [nI_add, nI_mulN, pk_sub, nI_clamp, Nat.reduceAdd, Nat.reduceMul, Nat.reduceSub, Nat.zero_add, Nat.add_zero, b5, g4]
          have e := zba_F (ok := (fun x => (2 ^ zn V - 1).testBit x)) (c := (zcst V (2 ^ zn V - 1) none)) (k := i) (fun z => by have := z.2; omega)
          have := ih _ (by omega) (i + 1) D3 rfl (by omega) hI HT
          rw [e, if_neg (by omega)] at this
          rw [if_neg hi0]
          exact this
        · refine Rq.bf (fun _ => b114_102) (by rw [← hcs, if_neg hi0]; exact nI_ge (by omega) (by omega)) ?_
          refine Rq.s (fun _ => b114_108) ?_
          refine Rq.s (fun _ => b114_114) ?_
          try simp (disch := omega) only [nI_add, nI_mulN, pk_sub, nI_clamp, Nat.reduceAdd, Nat.reduceMul, Nat.reduceSub, Nat.zero_add, Nat.add_zero, b5, g4]
          have hc3 : (zcst V (2 ^ zn V - 1) none) i < zla (zcst V (2 ^ zn V - 1) none) (zba (fun x => (2 ^ zn V - 1).testBit x) (zcst V (2 ^ zn V - 1) none) i) := by
            by_cases h : i = 0
            · subst h
              have : zla (zcst V (2 ^ zn V - 1) none) (zba (fun x => (2 ^ zn V - 1).testBit x) (zcst V (2 ^ zn V - 1) none) 0) = 1000 := rfl
              omega
            · omega
          have e := zba_T (ok := (fun x => (2 ^ zn V - 1).testBit x)) (c := (zcst V (2 ^ zn V - 1) none)) (k := i) hRi hc3
          have := ih _ (by omega) (i + 1) D3 rfl (by omega) hI HT
          rw [e, if_neg (by omega)] at this
          have e5 : zla (zcst V (2 ^ zn V - 1) none) (some i) = (zcst V (2 ^ zn V - 1) none) i := rfl
          rw [e5, hcs] at this
          exact this
  have L : ∀ s D3, s < 2 ^ zn V → (∀ a, a ≠ 85 → D3 a = D a) → TBM D3 V (s + 1) → Rq sc (d + 3) 114 (16, [some (.ref 79), some (.int (nI (zn V))), some (.int (nI (2 ^ zn V - 1))), some (.int (nI s)), none, none], [], (hx_S0, D3, G), 0) G (fun r D2 => r = .inl (some (.int (nI (zleast V)))) ∧ TBM D2 V 1 ∧ ∀ a, a ≠ 85 → D2 a = D a) := by
    intro s
    induction s with
    | zero =>
      intro D3 hs hI HT
      refine Rq.bt (fun _ => b114_16) (by decide) ?_
      refine Rq.s (fun _ => b114_69) ?_
      try simp (disch := omega) only [nI_add, nI_mulN, pk_sub, nI_clamp, Nat.reduceAdd, Nat.reduceMul, Nat.reduceSub, Nat.zero_add, Nat.add_zero]
      exact P _ 0 D3 rfl (by omega) hI HT
    | succ s ihs =>
      intro D3 hs hI HT
      have M : ∀ n l D4, zn V - l = n → l ≤ zn V → (∀ a, a ≠ 85 → D4 a = D a) → TBM D4 V (s + 1 + 1) → (∀ k, k < l → D4 85 (7 * (s + 1) + k) = nI (zFF V (2 ^ zn V - 1 - (s + 1)) (some k))) → Rq sc (d + 3) 114 (23, [some (.ref 79), some (.int (nI (zn V))), some (.int (nI (2 ^ zn V - 1))), some (.int (nI (s + 1))), some (.int (nI l)), none], [], (hx_S0, D4, G), 0) G (fun r D2 => r = .inl (some (.int (nI (zleast V)))) ∧ TBM D2 V 1 ∧ ∀ a, a ≠ 85 → D2 a = D a) := by
        intro n
        induction n using Nat.strongRecOn with
        | _ n ih =>
        intro l D4 hm hl hI4 HT4 hC
        by_cases hx : zn V ≤ l
        · refine Rq.bt (fun _ => b114_23) (nI_le hx (by omega)) ?_
          refine Rq.s (fun _ => b114_63) ?_
          try simp (disch := omega) only [nI_add, nI_mulN, pk_sub, nI_clamp, Nat.reduceAdd, Nat.reduceMul, Nat.reduceSub, Nat.zero_add, Nat.add_zero]
          rw [pk_m1s (by omega), Nat.add_sub_cancel]
          refine ihs D4 (by omega) hI4 (fun U h1 h2 k h3 => ?_)
          by_cases c : U = s + 1
          · rw [c]; exact hC k (by omega)
          · exact HT4 U (by omega) h2 k h3
        · refine Rq.bf (fun _ => b114_23) (nI_ge (by omega) (by omega)) ?_
          by_cases he : ¬ s + 1 = 2 ^ zn V - 1
          · refine Rq.bt (fun _ => b114_29) (by rw [z_eq, z_nI (by omega), z_nI (by omega)]; omega) ?_
            try simp (disch := omega) only [nI_add, nI_mulN, pk_sub, nI_clamp, Nat.reduceAdd, Nat.reduceMul, Nat.reduceSub, Nat.zero_add, Nat.add_zero]
            refine Rq.s (fun _ => b114_49 (by (try simp (disch := omega) only [nI_add, nI_mulN, pk_sub, nI_clamp, Nat.reduceAdd, Nat.reduceMul, Nat.reduceSub, Nat.zero_add, Nat.add_zero]); exact m115 (d := d) (by rw [hI4 80 (by omega)]; exact s0) (fun p j a b => by rw [hI4 80 (by omega)]; exact se p j a b) hv (by omega) (by omega) HT4)) ?_
            refine Rq.s (fun _ => b114_56 (by (try simp (disch := omega) only [nI_add, nI_mulN, pk_sub, nI_clamp, Nat.reduceAdd, Nat.reduceMul, Nat.reduceSub, Nat.zero_add, Nat.add_zero]); exact nI_inbT (by omega) (by omega))) ?_
            try simp (disch := omega) only [nI_add, nI_mulN, pk_sub, nI_clamp, Nat.reduceAdd, Nat.reduceMul, Nat.reduceSub, Nat.zero_add, Nat.add_zero]
            refine ih _ (by omega) (l + 1) _ rfl (by omega) (fun a ha => by rw [hx_up_ne ha]; exact hI4 a ha) (fun U h1 h2 k h3 => by rw [hx_up_in _ _ _ (by omega)]; exact HT4 U h1 h2 k h3) (fun k hk => ?_)
            by_cases c : k = l
            · rw [c, hx_up_s]
            · rw [hx_up_in _ _ _ (by omega)]
              exact hC k (by omega)
          · refine Rq.bf (fun _ => b114_29) (by rw [z_eq, z_nI (by omega), z_nI (by omega)]; omega) ?_
            try simp (disch := omega) only [nI_add, nI_mulN, pk_sub, nI_clamp, Nat.reduceAdd, Nat.reduceMul, Nat.reduceSub, Nat.zero_add, Nat.add_zero]
            refine Rq.s (fun _ => b114_45) ?_
            try simp (disch := omega) only [nI_add, nI_mulN, pk_sub, nI_clamp, Nat.reduceAdd, Nat.reduceMul, Nat.reduceSub, Nat.zero_add, Nat.add_zero]
            refine Rq.s (fun _ => b114_56 (by (try simp (disch := omega) only [nI_add, nI_mulN, pk_sub, nI_clamp, Nat.reduceAdd, Nat.reduceMul, Nat.reduceSub, Nat.zero_add, Nat.add_zero]); exact nI_inbT (by omega) (by omega))) ?_
            try simp (disch := omega) only [nI_add, nI_mulN, pk_sub, nI_clamp, Nat.reduceAdd, Nat.reduceMul, Nat.reduceSub, Nat.zero_add, Nat.add_zero]
            refine ih _ (by omega) (l + 1) _ rfl (by omega) (fun a ha => by rw [hx_up_ne ha]; exact hI4 a ha) (fun U h1 h2 k h3 => by rw [hx_up_in _ _ _ (by omega)]; exact HT4 U h1 h2 k h3) (fun k hk => ?_)
            by_cases c : k = l
            · rw [c, hx_up_s, show 2 ^ zn V - 1 - (s + 1) = 0 by omega, zFF_0]
            · rw [hx_up_in _ _ _ (by omega)]
              exact hC k (by omega)
      refine Rq.bf (fun _ => b114_16) (by rw [Int32.le_iff_toInt_le, z_nI (by omega), z_0]; omega) ?_
      refine Rq.s (fun _ => b114_20) ?_
      try simp (disch := omega) only [nI_add, nI_mulN, pk_sub, nI_clamp, Nat.reduceAdd, Nat.reduceMul, Nat.reduceSub, Nat.zero_add, Nat.add_zero]
      exact M _ 0 D3 rfl (by omega) hI HT (fun k hk => absurd hk (Nat.not_lt_zero _))
  refine Cq.c (fun _ _ _ => c114) ?_
  refine Rq.s (fun _ => b114_0 (by (try simp (disch := omega) only [nI_add, nI_mulN, pk_sub, nI_clamp, Nat.reduceAdd, Nat.reduceMul, Nat.reduceSub, Nat.zero_add, Nat.add_zero, s0, b4]); exact nI_inbT (by omega) (by omega))) ?_
  try simp (disch := omega) only [nI_add, nI_mulN, pk_sub, nI_clamp, Nat.reduceAdd, Nat.reduceMul, Nat.reduceSub, Nat.zero_add, Nat.add_zero, s0, b4]
  exact L _ D (by omega) (fun a _ => rfl) (fun U h1 h2 => absurd h1 (by omega))
theorem iI_m1 (z : Int) : iI z + (-1) = iI (z - 1) := by
  show iI z + iI (-1) = _
  rw [iI_add]
  rfl
def QS (V : ZV) (D : Nat → Nat → Int32) : hx_RS → (Nat → Nat → Int32) → Prop := fun r D2 => r = .inl none ∧ (∀ i, i < zn V → D2 80 (91 + i) = nI (zbr V i)) ∧ (∀ j, j < 91 ∨ 98 ≤ j → D2 80 j = D 80 j) ∧ ∀ a, a ≠ 85 → a ≠ 80 → D2 a = D a
theorem zks_U {V : ZV} (hv : Valid V) {k : Nat} (hk : k ≤ zn V) : (zks V k).1 < 2 ^ zn V := by
  have h7 := hv.1
  have hz := z2n hv
  obtain ⟨g1, g2, g3, g4⟩ := zks_ok hv k hk
  refine Nat.lt_pow_two_of_testBit _ (fun i hi => ?_)
  by_cases c : i < 7
  · refine Bool.eq_false_iff.mpr (fun z => ?_)
    have := g1.2 i c z
    omega
  · exact Nat.testBit_lt_two_pow (Nat.lt_of_lt_of_le g1.1 (Nat.pow_le_pow_right (n := 2) (by omega) (show 7 ≤ i by omega)))
theorem m116 {sc : Nat × (Nat → Int32)} {d : Nat} {D : Nat → Nat → Int32} {G : Nat → Nat → Int64} {V : ZV} (s0 : D 80 98 = nI (zn V)) (se : ∀ p j, p < zn V → j < 10 → D 80 (13 * p + (j + 1)) = nI (ze V p j)) (hv : Valid V) : Cq sc (d + 4) 116 [.ref 79] D G (QS V D) := by
  have h7 := hv.1
  have hz := z2n hv
  have L : ∀ n k D3, zn V - k = n → k ≤ zn V → (∀ a, a ≠ 85 → a ≠ 80 → D3 a = D a) → (∀ j, j < 91 ∨ 98 ≤ j → D3 80 j = D 80 j) → TBM D3 V 1 → (∀ i, i < k → D3 80 (91 + i) = nI (zbr V i)) → Rq sc (d + 4) 116 (9, [some (.ref 79), some (.int (nI (zFF V (zks V k).1 (zks V k).2))), some (.int (nI (2 ^ zn V - 1 - (zks V k).1))), some (.int (nI k)), none, none, none, none], [], (hx_S0, D3, G), 0) G (QS V D) := by
    intro n
    induction n using Nat.strongRecOn with
    | _ n ih =>
    intro k D3 hn hk hI h80 HT hC
    have s3 : D3 80 98 = nI (zn V) := by rw [h80 98 (by omega)]; exact s0
    have se3 : ∀ p j, p < zn V → j < 10 → D3 80 (13 * p + (j + 1)) = nI (ze V p j) := fun p j a b => by rw [h80 _ (by omega)]; exact se p j a b
    have hUl := zks_U hv hk
    obtain ⟨g1, g2, g3, g4⟩ := zks_ok hv k hk
    have gk1 := g1.1
    have J : k < zn V → ∀ i y, i ≤ zn V → (i ≤ zbr V k → y = nI (zbr V k)) → Rq sc (d + 4) 116 (34, [some (.ref 79), some (.int (nI (zFF V (zks V k).1 (zks V k).2))), some (.int (nI (2 ^ zn V - 1 - (zks V k).1))), some (.int (nI k)), some (.int y), some (.int (iI ((i : Int) - 1))), none, none], [], (hx_S0, D3, G), 0) G (QS V D) := by
      intro hkn i
      obtain ⟨k1, k2, k3, k4, k5⟩ := zbr_ok hv hkn
      have hfb := zFF_le hv g1 g3
      have hJ0 : ∀ p, k = 0 → zcst V (zks V k).1 (zks V k).2 p = 0 + zFF V (zclr (zks V k).1 p) (some p) := fun p h => by subst h; rfl
      have hJ1 : ∀ p, k ≠ 0 → zcst V (zks V k).1 (zks V k).2 p = zj V (zbr V (k - 1)) p + zFF V (zclr (zks V k).1 p) (some p) := fun p h => by
        obtain ⟨k, rfl⟩ : ∃ q, k = q + 1 := ⟨k - 1, by omega⟩
        have := (zbr_ok hv (show k < zn V by omega)).2.2.2.2
        rw [this]
        rfl
      have hC1 : k ≠ 0 → D3 80 (91 + k - 1) = nI (zbr V (k - 1)) ∧ zbr V (k - 1) < zn V := fun h => by
        refine ⟨?_, (zbr_ok hv (show k - 1 < zn V by omega)).2.1⟩
        rw [show 91 + k - 1 = 91 + (k - 1) by omega]
        exact hC (k - 1) (by omega)
      induction i with
      | zero =>
        intro y hi hy
        have hy0 := hy (Nat.zero_le _)
        subst hy0
        refine Rq.bt (fun _ => b116_34) (by rw [Int32.lt_iff_toInt_lt, z_iI (by omega) (by omega), z_0]; omega) ?_
        by_cases hk0 : ¬ k = 0
        · refine Rq.bt (fun _ => b116_126) (by rw [z_eq, z_nI (by omega), z_0]; omega) ?_
          obtain ⟨hc1, hc2⟩ := hC1 hk0
          have hlft := hJ1 (zbr V k) hk0
          refine Rq.s (fun _ => b116_135) ?_
          refine Rq.s (fun _ => b116_140) ?_
          try simp (disch := omega) only [nI_add, nI_mulN, pk_sub, nI_clamp, Nat.reduceAdd, Nat.reduceMul, Nat.reduceSub, Nat.zero_add, Nat.add_zero, hc1]
          refine Rq.s (fun _ => b116_144 (by (try simp (disch := omega) only [nI_add, nI_mulN, pk_sub, nI_clamp, Nat.reduceAdd, Nat.reduceMul, Nat.reduceSub, Nat.zero_add, Nat.add_zero, hc1]); exact nI_inbT (by omega) (by omega))) ?_
          try simp (disch := omega) only [nI_add, nI_mulN, pk_sub, nI_clamp, Nat.reduceAdd, Nat.reduceMul, Nat.reduceSub, Nat.zero_add, Nat.add_zero, hc1]
          refine Rq.s (fun _ => b116_147 (by (try simp (disch := omega) only [nI_add, nI_mulN, pk_sub, nI_clamp, Nat.reduceAdd, Nat.reduceMul, Nat.reduceSub, Nat.zero_add, Nat.add_zero, hc1]); exact m110e (d := d + 2) se3 hv hc2 k2)) ?_
          refine Rq.s (fun _ => b116_152b) ?_
          try simp (disch := omega) only [nI_add, nI_mulN, pk_sub, nI_clamp, Nat.reduceAdd, Nat.reduceMul, Nat.reduceSub, Nat.zero_add, Nat.add_zero, hc1]
          skip
          obtain ⟨u1, u2, u3⟩ := zcp_clr hv (U := 2 ^ zn V - 1 - (zks V k).1) (by omega) k2 (by rw [zcp_bit hUl, k3, decide_eq_true k2]; rfl)
          rw [show 2 ^ zn V - 1 - (2 ^ zn V - 1 - (zks V k).1) = (zks V k).1 by omega] at u3
          have bSk := zB3 (2 ^ zn V - 1 - (zks V k).1) (by omega) (zbr V k) (by omega)
          have hv9 : zFF V (zks V k).1 (zks V k).2 - zj V (zbr V (k - 1)) (zbr V k) = zFF V (zks V (k + 1)).1 (zks V (k + 1)).2 := by rw [k5]; show _ = zFF V (zclr (zks V k).1 (zbr V k)) (some (zbr V k)); omega
          have hU9 : zset (2 ^ zn V - 1 - (zks V k).1) (zbr V k) = 2 ^ zn V - 1 - (zks V (k + 1)).1 := by rw [k5]; show _ = 2 ^ zn V - 1 - zclr (zks V k).1 (zbr V k); omega
          rw [hv9]
          refine Rq.s (fun _ => b116_155) ?_
          refine Rq.s (fun _ => b116_161 (by rw [nI_add]; exact nI_inbT (by omega) (by omega))) ?_
          refine Rq.s (fun _ => b116_165) ?_
          refine Rq.s (fun _ => b116_169) ?_
          refine Rq.s (fun _ => b116_172) ?_
          rw [nI_add 91 k, nI_clamp (show 91 + k < 2 ^ 31 by omega), bSk, nI_add k 1, hU9]
          refine ih _ (by omega) (k + 1) (hx_up D3 80 (91 + k) (nI (zbr V k))) rfl (by omega) (fun a a1 a2 => by rw [hx_up_ne a2]; exact hI a a1 a2) (fun j hj => by rw [hx_up_in _ _ _ (by omega)]; exact h80 j hj) (fun U a b l c => by rw [hx_up_ne (by omega)]; exact HT U a b l c) (fun q hq => ?_)
          by_cases c : q = k
          · rw [c, hx_up_s]
          · rw [hx_up_in _ _ _ (by omega)]
            exact hC q (by omega)
        · refine Rq.bf (fun _ => b116_126) (by rw [z_eq, z_nI (by omega), z_0]; omega) ?_
          refine Rq.s (fun _ => b116_131) ?_
          try simp (disch := omega) only [nI_add, nI_mulN, pk_sub, nI_clamp, Nat.reduceAdd, Nat.reduceMul, Nat.reduceSub, Nat.zero_add, Nat.add_zero]
          refine Rq.s (fun _ => b116_152) ?_
          try simp (disch := omega) only [nI_add, nI_mulN, pk_sub, nI_clamp, Nat.reduceAdd, Nat.reduceMul, Nat.reduceSub, Nat.zero_add, Nat.add_zero]
          have hlft := hJ0 (zbr V k) (by omega)
          obtain ⟨u1, u2, u3⟩ := zcp_clr hv (U := 2 ^ zn V - 1 - (zks V k).1) (by omega) k2 (by rw [zcp_bit hUl, k3, decide_eq_true k2]; rfl)
          rw [show 2 ^ zn V - 1 - (2 ^ zn V - 1 - (zks V k).1) = (zks V k).1 by omega] at u3
          have bSk := zB3 (2 ^ zn V - 1 - (zks V k).1) (by omega) (zbr V k) (by omega)
          have hv9 : zFF V (zks V k).1 (zks V k).2 - 0 = zFF V (zks V (k + 1)).1 (zks V (k + 1)).2 := by rw [k5]; show _ = zFF V (zclr (zks V k).1 (zbr V k)) (some (zbr V k)); omega
          have hU9 : zset (2 ^ zn V - 1 - (zks V k).1) (zbr V k) = 2 ^ zn V - 1 - (zks V (k + 1)).1 := by rw [k5]; show _ = 2 ^ zn V - 1 - zclr (zks V k).1 (zbr V k); omega
          rw [hv9]
          refine Rq.s (fun _ => b116_155) ?_
          refine Rq.s (fun _ => b116_161 (by rw [nI_add]; exact nI_inbT (by omega) (by omega))) ?_
          refine Rq.s (fun _ => b116_165) ?_
          refine Rq.s (fun _ => b116_169) ?_
          refine Rq.s (fun _ => b116_172) ?_
          rw [nI_add 91 k, nI_clamp (show 91 + k < 2 ^ 31 by omega), bSk, nI_add k 1, hU9]
          refine ih _ (by omega) (k + 1) (hx_up D3 80 (91 + k) (nI (zbr V k))) rfl (by omega) (fun a a1 a2 => by rw [hx_up_ne a2]; exact hI a a1 a2) (fun j hj => by rw [hx_up_in _ _ _ (by omega)]; exact h80 j hj) (fun U a b l c => by rw [hx_up_ne (by omega)]; exact HT U a b l c) (fun q hq => ?_)
          by_cases c : q = k
          · rw [c, hx_up_s]
          · rw [hx_up_in _ _ _ (by omega)]
            exact hC q (by omega)
      | succ i ihi =>
        intro y hi hy
        have hUi : (2 ^ zn V - 1 - (zks V k).1).testBit i = !(zks V k).1.testBit i := by rw [zcp_bit hUl, decide_eq_true (show i < zn V by omega)]; rfl
        have ei : ((i + 1 : Nat) : Int) - 1 = (i : Int) := by omega
        rw [ei]
        rw [← i_nI]
        have em : nI i + (-1) = iI ((i : Int) - 1) := by rw [i_nI, iI_m1]
        have bS := zB3 (2 ^ zn V - 1 - (zks V k).1) (by omega) i (by omega)
        have b2 := zB2 (2 ^ zn V - 1 - (zks V k).1) (by omega) i (by omega)
        have hci := zcst_le hv g1 g3 (x := i) (by omega)
        have NO : i ≠ zbr V k → (i ≤ zbr V k → y = nI (zbr V k)) := fun a b => hy (by omega)
        have YES : (zks V k).1.testBit i = true → zFF V (zks V k).1 (zks V k).2 = zcst V (zks V k).1 (zks V k).2 i → (i ≤ zbr V k → nI i = nI (zbr V k)) := fun a b c => by
          by_cases e : i = zbr V k
          · rw [e]
          · have := zba_first (ok := fun x => (zks V k).1.testBit x) (c := zcst V (zks V k).1 (zks V k).2) (zn V) (zbr V k) k1 i (by omega) a
            omega
        have BIT : (zks V k).1.testBit i = true → 2 ^ zn V - 1 - (zks V k).1 < 2 ^ zn V ∧ zset (2 ^ zn V - 1 - (zks V k).1) i < 128 ∧ D3 85 (7 * zset (2 ^ zn V - 1 - (zks V k).1) i + i) = nI (zFF V (zclr (zks V k).1 i) (some i)) := fun a => by
          have q1 : (2 ^ zn V - 1 - (zks V k).1).testBit i = false := by rw [hUi, a]; rfl
          obtain ⟨q2, q3, q4⟩ := zcp_clr hv (U := 2 ^ zn V - 1 - (zks V k).1) (by omega) (show i < zn V by omega) q1
          have q5 := HT _ (by omega) q2 i (by omega)
          rw [show 2 ^ zn V - 1 - (2 ^ zn V - 1 - (zks V k).1) = (zks V k).1 by omega] at q4
          rw [← q4] at q5
          exact ⟨by omega, (zset_bit _ (by omega) i (by omega)).1, q5⟩
        refine Rq.bf (fun _ => b116_34) (by rw [Int32.lt_iff_toInt_lt, z_nI (by omega), z_0]; omega) ?_
        by_cases hk0 : ¬ k = 0
        · refine Rq.bt (fun _ => b116_39) (by rw [z_eq, z_nI (by omega), z_0]; omega) ?_
          obtain ⟨hc1, hc2⟩ := hC1 hk0
          have hcs := hJ1 i hk0
          refine Rq.s (fun _ => b116_47) ?_
          refine Rq.s (fun _ => b116_52) ?_
          try simp (disch := omega) only [nI_add, nI_mulN, pk_sub, nI_clamp, Nat.reduceAdd, Nat.reduceMul, Nat.reduceSub, Nat.zero_add, Nat.add_zero, em, b2, bS, hc1]
          refine Rq.s (fun _ => b116_56 (by (try simp (disch := omega) only [nI_add, nI_mulN, pk_sub, nI_clamp, Nat.reduceAdd, Nat.reduceMul, Nat.reduceSub, Nat.zero_add, Nat.add_zero, em, b2, bS, hc1]); exact nI_inbT (by omega) (by omega))) ?_
          try simp (disch := omega) only [nI_add, nI_mulN, pk_sub, nI_clamp, Nat.reduceAdd, Nat.reduceMul, Nat.reduceSub, Nat.zero_add, Nat.add_zero, em, b2, bS, hc1]
          refine Rq.s (fun _ => b116_59 (by (try simp (disch := omega) only [nI_add, nI_mulN, pk_sub, nI_clamp, Nat.reduceAdd, Nat.reduceMul, Nat.reduceSub, Nat.zero_add, Nat.add_zero, em, b2, bS, hc1]); exact m110e (d := d + 2) se3 hv hc2 (by omega))) ?_
          refine Rq.s (fun _ => b116_64) ?_
          refine Rq.s (fun _ => b116_69) ?_
          try simp (disch := omega) only [nI_add, nI_mulN, pk_sub, nI_clamp, Nat.reduceAdd, Nat.reduceMul, Nat.reduceSub, Nat.zero_add, Nat.add_zero, em, b2, bS, hc1]
          by_cases hb : (2 ^ zn V - 1 - (zks V k).1).testBit i = true
          · refine Rq.bt (fun _ => b116_72) (by rw [if_pos hb]; decide) ?_
            refine Rq.s (fun _ => b116_103) ?_
            try simp (disch := omega) only [nI_add, nI_mulN, pk_sub, nI_clamp, Nat.reduceAdd, Nat.reduceMul, Nat.reduceSub, Nat.zero_add, Nat.add_zero, em, b2, bS, hc1]
            refine Rq.b (fun _ => b116_104) (fun h104 => ?_) (fun h104 => ?_)
            · try simp (disch := omega) only [Int32.le_iff_toInt_le, Int32.lt_iff_toInt_lt, z_eq, z_nI, z_0, z_m1, z_sub, z_iI, nI_add, nI_mulN, pk_sub, nI_clamp, Nat.reduceAdd, Nat.reduceMul, Nat.reduceSub, Nat.zero_add, Nat.add_zero, em, b2, bS, hc1] at h104
              all_goals (try (exfalso; omega))
              all_goals
                refine Rq.s (fun _ => b116_116) ?_
                refine Rq.s (fun _ => b116_118) ?_
                try simp (disch := omega) only [nI_add, nI_mulN, pk_sub, nI_clamp, Nat.reduceAdd, Nat.reduceMul, Nat.reduceSub, Nat.zero_add, Nat.add_zero, em, b2, bS, hc1]
                exact ihi y (by omega) (NO (fun e => by rw [hUi, e, k3] at hb; cases hb))
            · try simp (disch := omega) only [Int32.le_iff_toInt_le, Int32.lt_iff_toInt_lt, z_eq, z_nI, z_0, z_m1, z_sub, z_iI, nI_add, nI_mulN, pk_sub, nI_clamp, Nat.reduceAdd, Nat.reduceMul, Nat.reduceSub, Nat.zero_add, Nat.add_zero, em, b2, bS, hc1] at h104
              all_goals (try (exfalso; omega))
              all_goals
                refine Rq.s (fun _ => b116_111) ?_
                refine Rq.s (fun _ => b116_118b) ?_
                try simp (disch := omega) only [nI_add, nI_mulN, pk_sub, nI_clamp, Nat.reduceAdd, Nat.reduceMul, Nat.reduceSub, Nat.zero_add, Nat.add_zero, em, b2, bS, hc1]
                exact ihi (nI i) (by omega) (YES hbR (by omega))
          · refine Rq.bf (fun _ => b116_72) (by rw [if_neg hb]; exact fun z => z rfl) ?_
            have hbR : (zks V k).1.testBit i = true := by rw [hUi] at hb; simpa using hb
            obtain ⟨q8, q9, g9⟩ := BIT hbR
            refine Rq.s (fun _ => b116_75) ?_
            refine Rq.s (fun _ => b116_81) ?_
            try simp (disch := omega) only [nI_add, nI_mulN, pk_sub, nI_clamp, Nat.reduceAdd, Nat.reduceMul, Nat.reduceSub, Nat.zero_add, Nat.add_zero, em, b2, bS, hc1, g9]
            refine Rq.s (fun _ => b116_85) ?_
            try simp (disch := omega) only [nI_add, nI_mulN, pk_sub, nI_clamp, Nat.reduceAdd, Nat.reduceMul, Nat.reduceSub, Nat.zero_add, Nat.add_zero, em, b2, bS, hc1, g9]
            refine Rq.s (fun _ => b116_89) ?_
            try simp (disch := omega) only [nI_add, nI_mulN, pk_sub, nI_clamp, Nat.reduceAdd, Nat.reduceMul, Nat.reduceSub, Nat.zero_add, Nat.add_zero, em, b2, bS, hc1, g9]
            refine Rq.s (fun _ => b116_93 (by (try simp (disch := omega) only [nI_add, nI_mulN, pk_sub, nI_clamp, Nat.reduceAdd, Nat.reduceMul, Nat.reduceSub, Nat.zero_add, Nat.add_zero, em, b2, bS, hc1, g9]); exact nI_inbT (by omega) (by omega))) ?_
            try simp (disch := omega) only [nI_add, nI_mulN, pk_sub, nI_clamp, Nat.reduceAdd, Nat.reduceMul, Nat.reduceSub, Nat.zero_add, Nat.add_zero, em, b2, bS, hc1, g9]
            refine Rq.b (fun _ => b116_96) (fun h96 => ?_) (fun h96 => ?_)
            · try simp (disch := omega) only [Int32.le_iff_toInt_le, Int32.lt_iff_toInt_lt, z_eq, z_nI, z_0, z_m1, z_sub, z_iI, nI_add, nI_mulN, pk_sub, nI_clamp, Nat.reduceAdd, Nat.reduceMul, Nat.reduceSub, Nat.zero_add, Nat.add_zero, em, b2, bS, hc1, g9] at h96
              all_goals (try (exfalso; omega))
              all_goals
                refine Rq.s (fun _ => b116_103) ?_
                try simp (disch := omega) only [nI_add, nI_mulN, pk_sub, nI_clamp, Nat.reduceAdd, Nat.reduceMul, Nat.reduceSub, Nat.zero_add, Nat.add_zero, em, b2, bS, hc1, g9]
                refine Rq.b (fun _ => b116_104) (fun h104 => ?_) (fun h104 => ?_)
                · try simp (disch := omega) only [Int32.le_iff_toInt_le, Int32.lt_iff_toInt_lt, z_eq, z_nI, z_0, z_m1, z_sub, z_iI, nI_add, nI_mulN, pk_sub, nI_clamp, Nat.reduceAdd, Nat.reduceMul, Nat.reduceSub, Nat.zero_add, Nat.add_zero, em, b2, bS, hc1, g9] at h104
                  all_goals (try (exfalso; omega))
                  all_goals
                    refine Rq.s (fun _ => b116_116) ?_
                    refine Rq.s (fun _ => b116_118) ?_
                    try simp (disch := omega) only [nI_add, nI_mulN, pk_sub, nI_clamp, Nat.reduceAdd, Nat.reduceMul, Nat.reduceSub, Nat.zero_add, Nat.add_zero, em, b2, bS, hc1, g9]
                    exact ihi y (by omega) (NO (fun e => by rw [← e] at k4; omega))
                · try simp (disch := omega) only [Int32.le_iff_toInt_le, Int32.lt_iff_toInt_lt, z_eq, z_nI, z_0, z_m1, z_sub, z_iI, nI_add, nI_mulN, pk_sub, nI_clamp, Nat.reduceAdd, Nat.reduceMul, Nat.reduceSub, Nat.zero_add, Nat.add_zero, em, b2, bS, hc1, g9] at h104
                  all_goals (try (exfalso; omega))
                  all_goals
                    refine Rq.s (fun _ => b116_111) ?_
                    refine Rq.s (fun _ => b116_118b) ?_
                    try simp (disch := omega) only [nI_add, nI_mulN, pk_sub, nI_clamp, Nat.reduceAdd, Nat.reduceMul, Nat.reduceSub, Nat.zero_add, Nat.add_zero, em, b2, bS, hc1, g9]
                    exact ihi (nI i) (by omega) (YES hbR (by omega))
            · try simp (disch := omega) only [Int32.le_iff_toInt_le, Int32.lt_iff_toInt_lt, z_eq, z_nI, z_0, z_m1, z_sub, z_iI, nI_add, nI_mulN, pk_sub, nI_clamp, Nat.reduceAdd, Nat.reduceMul, Nat.reduceSub, Nat.zero_add, Nat.add_zero, em, b2, bS, hc1, g9] at h96
              all_goals (try (exfalso; omega))
              all_goals
                refine Rq.s (fun _ => b116_99) ?_
                try simp (disch := omega) only [nI_add, nI_mulN, pk_sub, nI_clamp, Nat.reduceAdd, Nat.reduceMul, Nat.reduceSub, Nat.zero_add, Nat.add_zero, em, b2, bS, hc1, g9]
                refine Rq.b (fun _ => b116_104b) (fun h104 => ?_) (fun h104 => ?_)
                · try simp (disch := omega) only [Int32.le_iff_toInt_le, Int32.lt_iff_toInt_lt, z_eq, z_nI, z_0, z_m1, z_sub, z_iI, nI_add, nI_mulN, pk_sub, nI_clamp, Nat.reduceAdd, Nat.reduceMul, Nat.reduceSub, Nat.zero_add, Nat.add_zero, em, b2, bS, hc1, g9] at h104
                  all_goals (try (exfalso; omega))
                  all_goals
                    refine Rq.s (fun _ => b116_116) ?_
                    refine Rq.s (fun _ => b116_118) ?_
                    try simp (disch := omega) only [nI_add, nI_mulN, pk_sub, nI_clamp, Nat.reduceAdd, Nat.reduceMul, Nat.reduceSub, Nat.zero_add, Nat.add_zero, em, b2, bS, hc1, g9]
                    exact ihi y (by omega) (NO (fun e => by rw [← e] at k4; omega))
                · try simp (disch := omega) only [Int32.le_iff_toInt_le, Int32.lt_iff_toInt_lt, z_eq, z_nI, z_0, z_m1, z_sub, z_iI, nI_add, nI_mulN, pk_sub, nI_clamp, Nat.reduceAdd, Nat.reduceMul, Nat.reduceSub, Nat.zero_add, Nat.add_zero, em, b2, bS, hc1, g9] at h104
                  all_goals (try (exfalso; omega))
                  all_goals
                    refine Rq.s (fun _ => b116_111) ?_
                    refine Rq.s (fun _ => b116_118b) ?_
                    try simp (disch := omega) only [nI_add, nI_mulN, pk_sub, nI_clamp, Nat.reduceAdd, Nat.reduceMul, Nat.reduceSub, Nat.zero_add, Nat.add_zero, em, b2, bS, hc1, g9]
                    exact ihi (nI i) (by omega) (YES hbR (by omega))
        · refine Rq.bf (fun _ => b116_39) (by rw [z_eq, z_nI (by omega), z_0]; omega) ?_
          have hcs := hJ0 i (by omega)
          refine Rq.s (fun _ => b116_43) ?_
          try simp (disch := omega) only [nI_add, nI_mulN, pk_sub, nI_clamp, Nat.reduceAdd, Nat.reduceMul, Nat.reduceSub, Nat.zero_add, Nat.add_zero, em, b2, bS]
          refine Rq.s (fun _ => b116_64) ?_
          refine Rq.s (fun _ => b116_69) ?_
          try simp (disch := omega) only [nI_add, nI_mulN, pk_sub, nI_clamp, Nat.reduceAdd, Nat.reduceMul, Nat.reduceSub, Nat.zero_add, Nat.add_zero, em, b2, bS]
          by_cases hb : (2 ^ zn V - 1 - (zks V k).1).testBit i = true
          · refine Rq.bt (fun _ => b116_72) (by rw [if_pos hb]; decide) ?_
            refine Rq.s (fun _ => b116_103) ?_
            try simp (disch := omega) only [nI_add, nI_mulN, pk_sub, nI_clamp, Nat.reduceAdd, Nat.reduceMul, Nat.reduceSub, Nat.zero_add, Nat.add_zero, em, b2, bS]
            refine Rq.b (fun _ => b116_104) (fun h104 => ?_) (fun h104 => ?_)
            · try simp (disch := omega) only [Int32.le_iff_toInt_le, Int32.lt_iff_toInt_lt, z_eq, z_nI, z_0, z_m1, z_sub, z_iI, nI_add, nI_mulN, pk_sub, nI_clamp, Nat.reduceAdd, Nat.reduceMul, Nat.reduceSub, Nat.zero_add, Nat.add_zero, em, b2, bS] at h104
              all_goals (try (exfalso; omega))
              all_goals
                refine Rq.s (fun _ => b116_116) ?_
                refine Rq.s (fun _ => b116_118) ?_
                try simp (disch := omega) only [nI_add, nI_mulN, pk_sub, nI_clamp, Nat.reduceAdd, Nat.reduceMul, Nat.reduceSub, Nat.zero_add, Nat.add_zero, em, b2, bS]
                exact ihi y (by omega) (NO (fun e => by rw [hUi, e, k3] at hb; cases hb))
            · try simp (disch := omega) only [Int32.le_iff_toInt_le, Int32.lt_iff_toInt_lt, z_eq, z_nI, z_0, z_m1, z_sub, z_iI, nI_add, nI_mulN, pk_sub, nI_clamp, Nat.reduceAdd, Nat.reduceMul, Nat.reduceSub, Nat.zero_add, Nat.add_zero, em, b2, bS] at h104
              all_goals (try (exfalso; omega))
              all_goals
                refine Rq.s (fun _ => b116_111) ?_
                refine Rq.s (fun _ => b116_118b) ?_
                try simp (disch := omega) only [nI_add, nI_mulN, pk_sub, nI_clamp, Nat.reduceAdd, Nat.reduceMul, Nat.reduceSub, Nat.zero_add, Nat.add_zero, em, b2, bS]
                exact ihi (nI i) (by omega) (YES hbR (by omega))
          · refine Rq.bf (fun _ => b116_72) (by rw [if_neg hb]; exact fun z => z rfl) ?_
            have hbR : (zks V k).1.testBit i = true := by rw [hUi] at hb; simpa using hb
            obtain ⟨q8, q9, g9⟩ := BIT hbR
            refine Rq.s (fun _ => b116_75) ?_
            refine Rq.s (fun _ => b116_81) ?_
            try simp (disch := omega) only [nI_add, nI_mulN, pk_sub, nI_clamp, Nat.reduceAdd, Nat.reduceMul, Nat.reduceSub, Nat.zero_add, Nat.add_zero, em, b2, bS, g9]
            refine Rq.s (fun _ => b116_85) ?_
            try simp (disch := omega) only [nI_add, nI_mulN, pk_sub, nI_clamp, Nat.reduceAdd, Nat.reduceMul, Nat.reduceSub, Nat.zero_add, Nat.add_zero, em, b2, bS, g9]
            refine Rq.s (fun _ => b116_89) ?_
            try simp (disch := omega) only [nI_add, nI_mulN, pk_sub, nI_clamp, Nat.reduceAdd, Nat.reduceMul, Nat.reduceSub, Nat.zero_add, Nat.add_zero, em, b2, bS, g9]
            refine Rq.s (fun _ => b116_93 (by (try simp (disch := omega) only [nI_add, nI_mulN, pk_sub, nI_clamp, Nat.reduceAdd, Nat.reduceMul, Nat.reduceSub, Nat.zero_add, Nat.add_zero, em, b2, bS, g9]); exact nI_inbT (by omega) (by omega))) ?_
            try simp (disch := omega) only [nI_add, nI_mulN, pk_sub, nI_clamp, Nat.reduceAdd, Nat.reduceMul, Nat.reduceSub, Nat.zero_add, Nat.add_zero, em, b2, bS, g9]
            refine Rq.b (fun _ => b116_96) (fun h96 => ?_) (fun h96 => ?_)
            · try simp (disch := omega) only [Int32.le_iff_toInt_le, Int32.lt_iff_toInt_lt, z_eq, z_nI, z_0, z_m1, z_sub, z_iI, nI_add, nI_mulN, pk_sub, nI_clamp, Nat.reduceAdd, Nat.reduceMul, Nat.reduceSub, Nat.zero_add, Nat.add_zero, em, b2, bS, g9] at h96
              all_goals (try (exfalso; omega))
              all_goals
                refine Rq.s (fun _ => b116_103) ?_
                try simp (disch := omega) only [nI_add, nI_mulN, pk_sub, nI_clamp, Nat.reduceAdd, Nat.reduceMul, Nat.reduceSub, Nat.zero_add, Nat.add_zero, em, b2, bS, g9]
                refine Rq.b (fun _ => b116_104) (fun h104 => ?_) (fun h104 => ?_)
                · try simp (disch := omega) only [Int32.le_iff_toInt_le, Int32.lt_iff_toInt_lt, z_eq, z_nI, z_0, z_m1, z_sub, z_iI, nI_add, nI_mulN, pk_sub, nI_clamp, Nat.reduceAdd, Nat.reduceMul, Nat.reduceSub, Nat.zero_add, Nat.add_zero, em, b2, bS, g9] at h104
                  all_goals (try (exfalso; omega))
                  all_goals
                    refine Rq.s (fun _ => b116_116) ?_
                    refine Rq.s (fun _ => b116_118) ?_
                    try simp (disch := omega) only [nI_add, nI_mulN, pk_sub, nI_clamp, Nat.reduceAdd, Nat.reduceMul, Nat.reduceSub, Nat.zero_add, Nat.add_zero, em, b2, bS, g9]
                    exact ihi y (by omega) (NO (fun e => by rw [← e] at k4; omega))
                · try simp (disch := omega) only [Int32.le_iff_toInt_le, Int32.lt_iff_toInt_lt, z_eq, z_nI, z_0, z_m1, z_sub, z_iI, nI_add, nI_mulN, pk_sub, nI_clamp, Nat.reduceAdd, Nat.reduceMul, Nat.reduceSub, Nat.zero_add, Nat.add_zero, em, b2, bS, g9] at h104
                  all_goals (try (exfalso; omega))
                  all_goals
                    refine Rq.s (fun _ => b116_111) ?_
                    refine Rq.s (fun _ => b116_118b) ?_
                    try simp (disch := omega) only [nI_add, nI_mulN, pk_sub, nI_clamp, Nat.reduceAdd, Nat.reduceMul, Nat.reduceSub, Nat.zero_add, Nat.add_zero, em, b2, bS, g9]
                    exact ihi (nI i) (by omega) (YES hbR (by omega))
            · try simp (disch := omega) only [Int32.le_iff_toInt_le, Int32.lt_iff_toInt_lt, z_eq, z_nI, z_0, z_m1, z_sub, z_iI, nI_add, nI_mulN, pk_sub, nI_clamp, Nat.reduceAdd, Nat.reduceMul, Nat.reduceSub, Nat.zero_add, Nat.add_zero, em, b2, bS, g9] at h96
              all_goals (try (exfalso; omega))
              all_goals
                refine Rq.s (fun _ => b116_99) ?_
                try simp (disch := omega) only [nI_add, nI_mulN, pk_sub, nI_clamp, Nat.reduceAdd, Nat.reduceMul, Nat.reduceSub, Nat.zero_add, Nat.add_zero, em, b2, bS, g9]
                refine Rq.b (fun _ => b116_104b) (fun h104 => ?_) (fun h104 => ?_)
                · try simp (disch := omega) only [Int32.le_iff_toInt_le, Int32.lt_iff_toInt_lt, z_eq, z_nI, z_0, z_m1, z_sub, z_iI, nI_add, nI_mulN, pk_sub, nI_clamp, Nat.reduceAdd, Nat.reduceMul, Nat.reduceSub, Nat.zero_add, Nat.add_zero, em, b2, bS, g9] at h104
                  all_goals (try (exfalso; omega))
                  all_goals
                    refine Rq.s (fun _ => b116_116) ?_
                    refine Rq.s (fun _ => b116_118) ?_
                    try simp (disch := omega) only [nI_add, nI_mulN, pk_sub, nI_clamp, Nat.reduceAdd, Nat.reduceMul, Nat.reduceSub, Nat.zero_add, Nat.add_zero, em, b2, bS, g9]
                    exact ihi y (by omega) (NO (fun e => by rw [← e] at k4; omega))
                · try simp (disch := omega) only [Int32.le_iff_toInt_le, Int32.lt_iff_toInt_lt, z_eq, z_nI, z_0, z_m1, z_sub, z_iI, nI_add, nI_mulN, pk_sub, nI_clamp, Nat.reduceAdd, Nat.reduceMul, Nat.reduceSub, Nat.zero_add, Nat.add_zero, em, b2, bS, g9] at h104
                  all_goals (try (exfalso; omega))
                  all_goals
                    refine Rq.s (fun _ => b116_111) ?_
                    refine Rq.s (fun _ => b116_118b) ?_
                    try simp (disch := omega) only [nI_add, nI_mulN, pk_sub, nI_clamp, Nat.reduceAdd, Nat.reduceMul, Nat.reduceSub, Nat.zero_add, Nat.add_zero, em, b2, bS, g9]
                    exact ihi (nI i) (by omega) (YES hbR (by omega))
    refine Rq.s (fun _ => b116_9) ?_
    refine Rq.b (fun _ => b116_14 (by (try simp (disch := omega) only [nI_add, nI_mulN, pk_sub, nI_clamp, Nat.reduceAdd, Nat.reduceMul, Nat.reduceSub, Nat.zero_add, Nat.add_zero, s3]); exact nI_inbT (by omega) (by omega))) (fun h14 => ?_) (fun h14 => ?_)
    · try simp (disch := omega) only [Int32.le_iff_toInt_le, Int32.lt_iff_toInt_lt, z_eq, z_nI, z_0, z_m1, z_sub, nI_add, nI_mulN, pk_sub, nI_clamp, Nat.reduceAdd, Nat.reduceMul, Nat.reduceSub, Nat.zero_add, Nat.add_zero, s3] at h14
      all_goals (try (exfalso; omega))
      all_goals
        refine Rq.e (b116_178) ?_
        rw [show k = zn V by omega] at hC
        exact ⟨rfl, hC, h80, hI⟩
    · try simp (disch := omega) only [Int32.le_iff_toInt_le, Int32.lt_iff_toInt_lt, z_eq, z_nI, z_0, z_m1, z_sub, nI_add, nI_mulN, pk_sub, nI_clamp, Nat.reduceAdd, Nat.reduceMul, Nat.reduceSub, Nat.zero_add, Nat.add_zero, s3] at h14
      all_goals (try (exfalso; omega))
      all_goals
        refine Rq.s (fun _ => b116_20) ?_
        try simp (disch := omega) only [nI_add, nI_mulN, pk_sub, nI_clamp, Nat.reduceAdd, Nat.reduceMul, Nat.reduceSub, Nat.zero_add, Nat.add_zero, s3]
        refine Rq.s (fun _ => b116_24 (by (try simp (disch := omega) only [nI_add, nI_mulN, pk_sub, nI_clamp, Nat.reduceAdd, Nat.reduceMul, Nat.reduceSub, Nat.zero_add, Nat.add_zero, s3]); exact nI_inbT (by omega) (by omega))) ?_
        try simp (disch := omega) only [nI_add, nI_mulN, pk_sub, nI_clamp, Nat.reduceAdd, Nat.reduceMul, Nat.reduceSub, Nat.zero_add, Nat.add_zero, s3]
        refine Rq.s (fun _ => b116_30) ?_
        try simp (disch := omega) only [nI_add, nI_mulN, pk_sub, nI_clamp, Nat.reduceAdd, Nat.reduceMul, Nat.reduceSub, Nat.zero_add, Nat.add_zero, s3]
        have := J (by omega) (zn V) (-1) (Nat.le_refl _) (fun h => by have := (zbr_ok hv (show k < zn V by omega)).2.1; omega)
        rw [show nI (zn V - 1) = iI ((zn V : Int) - 1) by rw [i_nI]; congr 1; omega]
        exact this
  refine Cq.c (fun _ _ _ => c116) ?_
  obtain ⟨_, D4, hC4, rfl, HT, hI⟩ := m114 (sc := sc) (d := d) (G := G) s0 se hv
  refine Rq.s (fun _ => b116_0 hC4) ?_
  refine Rq.s (fun _ => b116_4) ?_
  refine Rq.s (fun _ => b116_7) ?_
  have := L _ 0 D4 rfl (by omega) (fun a h1 h2 => hI a h1) (fun j hj => by rw [hI 80 (by omega)]) HT (fun i hi => absurd hi (Nat.not_lt_zero _))
  rw [show (zks V 0).1 = 2 ^ zn V - 1 from rfl, Nat.sub_self] at this
  exact this
