/-! ===== the reference: hole, remove ===== -/
theorem nI_xor (a b : Nat) : nI a ^^^ nI b = nI (a ^^^ b) := by
  refine Int32.toBitVec_inj.mp ?_
  show BitVec.ofNat 32 a ^^^ BitVec.ofNat 32 b = BitVec.ofNat 32 (a ^^^ b)
  exact (BitVec.ofNat_xor ..).symm
theorem nI_or (a b : Nat) : nI a ||| nI b = nI (a ||| b) := by
  refine Int32.toBitVec_inj.mp ?_
  show BitVec.ofNat 32 a ||| BitVec.ofNat 32 b = BitVec.ofNat 32 (a ||| b)
  exact (BitVec.ofNat_or ..).symm
theorem zB_sh : ∀ n, n < 31 → nI 1 <<< (nI n &&& 31) = nI (2 ^ n) := by decide +kernel
theorem zM_tb (h : Nat → Bool) {w : Nat} (hw : w ≤ 1) (i : Nat) : (zM h w).testBit i = (decide (i < 30) && h (30 * w + i)) := by
  unfold zM
  rcases (by omega : w = 0 ∨ w = 1) with c | c <;> subst c
  · rw [if_pos rfl, zB_bit]
    congr 2
    omega
  · rw [if_neg (by omega), zB_bit]
    congr 2
    omega
theorem zM_flip (h : Nat → Bool) {x : Nat} (hx : x < 60) : zM (gup h x (!h x)) (x / 30) = zM h (x / 30) ^^^ 2 ^ (x % 30) := by
  refine Nat.eq_of_testBit_eq (fun i => ?_)
  rw [Nat.testBit_xor, Nat.testBit_two_pow, zM_tb _ (by omega), zM_tb _ (by omega)]
  by_cases c : i < 30
  · rw [decide_eq_true c, Bool.true_and, Bool.true_and]
    by_cases e : i = x % 30
    · have e2 : 30 * (x / 30) + i = x := by omega
      rw [e2, gup_s, decide_eq_true e.symm]
      cases h x <;> rfl
    · rw [gup_n _ _ (by omega), decide_eq_false (fun z => e z.symm), Bool.xor_false]
  · rw [decide_eq_false c, Bool.false_and, Bool.false_and, decide_eq_false (by omega)]
    rfl
theorem zM_keep (h : Nat → Bool) {x w : Nat} (b : Bool) (hw : w ≤ 1) (hx : w ≠ x / 30) : zM (gup h x b) w = zM h w := by
  refine Nat.eq_of_testBit_eq (fun i => ?_)
  rw [zM_tb _ hw, zM_tb _ hw]
  by_cases c : i < 30
  · rw [gup_n _ _ (by omega)]
  · rw [decide_eq_false c, Bool.false_and, Bool.false_and]
theorem RepM_hol {D : Nat → Nat → Int32} {V : ZV} {p x : Nat} (R : RepM D 80 0 V) (hv : Valid V) (hp : p < zn V) (hx : x < 60) : RepM (hx_up D 80 (13 * p + (11 + x / 30)) (nI (zM (zh V p) (x / 30) ^^^ 2 ^ (x % 30)))) 80 0 (opHol V p x) := by
  obtain ⟨r98, r99, rw, re, rh, rr, r0, r1⟩ := rM R
  have h7 := hv.1
  refine RepM_i (by rw [hx_up_in _ _ _ (by omega)]; exact r98) (by rw [hx_up_in _ _ _ (by omega)]; exact r99) (fun q hq => by have hq2 : q < zn V := hq; rw [hx_up_in _ _ _ (by omega)]; exact rw q hq) (fun q i hq hi => by have hq2 : q < zn V := hq; rw [hx_up_in _ _ _ (by omega)]; exact re q i hq hi) (fun q hq => ?_) (fun i hi => by have hi2 : i < zn V := hi; rw [hx_up_in _ _ _ (by omega)]; exact rr i hi) (by rw [hx_up_in _ _ _ (by omega)]; exact r0) (by rw [hx_up_in _ _ _ (by omega)]; exact r1)
  have hq2 : q < zn V := hq
  have h1 : ∀ w, w ≤ 1 → D 80 (13 * q + (11 + w)) = nI (zM (zh V q) w) := fun w hw => by
    unfold zM
    rcases (by omega : w = 0 ∨ w = 1) with c | c <;> subst c
    · rw [if_pos rfl]; exact (rh q hq).1
    · rw [if_neg (by omega)]; exact (rh q hq).2
  have h2 : ∀ w, w ≤ 1 → hx_up D 80 (13 * p + (11 + x / 30)) (nI (zM (zh V p) (x / 30) ^^^ 2 ^ (x % 30))) 80 (13 * q + (11 + w)) = nI (zM (gup (zh V) p (gup (zh V p) x (!zh V p x)) q) w) := fun w hw => by
    by_cases c : q = p
    · rw [c, gup_s]
      by_cases c2 : w = x / 30
      · rw [c2, hx_up_s, zM_flip _ hx]
      · rw [hx_up_in _ _ _ (by omega), zM_keep _ _ hw c2, ← c]
        exact h1 w hw
    · rw [gup_n _ _ c, hx_up_in _ _ _ (by omega)]
      exact h1 w hw
  exact ⟨h2 0 (by omega), h2 1 (by omega)⟩
theorem rHole {sc : Nat × (Nat → Int32)} {d : Nat} {D : Nat → Nat → Int32} {G : Nat → Nat → Int64} {t : ST} {p : Int} {x : Int} (bp1 : -2147483648 ≤ p) (bp2 : p < 2147483648) (bx1 : -2147483648 ≤ x) (bx2 : x < 2147483648) (I : InvM D t) (hs : SV t) : Cq sc (d + 4) 132 [.ref 79, .int (iI p), .int (iI x)] D G (OKm D (oHole t p x)) := by
  have hv := hs.1
  have h7 := hv.1
  have R := I.1
  have R1 := (InvM_t (x := nI 0) hs I).1
  have s98 := (rM I.1).1
  have w98 := (rM R1).1
  refine Cq.c (fun _ _ _ => c132) ?_
  unfold oHole
  have h104 := m104 (sc := sc) (d := d + 2) (G := G) s98 (by omega) bp1 bp2
  by_cases hp : 0 ≤ p ∧ p < (zn (tV t) : Int)
  · rw [if_pos hp] at h104 ⊢
    obtain ⟨p, rfl⟩ := arg_nat hp.1
    have hpn : p < zn (tV t) := by omega
    have h130 := m130 (sc := sc) (d := d + 2) (G := G) R hv hpn bx1 bx2
    have hw := hv.2.1 p hpn
    simp only [← i_nI, Int.toNat_natCast] at h104 ⊢
    by_cases hx : 0 ≤ x ∧ x < (zw (tV t) p : Int)
    · rw [if_pos hx] at h130 ⊢
      obtain ⟨x, rfl⟩ := arg_nat hx.1
      simp only [← i_nI, Int.toNat_natCast] at h130 ⊢
      have h131 := m131 (sc := sc) (d := d) (G := G) (x := x) R hv hpn (by omega)
      by_cases hh : zh (tV t) p x = false ∧ (zE (tV t) p).length = 4
      · rw [if_pos hh] at h131 ⊢
        refine Rq.s (fun _ => b132_0 (by (try simp (disch := omega) only [nI_add, nI_mulN, pk_sub, nI_clamp, Nat.reduceAdd, Nat.reduceMul, Nat.reduceSub, Nat.zero_add, Nat.add_zero]); exact h104)) ?_
        refine Rq.bt (fun _ => b132_6) (by decide) ?_
        refine Rq.s (fun _ => b132_13 (by (try simp (disch := omega) only [nI_add, nI_mulN, pk_sub, nI_clamp, Nat.reduceAdd, Nat.reduceMul, Nat.reduceSub, Nat.zero_add, Nat.add_zero]); exact h130)) ?_
        refine Rq.bt (fun _ => b132_19) (by decide) ?_
        refine Rq.s (fun _ => b132_26 (by (try simp (disch := omega) only [nI_add, nI_mulN, pk_sub, nI_clamp, Nat.reduceAdd, Nat.reduceMul, Nat.reduceSub, Nat.zero_add, Nat.add_zero]); exact h131)) ?_
        refine Rq.bf (fun _ => b132_32) (fun z => z rfl) ?_
        refine Rq.s (fun _ => b132_35) ?_
        try simp (disch := omega) only [nI_add, nI_mulN, pk_sub, nI_clamp, Nat.reduceAdd, Nat.reduceMul, Nat.reduceSub, Nat.zero_add, Nat.add_zero]
        refine Rq.s (fun _ => b132_40 (by (try simp (disch := omega) only [nI_add, nI_mulN, pk_sub, nI_clamp, Nat.reduceAdd, Nat.reduceMul, Nat.reduceSub, Nat.zero_add, Nat.add_zero]); exact t103_k (k := 3) (by omega) (by omega))) ?_
        refine Rq.bf (fun _ => b132_43) (fun z => z rfl) ?_
        refine Rq.e (b132_46) ?_
        exact OKm.x (k := 3) hs I rfl
      · rw [if_neg hh] at h131 ⊢
        obtain ⟨_, D4, hC4, rfl, I4, k4, f4⟩ := m106 (sc := sc) (d := d + 3) (G := G) hs (InvM_t (x := nI 0) hs I)
        have e1 : nI 11 + nI x / nI 30 = nI (11 + x / 30) := by rw [pk_div (by omega) (by omega) (by omega), nI_add]
        have e3 : nI x - nI x / nI 30 * nI 30 = nI (x % 30) := pk_rem (by omega) (by omega) (by omega)
        have e2 : D4 80 (13 * p + (11 + x / 30)) = nI (zM (zh (tV t) p) (x / 30)) := by
          unfold zM
          rcases (by omega : x / 30 = 0 ∨ x / 30 = 1) with c | c
          · rw [c, if_pos rfl]; exact ((rM I4.1).2.2.2.2.1 p hpn).1
          · rw [c, if_neg (by omega)]; exact ((rM I4.1).2.2.2.2.1 p hpn).2
        have R6 := RepM_hol I4.1 hv hpn (show x < 60 by omega)
        have V6 : Valid (opHol (tV t) p x) := Valid_hol hv hpn (by omega) (fun z => by
          have h8 := hv.2.2.2.2.1 p hpn
          have h9 : ¬ (zE (tV t) p).length = 4 := fun y => hh ⟨z, y⟩
          omega)
        have h119 := m119 (sc := sc) (d := d + 1) (G := G) (p := p) R6 V6 hpn
        refine Rq.s (fun _ => b132_0 (by (try simp (disch := omega) only [nI_add, nI_mulN, pk_sub, nI_clamp, Nat.reduceAdd, Nat.reduceMul, Nat.reduceSub, Nat.zero_add, Nat.add_zero]); exact h104)) ?_
        refine Rq.bt (fun _ => b132_6) (by decide) ?_
        refine Rq.s (fun _ => b132_13 (by (try simp (disch := omega) only [nI_add, nI_mulN, pk_sub, nI_clamp, Nat.reduceAdd, Nat.reduceMul, Nat.reduceSub, Nat.zero_add, Nat.add_zero]); exact h130)) ?_
        refine Rq.bt (fun _ => b132_19) (by decide) ?_
        refine Rq.s (fun _ => b132_26 (by (try simp (disch := omega) only [nI_add, nI_mulN, pk_sub, nI_clamp, Nat.reduceAdd, Nat.reduceMul, Nat.reduceSub, Nat.zero_add, Nat.add_zero]); exact h131)) ?_
        refine Rq.bt (fun _ => b132_32) (by decide) ?_
        refine Rq.s (fun _ => b132_39) ?_
        try simp (disch := omega) only [nI_add, nI_mulN, pk_sub, nI_clamp, Nat.reduceAdd, Nat.reduceMul, Nat.reduceSub, Nat.zero_add, Nat.add_zero]
        refine Rq.s (fun _ => b132_40 (by (try simp (disch := omega) only [nI_add, nI_mulN, pk_sub, nI_clamp, Nat.reduceAdd, Nat.reduceMul, Nat.reduceSub, Nat.zero_add, Nat.add_zero]); exact t103_0)) ?_
        refine Rq.bt (fun _ => b132_43) (by decide) ?_
        refine Rq.s (fun _ => b132_48 (by (try simp (disch := omega) only [nI_add, nI_mulN, pk_sub, nI_clamp, Nat.reduceAdd, Nat.reduceMul, Nat.reduceSub, Nat.zero_add, Nat.add_zero]); exact hC4)) ?_
        refine Rq.s (fun _ => b132_52 (by decide) (by rw [e1]; exact m105)) ?_
        refine Rq.s (fun _ => b132_67 (nI_inbT (by omega) (by omega)) (by decide) (nI_inbT (by omega) (by omega)) (by rw [nI_clamp (by omega), e2, e3, zB_sh _ (by omega), nI_xor]; exact h119)) ?_
        refine Rq.e (b132_82) ?_
        exact OKm.v rfl (by rw [hx_up_ne (by omega), f4 0 (by omega)]; exact hx_up_s _ _ _ _) (InvM_set (SV_zsv hs) I4 R6 (fun a ha => by rw [hx_up_ne (by omega)]) (fun j hj => by rw [hx_up_ne (by omega)])) (fun a ha => by rw [hx_up_ne (by omega), k4 a (by omega) (by omega), hx_up_ne (by omega)])
    · rw [if_neg hx] at h130 ⊢
      refine Rq.s (fun _ => b132_0 (by (try simp (disch := omega) only [nI_add, nI_mulN, pk_sub, nI_clamp, Nat.reduceAdd, Nat.reduceMul, Nat.reduceSub, Nat.zero_add, Nat.add_zero]); exact h104)) ?_
      refine Rq.bt (fun _ => b132_6) (by decide) ?_
      refine Rq.s (fun _ => b132_13 (by (try simp (disch := omega) only [nI_add, nI_mulN, pk_sub, nI_clamp, Nat.reduceAdd, Nat.reduceMul, Nat.reduceSub, Nat.zero_add, Nat.add_zero]); exact h130)) ?_
      refine Rq.bf (fun _ => b132_19) (fun z => z rfl) ?_
      refine Rq.s (fun _ => b132_22) ?_
      try simp (disch := omega) only [nI_add, nI_mulN, pk_sub, nI_clamp, Nat.reduceAdd, Nat.reduceMul, Nat.reduceSub, Nat.zero_add, Nat.add_zero]
      refine Rq.s (fun _ => b132_40 (by (try simp (disch := omega) only [nI_add, nI_mulN, pk_sub, nI_clamp, Nat.reduceAdd, Nat.reduceMul, Nat.reduceSub, Nat.zero_add, Nat.add_zero]); exact t103_k (k := 2) (by omega) (by omega))) ?_
      refine Rq.bf (fun _ => b132_43) (fun z => z rfl) ?_
      refine Rq.e (b132_46) ?_
      exact OKm.x (k := 2) hs I rfl
  · rw [if_neg hp] at h104 ⊢
    refine Rq.s (fun _ => b132_0 (by (try simp (disch := omega) only [nI_add, nI_mulN, pk_sub, nI_clamp, Nat.reduceAdd, Nat.reduceMul, Nat.reduceSub, Nat.zero_add, Nat.add_zero]); exact h104)) ?_
    refine Rq.bf (fun _ => b132_6) (fun z => z rfl) ?_
    refine Rq.s (fun _ => b132_9) ?_
    try simp (disch := omega) only [nI_add, nI_mulN, pk_sub, nI_clamp, Nat.reduceAdd, Nat.reduceMul, Nat.reduceSub, Nat.zero_add, Nat.add_zero]
    refine Rq.s (fun _ => b132_40 (by (try simp (disch := omega) only [nI_add, nI_mulN, pk_sub, nI_clamp, Nat.reduceAdd, Nat.reduceMul, Nat.reduceSub, Nat.zero_add, Nat.add_zero]); exact t103_k (k := 1) (by omega) (by omega))) ?_
    refine Rq.bf (fun _ => b132_43) (fun z => z rfl) ?_
    refine Rq.e (b132_46) ?_
    exact OKm.x (k := 1) hs I rfl
theorem RepM_rem {D2 : Nat → Nat → Int32} {D : Nat → Nat → Int32} {V : ZV} {p : Nat} (R : RepM D 80 0 V) (hv : Valid V) (hp : p < zn V) (e98 : D2 80 98 = nI (zn V - 1)) (e1 : ∀ j, j < 13 * p → D2 80 j = D 80 j) (e2 : ∀ j, 13 * p ≤ j → j < 78 → D2 80 j = D 80 (j + 13)) (er : ∀ i, i < zn V - 1 → D2 80 (91 + i) = nI (zr (opRem V p) i)) (e3 : ∀ j, 99 ≤ j → D2 80 j = D 80 j) : RepM D2 80 0 (opRem V p) := by
  obtain ⟨r98, r99, rw, re, rh, rr, r0, r1⟩ := rM R
  have h7 := hv.1
  have ex : ∀ k j, k < zn V - 1 → j < 13 → D2 80 (13 * k + j) = D 80 (13 * sk p k + j) := fun k j hk hj => by
    unfold sk
    by_cases c : k < p
    · rw [if_pos c]
      exact e1 _ (by omega)
    · rw [if_neg c, e2 _ (by omega) (by omega)]
      congr 1
      omega
  refine RepM_i e98 (by rw [e3 99 (by omega)]; exact r99) (fun q hq => ?_) (fun q i hq hi => ?_) (fun q hq => ?_) er (by rw [e3 100 (by omega)]; exact r0) (by rw [e3 101 (by omega)]; exact r1)
  · have hq2 : q < zn V - 1 := hq
    exact (ex q 0 hq2 (by omega)).trans (rw _ (sk_lt hq2).1)
  · have hq2 : q < zn V - 1 := hq
    exact (ex q (i + 1) hq2 (by omega)).trans (re _ i (sk_lt hq2).1 hi)
  · have hq2 : q < zn V - 1 := hq
    exact ⟨(ex q 11 hq2 (by omega)).trans (rh _ (sk_lt hq2).1).1, (ex q 12 hq2 (by omega)).trans (rh _ (sk_lt hq2).1).2⟩
theorem rRemove {sc : Nat × (Nat → Int32)} {d : Nat} {D : Nat → Nat → Int32} {G : Nat → Nat → Int64} {t : ST} {p : Int} (bp1 : -2147483648 ≤ p) (bp2 : p < 2147483648) (I : InvM D t) (hs : SV t) : Cq sc (d + 2) 133 [.ref 79, .int (iI p)] D G (OKm D (oRemove t p)) := by
  have hv := hs.1
  have h7 := hv.1
  have R := I.1
  have R1 := (InvM_t (x := nI 0) hs I).1
  have s98 := (rM I.1).1
  have w98 := (rM R1).1
  refine Cq.c (fun _ _ _ => c133) ?_
  unfold oRemove
  have h104 := m104 (sc := sc) (d := d) (G := G) s98 (by omega) bp1 bp2
  by_cases hp : 0 ≤ p ∧ p < (zn (tV t) : Int)
  · rw [if_pos hp] at h104 ⊢
    obtain ⟨p, rfl⟩ := arg_nat hp.1
    have hpn : p < zn (tV t) := by omega
    simp only [← i_nI, Int.toNat_natCast] at h104 ⊢
    obtain ⟨_, D4, hC4, rfl, I4, k4, f4⟩ := m106 (sc := sc) (d := d + 1) (G := G) hs (InvM_t (x := nI 0) hs I)
    obtain ⟨_, D5, hC5, rfl, g1, g2, g3⟩ := m117 (sc := sc) (d := d) (G := G) (p := p) (pl := zn (tV t) - 1) I4.1 hv hpn (by show zn (tV t) - 1 < zn (tV t); omega)
    have w98 : D4 80 98 = nI (zn (tV t)) := (rM I4.1).1
    have v98 : D5 80 98 = nI (zn (tV t)) := by rw [g2 98 (by omega)]; exact w98
    have hz : ∀ i, i < zn (tV t) - 1 → zmv (tV t) p (zn (tV t) - 1) i = zr (tV t) (sk (zq (tV t) p) i) := fun i hi => by
      unfold zmv
      rw [if_neg (by omega), if_pos hi]
    have hzp : ∀ i, i < zn (tV t) - 1 → zmv (tV t) p (zn (tV t) - 1) i ≠ p := fun i hi he => by
      have h8 : zmv (tV t) p (zn (tV t) - 1) (zn (tV t) - 1) = p := if_pos rfl
      have := zmv_inj (i := i) (j := zn (tV t) - 1) hv hpn (pl := zn (tV t) - 1) (by omega) (by omega) (by omega) (by rw [he, h8])
      omega
    have hzl : ∀ i, i < zn (tV t) - 1 → zmv (tV t) p (zn (tV t) - 1) i < 7 := fun i hi => by
      have := zmv_lt (i := i) hv hpn (pl := zn (tV t) - 1) (by omega) (by omega)
      omega
    have L2 : ∀ m i D3, zn (tV t) - 1 - i = m → i ≤ zn (tV t) - 1 → D3 80 98 = nI (zn (tV t) - 1) → (∀ j, j < 13 * p → D3 80 j = D4 80 j) → (∀ j, 13 * p ≤ j → j < 78 → D3 80 j = D4 80 (j + 13)) → (∀ j, j < i → D3 80 (91 + j) = nI (zr (opRem (tV t) p) j)) → (∀ j, i ≤ j → j < zn (tV t) - 1 → D3 80 (91 + j) = nI (zmv (tV t) p (zn (tV t) - 1) j)) → (∀ j, 99 ≤ j → D3 80 j = D4 80 j) → (∀ a, a ≠ 80 → D3 a = D4 a) → Rq sc (d + 2) 133 (90, [some (.ref 79), some (.int (nI p)), some (.int (nI i))], [], (hx_S0, D3, G), 0) G (OKm D (0, nI (zn (tV t) - 1), setV (zsv t) (opRem (tV t) p))) := by
      intro m
      induction m using Nat.strongRecOn with
      | _ m ih =>
      intro i D3 hm hi h98 h1 h2 h3 h4 h5 hI
      refine Rq.b (fun _ => b133_90 (by (try simp (disch := omega) only [nI_add, nI_mulN, pk_sub, nI_clamp, Nat.reduceAdd, Nat.reduceMul, Nat.reduceSub, Nat.zero_add, Nat.add_zero, h98]); exact nI_inbT (by omega) (by omega))) (fun h90 => ?_) (fun h90 => ?_)
      · try simp (disch := omega) only [Int32.le_iff_toInt_le, Int32.lt_iff_toInt_lt, z_eq, z_nI, z_0, z_m1, z_sub, nI_add, nI_mulN, pk_sub, nI_clamp, Nat.reduceAdd, Nat.reduceMul, Nat.reduceSub, Nat.zero_add, Nat.add_zero, h98] at h90
        all_goals (try (exfalso; omega))
        all_goals
          refine Rq.e (b133_137 (by (try simp (disch := omega) only [nI_add, nI_mulN, pk_sub, nI_clamp, Nat.reduceAdd, Nat.reduceMul, Nat.reduceSub, Nat.zero_add, Nat.add_zero, h98]); exact nI_inbT (by omega) (by omega))) ?_
          have R3 : RepM D3 80 0 (opRem (tV t) p) := RepM_rem I4.1 hv hpn h98 h1 h2 (fun j hj => h3 j (by omega)) h5
          rw [nI_clamp (by omega), h98]
          exact OKm.v rfl (by rw [hI 79 (by omega), f4 0 (by omega)]; exact hx_up_s _ _ _ _) (InvM_set (SV_zsv hs) I4 R3 (fun a ha => hI a (by omega)) (fun j hj => by rw [hI 79 (by omega)])) (fun a ha => by rw [hI a (by omega), k4 a (by omega) (by omega), hx_up_ne (by omega)])
      · try simp (disch := omega) only [Int32.le_iff_toInt_le, Int32.lt_iff_toInt_lt, z_eq, z_nI, z_0, z_m1, z_sub, nI_add, nI_mulN, pk_sub, nI_clamp, Nat.reduceAdd, Nat.reduceMul, Nat.reduceSub, Nat.zero_add, Nat.add_zero, h98] at h90
        all_goals (try (exfalso; omega))
        all_goals
          have h4i := h4 i (Nat.le_refl _) (by omega)
          have hzli := hzl i (by omega)
          have hzpi := hzp i (by omega)
          have hzi := hz i (by omega)
          have hri : zr (opRem (tV t) p) i = if p < zmv (tV t) p (zn (tV t) - 1) i then zmv (tV t) p (zn (tV t) - 1) i - 1 else zmv (tV t) p (zn (tV t) - 1) i := by rw [hzi]; rfl
          refine Rq.b (fun _ => b133_101 (by (try simp (disch := omega) only [nI_add, nI_mulN, pk_sub, nI_clamp, Nat.reduceAdd, Nat.reduceMul, Nat.reduceSub, Nat.zero_add, Nat.add_zero, h98, h4i]); exact nI_inbT (by omega) (by omega)) (by (try simp (disch := omega) only [nI_add, nI_mulN, pk_sub, nI_clamp, Nat.reduceAdd, Nat.reduceMul, Nat.reduceSub, Nat.zero_add, Nat.add_zero, h98, h4i]); exact nI_inbT (by omega) (by omega))) (fun h101 => ?_) (fun h101 => ?_)
          · try simp (disch := omega) only [Int32.le_iff_toInt_le, Int32.lt_iff_toInt_lt, z_eq, z_nI, z_0, z_m1, z_sub, nI_add, nI_mulN, pk_sub, nI_clamp, Nat.reduceAdd, Nat.reduceMul, Nat.reduceSub, Nat.zero_add, Nat.add_zero, h98, h4i] at h101
            all_goals (try (exfalso; omega))
            all_goals (try simp (disch := omega) only [nI_add, nI_mulN, pk_sub, nI_clamp, Nat.reduceAdd, Nat.reduceMul, Nat.reduceSub, Nat.zero_add, Nat.add_zero, h98, h4i])
            all_goals
              refine Rq.s (fun _ => b133_128) ?_
              try simp (disch := omega) only [nI_add, nI_mulN, pk_sub, nI_clamp, Nat.reduceAdd, Nat.reduceMul, Nat.reduceSub, Nat.zero_add, Nat.add_zero, h98, h4i]
              refine Rq.s (fun _ => b133_129 (by (try simp (disch := omega) only [nI_add, nI_mulN, pk_sub, nI_clamp, Nat.reduceAdd, Nat.reduceMul, Nat.reduceSub, Nat.zero_add, Nat.add_zero, h98, h4i]); exact nI_inbT (by omega) (by omega))) ?_
              try simp (disch := omega) only [nI_add, nI_mulN, pk_sub, nI_clamp, Nat.reduceAdd, Nat.reduceMul, Nat.reduceSub, Nat.zero_add, Nat.add_zero, h98, h4i]
              refine ih _ (by omega) (i + 1) _ rfl (by omega) (by rw [hx_up_in _ _ _ (by omega)]; exact h98) (fun j hj => by rw [hx_up_in _ _ _ (by omega)]; exact h1 j hj) (fun j hj1 hj2 => by rw [hx_up_in _ _ _ (by omega)]; exact h2 j hj1 hj2) (fun j hj => ?_) (fun j hj1 hj2 => by rw [hx_up_in _ _ _ (by omega)]; exact h4 j (by omega) hj2) (fun j hj => by rw [hx_up_in _ _ _ (by omega)]; exact h5 j hj) (fun a ha => by rw [hx_up_ne ha]; exact hI a ha)
              by_cases c : j = i
              · rw [c, hx_up_s, hri]
                first
                  | (rw [if_neg (by omega)]; first | done | rfl)
                  | (rw [if_pos (by omega)]; first | done | rfl)
              · rw [hx_up_in _ _ _ (by omega)]
                exact h3 j (by omega)
          · try simp (disch := omega) only [Int32.le_iff_toInt_le, Int32.lt_iff_toInt_lt, z_eq, z_nI, z_0, z_m1, z_sub, nI_add, nI_mulN, pk_sub, nI_clamp, Nat.reduceAdd, Nat.reduceMul, Nat.reduceSub, Nat.zero_add, Nat.add_zero, h98, h4i] at h101
            all_goals (try (exfalso; omega))
            all_goals (try simp (disch := omega) only [nI_add, nI_mulN, pk_sub, nI_clamp, Nat.reduceAdd, Nat.reduceMul, Nat.reduceSub, Nat.zero_add, Nat.add_zero, h98, h4i])
            all_goals
              refine Rq.s (fun _ => b133_124) ?_
              try simp (disch := omega) only [nI_add, nI_mulN, pk_sub, nI_clamp, Nat.reduceAdd, Nat.reduceMul, Nat.reduceSub, Nat.zero_add, Nat.add_zero, h98, h4i]
              refine Rq.s (fun _ => b133_129 (by (try simp (disch := omega) only [nI_add, nI_mulN, pk_sub, nI_clamp, Nat.reduceAdd, Nat.reduceMul, Nat.reduceSub, Nat.zero_add, Nat.add_zero, h98, h4i]); exact nI_inbT (by omega) (by omega))) ?_
              try simp (disch := omega) only [nI_add, nI_mulN, pk_sub, nI_clamp, Nat.reduceAdd, Nat.reduceMul, Nat.reduceSub, Nat.zero_add, Nat.add_zero, h98, h4i]
              refine ih _ (by omega) (i + 1) _ rfl (by omega) (by rw [hx_up_in _ _ _ (by omega)]; exact h98) (fun j hj => by rw [hx_up_in _ _ _ (by omega)]; exact h1 j hj) (fun j hj1 hj2 => by rw [hx_up_in _ _ _ (by omega)]; exact h2 j hj1 hj2) (fun j hj => ?_) (fun j hj1 hj2 => by rw [hx_up_in _ _ _ (by omega)]; exact h4 j (by omega) hj2) (fun j hj => by rw [hx_up_in _ _ _ (by omega)]; exact h5 j hj) (fun a ha => by rw [hx_up_ne ha]; exact hI a ha)
              by_cases c : j = i
              · rw [c, hx_up_s, hri]
                first
                  | (rw [if_neg (by omega)]; first | done | rfl)
                  | (rw [if_pos (by omega)]; first | done | rfl)
              · rw [hx_up_in _ _ _ (by omega)]
                exact h3 j (by omega)
    have L1 : ∀ m i D3, 78 - i = m → 13 * p ≤ i → i ≤ 78 → D3 80 98 = nI (zn (tV t) - 1) → (∀ j, j < 13 * p → D3 80 j = D4 80 j) → (∀ j, 13 * p ≤ j → j < i → D3 80 j = D4 80 (j + 13)) → (∀ j, i ≤ j → j < 91 → D3 80 j = D4 80 j) → (∀ j, j < zn (tV t) - 1 → D3 80 (91 + j) = nI (zmv (tV t) p (zn (tV t) - 1) j)) → (∀ j, 99 ≤ j → D3 80 j = D4 80 j) → (∀ a, a ≠ 80 → D3 a = D4 a) → Rq sc (d + 2) 133 (57, [some (.ref 79), some (.int (nI p)), some (.int (nI i))], [], (hx_S0, D3, G), 0) G (OKm D (0, nI (zn (tV t) - 1), setV (zsv t) (opRem (tV t) p))) := by
      intro m
      induction m using Nat.strongRecOn with
      | _ m ih =>
      intro i D3 hm h0 hi h98 h1 h2 h3 h4 h5 hI
      refine Rq.s (fun _ => b133_57 (by (try simp (disch := omega) only [nI_add, nI_mulN, pk_sub, nI_clamp, Nat.reduceAdd, Nat.reduceMul, Nat.reduceSub, Nat.zero_add, Nat.add_zero, h98]); exact m105 (a := 6) (b := 0))) ?_
      refine Rq.b (fun _ => b133_64) (fun h64 => ?_) (fun h64 => ?_)
      · try simp (disch := omega) only [Int32.le_iff_toInt_le, Int32.lt_iff_toInt_lt, z_eq, z_nI, z_0, z_m1, z_sub, nI_add, nI_mulN, pk_sub, nI_clamp, Nat.reduceAdd, Nat.reduceMul, Nat.reduceSub, Nat.zero_add, Nat.add_zero, h98] at h64
        all_goals (try (exfalso; omega))
        all_goals
          refine Rq.s (fun _ => b133_88) ?_
          try simp (disch := omega) only [nI_add, nI_mulN, pk_sub, nI_clamp, Nat.reduceAdd, Nat.reduceMul, Nat.reduceSub, Nat.zero_add, Nat.add_zero, h98]
          exact L2 _ 0 D3 rfl (by omega) h98 h1 (fun j hj1 hj2 => h2 j hj1 (by omega)) (fun j hj => absurd hj (Nat.not_lt_zero _)) (fun j _ hj => h4 j hj) h5 hI
      · try simp (disch := omega) only [Int32.le_iff_toInt_le, Int32.lt_iff_toInt_lt, z_eq, z_nI, z_0, z_m1, z_sub, nI_add, nI_mulN, pk_sub, nI_clamp, Nat.reduceAdd, Nat.reduceMul, Nat.reduceSub, Nat.zero_add, Nat.add_zero, h98] at h64
        all_goals (try (exfalso; omega))
        all_goals
          have h3i := h3 (i + 13) (by omega) (by omega)
          refine Rq.s (fun _ => b133_67 (by (try simp (disch := omega) only [nI_add, nI_mulN, pk_sub, nI_clamp, Nat.reduceAdd, Nat.reduceMul, Nat.reduceSub, Nat.zero_add, Nat.add_zero, h98, h3i]); exact nI_inbT (by omega) (by omega)) (by (try simp (disch := omega) only [nI_add, nI_mulN, pk_sub, nI_clamp, Nat.reduceAdd, Nat.reduceMul, Nat.reduceSub, Nat.zero_add, Nat.add_zero, h98, h3i]); exact nI_inbT (by omega) (by omega))) ?_
          try simp (disch := omega) only [nI_add, nI_mulN, pk_sub, nI_clamp, Nat.reduceAdd, Nat.reduceMul, Nat.reduceSub, Nat.zero_add, Nat.add_zero, h98, h3i]
          refine ih _ (by omega) (i + 1) _ rfl (by omega) (by omega) (by rw [hx_up_in _ _ _ (by omega)]; exact h98) (fun j hj => by rw [hx_up_in _ _ _ (by omega)]; exact h1 j hj) (fun j hj1 hj2 => ?_) (fun j hj1 hj2 => by rw [hx_up_in _ _ _ (by omega)]; exact h3 j (by omega) hj2) (fun j hj => by rw [hx_up_in _ _ _ (by omega)]; exact h4 j hj) (fun j hj => by rw [hx_up_in _ _ _ (by omega)]; exact h5 j hj) (fun a ha => by rw [hx_up_ne ha]; exact hI a ha)
          by_cases c : j = i
          · rw [c, hx_up_s]
          · rw [hx_up_in _ _ _ (by omega)]
            exact h2 j hj1 (by omega)
    refine Rq.s (fun _ => b133_0 (by (try simp (disch := omega) only [nI_add, nI_mulN, pk_sub, nI_clamp, Nat.reduceAdd, Nat.reduceMul, Nat.reduceSub, Nat.zero_add, Nat.add_zero, w98, v98]); exact h104)) ?_
    refine Rq.bf (fun _ => b133_6) (by decide) ?_
    refine Rq.s (fun _ => b133_9) ?_
    try simp (disch := omega) only [nI_add, nI_mulN, pk_sub, nI_clamp, Nat.reduceAdd, Nat.reduceMul, Nat.reduceSub, Nat.zero_add, Nat.add_zero, w98, v98]
    refine Rq.s (fun _ => b133_14 (by (try simp (disch := omega) only [nI_add, nI_mulN, pk_sub, nI_clamp, Nat.reduceAdd, Nat.reduceMul, Nat.reduceSub, Nat.zero_add, Nat.add_zero, w98, v98]); exact t103_0)) ?_
    refine Rq.bt (fun _ => b133_17) (by decide) ?_
    refine Rq.s (fun _ => b133_22 (by (try simp (disch := omega) only [nI_add, nI_mulN, pk_sub, nI_clamp, Nat.reduceAdd, Nat.reduceMul, Nat.reduceSub, Nat.zero_add, Nat.add_zero, w98, v98]); exact hC4)) ?_
    refine Rq.s (fun _ => b133_26 (by (try simp (disch := omega) only [nI_add, nI_mulN, pk_sub, nI_clamp, Nat.reduceAdd, Nat.reduceMul, Nat.reduceSub, Nat.zero_add, Nat.add_zero, w98, v98]); exact nI_inbT (by omega) (by omega)) (by (try simp (disch := omega) only [nI_add, nI_mulN, pk_sub, nI_clamp, Nat.reduceAdd, Nat.reduceMul, Nat.reduceSub, Nat.zero_add, Nat.add_zero, w98, v98]); exact hC5)) ?_
    refine Rq.s (fun _ => b133_40 (by (try simp (disch := omega) only [nI_add, nI_mulN, pk_sub, nI_clamp, Nat.reduceAdd, Nat.reduceMul, Nat.reduceSub, Nat.zero_add, Nat.add_zero, w98, v98]); exact nI_inbT (by omega) (by omega)) (by (try simp (disch := omega) only [nI_add, nI_mulN, pk_sub, nI_clamp, Nat.reduceAdd, Nat.reduceMul, Nat.reduceSub, Nat.zero_add, Nat.add_zero, w98, v98]); exact nI_inbT (by omega) (by omega)) (by (try simp (disch := omega) only [nI_add, nI_mulN, pk_sub, nI_clamp, Nat.reduceAdd, Nat.reduceMul, Nat.reduceSub, Nat.zero_add, Nat.add_zero, w98, v98]); exact m105)) ?_
    refine Rq.s (fun _ => b133_56) ?_
    exact L1 _ (13 * p) _ rfl (by omega) (by omega) (by rw [hx_up_s]) (fun j hj => by rw [hx_up_in _ _ _ (by omega)]; exact g2 j (by omega)) (fun j hj1 hj2 => by omega) (fun j hj1 hj2 => by rw [hx_up_in _ _ _ (by omega)]; exact g2 j (by omega)) (fun j hj => by rw [hx_up_in _ _ _ (by omega)]; exact g1 j (by show j < zn (tV t); omega)) (fun j hj => by rw [hx_up_in _ _ _ (by omega)]; exact g2 j (by omega)) (fun a ha => by rw [hx_up_ne ha]; exact g3 a ha)
  · rw [if_neg hp] at h104 ⊢
    refine Rq.s (fun _ => b133_0 (by (try simp (disch := omega) only [nI_add, nI_mulN, pk_sub, nI_clamp, Nat.reduceAdd, Nat.reduceMul, Nat.reduceSub, Nat.zero_add, Nat.add_zero]); exact h104)) ?_
    refine Rq.bt (fun _ => b133_6) (rfl) ?_
    refine Rq.s (fun _ => b133_13) ?_
    try simp (disch := omega) only [nI_add, nI_mulN, pk_sub, nI_clamp, Nat.reduceAdd, Nat.reduceMul, Nat.reduceSub, Nat.zero_add, Nat.add_zero]
    refine Rq.s (fun _ => b133_14 (by (try simp (disch := omega) only [nI_add, nI_mulN, pk_sub, nI_clamp, Nat.reduceAdd, Nat.reduceMul, Nat.reduceSub, Nat.zero_add, Nat.add_zero]); exact t103_k (k := 1) (by omega) (by omega))) ?_
    refine Rq.bf (fun _ => b133_17) (fun z => z rfl) ?_
    refine Rq.e (b133_20) ?_
    exact OKm.x (k := 1) hs I rfl
