/-! ===== the law: its loop ===== -/
theorem bud202 : hx_bud 202 = 7000 := by decide +kernel
theorem bud3_57 : hx_bud 57 ≤ 3 := by decide +kernel
theorem bud3_60 : hx_bud 60 ≤ 3 := by decide +kernel
theorem bud3_61 : hx_bud 61 ≤ 3 := by decide +kernel
theorem bud3_76 : hx_bud 76 ≤ 3 := by decide +kernel
theorem bud3_77 : hx_bud 77 ≤ 3 := by decide +kernel
theorem bud3_78 : hx_bud 78 ≤ 3 := by decide +kernel
theorem bud3_79 : hx_bud 79 ≤ 3 := by decide +kernel
theorem bud3_101 : hx_bud 101 ≤ 3 := by decide +kernel
theorem bud3_126 : hx_bud 126 ≤ 3 := by decide +kernel
theorem bud3_128 : hx_bud 128 ≤ 3 := by decide +kernel
theorem bud3_129 : hx_bud 129 ≤ 3 := by decide +kernel
theorem bud3_132 : hx_bud 132 ≤ 3 := by decide +kernel
theorem bud3_133 : hx_bud 133 ≤ 3 := by decide +kernel
theorem bud3_134 : hx_bud 134 ≤ 3 := by decide +kernel
theorem bud3_135 : hx_bud 135 ≤ 3 := by decide +kernel
theorem bud3_136 : hx_bud 136 ≤ 3 := by decide +kernel
theorem bud3_137 : hx_bud 137 ≤ 3 := by decide +kernel
theorem bud3_138 : hx_bud 138 ≤ 3 := by decide +kernel
theorem bud3_147 : hx_bud 147 ≤ 3 := by decide +kernel
theorem bud3_148 : hx_bud 148 ≤ 3 := by decide +kernel
theorem bud3_149 : hx_bud 149 ≤ 3 := by decide +kernel
theorem bud3_150 : hx_bud 150 ≤ 3 := by decide +kernel
theorem bud3_151 : hx_bud 151 ≤ 3 := by decide +kernel
theorem bud3_153 : hx_bud 153 ≤ 3 := by decide +kernel
theorem bud3_154 : hx_bud 154 ≤ 3 := by decide +kernel
theorem bud3_155 : hx_bud 155 ≤ 3 := by decide +kernel
theorem bud3_156 : hx_bud 156 ≤ 3 := by decide +kernel
theorem bud3_158 : hx_bud 158 ≤ 3 := by decide +kernel
theorem bud3_161 : hx_bud 161 ≤ 3 := by decide +kernel
theorem bud3_162 : hx_bud 162 ≤ 3 := by decide +kernel
theorem bud3_164 : hx_bud 164 ≤ 3 := by decide +kernel
theorem bud3_166 : hx_bud 166 ≤ 3 := by decide +kernel
theorem bud3_168 : hx_bud 168 ≤ 3 := by decide +kernel
theorem bud3_170 : hx_bud 170 ≤ 3 := by decide +kernel
theorem bud3_172 : hx_bud 172 ≤ 3 := by decide +kernel
theorem bud3_174 : hx_bud 174 ≤ 3 := by decide +kernel
theorem bud3_179 : hx_bud 179 ≤ 3 := by decide +kernel
theorem bud3_180 : hx_bud 180 ≤ 3 := by decide +kernel
theorem bud3_181 : hx_bud 181 ≤ 3 := by decide +kernel
theorem bud3_182 : hx_bud 182 ≤ 3 := by decide +kernel
theorem bud3_183 : hx_bud 183 ≤ 3 := by decide +kernel
theorem bud3_184 : hx_bud 184 ≤ 3 := by decide +kernel
theorem bud3_185 : hx_bud 185 ≤ 3 := by decide +kernel
theorem bud3_186 : hx_bud 186 ≤ 3 := by decide +kernel
theorem bud3_187 : hx_bud 187 ≤ 3 := by decide +kernel
theorem bud3_188 : hx_bud 188 ≤ 3 := by decide +kernel
theorem bud3_189 : hx_bud 189 ≤ 3 := by decide +kernel
theorem bud3_190 : hx_bud 190 ≤ 3 := by decide +kernel
theorem bud3_191 : hx_bud 191 ≤ 3 := by decide +kernel
theorem bud3_192 : hx_bud 192 ≤ 3 := by decide +kernel
theorem bud3_193 : hx_bud 193 ≤ 3 := by decide +kernel
theorem bud3_194 : hx_bud 194 ≤ 3 := by decide +kernel
theorem bud3_195 : hx_bud 195 ≤ 3 := by decide +kernel
theorem bud3_196 : hx_bud 196 ≤ 3 := by decide +kernel
theorem bud3_197 : hx_bud 197 ≤ 3 := by decide +kernel
theorem bud3_198 : hx_bud 198 ≤ 3 := by decide +kernel
theorem bud3_199 : hx_bud 199 ≤ 3 := by decide +kernel
theorem bud3_200 : hx_bud 200 ≤ 3 := by decide +kernel
theorem bud3_201 : hx_bud 201 ≤ 3 := by decide +kernel
theorem iI_toInt (x : Int32) : x = iI x.toInt := Int32.toInt_inj.mp (by rw [z_iI (Int32.le_toInt x) (Int32.toInt_lt x)])
theorem sc_int (x : Int32) : ∃ v : Int, -2147483648 ≤ v ∧ v < 2147483648 ∧ x = iI v := ⟨x.toInt, Int32.le_toInt x, Int32.toInt_lt x, iI_toInt x⟩
theorem InvC_c {D D2 : Nat → Nat → Int32} {t : ST} (I : InvC D t) (e : eqC D D2) : InvC D2 t := by
  obtain ⟨i1, i2, i3, i4⟩ := I
  exact ⟨RepC_g (fun a a1 a2 => e a (by omega)) i1, RingC_k (by rw [e 0 (by omega)]) (by rw [e 0 (by omega)]) (fun a a1 a2 => e a (by omega)) i2, SlotC_k (e 10 (by omega)) (fun a a1 a2 => e a (by omega)) i3, BF_k (by rw [e 0 (by omega)]) (e 11 (by omega)) i4⟩
theorem InvM_mm {D D2 : Nat → Nat → Int32} {t : ST} (hs : SV t) (I : InvM D t) (e : eqM D D2) : InvM D2 t := InvM_w hs I (fun a ha => e a (by omega)) (fun i _ => by rw [e 80 (by omega)]) (fun j _ => by rw [e 79 (by omega)])
theorem m101 {sc : Nat × (Nat → Int32)} {d : Nat} {D : Nat → Nat → Int32} {G : Nat → Nat → Int64} : Cl sc d 101 [.ref 79] (hx_S0, D, G) (.inl (some (.int (D 79 0)))) (hx_S0, D, G) := c101 (u := 0) b101_0
theorem nI_nz2 {k : Nat} (h : ¬ k = 0) (h2 : k ≤ 100) : ¬ nI k = 0 := by
  rw [z_eq, z_nI (by omega), z_0]
  omega
theorem lg_cmp_s (a : Int64) : lg_cmp a a = 0 := by
  unfold lg_cmp
  simp
theorem law_168 {sc : Nat × (Nat → Int32)} {D : Nat → Nat → Int32} {G : Nat → Nat → Int64} {t : ST} {i u : Nat} {v1 v2 v3 v4 : Int} (p1 : -2147483648 ≤ v1) (q1 : v1 < 2147483648) (p2 : -2147483648 ≤ v2) (q2 : v2 < 2147483648) (p3 : -2147483648 ≤ v3) (q3 : v3 < 2147483648) (p4 : -2147483648 ≤ v4) (q4 : v4 < 2147483648) (e1 : sc.2 (i + 1) = iI v1) (e2 : sc.2 (i + 2) = iI v2) (e3 : sc.2 (i + 3) = iI v3) (e4x : sc.2 (i + 4) = iI v4) (hL : i + 5 ≤ sc.1) (hL2 : sc.1 ≤ 2560) (hu : u ≤ 6900) (I : InvC D t) (IM : InvM D t) (hs : SV t) (K : ∀ u2 D2 G2 t2, u2 ≤ u + 3 → InvC D2 t2 → InvM D2 t2 → SV t2 → Rg sc 100 202 (1670, [some (.retAddr 0), some (.ref 0), some (.ref 79), some (.ref 89), some (.int (nI i)), none, none, none, none], [], (hx_S0, D2, G2), u2) (fun r _ _ => r = .inl (some (.int (nI 1))))) : Rg sc 100 202 (168, [some (.retAddr 0), some (.ref 0), some (.ref 79), some (.ref 89), some (.int (nI i)), none, none, none, none], [], (hx_S0, D, G), u) (fun r _ _ => r = .inl (some (.int (nI 1)))) := by
  have hs5 : SV (oAdd t v1).2.2 := sv_oAdd hs
  obtain ⟨_, D4, G4, hC4, rfl, I4, e4, hG4⟩ := w180 (sc := sc) (d := 88) (G := G) (x := v1) p1 q1 I hs
  have M4 := InvM_mm hs IM e4
  refine Rg.s (fun _ => b202_168 (by (try simp (disch := omega) only [nI_add, nI_mulN, pk_sub, nI_clamp, Nat.reduceAdd, Nat.reduceMul, Nat.reduceSub, Nat.zero_add, Nat.add_zero, e1, e2, e3, e4x]); exact nI_inbT (by omega) (by omega)) (by rw [bud202]; have h9 := bud3_180; omega) (by (try simp (disch := omega) only [nI_add, nI_clamp, Nat.reduceAdd, e1, e2, e3, e4x]); exact hC4)) ?_
  obtain ⟨_, D5, hC5, rfl, h05, M5, e5⟩ := rAdd (sc := sc) (d := 97) (G := G4) (x := v1) p1 q1 M4 hs
  have I5 := InvC_c I4 e5
  refine Rg.s (fun _ => b202_179 (by (try simp (disch := omega) only [nI_add, nI_mulN, pk_sub, nI_clamp, Nat.reduceAdd, Nat.reduceMul, Nat.reduceSub, Nat.zero_add, Nat.add_zero, e1, e2, e3, e4x]); exact nI_inbT (by omega) (by omega)) (by rw [bud202]; have h9 := bud3_126; omega) (by (try simp (disch := omega) only [nI_add, nI_clamp, Nat.reduceAdd, e1, e2, e3, e4x]); exact hC5)) ?_
  refine Rg.s (fun _ => b202_191 (by rw [bud202]; have h9 := bud3_101; omega) (by (try simp (disch := omega) only [nI_add, nI_mulN, pk_sub, nI_clamp, Nat.reduceAdd, Nat.reduceMul, Nat.reduceSub, Nat.zero_add, Nat.add_zero, e1, e2, e3, e4x]); exact m101)) ?_
  refine Rg.bt (fun _ => b202_197) (by first | exact h05 | exact h05.symm | rfl) ?_
  by_cases hc : ¬ (oAdd t v1).1 = 0
  · refine Rg.bt (fun _ => b202_204) (nI_nz2 hc (Nat.le_trans (c_oAdd (x := v1)) (by omega))) ?_
    refine Rg.s (fun _ => b202_221) ?_
    exact K _ D5 G4 (oAdd t v1).2.2 (by omega) I5 M5 hs5
  · refine Rg.bf (fun _ => b202_204) (by rw [Decidable.not_not.mp hc]; exact fun z => z rfl) ?_
    refine Rg.bt (fun _ => b202_209 (by (try simp (disch := omega) only [nI_add, nI_mulN, pk_sub, nI_clamp, Nat.reduceAdd, Nat.reduceMul, Nat.reduceSub, Nat.zero_add, Nat.add_zero, e1, e2, e3, e4x]); exact nI_inbT (by omega) (by omega))) (by rw [nI_clamp (by omega), hG4, if_pos (Decidable.not_not.mp hc), hx_up_s]; exact lg_cmp_s _) ?_
    refine Rg.s (fun _ => b202_221) ?_
    exact K _ D5 G4 (oAdd t v1).2.2 (by omega) I5 M5 hs5
theorem law_224 {sc : Nat × (Nat → Int32)} {D : Nat → Nat → Int32} {G : Nat → Nat → Int64} {t : ST} {i u : Nat} {v1 v2 v3 v4 : Int} (p1 : -2147483648 ≤ v1) (q1 : v1 < 2147483648) (p2 : -2147483648 ≤ v2) (q2 : v2 < 2147483648) (p3 : -2147483648 ≤ v3) (q3 : v3 < 2147483648) (p4 : -2147483648 ≤ v4) (q4 : v4 < 2147483648) (e1 : sc.2 (i + 1) = iI v1) (e2 : sc.2 (i + 2) = iI v2) (e3 : sc.2 (i + 3) = iI v3) (e4x : sc.2 (i + 4) = iI v4) (hL : i + 5 ≤ sc.1) (hL2 : sc.1 ≤ 2560) (hu : u ≤ 6900) (I : InvC D t) (IM : InvM D t) (hs : SV t) (K : ∀ u2 D2 G2 t2, u2 ≤ u + 3 → InvC D2 t2 → InvM D2 t2 → SV t2 → Rg sc 100 202 (1670, [some (.retAddr 0), some (.ref 0), some (.ref 79), some (.ref 89), some (.int (nI i)), none, none, none, none], [], (hx_S0, D2, G2), u2) (fun r _ _ => r = .inl (some (.int (nI 1))))) : Rg sc 100 202 (224, [some (.retAddr 0), some (.ref 0), some (.ref 79), some (.ref 89), some (.int (nI i)), none, none, none, none], [], (hx_S0, D, G), u) (fun r _ _ => r = .inl (some (.int (nI 1)))) := by
  have hs5 : SV (oTear t v1 v2 v3 v4).2.2 := sv_oTear hs
  refine Rg.s (fun _ => b202_224 (by (try simp (disch := omega) only [nI_add, nI_mulN, pk_sub, nI_clamp, Nat.reduceAdd, Nat.reduceMul, Nat.reduceSub, Nat.zero_add, Nat.add_zero, e1, e2, e3, e4x]); exact nI_inbT (by omega) (by omega)) (by (try simp (disch := omega) only [nI_add, nI_mulN, pk_sub, nI_clamp, Nat.reduceAdd, Nat.reduceMul, Nat.reduceSub, Nat.zero_add, Nat.add_zero, e1, e2, e3, e4x]); exact nI_inbT (by omega) (by omega)) (by (try simp (disch := omega) only [nI_add, nI_mulN, pk_sub, nI_clamp, Nat.reduceAdd, Nat.reduceMul, Nat.reduceSub, Nat.zero_add, Nat.add_zero, e1, e2, e3, e4x]); exact nI_inbT (by omega) (by omega))) ?_
  try simp (disch := omega) only [nI_add, nI_mulN, pk_sub, nI_clamp, Nat.reduceAdd, Nat.reduceMul, Nat.reduceSub, Nat.zero_add, Nat.add_zero, e1, e2, e3, e4x]
  obtain ⟨_, D4, G4, hC4, rfl, I4, e4, hG4⟩ := w181 (sc := sc) (d := 88) (G := G) (p := v1) (s := v2) (k := v3) (h := v4) p1 q1 p2 q2 p3 q3 p4 q4 I hs
  have M4 := InvM_mm hs IM e4
  refine Rg.s (fun _ => b202_246 (by (try simp (disch := omega) only [nI_add, nI_mulN, pk_sub, nI_clamp, Nat.reduceAdd, Nat.reduceMul, Nat.reduceSub, Nat.zero_add, Nat.add_zero, e1, e2, e3, e4x]); exact nI_inbT (by omega) (by omega)) (by rw [bud202]; have h9 := bud3_181; omega) (by (try simp (disch := omega) only [nI_add, nI_clamp, Nat.reduceAdd, e1, e2, e3, e4x]); exact hC4)) ?_
  refine Rg.s (fun _ => b202_253 (by (try simp (disch := omega) only [nI_add, nI_mulN, pk_sub, nI_clamp, Nat.reduceAdd, Nat.reduceMul, Nat.reduceSub, Nat.zero_add, Nat.add_zero, e1, e2, e3, e4x]); exact nI_inbT (by omega) (by omega)) (by (try simp (disch := omega) only [nI_add, nI_mulN, pk_sub, nI_clamp, Nat.reduceAdd, Nat.reduceMul, Nat.reduceSub, Nat.zero_add, Nat.add_zero, e1, e2, e3, e4x]); exact nI_inbT (by omega) (by omega)) (by (try simp (disch := omega) only [nI_add, nI_mulN, pk_sub, nI_clamp, Nat.reduceAdd, Nat.reduceMul, Nat.reduceSub, Nat.zero_add, Nat.add_zero, e1, e2, e3, e4x]); exact nI_inbT (by omega) (by omega))) ?_
  try simp (disch := omega) only [nI_add, nI_mulN, pk_sub, nI_clamp, Nat.reduceAdd, Nat.reduceMul, Nat.reduceSub, Nat.zero_add, Nat.add_zero, e1, e2, e3, e4x]
  obtain ⟨_, D5, hC5, rfl, h05, M5, e5⟩ := rTear (sc := sc) (d := 97) (G := G4) (p := v1) (s := v2) (k := v3) (h := v4) p1 q1 p2 q2 p3 q3 p4 q4 M4 hs
  have I5 := InvC_c I4 e5
  refine Rg.s (fun _ => b202_275 (by (try simp (disch := omega) only [nI_add, nI_mulN, pk_sub, nI_clamp, Nat.reduceAdd, Nat.reduceMul, Nat.reduceSub, Nat.zero_add, Nat.add_zero, e1, e2, e3, e4x]); exact nI_inbT (by omega) (by omega)) (by rw [bud202]; have h9 := bud3_128; omega) (by (try simp (disch := omega) only [nI_add, nI_clamp, Nat.reduceAdd, e1, e2, e3, e4x]); exact hC5)) ?_
  refine Rg.s (fun _ => b202_283 (by rw [bud202]; have h9 := bud3_101; omega) (by (try simp (disch := omega) only [nI_add, nI_mulN, pk_sub, nI_clamp, Nat.reduceAdd, Nat.reduceMul, Nat.reduceSub, Nat.zero_add, Nat.add_zero, e1, e2, e3, e4x]); exact m101)) ?_
  refine Rg.bt (fun _ => b202_289) (by first | exact h05 | exact h05.symm | rfl) ?_
  by_cases hc : ¬ (oTear t v1 v2 v3 v4).1 = 0
  · refine Rg.bt (fun _ => b202_296) (nI_nz2 hc (Nat.le_trans (c_oTear (p := v1) (s := v2) (k := v3) (h := v4)) (by omega))) ?_
    refine Rg.s (fun _ => b202_313) ?_
    exact K _ D5 G4 (oTear t v1 v2 v3 v4).2.2 (by omega) I5 M5 hs5
  · refine Rg.bf (fun _ => b202_296) (by rw [Decidable.not_not.mp hc]; exact fun z => z rfl) ?_
    refine Rg.bt (fun _ => b202_301 (by (try simp (disch := omega) only [nI_add, nI_mulN, pk_sub, nI_clamp, Nat.reduceAdd, Nat.reduceMul, Nat.reduceSub, Nat.zero_add, Nat.add_zero, e1, e2, e3, e4x]); exact nI_inbT (by omega) (by omega))) (by rw [nI_clamp (by omega), hG4, if_pos (Decidable.not_not.mp hc), hx_up_s]; exact lg_cmp_s _) ?_
    refine Rg.s (fun _ => b202_313) ?_
    exact K _ D5 G4 (oTear t v1 v2 v3 v4).2.2 (by omega) I5 M5 hs5
theorem law_316 {sc : Nat × (Nat → Int32)} {D : Nat → Nat → Int32} {G : Nat → Nat → Int64} {t : ST} {i u : Nat} {v1 v2 v3 v4 : Int} (p1 : -2147483648 ≤ v1) (q1 : v1 < 2147483648) (p2 : -2147483648 ≤ v2) (q2 : v2 < 2147483648) (p3 : -2147483648 ≤ v3) (q3 : v3 < 2147483648) (p4 : -2147483648 ≤ v4) (q4 : v4 < 2147483648) (e1 : sc.2 (i + 1) = iI v1) (e2 : sc.2 (i + 2) = iI v2) (e3 : sc.2 (i + 3) = iI v3) (e4x : sc.2 (i + 4) = iI v4) (hL : i + 5 ≤ sc.1) (hL2 : sc.1 ≤ 2560) (hu : u ≤ 6900) (I : InvC D t) (IM : InvM D t) (hs : SV t) (K : ∀ u2 D2 G2 t2, u2 ≤ u + 3 → InvC D2 t2 → InvM D2 t2 → SV t2 → Rg sc 100 202 (1670, [some (.retAddr 0), some (.ref 0), some (.ref 79), some (.ref 89), some (.int (nI i)), none, none, none, none], [], (hx_S0, D2, G2), u2) (fun r _ _ => r = .inl (some (.int (nI 1))))) : Rg sc 100 202 (316, [some (.retAddr 0), some (.ref 0), some (.ref 79), some (.ref 89), some (.int (nI i)), none, none, none, none], [], (hx_S0, D, G), u) (fun r _ _ => r = .inl (some (.int (nI 1)))) := by
  have hs5 : SV (oFibre t v1 v2 v3).2.2 := sv_oFibre hs
  obtain ⟨_, D4, G4, hC4, rfl, I4, e4, hG4⟩ := w182 (sc := sc) (d := 88) (G := G) (p := v1) (s := v2) (h := v3) p1 q1 p2 q2 p3 q3 I hs
  have M4 := InvM_mm hs IM e4
  refine Rg.s (fun _ => b202_316 (by (try simp (disch := omega) only [nI_add, nI_mulN, pk_sub, nI_clamp, Nat.reduceAdd, Nat.reduceMul, Nat.reduceSub, Nat.zero_add, Nat.add_zero, e1, e2, e3, e4x]); exact nI_inbT (by omega) (by omega)) (by (try simp (disch := omega) only [nI_add, nI_mulN, pk_sub, nI_clamp, Nat.reduceAdd, Nat.reduceMul, Nat.reduceSub, Nat.zero_add, Nat.add_zero, e1, e2, e3, e4x]); exact nI_inbT (by omega) (by omega)) (by (try simp (disch := omega) only [nI_add, nI_mulN, pk_sub, nI_clamp, Nat.reduceAdd, Nat.reduceMul, Nat.reduceSub, Nat.zero_add, Nat.add_zero, e1, e2, e3, e4x]); exact nI_inbT (by omega) (by omega)) (by rw [bud202]; have h9 := bud3_182; omega) (by (try simp (disch := omega) only [nI_add, nI_clamp, Nat.reduceAdd, e1, e2, e3, e4x]); exact hC4)) ?_
  obtain ⟨_, D5, hC5, rfl, h05, M5, e5⟩ := rFibre (sc := sc) (d := 97) (G := G4) (p := v1) (s := v2) (h := v3) p1 q1 p2 q2 p3 q3 M4 hs
  have I5 := InvC_c I4 e5
  refine Rg.s (fun _ => b202_339 (by (try simp (disch := omega) only [nI_add, nI_mulN, pk_sub, nI_clamp, Nat.reduceAdd, Nat.reduceMul, Nat.reduceSub, Nat.zero_add, Nat.add_zero, e1, e2, e3, e4x]); exact nI_inbT (by omega) (by omega)) (by (try simp (disch := omega) only [nI_add, nI_mulN, pk_sub, nI_clamp, Nat.reduceAdd, Nat.reduceMul, Nat.reduceSub, Nat.zero_add, Nat.add_zero, e1, e2, e3, e4x]); exact nI_inbT (by omega) (by omega)) (by (try simp (disch := omega) only [nI_add, nI_mulN, pk_sub, nI_clamp, Nat.reduceAdd, Nat.reduceMul, Nat.reduceSub, Nat.zero_add, Nat.add_zero, e1, e2, e3, e4x]); exact nI_inbT (by omega) (by omega)) (by rw [bud202]; have h9 := bud3_129; omega) (by (try simp (disch := omega) only [nI_add, nI_clamp, Nat.reduceAdd, e1, e2, e3, e4x]); exact hC5)) ?_
  refine Rg.s (fun _ => b202_363 (by rw [bud202]; have h9 := bud3_101; omega) (by (try simp (disch := omega) only [nI_add, nI_mulN, pk_sub, nI_clamp, Nat.reduceAdd, Nat.reduceMul, Nat.reduceSub, Nat.zero_add, Nat.add_zero, e1, e2, e3, e4x]); exact m101)) ?_
  refine Rg.bt (fun _ => b202_369) (by first | exact h05 | exact h05.symm | rfl) ?_
  by_cases hc : ¬ (oFibre t v1 v2 v3).1 = 0
  · refine Rg.bt (fun _ => b202_376) (nI_nz2 hc (Nat.le_trans (c_oFibre (p := v1) (s := v2) (h := v3)) (by omega))) ?_
    refine Rg.s (fun _ => b202_393) ?_
    exact K _ D5 G4 (oFibre t v1 v2 v3).2.2 (by omega) I5 M5 hs5
  · refine Rg.bf (fun _ => b202_376) (by rw [Decidable.not_not.mp hc]; exact fun z => z rfl) ?_
    refine Rg.bt (fun _ => b202_381 (by (try simp (disch := omega) only [nI_add, nI_mulN, pk_sub, nI_clamp, Nat.reduceAdd, Nat.reduceMul, Nat.reduceSub, Nat.zero_add, Nat.add_zero, e1, e2, e3, e4x]); exact nI_inbT (by omega) (by omega))) (by rw [nI_clamp (by omega), hG4, if_pos (Decidable.not_not.mp hc), hx_up_s]; exact lg_cmp_s _) ?_
    refine Rg.s (fun _ => b202_393) ?_
    exact K _ D5 G4 (oFibre t v1 v2 v3).2.2 (by omega) I5 M5 hs5
theorem law_396 {sc : Nat × (Nat → Int32)} {D : Nat → Nat → Int32} {G : Nat → Nat → Int64} {t : ST} {i u : Nat} {v1 v2 v3 v4 : Int} (p1 : -2147483648 ≤ v1) (q1 : v1 < 2147483648) (p2 : -2147483648 ≤ v2) (q2 : v2 < 2147483648) (p3 : -2147483648 ≤ v3) (q3 : v3 < 2147483648) (p4 : -2147483648 ≤ v4) (q4 : v4 < 2147483648) (e1 : sc.2 (i + 1) = iI v1) (e2 : sc.2 (i + 2) = iI v2) (e3 : sc.2 (i + 3) = iI v3) (e4x : sc.2 (i + 4) = iI v4) (hL : i + 5 ≤ sc.1) (hL2 : sc.1 ≤ 2560) (hu : u ≤ 6900) (I : InvC D t) (IM : InvM D t) (hs : SV t) (K : ∀ u2 D2 G2 t2, u2 ≤ u + 3 → InvC D2 t2 → InvM D2 t2 → SV t2 → Rg sc 100 202 (1670, [some (.retAddr 0), some (.ref 0), some (.ref 79), some (.ref 89), some (.int (nI i)), none, none, none, none], [], (hx_S0, D2, G2), u2) (fun r _ _ => r = .inl (some (.int (nI 1))))) : Rg sc 100 202 (396, [some (.retAddr 0), some (.ref 0), some (.ref 79), some (.ref 89), some (.int (nI i)), none, none, none, none], [], (hx_S0, D, G), u) (fun r _ _ => r = .inl (some (.int (nI 1)))) := by
  have hs5 : SV (oHole t v1 v2).2.2 := sv_oHole hs
  obtain ⟨_, D4, G4, hC4, rfl, I4, e4, hG4⟩ := w183 (sc := sc) (d := 88) (G := G) (p := v1) (x := v2) p1 q1 p2 q2 I hs
  have M4 := InvM_mm hs IM e4
  refine Rg.s (fun _ => b202_396 (by (try simp (disch := omega) only [nI_add, nI_mulN, pk_sub, nI_clamp, Nat.reduceAdd, Nat.reduceMul, Nat.reduceSub, Nat.zero_add, Nat.add_zero, e1, e2, e3, e4x]); exact nI_inbT (by omega) (by omega)) (by (try simp (disch := omega) only [nI_add, nI_mulN, pk_sub, nI_clamp, Nat.reduceAdd, Nat.reduceMul, Nat.reduceSub, Nat.zero_add, Nat.add_zero, e1, e2, e3, e4x]); exact nI_inbT (by omega) (by omega)) (by rw [bud202]; have h9 := bud3_183; omega) (by (try simp (disch := omega) only [nI_add, nI_clamp, Nat.reduceAdd, e1, e2, e3, e4x]); exact hC4)) ?_
  obtain ⟨_, D5, hC5, rfl, h05, M5, e5⟩ := rHole (sc := sc) (d := 95) (G := G4) (p := v1) (x := v2) p1 q1 p2 q2 M4 hs
  have I5 := InvC_c I4 e5
  refine Rg.s (fun _ => b202_413 (by (try simp (disch := omega) only [nI_add, nI_mulN, pk_sub, nI_clamp, Nat.reduceAdd, Nat.reduceMul, Nat.reduceSub, Nat.zero_add, Nat.add_zero, e1, e2, e3, e4x]); exact nI_inbT (by omega) (by omega)) (by (try simp (disch := omega) only [nI_add, nI_mulN, pk_sub, nI_clamp, Nat.reduceAdd, Nat.reduceMul, Nat.reduceSub, Nat.zero_add, Nat.add_zero, e1, e2, e3, e4x]); exact nI_inbT (by omega) (by omega)) (by rw [bud202]; have h9 := bud3_132; omega) (by (try simp (disch := omega) only [nI_add, nI_clamp, Nat.reduceAdd, e1, e2, e3, e4x]); exact hC5)) ?_
  refine Rg.s (fun _ => b202_431 (by rw [bud202]; have h9 := bud3_101; omega) (by (try simp (disch := omega) only [nI_add, nI_mulN, pk_sub, nI_clamp, Nat.reduceAdd, Nat.reduceMul, Nat.reduceSub, Nat.zero_add, Nat.add_zero, e1, e2, e3, e4x]); exact m101)) ?_
  refine Rg.bt (fun _ => b202_437) (by first | exact h05 | exact h05.symm | rfl) ?_
  by_cases hc : ¬ (oHole t v1 v2).1 = 0
  · refine Rg.bt (fun _ => b202_444) (nI_nz2 hc (Nat.le_trans (c_oHole (p := v1) (x := v2)) (by omega))) ?_
    refine Rg.s (fun _ => b202_461) ?_
    exact K _ D5 G4 (oHole t v1 v2).2.2 (by omega) I5 M5 hs5
  · refine Rg.bf (fun _ => b202_444) (by rw [Decidable.not_not.mp hc]; exact fun z => z rfl) ?_
    refine Rg.bt (fun _ => b202_449 (by (try simp (disch := omega) only [nI_add, nI_mulN, pk_sub, nI_clamp, Nat.reduceAdd, Nat.reduceMul, Nat.reduceSub, Nat.zero_add, Nat.add_zero, e1, e2, e3, e4x]); exact nI_inbT (by omega) (by omega))) (by rw [nI_clamp (by omega), hG4, if_pos (Decidable.not_not.mp hc), hx_up_s]; exact lg_cmp_s _) ?_
    refine Rg.s (fun _ => b202_461) ?_
    exact K _ D5 G4 (oHole t v1 v2).2.2 (by omega) I5 M5 hs5
theorem law_464 {sc : Nat × (Nat → Int32)} {D : Nat → Nat → Int32} {G : Nat → Nat → Int64} {t : ST} {i u : Nat} {v1 v2 v3 v4 : Int} (p1 : -2147483648 ≤ v1) (q1 : v1 < 2147483648) (p2 : -2147483648 ≤ v2) (q2 : v2 < 2147483648) (p3 : -2147483648 ≤ v3) (q3 : v3 < 2147483648) (p4 : -2147483648 ≤ v4) (q4 : v4 < 2147483648) (e1 : sc.2 (i + 1) = iI v1) (e2 : sc.2 (i + 2) = iI v2) (e3 : sc.2 (i + 3) = iI v3) (e4x : sc.2 (i + 4) = iI v4) (hL : i + 5 ≤ sc.1) (hL2 : sc.1 ≤ 2560) (hu : u ≤ 6900) (I : InvC D t) (IM : InvM D t) (hs : SV t) (K : ∀ u2 D2 G2 t2, u2 ≤ u + 3 → InvC D2 t2 → InvM D2 t2 → SV t2 → Rg sc 100 202 (1670, [some (.retAddr 0), some (.ref 0), some (.ref 79), some (.ref 89), some (.int (nI i)), none, none, none, none], [], (hx_S0, D2, G2), u2) (fun r _ _ => r = .inl (some (.int (nI 1))))) : Rg sc 100 202 (464, [some (.retAddr 0), some (.ref 0), some (.ref 79), some (.ref 89), some (.int (nI i)), none, none, none, none], [], (hx_S0, D, G), u) (fun r _ _ => r = .inl (some (.int (nI 1)))) := by
  have hs5 : SV (oRemove t v1).2.2 := sv_oRemove hs
  obtain ⟨_, D4, G4, hC4, rfl, I4, e4, hG4⟩ := w184 (sc := sc) (d := 88) (G := G) (p := v1) p1 q1 I hs
  have M4 := InvM_mm hs IM e4
  refine Rg.s (fun _ => b202_464 (by (try simp (disch := omega) only [nI_add, nI_mulN, pk_sub, nI_clamp, Nat.reduceAdd, Nat.reduceMul, Nat.reduceSub, Nat.zero_add, Nat.add_zero, e1, e2, e3, e4x]); exact nI_inbT (by omega) (by omega)) (by rw [bud202]; have h9 := bud3_184; omega) (by (try simp (disch := omega) only [nI_add, nI_clamp, Nat.reduceAdd, e1, e2, e3, e4x]); exact hC4)) ?_
  obtain ⟨_, D5, hC5, rfl, h05, M5, e5⟩ := rRemove (sc := sc) (d := 97) (G := G4) (p := v1) p1 q1 M4 hs
  have I5 := InvC_c I4 e5
  refine Rg.s (fun _ => b202_475 (by (try simp (disch := omega) only [nI_add, nI_mulN, pk_sub, nI_clamp, Nat.reduceAdd, Nat.reduceMul, Nat.reduceSub, Nat.zero_add, Nat.add_zero, e1, e2, e3, e4x]); exact nI_inbT (by omega) (by omega)) (by rw [bud202]; have h9 := bud3_133; omega) (by (try simp (disch := omega) only [nI_add, nI_clamp, Nat.reduceAdd, e1, e2, e3, e4x]); exact hC5)) ?_
  refine Rg.s (fun _ => b202_487 (by rw [bud202]; have h9 := bud3_101; omega) (by (try simp (disch := omega) only [nI_add, nI_mulN, pk_sub, nI_clamp, Nat.reduceAdd, Nat.reduceMul, Nat.reduceSub, Nat.zero_add, Nat.add_zero, e1, e2, e3, e4x]); exact m101)) ?_
  refine Rg.bt (fun _ => b202_493) (by first | exact h05 | exact h05.symm | rfl) ?_
  by_cases hc : ¬ (oRemove t v1).1 = 0
  · refine Rg.bt (fun _ => b202_500) (nI_nz2 hc (Nat.le_trans (c_oRemove (p := v1)) (by omega))) ?_
    refine Rg.s (fun _ => b202_517) ?_
    exact K _ D5 G4 (oRemove t v1).2.2 (by omega) I5 M5 hs5
  · refine Rg.bf (fun _ => b202_500) (by rw [Decidable.not_not.mp hc]; exact fun z => z rfl) ?_
    refine Rg.bt (fun _ => b202_505 (by (try simp (disch := omega) only [nI_add, nI_mulN, pk_sub, nI_clamp, Nat.reduceAdd, Nat.reduceMul, Nat.reduceSub, Nat.zero_add, Nat.add_zero, e1, e2, e3, e4x]); exact nI_inbT (by omega) (by omega))) (by rw [nI_clamp (by omega), hG4, if_pos (Decidable.not_not.mp hc), hx_up_s]; exact lg_cmp_s _) ?_
    refine Rg.s (fun _ => b202_517) ?_
    exact K _ D5 G4 (oRemove t v1).2.2 (by omega) I5 M5 hs5
theorem law_520 {sc : Nat × (Nat → Int32)} {D : Nat → Nat → Int32} {G : Nat → Nat → Int64} {t : ST} {i u : Nat} {v1 v2 v3 v4 : Int} (p1 : -2147483648 ≤ v1) (q1 : v1 < 2147483648) (p2 : -2147483648 ≤ v2) (q2 : v2 < 2147483648) (p3 : -2147483648 ≤ v3) (q3 : v3 < 2147483648) (p4 : -2147483648 ≤ v4) (q4 : v4 < 2147483648) (e1 : sc.2 (i + 1) = iI v1) (e2 : sc.2 (i + 2) = iI v2) (e3 : sc.2 (i + 3) = iI v3) (e4x : sc.2 (i + 4) = iI v4) (hL : i + 5 ≤ sc.1) (hL2 : sc.1 ≤ 2560) (hu : u ≤ 6900) (I : InvC D t) (IM : InvM D t) (hs : SV t) (K : ∀ u2 D2 G2 t2, u2 ≤ u + 3 → InvC D2 t2 → InvM D2 t2 → SV t2 → Rg sc 100 202 (1670, [some (.retAddr 0), some (.ref 0), some (.ref 79), some (.ref 89), some (.int (nI i)), none, none, none, none], [], (hx_S0, D2, G2), u2) (fun r _ _ => r = .inl (some (.int (nI 1))))) : Rg sc 100 202 (520, [some (.retAddr 0), some (.ref 0), some (.ref 79), some (.ref 89), some (.int (nI i)), none, none, none, none], [], (hx_S0, D, G), u) (fun r _ _ => r = .inl (some (.int (nI 1)))) := by
  have hs5 : SV (oMove t v1 v2).2.2 := sv_oMove hs
  obtain ⟨_, D4, G4, hC4, rfl, I4, e4, hG4⟩ := w185 (sc := sc) (d := 88) (G := G) (p := v1) (x := v2) p1 q1 p2 q2 I hs
  have M4 := InvM_mm hs IM e4
  refine Rg.s (fun _ => b202_520 (by (try simp (disch := omega) only [nI_add, nI_mulN, pk_sub, nI_clamp, Nat.reduceAdd, Nat.reduceMul, Nat.reduceSub, Nat.zero_add, Nat.add_zero, e1, e2, e3, e4x]); exact nI_inbT (by omega) (by omega)) (by (try simp (disch := omega) only [nI_add, nI_mulN, pk_sub, nI_clamp, Nat.reduceAdd, Nat.reduceMul, Nat.reduceSub, Nat.zero_add, Nat.add_zero, e1, e2, e3, e4x]); exact nI_inbT (by omega) (by omega)) (by rw [bud202]; have h9 := bud3_185; omega) (by (try simp (disch := omega) only [nI_add, nI_clamp, Nat.reduceAdd, e1, e2, e3, e4x]); exact hC4)) ?_
  obtain ⟨_, D5, hC5, rfl, h05, M5, e5⟩ := rMove (sc := sc) (d := 96) (G := G4) (p := v1) (x := v2) p1 q1 p2 q2 M4 hs
  have I5 := InvC_c I4 e5
  refine Rg.s (fun _ => b202_537 (by (try simp (disch := omega) only [nI_add, nI_mulN, pk_sub, nI_clamp, Nat.reduceAdd, Nat.reduceMul, Nat.reduceSub, Nat.zero_add, Nat.add_zero, e1, e2, e3, e4x]); exact nI_inbT (by omega) (by omega)) (by (try simp (disch := omega) only [nI_add, nI_mulN, pk_sub, nI_clamp, Nat.reduceAdd, Nat.reduceMul, Nat.reduceSub, Nat.zero_add, Nat.add_zero, e1, e2, e3, e4x]); exact nI_inbT (by omega) (by omega)) (by rw [bud202]; have h9 := bud3_134; omega) (by (try simp (disch := omega) only [nI_add, nI_clamp, Nat.reduceAdd, e1, e2, e3, e4x]); exact hC5)) ?_
  refine Rg.s (fun _ => b202_555 (by rw [bud202]; have h9 := bud3_101; omega) (by (try simp (disch := omega) only [nI_add, nI_mulN, pk_sub, nI_clamp, Nat.reduceAdd, Nat.reduceMul, Nat.reduceSub, Nat.zero_add, Nat.add_zero, e1, e2, e3, e4x]); exact m101)) ?_
  refine Rg.bt (fun _ => b202_561) (by first | exact h05 | exact h05.symm | rfl) ?_
  by_cases hc : ¬ (oMove t v1 v2).1 = 0
  · refine Rg.bt (fun _ => b202_568) (nI_nz2 hc (Nat.le_trans (c_oMove (p := v1) (x := v2)) (by omega))) ?_
    refine Rg.s (fun _ => b202_585) ?_
    exact K _ D5 G4 (oMove t v1 v2).2.2 (by omega) I5 M5 hs5
  · refine Rg.bf (fun _ => b202_568) (by rw [Decidable.not_not.mp hc]; exact fun z => z rfl) ?_
    refine Rg.bt (fun _ => b202_573 (by (try simp (disch := omega) only [nI_add, nI_mulN, pk_sub, nI_clamp, Nat.reduceAdd, Nat.reduceMul, Nat.reduceSub, Nat.zero_add, Nat.add_zero, e1, e2, e3, e4x]); exact nI_inbT (by omega) (by omega))) (by rw [nI_clamp (by omega), hG4, if_pos (Decidable.not_not.mp hc), hx_up_s]; exact lg_cmp_s _) ?_
    refine Rg.s (fun _ => b202_585) ?_
    exact K _ D5 G4 (oMove t v1 v2).2.2 (by omega) I5 M5 hs5
theorem law_601 {sc : Nat × (Nat → Int32)} {D : Nat → Nat → Int32} {G : Nat → Nat → Int64} {t : ST} {i u : Nat} {v1 v2 v3 v4 : Int} (p1 : -2147483648 ≤ v1) (q1 : v1 < 2147483648) (p2 : -2147483648 ≤ v2) (q2 : v2 < 2147483648) (p3 : -2147483648 ≤ v3) (q3 : v3 < 2147483648) (p4 : -2147483648 ≤ v4) (q4 : v4 < 2147483648) (e1 : sc.2 (i + 1) = iI v1) (e2 : sc.2 (i + 2) = iI v2) (e3 : sc.2 (i + 3) = iI v3) (e4x : sc.2 (i + 4) = iI v4) (hL : i + 5 ≤ sc.1) (hL2 : sc.1 ≤ 2560) (hu : u ≤ 6900) (I : InvC D t) (IM : InvM D t) (hs : SV t) (K : ∀ u2 D2 G2 t2, u2 ≤ u + 3 → InvC D2 t2 → InvM D2 t2 → SV t2 → Rg sc 100 202 (1670, [some (.retAddr 0), some (.ref 0), some (.ref 79), some (.ref 89), some (.int (nI i)), none, none, none, none], [], (hx_S0, D2, G2), u2) (fun r _ _ => r = .inl (some (.int (nI 1))))) : Rg sc 100 202 (601, [some (.retAddr 0), some (.ref 0), some (.ref 79), some (.ref 89), some (.int (nI i)), none, none, none, none], [], (hx_S0, D, G), u) (fun r _ _ => r = .inl (some (.int (nI 1)))) := by
  have hs5 : SV (oSet t v1 v2).2.2 := sv_oSet hs
  obtain ⟨_, D4, G4, hC4, rfl, I4, e4, hG4⟩ := w186 (sc := sc) (d := 88) (G := G) (k := v1) (x := v2) p1 q1 p2 q2 I hs
  have M4 := InvM_mm hs IM e4
  refine Rg.s (fun _ => b202_601 (by (try simp (disch := omega) only [nI_add, nI_mulN, pk_sub, nI_clamp, Nat.reduceAdd, Nat.reduceMul, Nat.reduceSub, Nat.zero_add, Nat.add_zero, e1, e2, e3, e4x]); exact nI_inbT (by omega) (by omega)) (by (try simp (disch := omega) only [nI_add, nI_mulN, pk_sub, nI_clamp, Nat.reduceAdd, Nat.reduceMul, Nat.reduceSub, Nat.zero_add, Nat.add_zero, e1, e2, e3, e4x]); exact nI_inbT (by omega) (by omega)) (by rw [bud202]; have h9 := bud3_186; omega) (by (try simp (disch := omega) only [nI_add, nI_clamp, Nat.reduceAdd, e1, e2, e3, e4x]); exact hC4)) ?_
  obtain ⟨_, D5, hC5, rfl, h05, M5, e5⟩ := rSet (sc := sc) (d := 97) (G := G4) (k := v1) (x := v2) p1 q1 p2 q2 M4 hs
  have I5 := InvC_c I4 e5
  refine Rg.s (fun _ => b202_618 (by (try simp (disch := omega) only [nI_add, nI_mulN, pk_sub, nI_clamp, Nat.reduceAdd, Nat.reduceMul, Nat.reduceSub, Nat.zero_add, Nat.add_zero, e1, e2, e3, e4x]); exact nI_inbT (by omega) (by omega)) (by (try simp (disch := omega) only [nI_add, nI_mulN, pk_sub, nI_clamp, Nat.reduceAdd, Nat.reduceMul, Nat.reduceSub, Nat.zero_add, Nat.add_zero, e1, e2, e3, e4x]); exact nI_inbT (by omega) (by omega)) (by rw [bud202]; have h9 := bud3_136; omega) (by (try simp (disch := omega) only [nI_add, nI_clamp, Nat.reduceAdd, e1, e2, e3, e4x]); exact hC5)) ?_
  refine Rg.s (fun _ => b202_636 (by rw [bud202]; have h9 := bud3_101; omega) (by (try simp (disch := omega) only [nI_add, nI_mulN, pk_sub, nI_clamp, Nat.reduceAdd, Nat.reduceMul, Nat.reduceSub, Nat.zero_add, Nat.add_zero, e1, e2, e3, e4x]); exact m101)) ?_
  refine Rg.bt (fun _ => b202_642) (by first | exact h05 | exact h05.symm | rfl) ?_
  by_cases hc : ¬ (oSet t v1 v2).1 = 0
  · refine Rg.bt (fun _ => b202_649) (nI_nz2 hc (Nat.le_trans (c_oSet (k := v1) (x := v2)) (by omega))) ?_
    refine Rg.s (fun _ => b202_666) ?_
    exact K _ D5 G4 (oSet t v1 v2).2.2 (by omega) I5 M5 hs5
  · refine Rg.bf (fun _ => b202_649) (by rw [Decidable.not_not.mp hc]; exact fun z => z rfl) ?_
    refine Rg.bt (fun _ => b202_654 (by (try simp (disch := omega) only [nI_add, nI_mulN, pk_sub, nI_clamp, Nat.reduceAdd, Nat.reduceMul, Nat.reduceSub, Nat.zero_add, Nat.add_zero, e1, e2, e3, e4x]); exact nI_inbT (by omega) (by omega))) (by rw [nI_clamp (by omega), hG4, if_pos (Decidable.not_not.mp hc), hx_up_s]; exact lg_cmp_s _) ?_
    refine Rg.s (fun _ => b202_666) ?_
    exact K _ D5 G4 (oSet t v1 v2).2.2 (by omega) I5 M5 hs5
theorem law_669 {sc : Nat × (Nat → Int32)} {D : Nat → Nat → Int32} {G : Nat → Nat → Int64} {t : ST} {i u : Nat} {v1 v2 v3 v4 : Int} (p1 : -2147483648 ≤ v1) (q1 : v1 < 2147483648) (p2 : -2147483648 ≤ v2) (q2 : v2 < 2147483648) (p3 : -2147483648 ≤ v3) (q3 : v3 < 2147483648) (p4 : -2147483648 ≤ v4) (q4 : v4 < 2147483648) (e1 : sc.2 (i + 1) = iI v1) (e2 : sc.2 (i + 2) = iI v2) (e3 : sc.2 (i + 3) = iI v3) (e4x : sc.2 (i + 4) = iI v4) (hL : i + 5 ≤ sc.1) (hL2 : sc.1 ≤ 2560) (hu : u ≤ 6900) (I : InvC D t) (IM : InvM D t) (hs : SV t) (K : ∀ u2 D2 G2 t2, u2 ≤ u + 3 → InvC D2 t2 → InvM D2 t2 → SV t2 → Rg sc 100 202 (1670, [some (.retAddr 0), some (.ref 0), some (.ref 79), some (.ref 89), some (.int (nI i)), none, none, none, none], [], (hx_S0, D2, G2), u2) (fun r _ _ => r = .inl (some (.int (nI 1))))) : Rg sc 100 202 (669, [some (.retAddr 0), some (.ref 0), some (.ref 79), some (.ref 89), some (.int (nI i)), none, none, none, none], [], (hx_S0, D, G), u) (fun r _ _ => r = .inl (some (.int (nI 1)))) := by
  have hs5 : SV (oAppend t v1).2.2 := sv_oAppend hs
  obtain ⟨_, D4, G4, hC4, rfl, I4, e4, hG4⟩ := w187 (sc := sc) (d := 88) (G := G) (x := v1) p1 q1 I hs
  have M4 := InvM_mm hs IM e4
  refine Rg.s (fun _ => b202_669 (by (try simp (disch := omega) only [nI_add, nI_mulN, pk_sub, nI_clamp, Nat.reduceAdd, Nat.reduceMul, Nat.reduceSub, Nat.zero_add, Nat.add_zero, e1, e2, e3, e4x]); exact nI_inbT (by omega) (by omega)) (by rw [bud202]; have h9 := bud3_187; omega) (by (try simp (disch := omega) only [nI_add, nI_clamp, Nat.reduceAdd, e1, e2, e3, e4x]); exact hC4)) ?_
  obtain ⟨_, D5, hC5, rfl, h05, M5, e5⟩ := rAppend (sc := sc) (d := 98) (G := G4) (x := v1) p1 q1 M4 hs
  have I5 := InvC_c I4 e5
  refine Rg.s (fun _ => b202_680 (by (try simp (disch := omega) only [nI_add, nI_mulN, pk_sub, nI_clamp, Nat.reduceAdd, Nat.reduceMul, Nat.reduceSub, Nat.zero_add, Nat.add_zero, e1, e2, e3, e4x]); exact nI_inbT (by omega) (by omega)) (by rw [bud202]; have h9 := bud3_137; omega) (by (try simp (disch := omega) only [nI_add, nI_clamp, Nat.reduceAdd, e1, e2, e3, e4x]); exact hC5)) ?_
  refine Rg.s (fun _ => b202_692 (by rw [bud202]; have h9 := bud3_101; omega) (by (try simp (disch := omega) only [nI_add, nI_mulN, pk_sub, nI_clamp, Nat.reduceAdd, Nat.reduceMul, Nat.reduceSub, Nat.zero_add, Nat.add_zero, e1, e2, e3, e4x]); exact m101)) ?_
  refine Rg.bt (fun _ => b202_698) (by first | exact h05 | exact h05.symm | rfl) ?_
  by_cases hc : ¬ (oAppend t v1).1 = 0
  · refine Rg.bt (fun _ => b202_705) (nI_nz2 hc (Nat.le_trans (c_oAppend (x := v1)) (by omega))) ?_
    refine Rg.s (fun _ => b202_722) ?_
    exact K _ D5 G4 (oAppend t v1).2.2 (by omega) I5 M5 hs5
  · refine Rg.bf (fun _ => b202_705) (by rw [Decidable.not_not.mp hc]; exact fun z => z rfl) ?_
    refine Rg.bt (fun _ => b202_710 (by (try simp (disch := omega) only [nI_add, nI_mulN, pk_sub, nI_clamp, Nat.reduceAdd, Nat.reduceMul, Nat.reduceSub, Nat.zero_add, Nat.add_zero, e1, e2, e3, e4x]); exact nI_inbT (by omega) (by omega))) (by rw [nI_clamp (by omega), hG4, if_pos (Decidable.not_not.mp hc), hx_up_s]; exact lg_cmp_s _) ?_
    refine Rg.s (fun _ => b202_722) ?_
    exact K _ D5 G4 (oAppend t v1).2.2 (by omega) I5 M5 hs5
theorem law_751 {sc : Nat × (Nat → Int32)} {D : Nat → Nat → Int32} {G : Nat → Nat → Int64} {t : ST} {i u : Nat} {v1 v2 v3 v4 : Int} (p1 : -2147483648 ≤ v1) (q1 : v1 < 2147483648) (p2 : -2147483648 ≤ v2) (q2 : v2 < 2147483648) (p3 : -2147483648 ≤ v3) (q3 : v3 < 2147483648) (p4 : -2147483648 ≤ v4) (q4 : v4 < 2147483648) (e1 : sc.2 (i + 1) = iI v1) (e2 : sc.2 (i + 2) = iI v2) (e3 : sc.2 (i + 3) = iI v3) (e4x : sc.2 (i + 4) = iI v4) (hL : i + 5 ≤ sc.1) (hL2 : sc.1 ≤ 2560) (hu : u ≤ 6900) (I : InvC D t) (IM : InvM D t) (hs : SV t) (K : ∀ u2 D2 G2 t2, u2 ≤ u + 3 → InvC D2 t2 → InvM D2 t2 → SV t2 → Rg sc 100 202 (1670, [some (.retAddr 0), some (.ref 0), some (.ref 79), some (.ref 89), some (.int (nI i)), none, none, none, none], [], (hx_S0, D2, G2), u2) (fun r _ _ => r = .inl (some (.int (nI 1))))) : Rg sc 100 202 (751, [some (.retAddr 0), some (.ref 0), some (.ref 79), some (.ref 89), some (.int (nI i)), none, none, none, none], [], (hx_S0, D, G), u) (fun r _ _ => r = .inl (some (.int (nI 1)))) := by
  have hs5 : SV (oLoad t).2.2 := sv_oLoad hs
  obtain ⟨_, D4, G4, hC4, rfl, I4, e4, hG4⟩ := w188 (sc := sc) (d := 88) (G := G) I hs
  have M4 := InvM_mm hs IM e4
  refine Rg.s (fun _ => b202_751 (by rw [bud202]; have h9 := bud3_188; omega) (by (try simp (disch := omega) only [nI_add, nI_clamp, Nat.reduceAdd, e1, e2, e3, e4x]); exact hC4)) ?_
  obtain ⟨_, D5, hC5, rfl, h05, M5, e5⟩ := rLoad (sc := sc) (d := 93) (G := G4) M4 hs
  have I5 := InvC_c I4 e5
  refine Rg.s (fun _ => b202_756 (by rw [bud202]; have h9 := bud3_148; omega) (by (try simp (disch := omega) only [nI_add, nI_clamp, Nat.reduceAdd, e1, e2, e3, e4x]); exact hC5)) ?_
  refine Rg.s (fun _ => b202_762 (by rw [bud202]; have h9 := bud3_101; omega) (by (try simp (disch := omega) only [nI_add, nI_mulN, pk_sub, nI_clamp, Nat.reduceAdd, Nat.reduceMul, Nat.reduceSub, Nat.zero_add, Nat.add_zero, e1, e2, e3, e4x]); exact m101)) ?_
  refine Rg.bt (fun _ => b202_768) (by first | exact h05 | exact h05.symm | rfl) ?_
  by_cases hc : ¬ (oLoad t).1 = 0
  · refine Rg.bt (fun _ => b202_775) (nI_nz2 hc (Nat.le_trans (c_oLoad) (by omega))) ?_
    refine Rg.s (fun _ => b202_792) ?_
    exact K _ D5 G4 (oLoad t).2.2 (by omega) I5 M5 hs5
  · refine Rg.bf (fun _ => b202_775) (by rw [Decidable.not_not.mp hc]; exact fun z => z rfl) ?_
    refine Rg.bt (fun _ => b202_780 (by (try simp (disch := omega) only [nI_add, nI_mulN, pk_sub, nI_clamp, Nat.reduceAdd, Nat.reduceMul, Nat.reduceSub, Nat.zero_add, Nat.add_zero, e1, e2, e3, e4x]); exact nI_inbT (by omega) (by omega))) (by rw [nI_clamp (by omega), hG4, if_pos (Decidable.not_not.mp hc), hx_up_s]; exact lg_cmp_s _) ?_
    refine Rg.s (fun _ => b202_792) ?_
    exact K _ D5 G4 (oLoad t).2.2 (by omega) I5 M5 hs5
theorem law_795 {sc : Nat × (Nat → Int32)} {D : Nat → Nat → Int32} {G : Nat → Nat → Int64} {t : ST} {i u : Nat} {v1 v2 v3 v4 : Int} (p1 : -2147483648 ≤ v1) (q1 : v1 < 2147483648) (p2 : -2147483648 ≤ v2) (q2 : v2 < 2147483648) (p3 : -2147483648 ≤ v3) (q3 : v3 < 2147483648) (p4 : -2147483648 ≤ v4) (q4 : v4 < 2147483648) (e1 : sc.2 (i + 1) = iI v1) (e2 : sc.2 (i + 2) = iI v2) (e3 : sc.2 (i + 3) = iI v3) (e4x : sc.2 (i + 4) = iI v4) (hL : i + 5 ≤ sc.1) (hL2 : sc.1 ≤ 2560) (hu : u ≤ 6900) (I : InvC D t) (IM : InvM D t) (hs : SV t) (K : ∀ u2 D2 G2 t2, u2 ≤ u + 3 → InvC D2 t2 → InvM D2 t2 → SV t2 → Rg sc 100 202 (1670, [some (.retAddr 0), some (.ref 0), some (.ref 79), some (.ref 89), some (.int (nI i)), none, none, none, none], [], (hx_S0, D2, G2), u2) (fun r _ _ => r = .inl (some (.int (nI 1))))) : Rg sc 100 202 (795, [some (.retAddr 0), some (.ref 0), some (.ref 79), some (.ref 89), some (.int (nI i)), none, none, none, none], [], (hx_S0, D, G), u) (fun r _ _ => r = .inl (some (.int (nI 1)))) := by
  have hs5 : SV (oKeep t v1).2.2 := sv_oKeep hs
  obtain ⟨_, D4, G4, hC4, rfl, I4, e4, hG4⟩ := w189 (sc := sc) (d := 88) (G := G) (x := v1) p1 q1 I hs
  have M4 := InvM_mm hs IM e4
  refine Rg.s (fun _ => b202_795 (by (try simp (disch := omega) only [nI_add, nI_mulN, pk_sub, nI_clamp, Nat.reduceAdd, Nat.reduceMul, Nat.reduceSub, Nat.zero_add, Nat.add_zero, e1, e2, e3, e4x]); exact nI_inbT (by omega) (by omega)) (by rw [bud202]; have h9 := bud3_189; omega) (by (try simp (disch := omega) only [nI_add, nI_clamp, Nat.reduceAdd, e1, e2, e3, e4x]); exact hC4)) ?_
  obtain ⟨_, D5, hC5, rfl, h05, M5, e5⟩ := rKeep (sc := sc) (d := 98) (G := G4) (x := v1) p1 q1 M4 hs
  have I5 := InvC_c I4 e5
  refine Rg.s (fun _ => b202_806 (by (try simp (disch := omega) only [nI_add, nI_mulN, pk_sub, nI_clamp, Nat.reduceAdd, Nat.reduceMul, Nat.reduceSub, Nat.zero_add, Nat.add_zero, e1, e2, e3, e4x]); exact nI_inbT (by omega) (by omega)) (by rw [bud202]; have h9 := bud3_149; omega) (by (try simp (disch := omega) only [nI_add, nI_clamp, Nat.reduceAdd, e1, e2, e3, e4x]); exact hC5)) ?_
  refine Rg.s (fun _ => b202_818 (by rw [bud202]; have h9 := bud3_101; omega) (by (try simp (disch := omega) only [nI_add, nI_mulN, pk_sub, nI_clamp, Nat.reduceAdd, Nat.reduceMul, Nat.reduceSub, Nat.zero_add, Nat.add_zero, e1, e2, e3, e4x]); exact m101)) ?_
  refine Rg.bt (fun _ => b202_824) (by first | exact h05 | exact h05.symm | rfl) ?_
  by_cases hc : ¬ (oKeep t v1).1 = 0
  · refine Rg.bt (fun _ => b202_831) (nI_nz2 hc (Nat.le_trans (c_oKeep (x := v1)) (by omega))) ?_
    refine Rg.s (fun _ => b202_848) ?_
    exact K _ D5 G4 (oKeep t v1).2.2 (by omega) I5 M5 hs5
  · refine Rg.bf (fun _ => b202_831) (by rw [Decidable.not_not.mp hc]; exact fun z => z rfl) ?_
    refine Rg.bt (fun _ => b202_836 (by (try simp (disch := omega) only [nI_add, nI_mulN, pk_sub, nI_clamp, Nat.reduceAdd, Nat.reduceMul, Nat.reduceSub, Nat.zero_add, Nat.add_zero, e1, e2, e3, e4x]); exact nI_inbT (by omega) (by omega))) (by rw [nI_clamp (by omega), hG4, if_pos (Decidable.not_not.mp hc), hx_up_s]; exact lg_cmp_s _) ?_
    refine Rg.s (fun _ => b202_848) ?_
    exact K _ D5 G4 (oKeep t v1).2.2 (by omega) I5 M5 hs5
theorem law_851 {sc : Nat × (Nat → Int32)} {D : Nat → Nat → Int32} {G : Nat → Nat → Int64} {t : ST} {i u : Nat} {v1 v2 v3 v4 : Int} (p1 : -2147483648 ≤ v1) (q1 : v1 < 2147483648) (p2 : -2147483648 ≤ v2) (q2 : v2 < 2147483648) (p3 : -2147483648 ≤ v3) (q3 : v3 < 2147483648) (p4 : -2147483648 ≤ v4) (q4 : v4 < 2147483648) (e1 : sc.2 (i + 1) = iI v1) (e2 : sc.2 (i + 2) = iI v2) (e3 : sc.2 (i + 3) = iI v3) (e4x : sc.2 (i + 4) = iI v4) (hL : i + 5 ≤ sc.1) (hL2 : sc.1 ≤ 2560) (hu : u ≤ 6900) (I : InvC D t) (IM : InvM D t) (hs : SV t) (K : ∀ u2 D2 G2 t2, u2 ≤ u + 3 → InvC D2 t2 → InvM D2 t2 → SV t2 → Rg sc 100 202 (1670, [some (.retAddr 0), some (.ref 0), some (.ref 79), some (.ref 89), some (.int (nI i)), none, none, none, none], [], (hx_S0, D2, G2), u2) (fun r _ _ => r = .inl (some (.int (nI 1))))) : Rg sc 100 202 (851, [some (.retAddr 0), some (.ref 0), some (.ref 79), some (.ref 89), some (.int (nI i)), none, none, none, none], [], (hx_S0, D, G), u) (fun r _ _ => r = .inl (some (.int (nI 1)))) := by
  have hs5 : SV (oGoBack t v1).2.2 := sv_oGoBack hs
  obtain ⟨_, D4, G4, hC4, rfl, I4, e4, hG4⟩ := w190 (sc := sc) (d := 88) (G := G) (x := v1) p1 q1 I hs
  have M4 := InvM_mm hs IM e4
  refine Rg.s (fun _ => b202_851 (by (try simp (disch := omega) only [nI_add, nI_mulN, pk_sub, nI_clamp, Nat.reduceAdd, Nat.reduceMul, Nat.reduceSub, Nat.zero_add, Nat.add_zero, e1, e2, e3, e4x]); exact nI_inbT (by omega) (by omega)) (by rw [bud202]; have h9 := bud3_190; omega) (by (try simp (disch := omega) only [nI_add, nI_clamp, Nat.reduceAdd, e1, e2, e3, e4x]); exact hC4)) ?_
  obtain ⟨_, D5, hC5, rfl, h05, M5, e5⟩ := rGoBack (sc := sc) (d := 98) (G := G4) (x := v1) p1 q1 M4 hs
  have I5 := InvC_c I4 e5
  refine Rg.s (fun _ => b202_862 (by (try simp (disch := omega) only [nI_add, nI_mulN, pk_sub, nI_clamp, Nat.reduceAdd, Nat.reduceMul, Nat.reduceSub, Nat.zero_add, Nat.add_zero, e1, e2, e3, e4x]); exact nI_inbT (by omega) (by omega)) (by rw [bud202]; have h9 := bud3_150; omega) (by (try simp (disch := omega) only [nI_add, nI_clamp, Nat.reduceAdd, e1, e2, e3, e4x]); exact hC5)) ?_
  refine Rg.s (fun _ => b202_874 (by rw [bud202]; have h9 := bud3_101; omega) (by (try simp (disch := omega) only [nI_add, nI_mulN, pk_sub, nI_clamp, Nat.reduceAdd, Nat.reduceMul, Nat.reduceSub, Nat.zero_add, Nat.add_zero, e1, e2, e3, e4x]); exact m101)) ?_
  refine Rg.bt (fun _ => b202_880) (by first | exact h05 | exact h05.symm | rfl) ?_
  by_cases hc : ¬ (oGoBack t v1).1 = 0
  · refine Rg.bt (fun _ => b202_887) (nI_nz2 hc (Nat.le_trans (c_oGoBack (x := v1)) (by omega))) ?_
    refine Rg.s (fun _ => b202_904) ?_
    exact K _ D5 G4 (oGoBack t v1).2.2 (by omega) I5 M5 hs5
  · refine Rg.bf (fun _ => b202_887) (by rw [Decidable.not_not.mp hc]; exact fun z => z rfl) ?_
    refine Rg.bt (fun _ => b202_892 (by (try simp (disch := omega) only [nI_add, nI_mulN, pk_sub, nI_clamp, Nat.reduceAdd, Nat.reduceMul, Nat.reduceSub, Nat.zero_add, Nat.add_zero, e1, e2, e3, e4x]); exact nI_inbT (by omega) (by omega))) (by rw [nI_clamp (by omega), hG4, if_pos (Decidable.not_not.mp hc), hx_up_s]; exact lg_cmp_s _) ?_
    refine Rg.s (fun _ => b202_904) ?_
    exact K _ D5 G4 (oGoBack t v1).2.2 (by omega) I5 M5 hs5
theorem law_907 {sc : Nat × (Nat → Int32)} {D : Nat → Nat → Int32} {G : Nat → Nat → Int64} {t : ST} {i u : Nat} {v1 v2 v3 v4 : Int} (p1 : -2147483648 ≤ v1) (q1 : v1 < 2147483648) (p2 : -2147483648 ≤ v2) (q2 : v2 < 2147483648) (p3 : -2147483648 ≤ v3) (q3 : v3 < 2147483648) (p4 : -2147483648 ≤ v4) (q4 : v4 < 2147483648) (e1 : sc.2 (i + 1) = iI v1) (e2 : sc.2 (i + 2) = iI v2) (e3 : sc.2 (i + 3) = iI v3) (e4x : sc.2 (i + 4) = iI v4) (hL : i + 5 ≤ sc.1) (hL2 : sc.1 ≤ 2560) (hu : u ≤ 6900) (I : InvC D t) (IM : InvM D t) (hs : SV t) (K : ∀ u2 D2 G2 t2, u2 ≤ u + 3 → InvC D2 t2 → InvM D2 t2 → SV t2 → Rg sc 100 202 (1670, [some (.retAddr 0), some (.ref 0), some (.ref 79), some (.ref 89), some (.int (nI i)), none, none, none, none], [], (hx_S0, D2, G2), u2) (fun r _ _ => r = .inl (some (.int (nI 1))))) : Rg sc 100 202 (907, [some (.retAddr 0), some (.ref 0), some (.ref 79), some (.ref 89), some (.int (nI i)), none, none, none, none], [], (hx_S0, D, G), u) (fun r _ _ => r = .inl (some (.int (nI 1)))) := by
  have hs5 : SV (oUndo t).2.2 := sv_oUndo hs
  obtain ⟨_, D4, G4, hC4, rfl, I4, e4, hG4⟩ := w191 (sc := sc) (d := 88) (G := G) I hs
  have M4 := InvM_mm hs IM e4
  refine Rg.s (fun _ => b202_907 (by rw [bud202]; have h9 := bud3_191; omega) (by (try simp (disch := omega) only [nI_add, nI_clamp, Nat.reduceAdd, e1, e2, e3, e4x]); exact hC4)) ?_
  obtain ⟨_, D5, hC5, rfl, h05, M5, e5⟩ := rUndo (sc := sc) (d := 98) (G := G4) M4 hs
  have I5 := InvC_c I4 e5
  refine Rg.s (fun _ => b202_912 (by rw [bud202]; have h9 := bud3_151; omega) (by (try simp (disch := omega) only [nI_add, nI_clamp, Nat.reduceAdd, e1, e2, e3, e4x]); exact hC5)) ?_
  refine Rg.s (fun _ => b202_918 (by rw [bud202]; have h9 := bud3_101; omega) (by (try simp (disch := omega) only [nI_add, nI_mulN, pk_sub, nI_clamp, Nat.reduceAdd, Nat.reduceMul, Nat.reduceSub, Nat.zero_add, Nat.add_zero, e1, e2, e3, e4x]); exact m101)) ?_
  refine Rg.bt (fun _ => b202_924) (by first | exact h05 | exact h05.symm | rfl) ?_
  by_cases hc : ¬ (oUndo t).1 = 0
  · refine Rg.bt (fun _ => b202_931) (nI_nz2 hc (Nat.le_trans (c_oUndo) (by omega))) ?_
    refine Rg.s (fun _ => b202_948) ?_
    exact K _ D5 G4 (oUndo t).2.2 (by omega) I5 M5 hs5
  · refine Rg.bf (fun _ => b202_931) (by rw [Decidable.not_not.mp hc]; exact fun z => z rfl) ?_
    refine Rg.bt (fun _ => b202_936 (by (try simp (disch := omega) only [nI_add, nI_mulN, pk_sub, nI_clamp, Nat.reduceAdd, Nat.reduceMul, Nat.reduceSub, Nat.zero_add, Nat.add_zero, e1, e2, e3, e4x]); exact nI_inbT (by omega) (by omega))) (by rw [nI_clamp (by omega), hG4, if_pos (Decidable.not_not.mp hc), hx_up_s]; exact lg_cmp_s _) ?_
    refine Rg.s (fun _ => b202_948) ?_
    exact K _ D5 G4 (oUndo t).2.2 (by omega) I5 M5 hs5
theorem law_951 {sc : Nat × (Nat → Int32)} {D : Nat → Nat → Int32} {G : Nat → Nat → Int64} {t : ST} {i u : Nat} {v1 v2 v3 v4 : Int} (p1 : -2147483648 ≤ v1) (q1 : v1 < 2147483648) (p2 : -2147483648 ≤ v2) (q2 : v2 < 2147483648) (p3 : -2147483648 ≤ v3) (q3 : v3 < 2147483648) (p4 : -2147483648 ≤ v4) (q4 : v4 < 2147483648) (e1 : sc.2 (i + 1) = iI v1) (e2 : sc.2 (i + 2) = iI v2) (e3 : sc.2 (i + 3) = iI v3) (e4x : sc.2 (i + 4) = iI v4) (hL : i + 5 ≤ sc.1) (hL2 : sc.1 ≤ 2560) (hu : u ≤ 6900) (I : InvC D t) (IM : InvM D t) (hs : SV t) (K : ∀ u2 D2 G2 t2, u2 ≤ u + 3 → InvC D2 t2 → InvM D2 t2 → SV t2 → Rg sc 100 202 (1670, [some (.retAddr 0), some (.ref 0), some (.ref 79), some (.ref 89), some (.int (nI i)), none, none, none, none], [], (hx_S0, D2, G2), u2) (fun r _ _ => r = .inl (some (.int (nI 1))))) : Rg sc 100 202 (951, [some (.retAddr 0), some (.ref 0), some (.ref 79), some (.ref 89), some (.int (nI i)), none, none, none, none], [], (hx_S0, D, G), u) (fun r _ _ => r = .inl (some (.int (nI 1)))) := by
  have hs5 : SV (oPieceOf t v1 v2).2.2 := by rw [st_oPieceOf]; exact hs
  obtain ⟨_, D4, G4, hC4, rfl, I4, e4, hG4⟩ := w192 (sc := sc) (d := 88) (G := G) (p := v1) (x := v2) p1 q1 p2 q2 I hs
  have M4 := InvM_mm hs IM e4
  refine Rg.s (fun _ => b202_951 (by (try simp (disch := omega) only [nI_add, nI_mulN, pk_sub, nI_clamp, Nat.reduceAdd, Nat.reduceMul, Nat.reduceSub, Nat.zero_add, Nat.add_zero, e1, e2, e3, e4x]); exact nI_inbT (by omega) (by omega)) (by (try simp (disch := omega) only [nI_add, nI_mulN, pk_sub, nI_clamp, Nat.reduceAdd, Nat.reduceMul, Nat.reduceSub, Nat.zero_add, Nat.add_zero, e1, e2, e3, e4x]); exact nI_inbT (by omega) (by omega)) (by rw [bud202]; have h9 := bud3_192; omega) (by (try simp (disch := omega) only [nI_add, nI_clamp, Nat.reduceAdd, e1, e2, e3, e4x]); exact hC4)) ?_
  obtain ⟨_, D5, hC5, rfl, h05, M5, e5⟩ := rPieceOf (sc := sc) (d := 95) (G := G4) (p := v1) (x := v2) p1 q1 p2 q2 M4 hs
  have I5 := InvC_c I4 e5
  refine Rg.s (fun _ => b202_968 (by (try simp (disch := omega) only [nI_add, nI_mulN, pk_sub, nI_clamp, Nat.reduceAdd, Nat.reduceMul, Nat.reduceSub, Nat.zero_add, Nat.add_zero, e1, e2, e3, e4x]); exact nI_inbT (by omega) (by omega)) (by (try simp (disch := omega) only [nI_add, nI_mulN, pk_sub, nI_clamp, Nat.reduceAdd, Nat.reduceMul, Nat.reduceSub, Nat.zero_add, Nat.add_zero, e1, e2, e3, e4x]); exact nI_inbT (by omega) (by omega)) (by rw [bud202]; have h9 := bud3_153; omega) (by (try simp (disch := omega) only [nI_add, nI_clamp, Nat.reduceAdd, e1, e2, e3, e4x]); exact hC5)) ?_
  refine Rg.s (fun _ => b202_986 (by rw [bud202]; have h9 := bud3_101; omega) (by (try simp (disch := omega) only [nI_add, nI_mulN, pk_sub, nI_clamp, Nat.reduceAdd, Nat.reduceMul, Nat.reduceSub, Nat.zero_add, Nat.add_zero, e1, e2, e3, e4x]); exact m101)) ?_
  refine Rg.bt (fun _ => b202_992) (by first | exact h05 | exact h05.symm | rfl) ?_
  by_cases hc : ¬ (oPieceOf t v1 v2).1 = 0
  · refine Rg.bt (fun _ => b202_999) (nI_nz2 hc (Nat.le_trans (c_oPieceOf (p := v1) (x := v2)) (by omega))) ?_
    refine Rg.s (fun _ => b202_1016) ?_
    exact K _ D5 G4 (oPieceOf t v1 v2).2.2 (by omega) I5 M5 hs5
  · refine Rg.bf (fun _ => b202_999) (by rw [Decidable.not_not.mp hc]; exact fun z => z rfl) ?_
    refine Rg.bt (fun _ => b202_1004 (by (try simp (disch := omega) only [nI_add, nI_mulN, pk_sub, nI_clamp, Nat.reduceAdd, Nat.reduceMul, Nat.reduceSub, Nat.zero_add, Nat.add_zero, e1, e2, e3, e4x]); exact nI_inbT (by omega) (by omega))) (by rw [nI_clamp (by omega), hG4, if_pos (Decidable.not_not.mp hc), hx_up_s]; exact lg_cmp_s _) ?_
    refine Rg.s (fun _ => b202_1016) ?_
    exact K _ D5 G4 (oPieceOf t v1 v2).2.2 (by omega) I5 M5 hs5
theorem law_1019 {sc : Nat × (Nat → Int32)} {D : Nat → Nat → Int32} {G : Nat → Nat → Int64} {t : ST} {i u : Nat} {v1 v2 v3 v4 : Int} (p1 : -2147483648 ≤ v1) (q1 : v1 < 2147483648) (p2 : -2147483648 ≤ v2) (q2 : v2 < 2147483648) (p3 : -2147483648 ≤ v3) (q3 : v3 < 2147483648) (p4 : -2147483648 ≤ v4) (q4 : v4 < 2147483648) (e1 : sc.2 (i + 1) = iI v1) (e2 : sc.2 (i + 2) = iI v2) (e3 : sc.2 (i + 3) = iI v3) (e4x : sc.2 (i + 4) = iI v4) (hL : i + 5 ≤ sc.1) (hL2 : sc.1 ≤ 2560) (hu : u ≤ 6900) (I : InvC D t) (IM : InvM D t) (hs : SV t) (K : ∀ u2 D2 G2 t2, u2 ≤ u + 3 → InvC D2 t2 → InvM D2 t2 → SV t2 → Rg sc 100 202 (1670, [some (.retAddr 0), some (.ref 0), some (.ref 79), some (.ref 89), some (.int (nI i)), none, none, none, none], [], (hx_S0, D2, G2), u2) (fun r _ _ => r = .inl (some (.int (nI 1))))) : Rg sc 100 202 (1019, [some (.retAddr 0), some (.ref 0), some (.ref 79), some (.ref 89), some (.int (nI i)), none, none, none, none], [], (hx_S0, D, G), u) (fun r _ _ => r = .inl (some (.int (nI 1)))) := by
  have hs5 : SV (oIsHole t v1 v2).2.2 := by rw [st_oIsHole]; exact hs
  obtain ⟨_, D4, G4, hC4, rfl, I4, e4, hG4⟩ := w193 (sc := sc) (d := 88) (G := G) (p := v1) (x := v2) p1 q1 p2 q2 I hs
  have M4 := InvM_mm hs IM e4
  refine Rg.s (fun _ => b202_1019 (by (try simp (disch := omega) only [nI_add, nI_mulN, pk_sub, nI_clamp, Nat.reduceAdd, Nat.reduceMul, Nat.reduceSub, Nat.zero_add, Nat.add_zero, e1, e2, e3, e4x]); exact nI_inbT (by omega) (by omega)) (by (try simp (disch := omega) only [nI_add, nI_mulN, pk_sub, nI_clamp, Nat.reduceAdd, Nat.reduceMul, Nat.reduceSub, Nat.zero_add, Nat.add_zero, e1, e2, e3, e4x]); exact nI_inbT (by omega) (by omega)) (by rw [bud202]; have h9 := bud3_193; omega) (by (try simp (disch := omega) only [nI_add, nI_clamp, Nat.reduceAdd, e1, e2, e3, e4x]); exact hC4)) ?_
  obtain ⟨_, D5, hC5, rfl, h05, M5, e5⟩ := rIsHole (sc := sc) (d := 96) (G := G4) (p := v1) (x := v2) p1 q1 p2 q2 M4 hs
  have I5 := InvC_c I4 e5
  refine Rg.s (fun _ => b202_1036 (by (try simp (disch := omega) only [nI_add, nI_mulN, pk_sub, nI_clamp, Nat.reduceAdd, Nat.reduceMul, Nat.reduceSub, Nat.zero_add, Nat.add_zero, e1, e2, e3, e4x]); exact nI_inbT (by omega) (by omega)) (by (try simp (disch := omega) only [nI_add, nI_mulN, pk_sub, nI_clamp, Nat.reduceAdd, Nat.reduceMul, Nat.reduceSub, Nat.zero_add, Nat.add_zero, e1, e2, e3, e4x]); exact nI_inbT (by omega) (by omega)) (by rw [bud202]; have h9 := bud3_154; omega) (by (try simp (disch := omega) only [nI_add, nI_clamp, Nat.reduceAdd, e1, e2, e3, e4x]); exact hC5)) ?_
  refine Rg.s (fun _ => b202_1054 (by rw [bud202]; have h9 := bud3_101; omega) (by (try simp (disch := omega) only [nI_add, nI_mulN, pk_sub, nI_clamp, Nat.reduceAdd, Nat.reduceMul, Nat.reduceSub, Nat.zero_add, Nat.add_zero, e1, e2, e3, e4x]); exact m101)) ?_
  refine Rg.bt (fun _ => b202_1060) (by first | exact h05 | exact h05.symm | rfl) ?_
  by_cases hc : ¬ (oIsHole t v1 v2).1 = 0
  · refine Rg.bt (fun _ => b202_1067) (nI_nz2 hc (Nat.le_trans (c_oIsHole (p := v1) (x := v2)) (by omega))) ?_
    refine Rg.s (fun _ => b202_1084) ?_
    exact K _ D5 G4 (oIsHole t v1 v2).2.2 (by omega) I5 M5 hs5
  · refine Rg.bf (fun _ => b202_1067) (by rw [Decidable.not_not.mp hc]; exact fun z => z rfl) ?_
    refine Rg.bt (fun _ => b202_1072 (by (try simp (disch := omega) only [nI_add, nI_mulN, pk_sub, nI_clamp, Nat.reduceAdd, Nat.reduceMul, Nat.reduceSub, Nat.zero_add, Nat.add_zero, e1, e2, e3, e4x]); exact nI_inbT (by omega) (by omega))) (by rw [nI_clamp (by omega), hG4, if_pos (Decidable.not_not.mp hc), hx_up_s]; exact lg_cmp_s _) ?_
    refine Rg.s (fun _ => b202_1084) ?_
    exact K _ D5 G4 (oIsHole t v1 v2).2.2 (by omega) I5 M5 hs5
theorem law_1087 {sc : Nat × (Nat → Int32)} {D : Nat → Nat → Int32} {G : Nat → Nat → Int64} {t : ST} {i u : Nat} {v1 v2 v3 v4 : Int} (p1 : -2147483648 ≤ v1) (q1 : v1 < 2147483648) (p2 : -2147483648 ≤ v2) (q2 : v2 < 2147483648) (p3 : -2147483648 ≤ v3) (q3 : v3 < 2147483648) (p4 : -2147483648 ≤ v4) (q4 : v4 < 2147483648) (e1 : sc.2 (i + 1) = iI v1) (e2 : sc.2 (i + 2) = iI v2) (e3 : sc.2 (i + 3) = iI v3) (e4x : sc.2 (i + 4) = iI v4) (hL : i + 5 ≤ sc.1) (hL2 : sc.1 ≤ 2560) (hu : u ≤ 6900) (I : InvC D t) (IM : InvM D t) (hs : SV t) (K : ∀ u2 D2 G2 t2, u2 ≤ u + 3 → InvC D2 t2 → InvM D2 t2 → SV t2 → Rg sc 100 202 (1670, [some (.retAddr 0), some (.ref 0), some (.ref 79), some (.ref 89), some (.int (nI i)), none, none, none, none], [], (hx_S0, D2, G2), u2) (fun r _ _ => r = .inl (some (.int (nI 1))))) : Rg sc 100 202 (1087, [some (.retAddr 0), some (.ref 0), some (.ref 79), some (.ref 89), some (.int (nI i)), none, none, none, none], [], (hx_S0, D, G), u) (fun r _ _ => r = .inl (some (.int (nI 1)))) := by
  have hs5 : SV (oAt t v1).2.2 := by rw [st_oAt]; exact hs
  obtain ⟨_, D4, G4, hC4, rfl, I4, e4, hG4⟩ := w194 (sc := sc) (d := 88) (G := G) (x := v1) p1 q1 I hs
  have M4 := InvM_mm hs IM e4
  refine Rg.s (fun _ => b202_1087 (by (try simp (disch := omega) only [nI_add, nI_mulN, pk_sub, nI_clamp, Nat.reduceAdd, Nat.reduceMul, Nat.reduceSub, Nat.zero_add, Nat.add_zero, e1, e2, e3, e4x]); exact nI_inbT (by omega) (by omega)) (by rw [bud202]; have h9 := bud3_194; omega) (by (try simp (disch := omega) only [nI_add, nI_clamp, Nat.reduceAdd, e1, e2, e3, e4x]); exact hC4)) ?_
  obtain ⟨_, D5, hC5, rfl, h05, M5, e5⟩ := rAt (sc := sc) (d := 98) (G := G4) (x := v1) p1 q1 M4 hs
  have I5 := InvC_c I4 e5
  refine Rg.s (fun _ => b202_1098 (by (try simp (disch := omega) only [nI_add, nI_mulN, pk_sub, nI_clamp, Nat.reduceAdd, Nat.reduceMul, Nat.reduceSub, Nat.zero_add, Nat.add_zero, e1, e2, e3, e4x]); exact nI_inbT (by omega) (by omega)) (by rw [bud202]; have h9 := bud3_155; omega) (by (try simp (disch := omega) only [nI_add, nI_clamp, Nat.reduceAdd, e1, e2, e3, e4x]); exact hC5)) ?_
  refine Rg.s (fun _ => b202_1110 (by rw [bud202]; have h9 := bud3_101; omega) (by (try simp (disch := omega) only [nI_add, nI_mulN, pk_sub, nI_clamp, Nat.reduceAdd, Nat.reduceMul, Nat.reduceSub, Nat.zero_add, Nat.add_zero, e1, e2, e3, e4x]); exact m101)) ?_
  refine Rg.bt (fun _ => b202_1116) (by first | exact h05 | exact h05.symm | rfl) ?_
  by_cases hc : ¬ (oAt t v1).1 = 0
  · refine Rg.bt (fun _ => b202_1123) (nI_nz2 hc (Nat.le_trans (c_oAt (x := v1)) (by omega))) ?_
    refine Rg.s (fun _ => b202_1140) ?_
    exact K _ D5 G4 (oAt t v1).2.2 (by omega) I5 M5 hs5
  · refine Rg.bf (fun _ => b202_1123) (by rw [Decidable.not_not.mp hc]; exact fun z => z rfl) ?_
    refine Rg.bt (fun _ => b202_1128 (by (try simp (disch := omega) only [nI_add, nI_mulN, pk_sub, nI_clamp, Nat.reduceAdd, Nat.reduceMul, Nat.reduceSub, Nat.zero_add, Nat.add_zero, e1, e2, e3, e4x]); exact nI_inbT (by omega) (by omega))) (by rw [nI_clamp (by omega), hG4, if_pos (Decidable.not_not.mp hc), hx_up_s]; exact lg_cmp_s _) ?_
    refine Rg.s (fun _ => b202_1140) ?_
    exact K _ D5 G4 (oAt t v1).2.2 (by omega) I5 M5 hs5
theorem law_1143 {sc : Nat × (Nat → Int32)} {D : Nat → Nat → Int32} {G : Nat → Nat → Int64} {t : ST} {i u : Nat} {v1 v2 v3 v4 : Int} (p1 : -2147483648 ≤ v1) (q1 : v1 < 2147483648) (p2 : -2147483648 ≤ v2) (q2 : v2 < 2147483648) (p3 : -2147483648 ≤ v3) (q3 : v3 < 2147483648) (p4 : -2147483648 ≤ v4) (q4 : v4 < 2147483648) (e1 : sc.2 (i + 1) = iI v1) (e2 : sc.2 (i + 2) = iI v2) (e3 : sc.2 (i + 3) = iI v3) (e4x : sc.2 (i + 4) = iI v4) (hL : i + 5 ≤ sc.1) (hL2 : sc.1 ≤ 2560) (hu : u ≤ 6900) (I : InvC D t) (IM : InvM D t) (hs : SV t) (K : ∀ u2 D2 G2 t2, u2 ≤ u + 3 → InvC D2 t2 → InvM D2 t2 → SV t2 → Rg sc 100 202 (1670, [some (.retAddr 0), some (.ref 0), some (.ref 79), some (.ref 89), some (.int (nI i)), none, none, none, none], [], (hx_S0, D2, G2), u2) (fun r _ _ => r = .inl (some (.int (nI 1))))) : Rg sc 100 202 (1143, [some (.retAddr 0), some (.ref 0), some (.ref 79), some (.ref 89), some (.int (nI i)), none, none, none, none], [], (hx_S0, D, G), u) (fun r _ _ => r = .inl (some (.int (nI 1)))) := by
  have hs5 : SV (oCost t v1 v2).2.2 := by rw [st_oCost]; exact hs
  obtain ⟨_, D4, G4, hC4, rfl, I4, e4, hG4⟩ := w195 (sc := sc) (d := 88) (G := G) (f := v1) (s := v2) p1 q1 p2 q2 I hs
  have M4 := InvM_mm hs IM e4
  refine Rg.s (fun _ => b202_1143 (by (try simp (disch := omega) only [nI_add, nI_mulN, pk_sub, nI_clamp, Nat.reduceAdd, Nat.reduceMul, Nat.reduceSub, Nat.zero_add, Nat.add_zero, e1, e2, e3, e4x]); exact nI_inbT (by omega) (by omega)) (by (try simp (disch := omega) only [nI_add, nI_mulN, pk_sub, nI_clamp, Nat.reduceAdd, Nat.reduceMul, Nat.reduceSub, Nat.zero_add, Nat.add_zero, e1, e2, e3, e4x]); exact nI_inbT (by omega) (by omega)) (by rw [bud202]; have h9 := bud3_195; omega) (by (try simp (disch := omega) only [nI_add, nI_clamp, Nat.reduceAdd, e1, e2, e3, e4x]); exact hC4)) ?_
  obtain ⟨_, D5, hC5, rfl, h05, M5, e5⟩ := rCost (sc := sc) (d := 97) (G := G4) (f := v1) (s := v2) p1 q1 p2 q2 M4 hs
  have I5 := InvC_c I4 e5
  refine Rg.s (fun _ => b202_1160 (by (try simp (disch := omega) only [nI_add, nI_mulN, pk_sub, nI_clamp, Nat.reduceAdd, Nat.reduceMul, Nat.reduceSub, Nat.zero_add, Nat.add_zero, e1, e2, e3, e4x]); exact nI_inbT (by omega) (by omega)) (by (try simp (disch := omega) only [nI_add, nI_mulN, pk_sub, nI_clamp, Nat.reduceAdd, Nat.reduceMul, Nat.reduceSub, Nat.zero_add, Nat.add_zero, e1, e2, e3, e4x]); exact nI_inbT (by omega) (by omega)) (by rw [bud202]; have h9 := bud3_156; omega) (by (try simp (disch := omega) only [nI_add, nI_clamp, Nat.reduceAdd, e1, e2, e3, e4x]); exact hC5)) ?_
  refine Rg.s (fun _ => b202_1178 (by rw [bud202]; have h9 := bud3_101; omega) (by (try simp (disch := omega) only [nI_add, nI_mulN, pk_sub, nI_clamp, Nat.reduceAdd, Nat.reduceMul, Nat.reduceSub, Nat.zero_add, Nat.add_zero, e1, e2, e3, e4x]); exact m101)) ?_
  refine Rg.bt (fun _ => b202_1184) (by first | exact h05 | exact h05.symm | rfl) ?_
  by_cases hc : ¬ (oCost t v1 v2).1 = 0
  · refine Rg.bt (fun _ => b202_1191) (nI_nz2 hc (Nat.le_trans (c_oCost (f := v1) (s := v2)) (by omega))) ?_
    refine Rg.s (fun _ => b202_1208) ?_
    exact K _ D5 G4 (oCost t v1 v2).2.2 (by omega) I5 M5 hs5
  · refine Rg.bf (fun _ => b202_1191) (by rw [Decidable.not_not.mp hc]; exact fun z => z rfl) ?_
    refine Rg.bt (fun _ => b202_1196 (by (try simp (disch := omega) only [nI_add, nI_mulN, pk_sub, nI_clamp, Nat.reduceAdd, Nat.reduceMul, Nat.reduceSub, Nat.zero_add, Nat.add_zero, e1, e2, e3, e4x]); exact nI_inbT (by omega) (by omega))) (by rw [nI_clamp (by omega), hG4, if_pos (Decidable.not_not.mp hc), hx_up_s]; exact lg_cmp_s _) ?_
    refine Rg.s (fun _ => b202_1208) ?_
    exact K _ D5 G4 (oCost t v1 v2).2.2 (by omega) I5 M5 hs5
theorem law_1211 {sc : Nat × (Nat → Int32)} {D : Nat → Nat → Int32} {G : Nat → Nat → Int64} {t : ST} {i u : Nat} {v1 v2 v3 v4 : Int} (p1 : -2147483648 ≤ v1) (q1 : v1 < 2147483648) (p2 : -2147483648 ≤ v2) (q2 : v2 < 2147483648) (p3 : -2147483648 ≤ v3) (q3 : v3 < 2147483648) (p4 : -2147483648 ≤ v4) (q4 : v4 < 2147483648) (e1 : sc.2 (i + 1) = iI v1) (e2 : sc.2 (i + 2) = iI v2) (e3 : sc.2 (i + 3) = iI v3) (e4x : sc.2 (i + 4) = iI v4) (hL : i + 5 ≤ sc.1) (hL2 : sc.1 ≤ 2560) (hu : u ≤ 6900) (I : InvC D t) (IM : InvM D t) (hs : SV t) (K : ∀ u2 D2 G2 t2, u2 ≤ u + 3 → InvC D2 t2 → InvM D2 t2 → SV t2 → Rg sc 100 202 (1670, [some (.retAddr 0), some (.ref 0), some (.ref 79), some (.ref 89), some (.int (nI i)), none, none, none, none], [], (hx_S0, D2, G2), u2) (fun r _ _ => r = .inl (some (.int (nI 1))))) : Rg sc 100 202 (1211, [some (.retAddr 0), some (.ref 0), some (.ref 79), some (.ref 89), some (.int (nI i)), none, none, none, none], [], (hx_S0, D, G), u) (fun r _ _ => r = .inl (some (.int (nI 1)))) := by
  have hs5 : SV (oHoleOf t v1 v2).2.2 := by rw [st_oHoleOf]; exact hs
  obtain ⟨_, D4, G4, hC4, rfl, I4, e4, hG4⟩ := w196 (sc := sc) (d := 88) (G := G) (x := v1) (y := v2) p1 q1 p2 q2 I hs
  have M4 := InvM_mm hs IM e4
  refine Rg.s (fun _ => b202_1211 (by (try simp (disch := omega) only [nI_add, nI_mulN, pk_sub, nI_clamp, Nat.reduceAdd, Nat.reduceMul, Nat.reduceSub, Nat.zero_add, Nat.add_zero, e1, e2, e3, e4x]); exact nI_inbT (by omega) (by omega)) (by (try simp (disch := omega) only [nI_add, nI_mulN, pk_sub, nI_clamp, Nat.reduceAdd, Nat.reduceMul, Nat.reduceSub, Nat.zero_add, Nat.add_zero, e1, e2, e3, e4x]); exact nI_inbT (by omega) (by omega)) (by rw [bud202]; have h9 := bud3_196; omega) (by (try simp (disch := omega) only [nI_add, nI_clamp, Nat.reduceAdd, e1, e2, e3, e4x]); exact hC4)) ?_
  obtain ⟨_, D5, hC5, rfl, h05, M5, e5⟩ := rHoleOf (sc := sc) (d := 95) (G := G4) (x := v1) (y := v2) p1 q1 p2 q2 M4 hs
  have I5 := InvC_c I4 e5
  refine Rg.s (fun _ => b202_1228 (by (try simp (disch := omega) only [nI_add, nI_mulN, pk_sub, nI_clamp, Nat.reduceAdd, Nat.reduceMul, Nat.reduceSub, Nat.zero_add, Nat.add_zero, e1, e2, e3, e4x]); exact nI_inbT (by omega) (by omega)) (by (try simp (disch := omega) only [nI_add, nI_mulN, pk_sub, nI_clamp, Nat.reduceAdd, Nat.reduceMul, Nat.reduceSub, Nat.zero_add, Nat.add_zero, e1, e2, e3, e4x]); exact nI_inbT (by omega) (by omega)) (by rw [bud202]; have h9 := bud3_158; omega) (by (try simp (disch := omega) only [nI_add, nI_clamp, Nat.reduceAdd, e1, e2, e3, e4x]); exact hC5)) ?_
  refine Rg.s (fun _ => b202_1246 (by rw [bud202]; have h9 := bud3_101; omega) (by (try simp (disch := omega) only [nI_add, nI_mulN, pk_sub, nI_clamp, Nat.reduceAdd, Nat.reduceMul, Nat.reduceSub, Nat.zero_add, Nat.add_zero, e1, e2, e3, e4x]); exact m101)) ?_
  refine Rg.bt (fun _ => b202_1252) (by first | exact h05 | exact h05.symm | rfl) ?_
  by_cases hc : ¬ (oHoleOf t v1 v2).1 = 0
  · refine Rg.bt (fun _ => b202_1259) (nI_nz2 hc (Nat.le_trans (c_oHoleOf (x := v1) (y := v2)) (by omega))) ?_
    refine Rg.s (fun _ => b202_1276) ?_
    exact K _ D5 G4 (oHoleOf t v1 v2).2.2 (by omega) I5 M5 hs5
  · refine Rg.bf (fun _ => b202_1259) (by rw [Decidable.not_not.mp hc]; exact fun z => z rfl) ?_
    refine Rg.bt (fun _ => b202_1264 (by (try simp (disch := omega) only [nI_add, nI_mulN, pk_sub, nI_clamp, Nat.reduceAdd, Nat.reduceMul, Nat.reduceSub, Nat.zero_add, Nat.add_zero, e1, e2, e3, e4x]); exact nI_inbT (by omega) (by omega))) (by rw [nI_clamp (by omega), hG4, if_pos (Decidable.not_not.mp hc), hx_up_s]; exact lg_cmp_s _) ?_
    refine Rg.s (fun _ => b202_1276) ?_
    exact K _ D5 G4 (oHoleOf t v1 v2).2.2 (by omega) I5 M5 hs5
theorem law_1279 {sc : Nat × (Nat → Int32)} {D : Nat → Nat → Int32} {G : Nat → Nat → Int64} {t : ST} {i u : Nat} {v1 v2 v3 v4 : Int} (p1 : -2147483648 ≤ v1) (q1 : v1 < 2147483648) (p2 : -2147483648 ≤ v2) (q2 : v2 < 2147483648) (p3 : -2147483648 ≤ v3) (q3 : v3 < 2147483648) (p4 : -2147483648 ≤ v4) (q4 : v4 < 2147483648) (e1 : sc.2 (i + 1) = iI v1) (e2 : sc.2 (i + 2) = iI v2) (e3 : sc.2 (i + 3) = iI v3) (e4x : sc.2 (i + 4) = iI v4) (hL : i + 5 ≤ sc.1) (hL2 : sc.1 ≤ 2560) (hu : u ≤ 6900) (I : InvC D t) (IM : InvM D t) (hs : SV t) (K : ∀ u2 D2 G2 t2, u2 ≤ u + 3 → InvC D2 t2 → InvM D2 t2 → SV t2 → Rg sc 100 202 (1670, [some (.retAddr 0), some (.ref 0), some (.ref 79), some (.ref 89), some (.int (nI i)), none, none, none, none], [], (hx_S0, D2, G2), u2) (fun r _ _ => r = .inl (some (.int (nI 1))))) : Rg sc 100 202 (1279, [some (.retAddr 0), some (.ref 0), some (.ref 79), some (.ref 89), some (.int (nI i)), none, none, none, none], [], (hx_S0, D, G), u) (fun r _ _ => r = .inl (some (.int (nI 1)))) := by
  have hs5 : SV (oCount t v1).2.2 := by rw [st_oCount]; exact hs
  obtain ⟨_, D4, G4, hC4, rfl, I4, e4, hG4⟩ := w197 (sc := sc) (d := 88) (G := G) (x := v1) p1 q1 I hs
  have M4 := InvM_mm hs IM e4
  refine Rg.s (fun _ => b202_1279 (by (try simp (disch := omega) only [nI_add, nI_mulN, pk_sub, nI_clamp, Nat.reduceAdd, Nat.reduceMul, Nat.reduceSub, Nat.zero_add, Nat.add_zero, e1, e2, e3, e4x]); exact nI_inbT (by omega) (by omega)) (by rw [bud202]; have h9 := bud3_197; omega) (by (try simp (disch := omega) only [nI_add, nI_clamp, Nat.reduceAdd, e1, e2, e3, e4x]); exact hC4)) ?_
  obtain ⟨_, D5, hC5, rfl, h05, M5, e5⟩ := rCount (sc := sc) (d := 92) (G := G4) (x := v1) p1 q1 M4 hs
  have I5 := InvC_c I4 e5
  refine Rg.s (fun _ => b202_1290 (by (try simp (disch := omega) only [nI_add, nI_mulN, pk_sub, nI_clamp, Nat.reduceAdd, Nat.reduceMul, Nat.reduceSub, Nat.zero_add, Nat.add_zero, e1, e2, e3, e4x]); exact nI_inbT (by omega) (by omega)) (by rw [bud202]; have h9 := bud3_161; omega) (by (try simp (disch := omega) only [nI_add, nI_clamp, Nat.reduceAdd, e1, e2, e3, e4x]); exact hC5)) ?_
  refine Rg.s (fun _ => b202_1302 (by rw [bud202]; have h9 := bud3_101; omega) (by (try simp (disch := omega) only [nI_add, nI_mulN, pk_sub, nI_clamp, Nat.reduceAdd, Nat.reduceMul, Nat.reduceSub, Nat.zero_add, Nat.add_zero, e1, e2, e3, e4x]); exact m101)) ?_
  refine Rg.bt (fun _ => b202_1308) (by first | exact h05 | exact h05.symm | rfl) ?_
  by_cases hc : ¬ (oCount t v1).1 = 0
  · refine Rg.bt (fun _ => b202_1315) (nI_nz2 hc (Nat.le_trans (c_oCount (x := v1)) (by omega))) ?_
    refine Rg.s (fun _ => b202_1332) ?_
    exact K _ D5 G4 (oCount t v1).2.2 (by omega) I5 M5 hs5
  · refine Rg.bf (fun _ => b202_1315) (by rw [Decidable.not_not.mp hc]; exact fun z => z rfl) ?_
    refine Rg.bt (fun _ => b202_1320 (by (try simp (disch := omega) only [nI_add, nI_mulN, pk_sub, nI_clamp, Nat.reduceAdd, Nat.reduceMul, Nat.reduceSub, Nat.zero_add, Nat.add_zero, e1, e2, e3, e4x]); exact nI_inbT (by omega) (by omega))) (by rw [nI_clamp (by omega), hG4, if_pos (Decidable.not_not.mp hc), hx_up_s]; exact lg_cmp_s _) ?_
    refine Rg.s (fun _ => b202_1332) ?_
    exact K _ D5 G4 (oCount t v1).2.2 (by omega) I5 M5 hs5
theorem law_1335 {sc : Nat × (Nat → Int32)} {D : Nat → Nat → Int32} {G : Nat → Nat → Int64} {t : ST} {i u : Nat} {v1 v2 v3 v4 : Int} (p1 : -2147483648 ≤ v1) (q1 : v1 < 2147483648) (p2 : -2147483648 ≤ v2) (q2 : v2 < 2147483648) (p3 : -2147483648 ≤ v3) (q3 : v3 < 2147483648) (p4 : -2147483648 ≤ v4) (q4 : v4 < 2147483648) (e1 : sc.2 (i + 1) = iI v1) (e2 : sc.2 (i + 2) = iI v2) (e3 : sc.2 (i + 3) = iI v3) (e4x : sc.2 (i + 4) = iI v4) (hL : i + 5 ≤ sc.1) (hL2 : sc.1 ≤ 2560) (hu : u ≤ 6900) (I : InvC D t) (IM : InvM D t) (hs : SV t) (K : ∀ u2 D2 G2 t2, u2 ≤ u + 3 → InvC D2 t2 → InvM D2 t2 → SV t2 → Rg sc 100 202 (1670, [some (.retAddr 0), some (.ref 0), some (.ref 79), some (.ref 89), some (.int (nI i)), none, none, none, none], [], (hx_S0, D2, G2), u2) (fun r _ _ => r = .inl (some (.int (nI 1))))) : Rg sc 100 202 (1335, [some (.retAddr 0), some (.ref 0), some (.ref 79), some (.ref 89), some (.int (nI i)), none, none, none, none], [], (hx_S0, D, G), u) (fun r _ _ => r = .inl (some (.int (nI 1)))) := by
  have hs5 : SV (oSetting t v1).2.2 := by rw [st_oSetting]; exact hs
  obtain ⟨_, D4, G4, hC4, rfl, I4, e4, hG4⟩ := w198 (sc := sc) (d := 88) (G := G) (x := v1) p1 q1 I hs
  have M4 := InvM_mm hs IM e4
  refine Rg.s (fun _ => b202_1335 (by (try simp (disch := omega) only [nI_add, nI_mulN, pk_sub, nI_clamp, Nat.reduceAdd, Nat.reduceMul, Nat.reduceSub, Nat.zero_add, Nat.add_zero, e1, e2, e3, e4x]); exact nI_inbT (by omega) (by omega)) (by rw [bud202]; have h9 := bud3_198; omega) (by (try simp (disch := omega) only [nI_add, nI_clamp, Nat.reduceAdd, e1, e2, e3, e4x]); exact hC4)) ?_
  obtain ⟨_, D5, hC5, rfl, h05, M5, e5⟩ := rSetting (sc := sc) (d := 98) (G := G4) (x := v1) p1 q1 M4 hs
  have I5 := InvC_c I4 e5
  refine Rg.s (fun _ => b202_1346 (by (try simp (disch := omega) only [nI_add, nI_mulN, pk_sub, nI_clamp, Nat.reduceAdd, Nat.reduceMul, Nat.reduceSub, Nat.zero_add, Nat.add_zero, e1, e2, e3, e4x]); exact nI_inbT (by omega) (by omega)) (by rw [bud202]; have h9 := bud3_162; omega) (by (try simp (disch := omega) only [nI_add, nI_clamp, Nat.reduceAdd, e1, e2, e3, e4x]); exact hC5)) ?_
  refine Rg.s (fun _ => b202_1358 (by rw [bud202]; have h9 := bud3_101; omega) (by (try simp (disch := omega) only [nI_add, nI_mulN, pk_sub, nI_clamp, Nat.reduceAdd, Nat.reduceMul, Nat.reduceSub, Nat.zero_add, Nat.add_zero, e1, e2, e3, e4x]); exact m101)) ?_
  refine Rg.bt (fun _ => b202_1364) (by first | exact h05 | exact h05.symm | rfl) ?_
  by_cases hc : ¬ (oSetting t v1).1 = 0
  · refine Rg.bt (fun _ => b202_1371) (nI_nz2 hc (Nat.le_trans (c_oSetting (x := v1)) (by omega))) ?_
    refine Rg.s (fun _ => b202_1388) ?_
    exact K _ D5 G4 (oSetting t v1).2.2 (by omega) I5 M5 hs5
  · refine Rg.bf (fun _ => b202_1371) (by rw [Decidable.not_not.mp hc]; exact fun z => z rfl) ?_
    refine Rg.bt (fun _ => b202_1376 (by (try simp (disch := omega) only [nI_add, nI_mulN, pk_sub, nI_clamp, Nat.reduceAdd, Nat.reduceMul, Nat.reduceSub, Nat.zero_add, Nat.add_zero, e1, e2, e3, e4x]); exact nI_inbT (by omega) (by omega))) (by rw [nI_clamp (by omega), hG4, if_pos (Decidable.not_not.mp hc), hx_up_s]; exact lg_cmp_s _) ?_
    refine Rg.s (fun _ => b202_1388) ?_
    exact K _ D5 G4 (oSetting t v1).2.2 (by omega) I5 M5 hs5
theorem law_1391 {sc : Nat × (Nat → Int32)} {D : Nat → Nat → Int32} {G : Nat → Nat → Int64} {t : ST} {i u : Nat} {v1 v2 v3 v4 : Int} (p1 : -2147483648 ≤ v1) (q1 : v1 < 2147483648) (p2 : -2147483648 ≤ v2) (q2 : v2 < 2147483648) (p3 : -2147483648 ≤ v3) (q3 : v3 < 2147483648) (p4 : -2147483648 ≤ v4) (q4 : v4 < 2147483648) (e1 : sc.2 (i + 1) = iI v1) (e2 : sc.2 (i + 2) = iI v2) (e3 : sc.2 (i + 3) = iI v3) (e4x : sc.2 (i + 4) = iI v4) (hL : i + 5 ≤ sc.1) (hL2 : sc.1 ≤ 2560) (hu : u ≤ 6900) (I : InvC D t) (IM : InvM D t) (hs : SV t) (K : ∀ u2 D2 G2 t2, u2 ≤ u + 3 → InvC D2 t2 → InvM D2 t2 → SV t2 → Rg sc 100 202 (1670, [some (.retAddr 0), some (.ref 0), some (.ref 79), some (.ref 89), some (.int (nI i)), none, none, none, none], [], (hx_S0, D2, G2), u2) (fun r _ _ => r = .inl (some (.int (nI 1))))) : Rg sc 100 202 (1391, [some (.retAddr 0), some (.ref 0), some (.ref 79), some (.ref 89), some (.int (nI i)), none, none, none, none], [], (hx_S0, D, G), u) (fun r _ _ => r = .inl (some (.int (nI 1)))) := by
  have hs5 : SV (oBestBehind t v1).2.2 := by rw [st_oBestBehind]; exact hs
  obtain ⟨_, D4, G4, hC4, rfl, I4, e4, hG4⟩ := w199 (sc := sc) (d := 88) (G := G) (p := v1) p1 q1 I hs
  have M4 := InvM_mm hs IM e4
  refine Rg.s (fun _ => b202_1391 (by (try simp (disch := omega) only [nI_add, nI_mulN, pk_sub, nI_clamp, Nat.reduceAdd, Nat.reduceMul, Nat.reduceSub, Nat.zero_add, Nat.add_zero, e1, e2, e3, e4x]); exact nI_inbT (by omega) (by omega)) (by rw [bud202]; have h9 := bud3_199; omega) (by (try simp (disch := omega) only [nI_add, nI_clamp, Nat.reduceAdd, e1, e2, e3, e4x]); exact hC4)) ?_
  obtain ⟨_, D5, hC5, rfl, h05, M5, e5⟩ := rBestBehind (sc := sc) (d := 95) (G := G4) (p := v1) p1 q1 M4 hs
  have I5 := InvC_c I4 e5
  refine Rg.s (fun _ => b202_1402 (by (try simp (disch := omega) only [nI_add, nI_mulN, pk_sub, nI_clamp, Nat.reduceAdd, Nat.reduceMul, Nat.reduceSub, Nat.zero_add, Nat.add_zero, e1, e2, e3, e4x]); exact nI_inbT (by omega) (by omega)) (by rw [bud202]; have h9 := bud3_164; omega) (by (try simp (disch := omega) only [nI_add, nI_clamp, Nat.reduceAdd, e1, e2, e3, e4x]); exact hC5)) ?_
  refine Rg.s (fun _ => b202_1414 (by rw [bud202]; have h9 := bud3_101; omega) (by (try simp (disch := omega) only [nI_add, nI_mulN, pk_sub, nI_clamp, Nat.reduceAdd, Nat.reduceMul, Nat.reduceSub, Nat.zero_add, Nat.add_zero, e1, e2, e3, e4x]); exact m101)) ?_
  refine Rg.bt (fun _ => b202_1420) (by first | exact h05 | exact h05.symm | rfl) ?_
  by_cases hc : ¬ (oBestBehind t v1).1 = 0
  · refine Rg.bt (fun _ => b202_1427) (nI_nz2 hc (Nat.le_trans (c_oBestBehind (p := v1)) (by omega))) ?_
    refine Rg.s (fun _ => b202_1444) ?_
    exact K _ D5 G4 (oBestBehind t v1).2.2 (by omega) I5 M5 hs5
  · refine Rg.bf (fun _ => b202_1427) (by rw [Decidable.not_not.mp hc]; exact fun z => z rfl) ?_
    refine Rg.bt (fun _ => b202_1432 (by (try simp (disch := omega) only [nI_add, nI_mulN, pk_sub, nI_clamp, Nat.reduceAdd, Nat.reduceMul, Nat.reduceSub, Nat.zero_add, Nat.add_zero, e1, e2, e3, e4x]); exact nI_inbT (by omega) (by omega))) (by rw [nI_clamp (by omega), hG4, if_pos (Decidable.not_not.mp hc), hx_up_s]; exact lg_cmp_s _) ?_
    refine Rg.s (fun _ => b202_1444) ?_
    exact K _ D5 G4 (oBestBehind t v1).2.2 (by omega) I5 M5 hs5
theorem law_1447 {sc : Nat × (Nat → Int32)} {D : Nat → Nat → Int32} {G : Nat → Nat → Int64} {t : ST} {i u : Nat} {v1 v2 v3 v4 : Int} (p1 : -2147483648 ≤ v1) (q1 : v1 < 2147483648) (p2 : -2147483648 ≤ v2) (q2 : v2 < 2147483648) (p3 : -2147483648 ≤ v3) (q3 : v3 < 2147483648) (p4 : -2147483648 ≤ v4) (q4 : v4 < 2147483648) (e1 : sc.2 (i + 1) = iI v1) (e2 : sc.2 (i + 2) = iI v2) (e3 : sc.2 (i + 3) = iI v3) (e4x : sc.2 (i + 4) = iI v4) (hL : i + 5 ≤ sc.1) (hL2 : sc.1 ≤ 2560) (hu : u ≤ 6900) (I : InvC D t) (IM : InvM D t) (hs : SV t) (K : ∀ u2 D2 G2 t2, u2 ≤ u + 3 → InvC D2 t2 → InvM D2 t2 → SV t2 → Rg sc 100 202 (1670, [some (.retAddr 0), some (.ref 0), some (.ref 79), some (.ref 89), some (.int (nI i)), none, none, none, none], [], (hx_S0, D2, G2), u2) (fun r _ _ => r = .inl (some (.int (nI 1))))) : Rg sc 100 202 (1447, [some (.retAddr 0), some (.ref 0), some (.ref 79), some (.ref 89), some (.int (nI i)), none, none, none, none], [], (hx_S0, D, G), u) (fun r _ _ => r = .inl (some (.int (nI 1)))) := by
  have hs5 : SV (oSureness t v1).2.2 := by rw [st_oSureness]; exact hs
  obtain ⟨_, D4, G4, hC4, rfl, I4, e4, hG4⟩ := w200 (sc := sc) (d := 88) (G := G) (p := v1) p1 q1 I hs
  have M4 := InvM_mm hs IM e4
  refine Rg.s (fun _ => b202_1447 (by (try simp (disch := omega) only [nI_add, nI_mulN, pk_sub, nI_clamp, Nat.reduceAdd, Nat.reduceMul, Nat.reduceSub, Nat.zero_add, Nat.add_zero, e1, e2, e3, e4x]); exact nI_inbT (by omega) (by omega)) (by rw [bud202]; have h9 := bud3_200; omega) (by (try simp (disch := omega) only [nI_add, nI_clamp, Nat.reduceAdd, e1, e2, e3, e4x]); exact hC4)) ?_
  obtain ⟨_, D5, hC5, rfl, h05, M5, e5⟩ := rSureness (sc := sc) (d := 95) (G := G4) (p := v1) p1 q1 M4 hs
  have I5 := InvC_c I4 e5
  refine Rg.s (fun _ => b202_1458 (by (try simp (disch := omega) only [nI_add, nI_mulN, pk_sub, nI_clamp, Nat.reduceAdd, Nat.reduceMul, Nat.reduceSub, Nat.zero_add, Nat.add_zero, e1, e2, e3, e4x]); exact nI_inbT (by omega) (by omega)) (by rw [bud202]; have h9 := bud3_166; omega) (by (try simp (disch := omega) only [nI_add, nI_clamp, Nat.reduceAdd, e1, e2, e3, e4x]); exact hC5)) ?_
  refine Rg.s (fun _ => b202_1470 (by rw [bud202]; have h9 := bud3_101; omega) (by (try simp (disch := omega) only [nI_add, nI_mulN, pk_sub, nI_clamp, Nat.reduceAdd, Nat.reduceMul, Nat.reduceSub, Nat.zero_add, Nat.add_zero, e1, e2, e3, e4x]); exact m101)) ?_
  refine Rg.bt (fun _ => b202_1476) (by first | exact h05 | exact h05.symm | rfl) ?_
  by_cases hc : ¬ (oSureness t v1).1 = 0
  · refine Rg.bt (fun _ => b202_1483) (nI_nz2 hc (Nat.le_trans (c_oSureness (p := v1)) (by omega))) ?_
    refine Rg.s (fun _ => b202_1500) ?_
    exact K _ D5 G4 (oSureness t v1).2.2 (by omega) I5 M5 hs5
  · refine Rg.bf (fun _ => b202_1483) (by rw [Decidable.not_not.mp hc]; exact fun z => z rfl) ?_
    refine Rg.bt (fun _ => b202_1488 (by (try simp (disch := omega) only [nI_add, nI_mulN, pk_sub, nI_clamp, Nat.reduceAdd, Nat.reduceMul, Nat.reduceSub, Nat.zero_add, Nat.add_zero, e1, e2, e3, e4x]); exact nI_inbT (by omega) (by omega))) (by rw [nI_clamp (by omega), hG4, if_pos (Decidable.not_not.mp hc), hx_up_s]; exact lg_cmp_s _) ?_
    refine Rg.s (fun _ => b202_1500) ?_
    exact K _ D5 G4 (oSureness t v1).2.2 (by omega) I5 M5 hs5
theorem law_1503 {sc : Nat × (Nat → Int32)} {D : Nat → Nat → Int32} {G : Nat → Nat → Int64} {t : ST} {i u : Nat} {v1 v2 v3 v4 : Int} (p1 : -2147483648 ≤ v1) (q1 : v1 < 2147483648) (p2 : -2147483648 ≤ v2) (q2 : v2 < 2147483648) (p3 : -2147483648 ≤ v3) (q3 : v3 < 2147483648) (p4 : -2147483648 ≤ v4) (q4 : v4 < 2147483648) (e1 : sc.2 (i + 1) = iI v1) (e2 : sc.2 (i + 2) = iI v2) (e3 : sc.2 (i + 3) = iI v3) (e4x : sc.2 (i + 4) = iI v4) (hL : i + 5 ≤ sc.1) (hL2 : sc.1 ≤ 2560) (hu : u ≤ 6900) (I : InvC D t) (IM : InvM D t) (hs : SV t) (K : ∀ u2 D2 G2 t2, u2 ≤ u + 3 → InvC D2 t2 → InvM D2 t2 → SV t2 → Rg sc 100 202 (1670, [some (.retAddr 0), some (.ref 0), some (.ref 79), some (.ref 89), some (.int (nI i)), none, none, none, none], [], (hx_S0, D2, G2), u2) (fun r _ _ => r = .inl (some (.int (nI 1))))) : Rg sc 100 202 (1503, [some (.retAddr 0), some (.ref 0), some (.ref 79), some (.ref 89), some (.int (nI i)), none, none, none, none], [], (hx_S0, D, G), u) (fun r _ _ => r = .inl (some (.int (nI 1)))) := by
  have hs5 : SV (oBestPlace t v1).2.2 := by rw [st_oBestPlace]; exact hs
  obtain ⟨_, D4, G4, hC4, rfl, I4, e4, hG4⟩ := w201 (sc := sc) (d := 88) (G := G) (p := v1) p1 q1 I hs
  have M4 := InvM_mm hs IM e4
  refine Rg.s (fun _ => b202_1503 (by (try simp (disch := omega) only [nI_add, nI_mulN, pk_sub, nI_clamp, Nat.reduceAdd, Nat.reduceMul, Nat.reduceSub, Nat.zero_add, Nat.add_zero, e1, e2, e3, e4x]); exact nI_inbT (by omega) (by omega)) (by rw [bud202]; have h9 := bud3_201; omega) (by (try simp (disch := omega) only [nI_add, nI_clamp, Nat.reduceAdd, e1, e2, e3, e4x]); exact hC4)) ?_
  obtain ⟨_, D5, hC5, rfl, h05, M5, e5⟩ := rBestPlace (sc := sc) (d := 95) (G := G4) (p := v1) p1 q1 M4 hs
  have I5 := InvC_c I4 e5
  refine Rg.s (fun _ => b202_1514 (by (try simp (disch := omega) only [nI_add, nI_mulN, pk_sub, nI_clamp, Nat.reduceAdd, Nat.reduceMul, Nat.reduceSub, Nat.zero_add, Nat.add_zero, e1, e2, e3, e4x]); exact nI_inbT (by omega) (by omega)) (by rw [bud202]; have h9 := bud3_168; omega) (by (try simp (disch := omega) only [nI_add, nI_clamp, Nat.reduceAdd, e1, e2, e3, e4x]); exact hC5)) ?_
  refine Rg.s (fun _ => b202_1526 (by rw [bud202]; have h9 := bud3_101; omega) (by (try simp (disch := omega) only [nI_add, nI_mulN, pk_sub, nI_clamp, Nat.reduceAdd, Nat.reduceMul, Nat.reduceSub, Nat.zero_add, Nat.add_zero, e1, e2, e3, e4x]); exact m101)) ?_
  refine Rg.bt (fun _ => b202_1532) (by first | exact h05 | exact h05.symm | rfl) ?_
  by_cases hc : ¬ (oBestPlace t v1).1 = 0
  · refine Rg.bt (fun _ => b202_1539) (nI_nz2 hc (Nat.le_trans (c_oBestPlace (p := v1)) (by omega))) ?_
    refine Rg.s (fun _ => b202_1556) ?_
    exact K _ D5 G4 (oBestPlace t v1).2.2 (by omega) I5 M5 hs5
  · refine Rg.bf (fun _ => b202_1539) (by rw [Decidable.not_not.mp hc]; exact fun z => z rfl) ?_
    refine Rg.bt (fun _ => b202_1544 (by (try simp (disch := omega) only [nI_add, nI_mulN, pk_sub, nI_clamp, Nat.reduceAdd, Nat.reduceMul, Nat.reduceSub, Nat.zero_add, Nat.add_zero, e1, e2, e3, e4x]); exact nI_inbT (by omega) (by omega))) (by rw [nI_clamp (by omega), hG4, if_pos (Decidable.not_not.mp hc), hx_up_s]; exact lg_cmp_s _) ?_
    refine Rg.s (fun _ => b202_1556) ?_
    exact K _ D5 G4 (oBestPlace t v1).2.2 (by omega) I5 M5 hs5
theorem law_588 {sc : Nat × (Nat → Int32)} {D : Nat → Nat → Int32} {G : Nat → Nat → Int64} {t : ST} {i u : Nat} {v1 v2 v3 v4 : Int} (p1 : -2147483648 ≤ v1) (q1 : v1 < 2147483648) (p2 : -2147483648 ≤ v2) (q2 : v2 < 2147483648) (p3 : -2147483648 ≤ v3) (q3 : v3 < 2147483648) (p4 : -2147483648 ≤ v4) (q4 : v4 < 2147483648) (e1 : sc.2 (i + 1) = iI v1) (e2 : sc.2 (i + 2) = iI v2) (e3 : sc.2 (i + 3) = iI v3) (e4x : sc.2 (i + 4) = iI v4) (hL : i + 5 ≤ sc.1) (hL2 : sc.1 ≤ 2560) (hu : u ≤ 6900) (I : InvC D t) (IM : InvM D t) (hs : SV t) (K : ∀ u2 D2 G2 t2, u2 ≤ u + 3 → InvC D2 t2 → InvM D2 t2 → SV t2 → Rg sc 100 202 (1670, [some (.retAddr 0), some (.ref 0), some (.ref 79), some (.ref 89), some (.int (nI i)), none, none, none, none], [], (hx_S0, D2, G2), u2) (fun r _ _ => r = .inl (some (.int (nI 1))))) : Rg sc 100 202 (588, [some (.retAddr 0), some (.ref 0), some (.ref 79), some (.ref 89), some (.int (nI i)), none, none, none, none], [], (hx_S0, D, G), u) (fun r _ _ => r = .inl (some (.int (nI 1)))) := by
  have hs5 : SV (oOrder t).2.2 := sv_oOrder hs
  obtain ⟨r4, D4, hC4, hr4, I4, e4⟩ := kOrder (sc := sc) (d := 95) (G := G) I hs
  rw [hr4, show zres [] (oOrder t) = .inl (some (.int (oOrder t).2.1)) from if_pos rfl] at hC4
  have M4 := InvM_mm hs IM e4
  refine Rg.s (fun _ => b202_588 (by rw [bud202]; have h9 := bud3_57; omega) hC4) ?_
  obtain ⟨_, D5, hC5, rfl, h05, M5, e5⟩ := rOrder (sc := sc) (d := 94) (G := G) M4 hs
  have I5 := InvC_c I4 e5
  refine Rg.s (fun _ => b202_592 (by rw [bud202]; have h9 := bud3_135; omega) hC5) ?_
  refine Rg.bt (fun _ => b202_596) (rfl) ?_
  exact K _ D5 G (oOrder t).2.2 (by omega) I5 M5 hs5
theorem law_725 {sc : Nat × (Nat → Int32)} {D : Nat → Nat → Int32} {G : Nat → Nat → Int64} {t : ST} {i u : Nat} {v1 v2 v3 v4 : Int} (p1 : -2147483648 ≤ v1) (q1 : v1 < 2147483648) (p2 : -2147483648 ≤ v2) (q2 : v2 < 2147483648) (p3 : -2147483648 ≤ v3) (q3 : v3 < 2147483648) (p4 : -2147483648 ≤ v4) (q4 : v4 < 2147483648) (e1 : sc.2 (i + 1) = iI v1) (e2 : sc.2 (i + 2) = iI v2) (e3 : sc.2 (i + 3) = iI v3) (e4x : sc.2 (i + 4) = iI v4) (hL : i + 5 ≤ sc.1) (hL2 : sc.1 ≤ 2560) (hu : u ≤ 6900) (I : InvC D t) (IM : InvM D t) (hs : SV t) (K : ∀ u2 D2 G2 t2, u2 ≤ u + 3 → InvC D2 t2 → InvM D2 t2 → SV t2 → Rg sc 100 202 (1670, [some (.retAddr 0), some (.ref 0), some (.ref 79), some (.ref 89), some (.int (nI i)), none, none, none, none], [], (hx_S0, D2, G2), u2) (fun r _ _ => r = .inl (some (.int (nI 1))))) : Rg sc 100 202 (725, [some (.retAddr 0), some (.ref 0), some (.ref 79), some (.ref 89), some (.int (nI i)), none, none, none, none], [], (hx_S0, D, G), u) (fun r _ _ => r = .inl (some (.int (nI 1)))) := by
  have hs5 : SV (oClear t).2.2 := sv_oClear hs
  obtain ⟨r4, D4, hC4, hr4, I4, e4⟩ := kClear (sc := sc) (d := 99) (G := G) I hs
  rw [hr4, show zres [] (oClear t) = .inl (some (.int (oClear t).2.1)) from if_pos rfl] at hC4
  have M4 := InvM_mm hs IM e4
  refine Rg.s (fun _ => b202_725 (by rw [bud202]; have h9 := bud3_60; omega) hC4) ?_
  obtain ⟨_, D5, hC5, rfl, h05, M5, e5⟩ := rClear (sc := sc) (d := 99) (G := G) M4 hs
  have I5 := InvC_c I4 e5
  refine Rg.s (fun _ => b202_729 (by rw [bud202]; have h9 := bud3_138; omega) hC5) ?_
  refine Rg.bt (fun _ => b202_733) (rfl) ?_
  exact K _ D5 G (oClear t).2.2 (by omega) I5 M5 hs5
theorem law_738 {sc : Nat × (Nat → Int32)} {D : Nat → Nat → Int32} {G : Nat → Nat → Int64} {t : ST} {i u : Nat} {v1 v2 v3 v4 : Int} (p1 : -2147483648 ≤ v1) (q1 : v1 < 2147483648) (p2 : -2147483648 ≤ v2) (q2 : v2 < 2147483648) (p3 : -2147483648 ≤ v3) (q3 : v3 < 2147483648) (p4 : -2147483648 ≤ v4) (q4 : v4 < 2147483648) (e1 : sc.2 (i + 1) = iI v1) (e2 : sc.2 (i + 2) = iI v2) (e3 : sc.2 (i + 3) = iI v3) (e4x : sc.2 (i + 4) = iI v4) (hL : i + 5 ≤ sc.1) (hL2 : sc.1 ≤ 2560) (hu : u ≤ 6900) (I : InvC D t) (IM : InvM D t) (hs : SV t) (K : ∀ u2 D2 G2 t2, u2 ≤ u + 3 → InvC D2 t2 → InvM D2 t2 → SV t2 → Rg sc 100 202 (1670, [some (.retAddr 0), some (.ref 0), some (.ref 79), some (.ref 89), some (.int (nI i)), none, none, none, none], [], (hx_S0, D2, G2), u2) (fun r _ _ => r = .inl (some (.int (nI 1))))) : Rg sc 100 202 (738, [some (.retAddr 0), some (.ref 0), some (.ref 79), some (.ref 89), some (.int (nI i)), none, none, none, none], [], (hx_S0, D, G), u) (fun r _ _ => r = .inl (some (.int (nI 1)))) := by
  have hs5 : SV (oFirstError t).2.2 := hs
  obtain ⟨r4, D4, hC4, hr4, I4, e4⟩ := kFirstError (sc := sc) (d := 93) (G := G) I hs
  rw [hr4, show zres [] (oFirstError t) = .inl (some (.int (oFirstError t).2.1)) from if_pos rfl] at hC4
  have M4 := InvM_mm hs IM e4
  refine Rg.s (fun _ => b202_738 (by rw [bud202]; have h9 := bud3_61; omega) hC4) ?_
  obtain ⟨_, D5, hC5, rfl, h05, M5, e5⟩ := rFirstError (sc := sc) (d := 93) (G := G) M4 hs
  have I5 := InvC_c I4 e5
  refine Rg.s (fun _ => b202_742 (by rw [bud202]; have h9 := bud3_147; omega) hC5) ?_
  refine Rg.bt (fun _ => b202_746) (rfl) ?_
  exact K _ D5 G (oFirstError t).2.2 (by omega) I5 M5 hs5
theorem law_1559 {sc : Nat × (Nat → Int32)} {D : Nat → Nat → Int32} {G : Nat → Nat → Int64} {t : ST} {i u : Nat} {v1 v2 v3 v4 : Int} (p1 : -2147483648 ≤ v1) (q1 : v1 < 2147483648) (p2 : -2147483648 ≤ v2) (q2 : v2 < 2147483648) (p3 : -2147483648 ≤ v3) (q3 : v3 < 2147483648) (p4 : -2147483648 ≤ v4) (q4 : v4 < 2147483648) (e1 : sc.2 (i + 1) = iI v1) (e2 : sc.2 (i + 2) = iI v2) (e3 : sc.2 (i + 3) = iI v3) (e4x : sc.2 (i + 4) = iI v4) (hL : i + 5 ≤ sc.1) (hL2 : sc.1 ≤ 2560) (hu : u ≤ 6900) (I : InvC D t) (IM : InvM D t) (hs : SV t) (K : ∀ u2 D2 G2 t2, u2 ≤ u + 3 → InvC D2 t2 → InvM D2 t2 → SV t2 → Rg sc 100 202 (1670, [some (.retAddr 0), some (.ref 0), some (.ref 79), some (.ref 89), some (.int (nI i)), none, none, none, none], [], (hx_S0, D2, G2), u2) (fun r _ _ => r = .inl (some (.int (nI 1))))) : Rg sc 100 202 (1559, [some (.retAddr 0), some (.ref 0), some (.ref 79), some (.ref 89), some (.int (nI i)), none, none, none, none], [], (hx_S0, D, G), u) (fun r _ _ => r = .inl (some (.int (nI 1)))) := by
  have hs5 : SV (oIfOrdered t).2.2 := hs
  obtain ⟨r4, D4, hC4, hr4, I4, e4⟩ := kIfOrdered (sc := sc) (d := 94) (G := G) I hs
  rw [hr4, show zres [] (oIfOrdered t) = .inl (some (.int (oIfOrdered t).2.1)) from if_pos rfl] at hC4
  have M4 := InvM_mm hs IM e4
  refine Rg.s (fun _ => b202_1559 (by rw [bud202]; have h9 := bud3_76; omega) hC4) ?_
  obtain ⟨_, D5, hC5, rfl, h05, M5, e5⟩ := rIfOrdered (sc := sc) (d := 93) (G := G) M4 hs
  have I5 := InvC_c I4 e5
  refine Rg.s (fun _ => b202_1563 (by rw [bud202]; have h9 := bud3_170; omega) hC5) ?_
  refine Rg.bt (fun _ => b202_1567) (rfl) ?_
  exact K _ D5 G (oIfOrdered t).2.2 (by omega) I5 M5 hs5
theorem law_1656 {sc : Nat × (Nat → Int32)} {D : Nat → Nat → Int32} {G : Nat → Nat → Int64} {t : ST} {i u : Nat} {v1 v2 v3 v4 : Int} (p1 : -2147483648 ≤ v1) (q1 : v1 < 2147483648) (p2 : -2147483648 ≤ v2) (q2 : v2 < 2147483648) (p3 : -2147483648 ≤ v3) (q3 : v3 < 2147483648) (p4 : -2147483648 ≤ v4) (q4 : v4 < 2147483648) (e1 : sc.2 (i + 1) = iI v1) (e2 : sc.2 (i + 2) = iI v2) (e3 : sc.2 (i + 3) = iI v3) (e4x : sc.2 (i + 4) = iI v4) (hL : i + 5 ≤ sc.1) (hL2 : sc.1 ≤ 2560) (hu : u ≤ 6900) (I : InvC D t) (IM : InvM D t) (hs : SV t) (K : ∀ u2 D2 G2 t2, u2 ≤ u + 3 → InvC D2 t2 → InvM D2 t2 → SV t2 → Rg sc 100 202 (1670, [some (.retAddr 0), some (.ref 0), some (.ref 79), some (.ref 89), some (.int (nI i)), none, none, none, none], [], (hx_S0, D2, G2), u2) (fun r _ _ => r = .inl (some (.int (nI 1))))) : Rg sc 100 202 (1656, [some (.retAddr 0), some (.ref 0), some (.ref 79), some (.ref 89), some (.int (nI i)), none, none, none, none], [], (hx_S0, D, G), u) (fun r _ _ => r = .inl (some (.int (nI 1)))) := by
  obtain ⟨_, D4, hC4, rfl, e4⟩ := kDigest (sc := sc) (d := 89) (G := G) I hs
  have I4 := InvC_keep I e4
  have M4 := InvM_mm hs IM (fun a ha => e4 a (by omega))
  refine Rg.s (fun _ => b202_1656 (by rw [bud202]; have h9 := bud3_79; omega) hC4) ?_
  obtain ⟨_, D5, _, hC5, rfl, h05, M5, e5, rfl⟩ := rDigest (sc := sc) (d := 92) (G := G) M4 hs
  have I5 := InvC_c I4 e5
  refine Rg.s (fun _ => b202_1660 (by rw [bud202]; have h9 := bud3_179; omega) hC5) ?_
  refine Rg.bt (fun _ => b202_1664) (lg_cmp_s _) ?_
  exact K _ D5 _ t (by omega) I5 M5 hs
theorem law_1572 {sc : Nat × (Nat → Int32)} {D : Nat → Nat → Int32} {G : Nat → Nat → Int64} {t : ST} {i u : Nat} {v1 v2 v3 v4 : Int} (p1 : -2147483648 ≤ v1) (q1 : v1 < 2147483648) (p2 : -2147483648 ≤ v2) (q2 : v2 < 2147483648) (p3 : -2147483648 ≤ v3) (q3 : v3 < 2147483648) (p4 : -2147483648 ≤ v4) (q4 : v4 < 2147483648) (e1 : sc.2 (i + 1) = iI v1) (e2 : sc.2 (i + 2) = iI v2) (e3 : sc.2 (i + 3) = iI v3) (e4x : sc.2 (i + 4) = iI v4) (hL : i + 5 ≤ sc.1) (hL2 : sc.1 ≤ 2560) (hu : u ≤ 6900) (I : InvC D t) (IM : InvM D t) (hs : SV t) (K : ∀ u2 D2 G2 t2, u2 ≤ u + 3 → InvC D2 t2 → InvM D2 t2 → SV t2 → Rg sc 100 202 (1670, [some (.retAddr 0), some (.ref 0), some (.ref 79), some (.ref 89), some (.int (nI i)), none, none, none, none], [], (hx_S0, D2, G2), u2) (fun r _ _ => r = .inl (some (.int (nI 1))))) : Rg sc 100 202 (1572, [some (.retAddr 0), some (.ref 0), some (.ref 79), some (.ref 89), some (.int (nI i)), none, none, none, none], [], (hx_S0, D, G), u) (fun r _ _ => r = .inl (some (.int (nI 1)))) := by
  obtain ⟨_, D4, hC4, rfl, e4⟩ := kMeanShrink (sc := sc) (d := 97) (G := G) I hs
  have I4 := InvC_keep I e4
  have M4 := InvM_mm hs IM (fun a ha => e4 a (by omega))
  have hfp := (zSh_okM M4.1 hs.1).2.1
  refine Rg.s (fun _ => b202_1572 (by rw [bud202]; have h9 := bud3_77; omega) hC4) ?_
  obtain ⟨_, D5, hC5, rfl, h05, M5, e5⟩ := rMeanShrink (sc := sc) (d := 95) (G := G) M4 hs
  have I5 := InvC_c I4 e5
  refine Rg.s (fun _ => b202_1576 (by exact hfp) (by rw [bud202]; have h9 := bud3_172; omega) hC5) ?_
  by_cases hc : Op.cmpValue (FP.dcmp (FP.f2d (zSh (tV t))) (FP.f2d (zSh (tV t)))) .l = 0
  · refine Rg.bt (fun _ => b202_1583 (by exact hfp)) (hc) ?_
    refine Rg.s (fun _ => b202_1612) ?_
    exact K _ D5 G t (by omega) I5 M5 hs
  · refine Rg.bf (fun _ => b202_1583 (by exact hfp)) (hc) ?_
    refine Rg.bf (fun _ => b202_1594) (hc) ?_
    refine Rg.bt (fun _ => b202_1602) (hc) ?_
    refine Rg.s (fun _ => b202_1612) ?_
    exact K _ D5 G t (by omega) I5 M5 hs
theorem law_1615 {sc : Nat × (Nat → Int32)} {D : Nat → Nat → Int32} {G : Nat → Nat → Int64} {t : ST} {i u : Nat} {v1 v2 v3 v4 : Int} (p1 : -2147483648 ≤ v1) (q1 : v1 < 2147483648) (p2 : -2147483648 ≤ v2) (q2 : v2 < 2147483648) (p3 : -2147483648 ≤ v3) (q3 : v3 < 2147483648) (p4 : -2147483648 ≤ v4) (q4 : v4 < 2147483648) (e1 : sc.2 (i + 1) = iI v1) (e2 : sc.2 (i + 2) = iI v2) (e3 : sc.2 (i + 3) = iI v3) (e4x : sc.2 (i + 4) = iI v4) (hL : i + 5 ≤ sc.1) (hL2 : sc.1 ≤ 2560) (hu : u ≤ 6900) (I : InvC D t) (IM : InvM D t) (hs : SV t) (K : ∀ u2 D2 G2 t2, u2 ≤ u + 3 → InvC D2 t2 → InvM D2 t2 → SV t2 → Rg sc 100 202 (1670, [some (.retAddr 0), some (.ref 0), some (.ref 79), some (.ref 89), some (.int (nI i)), none, none, none, none], [], (hx_S0, D2, G2), u2) (fun r _ _ => r = .inl (some (.int (nI 1))))) : Rg sc 100 202 (1615, [some (.retAddr 0), some (.ref 0), some (.ref 79), some (.ref 89), some (.int (nI i)), none, none, none, none], [], (hx_S0, D, G), u) (fun r _ _ => r = .inl (some (.int (nI 1)))) := by
  have hC4 := kMeanCost (sc := sc) (d := 96) (G := G) I hs
  have I4 := I
  have M4 := IM
  refine Rg.s (fun _ => b202_1615 (by rw [bud202]; have h9 := bud3_78; omega) hC4) ?_
  obtain ⟨_, D5, hC5, rfl, h05, M5, e5⟩ := rMeanCost (sc := sc) (d := 95) (G := G) M4 hs
  have I5 := InvC_c I4 e5
  refine Rg.s (fun _ => b202_1619 (by rw [bud202]; have h9 := bud3_174; omega) hC5) ?_
  by_cases hc : Op.cmpValue (FP.dcmp (zMc (tV t)) (zMc (tV t))) .l = 0
  · refine Rg.bt (fun _ => b202_1625) (hc) ?_
    refine Rg.s (fun _ => b202_1653) ?_
    exact K _ D5 G t (by omega) I5 M5 hs
  · refine Rg.bf (fun _ => b202_1625) (hc) ?_
    refine Rg.bf (fun _ => b202_1635) (hc) ?_
    refine Rg.bt (fun _ => b202_1643) (hc) ?_
    refine Rg.s (fun _ => b202_1653) ?_
    exact K _ D5 G t (by omega) I5 M5 hs
