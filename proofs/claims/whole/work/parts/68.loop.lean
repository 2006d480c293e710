/-! ===== the law: its loop ===== -/
theorem bud202 : hx_bud 202 = 7000 := by decide +kernel
theorem bud3_57 : hx_bud 57 ≤ 3 := by decide +kernel
theorem bud3_60 : hx_bud 60 ≤ 3 := by decide +kernel
theorem bud3_61 : hx_bud 61 ≤ 3 := by decide +kernel
theorem bud3_76 : hx_bud 76 ≤ 3 := by decide +kernel
theorem bud3_77 : hx_bud 77 ≤ 3 := by decide +kernel
theorem bud3_78 : hx_bud 78 ≤ 3 := by decide +kernel
theorem bud3_79 : hx_bud 79 ≤ 3 := by decide +kernel
theorem bud3_101 : hx_bud 101 ≤ 3 := by decide +kernel
theorem bud3_126 : hx_bud 126 ≤ 3 := by decide +kernel
theorem bud3_128 : hx_bud 128 ≤ 3 := by decide +kernel
theorem bud3_129 : hx_bud 129 ≤ 3 := by decide +kernel
theorem bud3_132 : hx_bud 132 ≤ 3 := by decide +kernel
theorem bud3_133 : hx_bud 133 ≤ 3 := by decide +kernel
theorem bud3_134 : hx_bud 134 ≤ 3 := by decide +kernel
theorem bud3_135 : hx_bud 135 ≤ 3 := by decide +kernel
theorem bud3_136 : hx_bud 136 ≤ 3 := by decide +kernel
theorem bud3_137 : hx_bud 137 ≤ 3 := by decide +kernel
theorem bud3_138 : hx_bud 138 ≤ 3 := by decide +kernel
theorem bud3_147 : hx_bud 147 ≤ 3 := by decide +kernel
theorem bud3_148 : hx_bud 148 ≤ 3 := by decide +kernel
theorem bud3_149 : hx_bud 149 ≤ 3 := by decide +kernel
theorem bud3_150 : hx_bud 150 ≤ 3 := by decide +kernel
theorem bud3_151 : hx_bud 151 ≤ 3 := by decide +kernel
theorem bud3_153 : hx_bud 153 ≤ 3 := by decide +kernel
theorem bud3_154 : hx_bud 154 ≤ 3 := by decide +kernel
theorem bud3_155 : hx_bud 155 ≤ 3 := by decide +kernel
theorem bud3_156 : hx_bud 156 ≤ 3 := by decide +kernel
theorem bud3_158 : hx_bud 158 ≤ 3 := by decide +kernel
theorem bud3_161 : hx_bud 161 ≤ 3 := by decide +kernel
theorem bud3_162 : hx_bud 162 ≤ 3 := by decide +kernel
theorem bud3_164 : hx_bud 164 ≤ 3 := by decide +kernel
theorem bud3_166 : hx_bud 166 ≤ 3 := by decide +kernel
theorem bud3_168 : hx_bud 168 ≤ 3 := by decide +kernel
theorem bud3_170 : hx_bud 170 ≤ 3 := by decide +kernel
theorem bud3_172 : hx_bud 172 ≤ 3 := by decide +kernel
theorem bud3_174 : hx_bud 174 ≤ 3 := by decide +kernel
theorem bud3_179 : hx_bud 179 ≤ 3 := by decide +kernel
theorem bud3_180 : hx_bud 180 ≤ 3 := by decide +kernel
theorem bud3_181 : hx_bud 181 ≤ 3 := by decide +kernel
theorem bud3_182 : hx_bud 182 ≤ 3 := by decide +kernel
theorem bud3_183 : hx_bud 183 ≤ 3 := by decide +kernel
theorem bud3_184 : hx_bud 184 ≤ 3 := by decide +kernel
theorem bud3_185 : hx_bud 185 ≤ 3 := by decide +kernel
theorem bud3_186 : hx_bud 186 ≤ 3 := by decide +kernel
theorem bud3_187 : hx_bud 187 ≤ 3 := by decide +kernel
theorem bud3_188 : hx_bud 188 ≤ 3 := by decide +kernel
theorem bud3_189 : hx_bud 189 ≤ 3 := by decide +kernel
theorem bud3_190 : hx_bud 190 ≤ 3 := by decide +kernel
theorem bud3_191 : hx_bud 191 ≤ 3 := by decide +kernel
theorem bud3_192 : hx_bud 192 ≤ 3 := by decide +kernel
theorem bud3_193 : hx_bud 193 ≤ 3 := by decide +kernel
theorem bud3_194 : hx_bud 194 ≤ 3 := by decide +kernel
theorem bud3_195 : hx_bud 195 ≤ 3 := by decide +kernel
theorem bud3_196 : hx_bud 196 ≤ 3 := by decide +kernel
theorem bud3_197 : hx_bud 197 ≤ 3 := by decide +kernel
theorem bud3_198 : hx_bud 198 ≤ 3 := by decide +kernel
theorem bud3_199 : hx_bud 199 ≤ 3 := by decide +kernel
theorem bud3_200 : hx_bud 200 ≤ 3 := by decide +kernel
theorem bud3_201 : hx_bud 201 ≤ 3 := by decide +kernel
theorem iI_toInt (x : Int32) : x = iI x.toInt := Int32.toInt_inj.mp (by rw [z_iI (Int32.le_toInt x) (Int32.toInt_lt x)])
theorem sc_int (x : Int32) : ∃ v : Int, -2147483648 ≤ v ∧ v < 2147483648 ∧ x = iI v := ⟨x.toInt, Int32.le_toInt x, Int32.toInt_lt x, iI_toInt x⟩
theorem InvC_c {D D2 : Nat → Nat → Int32} {t : ST} (I : InvC D t) (e : eqC D D2) : InvC D2 t := by
  obtain ⟨i1, i2, i3, i4⟩ := I
  exact ⟨RepC_g (fun a a1 a2 => e a (by omega)) i1, RingC_k (by rw [e 0 (by omega)]) (by rw [e 0 (by omega)]) (fun a a1 a2 => e a (by omega)) i2, SlotC_k (e 10 (by omega)) (fun a a1 a2 => e a (by omega)) i3, BF_k (by rw [e 0 (by omega)]) (e 11 (by omega)) i4⟩
theorem InvM_mm {D D2 : Nat → Nat → Int32} {t : ST} (hs : SV t) (I : InvM D t) (e : eqM D D2) : InvM D2 t := InvM_w hs I (fun a ha => e a (by omega)) (fun i _ => by rw [e 80 (by omega)]) (fun j _ => by rw [e 79 (by omega)])
theorem m101 {sc : Nat × (Nat → Int32)} {d : Nat} {D : Nat → Nat → Int32} {G : Nat → Nat → Int64} : Cl sc d 101 [.ref 79] (hx_S0, D, G) (.inl (some (.int (D 79 0)))) (hx_S0, D, G) := c101 (u := 0) b101_0
