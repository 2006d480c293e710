/-! ===== the law begins: all is empty ===== -/
abbrev zV0 : ZV := (0, 0, fun _ => 0, fun _ _ => 0, fun _ _ => false, fun _ => 0, fun i => if i = 0 then 1 else 0)
abbrev zt0 : ST := (zV0, [], fun _ => none, 0, fun _ => 0)
theorem SV_0 : SV zt0 := by
  refine ⟨⟨by decide, ?_, ?_, ?_, ?_, ?_, ?_, by decide, by decide⟩, by decide, ?_, ?_, by decide, ?_⟩
  · exact fun p h => absurd h (Nat.not_lt_zero p)
  · exact fun p j h => absurd h (Nat.not_lt_zero p)
  · exact fun p x h => absurd h (Nat.not_lt_zero p)
  · exact fun p h => absurd h (Nat.not_lt_zero p)
  · exact fun p h => absurd h (Nat.not_lt_zero p)
  · exact fun p x h => absurd h (Nat.not_lt_zero p)
  · exact fun X h => absurd h List.not_mem_nil
  · intro k X h
    cases h
  · exact fun p h => absurd h (Nat.not_lt_zero p)
theorem InvC_0 {D : Nat → Nat → Int32} (h : D 0 2 = nI 0 ∧ D 0 3 = nI 0 ∧ D 0 7 = nI 0 ∧ D 1 0 = nI 0 ∧ D 1 1 = nI 0 ∧ D 7 0 = nI 1 ∧ D 7 1 = nI 0 ∧ D 10 0 = nI 0 ∧ D 10 1 = nI 0) : InvC D zt0 := by
  obtain ⟨h1, h2, h3, h4, h5, h6, h7, h8, h9⟩ := h
  refine ⟨⟨h4, h5, ?_, ?_, ?_, ?_, ?_, h6, h7⟩, ⟨0, by decide, h1, h2, ?_⟩, ?_, ⟨h3, by decide, ?_, ?_⟩⟩
  · exact fun p h => absurd h (Nat.not_lt_zero p)
  · exact fun p j h => absurd h (Nat.not_lt_zero p)
  · exact fun p h => absurd h (Nat.not_lt_zero p)
  · exact fun p i x h => absurd h (Nat.not_lt_zero p)
  · exact fun p h => absurd h (Nat.not_lt_zero p)
  · intro j X h
    cases h
  · intro k hk
    refine ⟨?_, fun X h => by cases h⟩
    rcases (by omega : k = 0 ∨ k = 1) with rfl | rfl
    · exact h8
    · exact h9
  · exact fun p h => absurd h (Nat.not_lt_zero p)
  · exact fun p h => absurd h (Nat.not_lt_zero p)
theorem InvM_0 {D : Nat → Nat → Int32} (h : D 79 4 = nI 0 ∧ D 79 6 = nI 0 ∧ D 79 8 = nI 0 ∧ D 80 98 = nI 0 ∧ D 80 99 = nI 0 ∧ D 80 100 = nI 1 ∧ D 80 101 = nI 0) : InvM D zt0 := by
  obtain ⟨h1, h2, h3, h4, h5, h6, h7⟩ := h
  refine ⟨⟨h4, h5, ?_, ?_, ?_, ?_, h6, h7⟩, h1, ?_, h2, ?_, h3, ?_⟩
  · exact fun p h => absurd h (Nat.not_lt_zero p)
  · exact fun p j h => absurd h (Nat.not_lt_zero p)
  · exact fun p h => absurd h (Nat.not_lt_zero p)
  · exact fun p h => absurd h (Nat.not_lt_zero p)
  · intro j X h
    cases h
  · intro k X _ h
    cases h
  · exact fun p h => absurd h (Nat.not_lt_zero p)
def hx_D5 (D : Nat → Nat → Int32) : Nat → Nat → Int32 := hx_row (hx_up (hx_row (hx_row (hx_row (hx_row (hx_row (hx_row (hx_row (hx_row (hx_row (hx_row D 79 (fun _ => 0)) 80 (fun _ => 0)) 81 (fun _ => 0)) 82 (fun _ => 0)) 83 (fun _ => 0)) 84 (fun _ => 0)) 85 (fun _ => 0)) 86 (fun _ => 0)) 87 (fun _ => 0)) 88 (fun _ => 0)) 80 100 1) 89 (fun _ => 0)
def hx_G5 (G : Nat → Nat → Int64) : Nat → Nat → Int64 := hx_row (hx_row (hx_row (hx_row (hx_row (hx_row (hx_row (hx_row (hx_row (hx_row (hx_row G 79 (fun _ => 0)) 80 (fun _ => 0)) 81 (fun _ => 0)) 82 (fun _ => 0)) 83 (fun _ => 0)) 84 (fun _ => 0)) 85 (fun _ => 0)) 86 (fun _ => 0)) 87 (fun _ => 0)) 88 (fun _ => 0)) 89 (fun _ => 0)
theorem D5_lo {D : Nat → Nat → Int32} {a i : Nat} (h : a < 79) : hx_D5 D a i = D a i := by
  unfold hx_D5
  have e : ∀ k, 79 ≤ k → ∀ (E : Nat → Nat → Int32), hx_row E k (fun _ => 0) a i = E a i := fun k hk E => by rw [hx_row_at, if_neg (by omega)]
  rw [e 89 (by decide), hx_up_at, if_neg (by omega), e 88 (by decide), e 87 (by decide), e 86 (by decide), e 85 (by decide), e 84 (by decide), e 83 (by decide), e 82 (by decide), e 81 (by decide), e 80 (by decide), e 79 (by decide)]
set_option maxRecDepth 100000 in
set_option maxHeartbeats 4000000 in
theorem hx_end5 {sc : Nat × (Nat → Int32)} {D : Nat → Nat → Int32} {G : Nat → Nat → Int64} {r : hx_RS × hx_HS × Nat} (K : Rn sc 100 202 (23, [some (.retAddr 0), some (.ref 0), some (.ref 79), some (.ref 89), some (.int (nI 0)), none, none, none, none], [], (hx_S0, hx_row D 89 (fun _ => 0), hx_row G 89 (fun _ => 0)), 223) r) : Rn sc 100 202 (16, [some (.retAddr 0), some (.ref 0), some (.ref 79), none, none, none, none, none, none], [], (hx_M9, D, G), 222) r := Rn_step rfl rfl (Rn_step rfl rfl (Rn_step rfl rfl (Rn_step rfl rfl (Rn_step rfl rfl K))))
set_option maxRecDepth 100000 in
set_option maxHeartbeats 4000000 in
theorem hx_mid5 {sc : Nat × (Nat → Int32)} {D : Nat → Nat → Int32} {G : Nat → Nat → Int64} {r : hx_RS × hx_HS × Nat} (K : Rn sc 100 202 (23, [some (.retAddr 0), some (.ref 0), some (.ref 79), some (.ref 89), some (.int (nI 0)), none, none, none, none], [], (hx_S0, hx_D5 D, hx_G5 G), 223) r) : Rn sc 100 202 (12, [some (.retAddr 0), some (.ref 0), none, none, none, none, none, none, none], [.ref 79, .ref 79], (hx_M0, hx_row D 79 (fun _ => 0), hx_row G 79 (fun _ => 0)), 202) r :=
  Rn_call (kc := 100) (as := [.ref 79]) (st1 := [.ref 79]) (v := none) rfl rfl (by decide) (by decide) (hx_i5 sc _ _) (Rn_step rfl rfl (hx_end5 K))
set_option maxRecDepth 100000 in
set_option maxHeartbeats 4000000 in
theorem hx_mid4 {sc : Nat × (Nat → Int32)} {D : Nat → Nat → Int32} {G : Nat → Nat → Int64} {r : hx_RS × hx_HS × Nat} (K : Rn sc 100 202 (12, [some (.retAddr 0), some (.ref 0), none, none, none, none, none, none, none], [.ref 79, .ref 79], (hx_M0, hx_row D 79 (fun _ => 0), hx_row G 79 (fun _ => 0)), 202) r) : Rn sc 100 202 (7, [some (.retAddr 0), none, none, none, none, none, none, none, none], [.ref 0], (hx_S0.take 79, D, G), 201) r := Rn_step rfl rfl (Rn_step rfl rfl (Rn_step rfl rfl K))
set_option maxRecDepth 100000 in
set_option maxHeartbeats 4000000 in
theorem hx_beg4 {sc : Nat × (Nat → Int32)} {D : Nat → Nat → Int32} {G : Nat → Nat → Int64} {u4 : Nat} {r : hx_RS × hx_HS × Nat} (r4 : hx_run sc 1000 99 50 (0, hx_entry [.ref 0] (hx_ml 50), [], ([.inl (4, hx_kinds 4)], hx_row zZ 0 (fun _ => 0), hx_row zG 0 (fun _ => 0)), 0) = some (.inl none, (hx_S0.take 79, D, G), u4)) (K : Rn sc 100 202 (7, [some (.retAddr 0), none, none, none, none, none, none, none, none], [.ref 0], (hx_S0.take 79, D, G), 201) r) : Rn sc 100 202 (4, [some (.retAddr 0), none, none, none, none, none, none, none, none], [.ref 0, .ref 0], ([.inl (4, hx_kinds 4)], hx_row zZ 0 (fun _ => 0), hx_row zG 0 (fun _ => 0)), 1) r :=
  Rn_call (kc := 50) (as := [.ref 0]) (st1 := [.ref 0]) (v := none) rfl rfl (by decide) (by decide) ⟨u4, 1000, r4⟩ K
set_option maxRecDepth 100000 in
set_option maxHeartbeats 4000000 in
theorem hx_beg0 {sc : Nat × (Nat → Int32)} {r : hx_RS × hx_HS × Nat} (K : Rn sc 100 202 (4, [some (.retAddr 0), none, none, none, none, none, none, none, none], [.ref 0, .ref 0], ([.inl (4, hx_kinds 4)], hx_row zZ 0 (fun _ => 0), hx_row zG 0 (fun _ => 0)), 1) r) : Rn sc 100 202 (0, hx_entry [.retAddr 0] 9, [], ([], zZ, zG), 0) r := Rn_step rfl rfl (Rn_step rfl rfl K)
theorem hx_begin (sc : Nat × (Nat → Int32)) : ∃ D G u, u ≤ 1000 ∧ InvC D zt0 ∧ InvM D zt0 ∧ ∀ r, Rn sc 100 202 (23, [some (.retAddr 0), some (.ref 0), some (.ref 79), some (.ref 89), some (.int (nI 0)), none, none, none, none], [], (hx_S0, D, G), u) r → Rn sc 100 202 (0, hx_entry [.retAddr 0] 9, [], ([], zZ, zG), 0) r := by
  obtain ⟨D4, G4, u4, r4, a1, a2, a3, a4, a5, a6, a7, a8, a9⟩ := hx_i4 sc
  refine ⟨hx_D5 D4, hx_G5 G4, 223, by decide, InvC_0 ⟨?_, ?_, ?_, ?_, ?_, ?_, ?_, ?_, ?_⟩, InvM_0 ⟨rfl, rfl, rfl, rfl, rfl, rfl, rfl⟩, fun r K => hx_beg0 (hx_beg4 r4 (hx_mid4 (hx_mid5 K)))⟩
  · rw [D5_lo (by decide), a1]
  · rw [D5_lo (by decide), a2]
  · rw [D5_lo (by decide), a3]
  · rw [D5_lo (by decide), a4]
  · rw [D5_lo (by decide), a5]
  · rw [D5_lo (by decide), a6]
  · rw [D5_lo (by decide), a7]
  · rw [D5_lo (by decide), a8]
  · rw [D5_lo (by decide), a9]
