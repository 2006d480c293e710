/-! ===== the law's beginning: both objects are made, all is empty ===== -/
abbrev zZ : Nat → Nat → Int32 := fun _ _ => 0
abbrev zG : Nat → Nat → Int64 := fun _ _ => 0
set_option maxRecDepth 100000 in
set_option maxHeartbeats 4000000 in
theorem hx_i4 (sc : Nat × (Nat → Int32)) : ∃ D G u, hx_run sc 1000 99 50 (0, hx_entry [.ref 0] (hx_ml 50), [], ([.inl (4, hx_kinds 4)], hx_row zZ 0 (fun _ => 0), hx_row zG 0 (fun _ => 0)), 0) = some (.inl none, (hx_S0.take 79, D, G), u)
    ∧ D 0 2 = nI 0 ∧ D 0 3 = nI 0 ∧ D 0 7 = nI 0 ∧ D 1 0 = nI 0 ∧ D 1 1 = nI 0 ∧ D 7 0 = nI 1 ∧ D 7 1 = nI 0 ∧ D 10 0 = nI 0 ∧ D 10 1 = nI 0 := ⟨_, _, _, rfl, rfl, rfl, rfl, rfl, rfl, rfl, rfl, rfl, rfl⟩
