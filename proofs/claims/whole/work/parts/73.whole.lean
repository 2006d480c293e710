/-! ===== the law's whole run, and its walk ===== -/
theorem whole_start {p : Program} {e : Env} {s : State} {m : MethodId} {below : List Frame} {meth : Method} {c : Code} (l : Launch) (hflags : l.flags = flags0) {b L : Nat} {xs : Nat → Int32} (hL : L ≤ 2560) (C0 : lw_At p s m meth c b L xs) : W p l e room_1 s m #[Value.ref b] below meth c s.heap [] 0 0 (lw_Z below #[Value.ref b] s) (entryFrame m ([Value.ref b] : List Value).toArray 9) := by
  obtain ⟨D, G, u, hu, IC, IM, K⟩ := hx_begin (L, xs)
  obtain ⟨r, D2, G2, u2, h2, q⟩ := law_loop (sc := (L, xs)) hL L 0 u D G zt0 rfl (Nat.zero_le _) (by show 5 * u + 3 * (L - 0) ≤ 34000; omega) IC IM SV_0
  have q1 : r = .inl (some (.int 1)) := q
  subst q1
  obtain ⟨n, hn⟩ := K _ h2
  exact hx_start l hflags C0 hn
