/-! ===== runs, by rules ===== -/
theorem hx_run_more {sc : Nat × (Nat → Int32)} : ∀ (n d k : Nat) (fs : hx_FS) (r : hx_RS × hx_HS × Nat), hx_run sc n d k fs = some r → hx_run sc (n + 1) d k fs = some r
  | 0, _, _, _, _, h => by cases h
  | n + 1, d, k, (pc, ls, st, Hs, u), r, h => by
    unfold hx_run at h ⊢
    split at h
    · cases h
    · rename_i ce hce
      try rw [hce]
      try dsimp only
      split at h
      · cases h
      · rename_i fs hst
        try rw [hst]
        exact hx_run_more n _ _ _ _ h
      · rename_i en hst
        try rw [hst]
        exact h
      · rename_i kc as pc1 ls1 st1 H1 u1 hst
        try rw [hst]
        try dsimp only
        split at h
        · cases h
        · rename_i d1
          try dsimp only
          split at h
          · rename_i hc
            rw [if_pos hc]
            split at h
            · cases h
            · rename_i v H2 u2 hr
              rw [hx_run_more n _ _ _ _ hr]
              exact hx_run_more n _ _ _ _ h
            · rename_i E H2 u2 hr
              rw [hx_run_more n _ _ _ _ hr]
              try dsimp only
              split at h
              · rename_i hct
                try rw [hct]
                exact h
              · rename_i hct
                split at h
                · rename_i j npc hf
                  try simp only [hf]
                  split at h
                  · rename_i hj
                    try rw [if_pos hj]
                    exact hx_run_more n _ _ _ _ h
                  · cases h
                · cases h
          · cases h
theorem hx_run_add {sc : Nat × (Nat → Int32)} {n d k : Nat} {fs : hx_FS} {r : hx_RS × hx_HS × Nat} (h : hx_run sc n d k fs = some r) : ∀ j, hx_run sc (n + j) d k fs = some r
  | 0 => h
  | j + 1 => hx_run_more _ _ _ _ _ (hx_run_add h j)
/-- the frame comes to its end with r -/
def Rn (sc : Nat × (Nat → Int32)) (d k : Nat) (fs : hx_FS) (r : hx_RS × hx_HS × Nat) : Prop := ∃ n, hx_run sc n d k fs = some r
/-- the call comes to its end -/
def Cl (sc : Nat × (Nat → Int32)) (d k : Nat) (as : List Value) (H : hx_HS) (res : hx_RS) (H2 : hx_HS) : Prop := ∃ u, Rn sc d k (0, hx_entry as (hx_ml k), [], H, 0) (res, H2, u)
section RN
variable {sc : Nat × (Nat → Int32)} {d k pc : Nat} {ls : List (Option Value)} {st : List Value} {H : hx_HS} {u : Nat} {r : hx_RS × hx_HS × Nat} {ce : hx_CE} {fs : hx_FS}
theorem Rn_step (hat : hx_at k pc = some ce) (hs : hx_step sc (hx_bud k) (hx_rt k) ce pc ls st H u = some (.inl fs)) (K : Rn sc d k fs r) : Rn sc d k (pc, ls, st, H, u) r := by
  obtain ⟨n, h⟩ := K
  refine ⟨n + 1, ?_⟩
  unfold hx_run
  rw [hat]
  dsimp only
  rw [hs]
  exact h
theorem Rn_end {e : hx_RS × hx_HS × Nat} (hat : hx_at k pc = some ce) (hs : hx_step sc (hx_bud k) (hx_rt k) ce pc ls st H u = some (.inr (.inr e))) (hu : e.2.2 ≤ hx_bud k) : Rn sc d k (pc, ls, st, H, u) e := by
  refine ⟨1, ?_⟩
  unfold hx_run
  rw [hat]
  dsimp only
  rw [hs]
  exact if_pos hu
theorem Rn_call {kc : Nat} {as : List Value} {st1 : List Value} {v : Option Value} {H1 : hx_HS} (hat : hx_at k pc = some ce) (hs : hx_step sc (hx_bud k) (hx_rt k) ce pc ls st H u = some (.inr (.inl (kc, as, (pc, ls, st1, H, u))))) (hu : u + hx_bud kc ≤ hx_bud k) (hn : (hx_args as).length ≤ hx_ml kc)
    (C : Cl sc d kc as H (.inl v) H1) (K : Rn sc (d + 1) k (pc + 3, ls, v.toList ++ st1, H1, u + hx_bud kc) r) : Rn sc (d + 1) k (pc, ls, st, H, u) r := by
  obtain ⟨u9, n1, h1⟩ := C
  obtain ⟨n2, h2⟩ := K
  refine ⟨n1 + n2 + 1, ?_⟩
  unfold hx_run
  rw [hat]
  dsimp only
  rw [hs]
  dsimp only
  rw [if_pos ⟨hu, hn⟩, hx_run_add h1 n2]
  dsimp only
  rw [Nat.add_comm n1 n2]
  exact hx_run_add h2 n1
/-- a call that throws, out of this frame -/
theorem Rn_callX {kc E : Nat} {as : List Value} {st1 : List Value} {H1 : hx_HS} (hat : hx_at k pc = some ce) (hs : hx_step sc (hx_bud k) (hx_rt k) ce pc ls st H u = some (.inr (.inl (kc, as, (pc, ls, st1, H, u))))) (hu : u + hx_bud kc ≤ hx_bud k) (hn : (hx_args as).length ≤ hx_ml kc)
    (C : Cl sc d kc as H (.inr E) H1) (hct : hx_ct k = []) : Rn sc (d + 1) k (pc, ls, st, H, u) (.inr E, H1, u + hx_bud kc) := by
  obtain ⟨u9, n1, h1⟩ := C
  refine ⟨n1 + 1, ?_⟩
  unfold hx_run
  rw [hat]
  dsimp only
  rw [hs]
  dsimp only
  rw [if_pos ⟨hu, hn⟩, h1]
  dsimp only
  rw [hct]
/-- .. caught in this frame -/
theorem Rn_callC {kc E j npc : Nat} {as : List Value} {st1 : List Value} {H1 : hx_HS} {q : Nat × Nat × Nat × Nat} {ct : List (Nat × Nat × Nat × Nat)} (hat : hx_at k pc = some ce) (hs : hx_step sc (hx_bud k) (hx_rt k) ce pc ls st H u = some (.inr (.inl (kc, as, (pc, ls, st1, H, u))))) (hu : u + hx_bud kc ≤ hx_bud k) (hn : (hx_args as).length ≤ hx_ml kc)
    (C : Cl sc d kc as H (.inr E) H1) (hct : hx_ct k = q :: ct) (hf : hx_find (q :: ct) E = some (j, npc)) (hj : j < ls.length) (K : Rn sc (d + 1) k (npc, hx_st1 ls j none, [], H1, u + hx_bud kc) r) : Rn sc (d + 1) k (pc, ls, st, H, u) r := by
  obtain ⟨u9, n1, h1⟩ := C
  obtain ⟨n2, h2⟩ := K
  refine ⟨n1 + n2 + 1, ?_⟩
  unfold hx_run
  rw [hat]
  dsimp only
  rw [hs]
  dsimp only
  rw [if_pos ⟨hu, hn⟩, hx_run_add h1 n2]
  dsimp only
  rw [hct]
  dsimp only
  rw [hf]
  dsimp only
  rw [if_pos hj, Nat.add_comm n1 n2]
  exact hx_run_add h2 n1
end RN
