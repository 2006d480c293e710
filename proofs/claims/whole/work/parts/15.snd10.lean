/-! ===== soundness, 11: every run of every frame ===== -/
theorem hx_step_end {sc : Nat × (Nat → Int32)} {bu : Nat} {rt : Option FieldType} {ins : Instr} {a bb : Nat} {v : Value} {tg : List Nat} {pc : Nat} {ls : List (Option Value)} {st : List Value} {Hs : hx_HS} {u : Nat} {res : hx_RS} {H2 : hx_HS} {u2 : Nat} (h : hx_step sc bu rt (ins, a, bb, v, tg) pc ls st Hs u = some (.inr (.inr (res, H2, u2)))) :
    (∃ w, res = .inl w ∧ H2 = Hs ∧ u2 = u ∧ hx_rok ins rt st w ∧ hx_il ins v = 1) ∨ (∃ i x t, ins = .new i ∧ tg = x :: t ∧ res = .inr a ∧ H2 = Hs ∧ u2 = u + 1 ∧ hx_cat st ≤ 8) := by
  unfold hx_step at h
  dsimp only at h
  cases ins
  case ireturn =>
    dsimp only at h
    unfold hx_iret at h
    split at h
    · rename_i x
      split at h
      · cases h
        exact Or.inl ⟨_, rfl, rfl, rfl, Or.inl ⟨x, rfl, rfl, rfl, Or.inl rfl⟩, rfl⟩
      · split at h
        · rename_i hx
          cases h
          exact Or.inl ⟨_, rfl, rfl, rfl, Or.inl ⟨x, rfl, rfl, rfl, Or.inr ⟨rfl, hx⟩⟩, rfl⟩
        · cases h
      · cases h
    · cases h
  case lreturn =>
    dsimp only at h
    split at h
    · rename_i x
      split at h
      · rename_i hr
        unfold hx_ret at h
        cases h
        exact Or.inl ⟨_, rfl, rfl, rfl, Or.inr (Or.inl ⟨x, rfl, rfl, rfl, hr⟩), rfl⟩
      · cases h
    · cases h
  case freturn =>
    dsimp only at h
    split at h
    · rename_i x
      split at h
      · rename_i hr
        unfold hx_ret at h
        cases h
        exact Or.inl ⟨_, rfl, rfl, rfl, Or.inr (Or.inr (Or.inl ⟨x, rfl, rfl, rfl, hr⟩)), rfl⟩
      · cases h
    · cases h
  case dreturn =>
    dsimp only at h
    split at h
    · rename_i x
      split at h
      · rename_i hr
        unfold hx_ret at h
        cases h
        exact Or.inl ⟨_, rfl, rfl, rfl, Or.inr (Or.inr (Or.inr (Or.inl ⟨x, rfl, rfl, rfl, hr⟩))), rfl⟩
      · cases h
    · cases h
  case areturn =>
    dsimp only at h
    split at h
    · rename_i x
      split at h
      · rename_i C
        unfold hx_ret at h
        cases h
        exact Or.inl ⟨_, rfl, rfl, rfl, Or.inr (Or.inr (Or.inr (Or.inr (Or.inr ⟨x, C, rfl, rfl, rfl, rfl⟩)))), rfl⟩
      · cases h
    · cases h
  case return_ =>
    dsimp only at h
    split at h
    · split at h
      · rename_i hr
        cases h
        exact Or.inl ⟨_, rfl, rfl, rfl, Or.inr (Or.inr (Or.inr (Or.inr (Or.inl ⟨rfl, rfl, rfl, hr⟩)))), rfl⟩
      · cases h
    · cases h
  case new i =>
    match tg, h with
    | [], h =>
      dsimp only at h
      unfold hx_newo hx_k at h
      split at h <;> cases h
    | x :: t, h =>
      dsimp only at h
      unfold hx_thr at h
      split at h
      · rename_i hc
        cases h
        exact Or.inr ⟨i, x, t, rfl, rfl, rfl, rfl, rfl, hc.2⟩
      · cases h
  all_goals (try simp only [hx_ild, hx_lld, hx_fld, hx_dld, hx_ald, hx_ist, hx_fst, hx_ast, hx_lst, hx_dst, hx_ii, hx_id, hx_i1, hx_ll, hx_li, hx_ff, hx_dd, hx_fcmp, hx_dcmp, hx_fu, hx_f2d, hx_d2l, hx_if, hx_icmp, hx_br, hx_sw, hx_inc, hx_get, hx_put, hx_arl, hx_ars, hx_len, hx_dup, hx_dup2, hx_pop, hx_newa, hx_newq, hx_abs, hx_min, hx_copy, hx_objI, hx_callV, hx_call, hx_k] at h)
  all_goals (repeat' (first | cases h | split at h))
/-- what a call's request keeps of its frame -/
theorem hx_step_fs {sc : Nat × (Nat → Int32)} {bu : Nat} {rt : Option FieldType} {ins : Instr} {a bb : Nat} {v : Value} {tg : List Nat} {pc : Nat} {ls : List (Option Value)} {st : List Value} {Hs : hx_HS} {u : Nat} {kc : Nat} {as : List Value} {pc1 : Nat} {ls1 : List (Option Value)} {st1 : List Value} {Hs1 : hx_HS} {u1 : Nat} (h : hx_step sc bu rt (ins, a, bb, v, tg) pc ls st Hs u = some (.inr (.inl (kc, as, (pc1, ls1, st1, Hs1, u1))))) : (pc1, ls1, st1, Hs1, u1) = (pc, ls, st1, Hs, u) := by
  have key : ∀ kk n, hx_call kk n pc ls st Hs u = some (.inr (.inl (kc, as, (pc1, ls1, st1, Hs1, u1)))) → (pc1, ls1, st1, Hs1, u1) = (pc, ls, st1, Hs, u) := by
    intro kk n hz
    obtain ⟨-, -, e, -⟩ := hx_call_yes hz
    cases e
    rfl
  cases ins
  case invokevirtual i =>
    unfold hx_step at h
    dsimp only at h
    match tg, h with
    | [ci], h => exact key _ _ (hx_callV_yes h).2
    | [], h => cases h
    | _ :: _ :: _, h => cases h
  case invokestatic i =>
    unfold hx_step at h
    dsimp only at h
    match tg, h with
    | [], h => exact key _ _ h
    | [0], h => cases h
    | [1], h => exact (hx_abs_no h).elim
    | [2], h => exact (hx_min_no h).elim
    | [3], h => exact (hx_copy_no h).elim
    | [z + 4], h => cases h
    | x :: y :: t, h => match x, h with
      | 0, h => cases h
      | 1, h => cases h
      | 2, h => cases h
      | 3, h => cases h
      | z + 4, h => cases h
  case invokespecial i =>
    unfold hx_step at h
    dsimp only at h
    match tg, h with
    | [ci], h => exact key _ _ (hx_callV_yes h).2
    | [], h => exact (hx_objI_no h).elim
    | _ :: _ :: _, h => exact (hx_objI_no h).elim
  all_goals exact (hx_step_nocall (by intro i hi; cases hi) (by intro i hi; cases hi) (by intro i hi; cases hi) h).elim
theorem hx_all : ∀ n, hx_A n
  | 0 => by
    intro sc d k pc ls st Hs u res H2 u2 h
    cases h
  | n + 1 => by
    have ih := hx_all n
    intro sc d k pc ls st Hs u res H2 u2 hrun p l e R s m args below meth c Q dC dI A b G F hRet hOut hThr
    unfold hx_run at hrun
    split at hrun
    · cases hrun
    · rename_i ce hat
      split at hrun
      · cases hrun
      · rename_i fs hstep
        obtain ⟨pc1, ls1, st1, Hs1, u1⟩ := fs
        exact hx_s_step F hat hstep (ih sc d k pc1 ls1 st1 Hs1 u1 res H2 u2 hrun p l e R s m args below meth c Q dC dI A b G F hRet hOut hThr)
      · rename_i en hstep
        split at hrun
        · rename_i hu
          obtain ⟨r9, H9, u9⟩ := en
          cases hrun
          have hck := hx_at_in hat
          have hd := hx_ck_d hck
          obtain ⟨hx, hb, hml, hown, hts, hrt, hlocks, htab, hl, hK, hA, hSt, hR, hini⟩ := id F
          obtain ⟨ins, a, bb, v, tg⟩ := ce
          dsimp only at hd
          intro H locs ad ac lc hI hL
          rcases hx_step_end hstep with ⟨w, rfl, rfl, rfl, hrk, hil⟩ | ⟨i, x, t, rfl, rfl, rfl, rfl, rfl, hcat⟩
          · rw [hil] at hd
            dsimp only
            exact hRet w rfl pc ins st H locs ad ac lc hd hrk hI hL.1
          · have hlk := hx_ck_l hck
            unfold hx_lk at hlk
            match t, hlk, hat with
            | [ic, ln], hlk, hat => exact hThr a rfl pc i x ic ln bb u v st H locs ad ac lc hat hI hL.1 hcat rfl
            | [], hlk, hat => cases hlk
            | [_], hlk, hat => cases hlk
            | _ :: _ :: _ :: _, hlk, hat => cases hlk
        · cases hrun
      · rename_i kc as pc1 ls1 st1 Hs1 u1 hstep
        match d, F, hrun with
        | 0, F, hrun => cases hrun
        | d1 + 1, F, hrun =>
          dsimp only at hrun
          split at hrun
          · rename_i hu
            have hsame : (pc1, ls1, st1, Hs1, u1) = (pc, ls, st1, Hs, u) := by
              obtain ⟨ins, a, bb, v, tg⟩ := ce
              exact hx_step_fs hstep
            cases hsame
            split at hrun
            · cases hrun
            · rename_i v1 H1 u9 hcall
              exact hx_s_call (bb := 0) ih F hat hstep hu.1 hu.2 hcall (fun v hv => by cases hv; exact hrun) (fun E hE => by cases hE) hRet hOut hThr
            · rename_i E1 H1 u9 hcall
              refine hx_s_call (bb := 0) ih F hat hstep hu.1 hu.2 hcall (fun v hv => by cases hv) (fun E hE => ?_) hRet hOut hThr
              cases hE
              split at hrun
              · rename_i hct
                cases hrun
                exact Or.inl ⟨hct, rfl, rfl, rfl⟩
              · split at hrun
                · rename_i j npc hfind
                  split at hrun
                  · rename_i hj
                    exact Or.inr ⟨j, npc, hfind, hj, hrun⟩
                  · cases hrun
                · cases hrun
          · cases hrun
