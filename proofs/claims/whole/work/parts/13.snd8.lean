/-! ===== soundness, 9: every step, every run ===== -/
theorem hx_KL_at {o i : Nat} {v : Value} (h : hx_has hx_KL (o, i, v) = true) : (∃ x, v = .int x ∧ Jvm.Cond.constant (hx_R o) i x ∈ hx_LW) ∨ (∃ x, v = .long x ∧ Jvm.Cond.constantLong (hx_R o) i x ∈ hx_LW) ∨ (∃ x, v = .float x ∧ Jvm.Cond.constantFloat (hx_R o) i x ∈ hx_LW) ∨ (∃ x, v = .double x ∧ Jvm.Cond.constantDouble (hx_R o) i x ∈ hx_LW) := by
  obtain ⟨n, hn⟩ := hx_has_in h
  have hq := hx_KL_ok _ hn
  unfold hx_klok at hq
  cases v with
  | int x => exact Or.inl ⟨x, rfl, hx_wi_in hq⟩
  | long x => exact Or.inr (Or.inl ⟨x, rfl, hx_wi_in hq⟩)
  | float x => exact Or.inr (Or.inr (Or.inl ⟨x, rfl, hx_wi_in hq⟩))
  | double x => exact Or.inr (Or.inr (Or.inr ⟨x, rfl, hx_wi_in hq⟩))
  | _ => cases hq
section HXS
variable {p : Program} {l : Launch} {e : Env} {R : Room} {s : State} {m : MethodId} {args : Array Value} {below : List Frame} {meth : Method} {c : Code} {H : Heap} {locs : List Loc} {cells slots : Nat} {Q : State → Prop}
variable {dC : Nat → ClassId} {dI : Nat → Nat → Nat} {A : Nat → Prop} {b : Nat} {G : Nat × (Nat → Nat)} {sc : Nat × (Nat → Int32)} {d k : Nat}
variable {pc : Nat} {ls : List (Option Value)} {st : List Value} {Hs : hx_HS} {u : Nat} {fs : hx_FS}
theorem lv_ldcwf {cc : ByteArray} {lc : Array Slot} {rest : List Value} (hexec : p.tables.exec = Jvm.exec) (hb : c.code = cc) {own : String} {index : Nat} {v : UInt32} (hown : s.vm.findClass own = some m.cls) (hconst : (Jvm.Cond.constantFloat own index v).before args s = true) (hdg : decode cc pc = .ok (.ldc_w index, 3)) (k : W p l e R s m args below meth c H locs cells slots Q (F0 m (pc + 3) lc (.float v :: rest))) : W p l e R s m args below meth c H locs cells slots Q (F0 m pc lc rest) := by
  intro T hT X
  obtain ⟨t, a, b⟩ := k T hT X
  obtain ⟨kk, cf, hk, hcf, hcp⟩ := Cond.constantFloat_spec hown hconst
  refine ⟨t, ?_, b⟩
  have hdg' : decode c.code pc = .ok (.ldc_w index, 3) := by rw [hb]; exact hdg
  obtain ⟨k', hk', he⟩ := X.warmed.alike.2.2 _ _ hk
  jvm_step X.here [X.here.top, hexec, hdg', ldc_w.wp_float (s := T) (f := F0 m pc lc rest) X.here.top hk' (by rw [he]; exact hcf) hcp]
  exact a
theorem hx_br_no {P : Prop} [Decidable P] {t : Nat} {act : (Nat × List Value × hx_FS) ⊕ (hx_RS × hx_HS × Nat)} (h : hx_br P t pc ls st Hs u = some (.inr act)) : False := by
  unfold hx_br hx_k at h
  split at h <;> cases h
theorem hx_call_no {kc n : Nat} (h : hx_call kc n pc ls st Hs u = some (.inl fs)) : False := by
  unfold hx_call at h
  split at h <;> cases h
theorem hx_callV_no {kc n ci : Nat} (h : hx_callV kc n ci pc ls st Hs u = some (.inl fs)) : False := by
  unfold hx_callV at h
  split at h
  · split at h
    · split at h
      · exact hx_call_no h
      · cases h
    · cases h
  · cases h
/-- a step that goes on -/
theorem hx_s_step {ce : hx_CE} (F : hx_F p l R s m args meth c dC dI A b sc d k) (hat : hx_at k pc = some ce) (h : hx_step sc (hx_bud k) (hx_rt k) ce pc ls st Hs u = some (.inl fs)) (K : hx_Wt p l e R s m args below meth c Q dC dI A b G k fs) : hx_Wt p l e R s m args below meth c Q dC dI A b G k (pc, ls, st, Hs, u) := by
  obtain ⟨hx, hb, hml, hown, hts, hr, hlocks, htab, hl, hK, hA, hSt, hR, hini⟩ := F
  obtain ⟨hX, hbl, hbA, hU, hN, hstr, hAO, hnw, hnc, hxw⟩ := hSt
  have hR2 : 20 ≤ R.frames ∧ 200 ≤ R.locals := ⟨by omega, by omega⟩
  have hRc : hx_bud k ≤ R.cells ∧ 1000 * hx_bud k ≤ R.slots := hR.2.2
  have hck := hx_at_in hat
  have hd := hx_ck_d hck
  have hlk := hx_ck_l hck
  obtain ⟨ins, a, bb, v, tg⟩ := ce
  unfold hx_step at h
  unfold hx_lk at hlk
  dsimp only at hd hlk h
  cases ins with
  | iload i => exact hx_s_ild (fun hl kk => lv_iload hx hb hd hl kk) h K
  | iload_n i => exact hx_s_ild (fun hl kk => lv_iload_n hx hb hd rfl hl kk) h K
  | lload i => exact hx_s_lld (fun hl kk => lv_lload hx hb hd hl kk) h K
  | lload_n i => exact hx_s_lld (fun hl kk => lv_lload_n hx hb hd rfl hl kk) h K
  | fload i => exact hx_s_fld (fun hl kk => lv_fload hx hb hd hl kk) h K
  | fload_n i => exact hx_s_fld (fun hl kk => lv_fload_n hx hb hd rfl hl kk) h K
  | dload i => exact hx_s_dld (fun hl kk => lv_dload hx hb hd hl kk) h K
  | dload_n i => exact hx_s_dld (fun hl kk => lv_dload_n hx hb hd rfl hl kk) h K
  | aload i => exact hx_s_ald (fun hl kk => lv_aload hx hb hd hl kk) h K
  | aload_n i => exact hx_s_ald (fun hl kk => lv_aload_n hx hb hd rfl hl kk) h K
  | istore i => exact hx_s_ist (fun h1 h2 kk => lv_istore hx hb hd h1 h2 rfl kk) h K
  | istore_n i => exact hx_s_ist (fun h1 h2 kk => lv_istore_n hx hb hd rfl h1 h2 rfl kk) h K
  | lstore i => exact hx_s_lst (fun h1 h2 kk => lv_lstore hx hb hd h1 h2 rfl kk) h K
  | lstore_n i => exact hx_s_lst (fun h1 h2 kk => lv_lstore_n hx hb hd rfl h1 h2 rfl kk) h K
  | fstore i => exact hx_s_fst (fun h1 h2 kk => lv_fstore hx hb hd h1 h2 rfl kk) h K
  | fstore_n i => exact hx_s_fst (fun h1 h2 kk => lv_fstore_n hx hb hd rfl h1 h2 rfl kk) h K
  | dstore i => exact hx_s_dst (fun h1 h2 kk => lv_dstore hx hb hd h1 h2 rfl kk) h K
  | dstore_n i => exact hx_s_dst (fun h1 h2 kk => lv_dstore_n hx hb hd rfl h1 h2 rfl kk) h K
  | astore i => exact hx_s_ast (fun h1 h2 kk => lv_astore hx hb hd h1 h2 rfl kk) h K
  | astore_n i => exact hx_s_ast (fun h1 h2 kk => lv_astore_n hx hb hd rfl h1 h2 rfl kk) h K
  | iconst n =>
    have e1 := of_decide_eq_true hlk
    subst e1
    exact hx_s_push (fun _ => rfl) (fun kk => lv_iconst hx hb hd rfl kk) h K
  | bipush n =>
    have e1 := of_decide_eq_true hlk
    subst e1
    exact hx_s_push (fun _ => rfl) (fun kk => lv_bipush hx hb hd rfl kk) h K
  | sipush n =>
    have e1 := of_decide_eq_true hlk
    subst e1
    exact hx_s_push (fun _ => rfl) (fun kk => lv_sipush hx hb hd rfl kk) h K
  | lconst n =>
    have e1 := of_decide_eq_true hlk
    subst e1
    exact hx_s_push (fun _ => rfl) (fun kk => lv_lconst hx hb hd rfl kk) h K
  | fconst n =>
    match n, hlk, hd with
    | 0, hlk, hd => have e1 := of_decide_eq_true hlk; subst e1; exact hx_s_push (fun _ => rfl) (fun kk => lv_fconst0 hx hb hd kk) h K
    | 1, hlk, hd => have e1 := of_decide_eq_true hlk; subst e1; exact hx_s_push (fun _ => rfl) (fun kk => lv_fconst1 hx hb hd kk) h K
    | 2, hlk, hd => have e1 := of_decide_eq_true hlk; subst e1; exact hx_s_push (fun _ => rfl) (fun kk => lv_fconst2 hx hb hd kk) h K
  | dconst n =>
    match n, hlk, hd with
    | 0, hlk, hd => have e1 := of_decide_eq_true hlk; subst e1; exact hx_s_push (fun _ => rfl) (fun kk => lv_dconst0 hx hb hd kk) h K
    | 1, hlk, hd => have e1 := of_decide_eq_true hlk; subst e1; exact hx_s_push (fun _ => rfl) (fun kk => lv_dconst1 hx hb hd kk) h K
  | ldc i =>
    rw [Bool.and_eq_true] at hlk
    rcases hx_KL_at hlk.1 with ⟨x, rfl, hw⟩ | ⟨x, rfl, hw⟩ | ⟨x, rfl, hw⟩ | ⟨x, rfl, hw⟩
    · exact hx_s_push (fun _ => rfl) (fun kk => lv_ldc hx hb hown (hts _ hw) hd kk) h K
    · exact absurd hlk.2 (fun z => by cases z)
    · exact hx_s_push (fun _ => rfl) (fun kk => lv_ldcf hx hb hown (hts _ hw) hd kk) h K
    · exact absurd hlk.2 (fun z => by cases z)
  | ldc_w i =>
    rw [Bool.and_eq_true] at hlk
    rcases hx_KL_at hlk.1 with ⟨x, rfl, hw⟩ | ⟨x, rfl, hw⟩ | ⟨x, rfl, hw⟩ | ⟨x, rfl, hw⟩
    · exact hx_s_push (fun _ => rfl) (fun kk => lv_ldcw hx hb hown (hts _ hw) hd kk) h K
    · exact absurd hlk.2 (fun z => by cases z)
    · exact hx_s_push (fun _ => rfl) (fun kk => lv_ldcwf hx hb hown (hts _ hw) hd kk) h K
    · exact absurd hlk.2 (fun z => by cases z)
  | ldc2_w i =>
    rw [Bool.and_eq_true] at hlk
    rcases hx_KL_at hlk.1 with ⟨x, rfl, hw⟩ | ⟨x, rfl, hw⟩ | ⟨x, rfl, hw⟩ | ⟨x, rfl, hw⟩
    · exact absurd hlk.2 (fun z => by cases z)
    · exact hx_s_push (fun _ => rfl) (fun kk => lv_ldc2 hx hb hown (hts _ hw) hd kk) h K
    · exact absurd hlk.2 (fun z => by cases z)
    · exact hx_s_push (fun _ => rfl) (fun kk => lv_ldc2d hx hb hown (hts _ hw) hd kk) h K
  | iadd => exact hx_s_ii (fun kk => lv_iadd hx hb hd kk) h K
  | isub => exact hx_s_ii (fun kk => lv_isub hx hb hd kk) h K
  | imul => exact hx_s_ii (fun kk => lv_imul hx hb hd kk) h K
  | iand => exact hx_s_ii (fun kk => lv_iand hx hb hd kk) h K
  | ior => exact hx_s_ii (fun kk => lv_ior hx hb hd kk) h K
  | ixor => exact hx_s_ii (fun kk => lv_ixor hx hb hd kk) h K
  | ishl => exact hx_s_ii (fun kk => lv_ishl hx hb hd kk) h K
  | ishr => exact hx_s_ii (fun kk => lv_ishr hx hb hd kk) h K
  | idiv => exact hx_s_id (fun hy kk => lv_idiv hx hb hd hy kk) h K
  | irem => exact hx_s_id (fun hy kk => lv_irem hx hb hd hy kk) h K
  | ineg => exact hx_s_i1 (fun _ _ => rfl) (fun kk => lv_ineg hx hb hd kk) h K
  | i2l => exact hx_s_i1 (fun _ _ => rfl) (fun kk => lv_i2l hx hb hd rfl kk) h K
  | i2c => exact hx_s_i1 (fun _ _ => rfl) (fun kk => lv_i2c hx hb hd rfl kk) h K
  | i2f => exact hx_s_i1 (fun _ _ => rfl) (fun kk => lv_i2f hx hb hd kk) h K
  | i2d => exact hx_s_i1 (fun _ _ => rfl) (fun kk => lv_i2d hx hb hd kk) h K
  | ladd => exact hx_s_ll (fun _ _ _ => rfl) (fun kk => lv_ladd hx hb hd kk) h K
  | lsub => exact hx_s_ll (fun _ _ _ => rfl) (fun kk => lv_lsub hx hb hd kk) h K
  | lmul => exact hx_s_ll (fun _ _ _ => rfl) (fun kk => lv_lmul hx hb hd kk) h K
  | lor => exact hx_s_ll (fun _ _ _ => rfl) (fun kk => lv_lor hx hb hd kk) h K
  | lshl => exact hx_s_li (fun kk => lv_lshl hx hb hd rfl kk) h K
  | lcmp => exact hx_s_ll (fun _ _ _ => rfl) (fun kk => W.lcmp hx hb hd kk) h K
  | fdiv => exact hx_s_ff (fun hn kk => lv_fdiv hx hb hd hn kk) h K
  | fmul => exact hx_s_ff (fun hn kk => lv_fmul hx hb hd hn kk) h K
  | fsub => exact hx_s_ff (fun hn kk => lv_fsub hx hb hd hn kk) h K
  | ddiv => exact hx_s_dd (fun hn kk => lv_ddiv hx hb hd hn kk) h K
  | dmul => exact hx_s_dd (fun hn kk => lv_dmul hx hb hd hn kk) h K
  | dsub => exact hx_s_dd (fun hn kk => lv_dsub hx hb hd hn kk) h K
  | fneg => exact hx_s_fu (fun _ _ => rfl) (fun kk => lv_fneg hx hb hd kk) h K
  | f2i => exact hx_s_fu (fun _ _ => rfl) (fun kk => lv_f2i hx hb hd kk) h K
  | f2d => exact hx_s_f2d (fun hn kk => lv_f2d hx hb hd hn kk) h K
  | d2l => exact hx_s_d2l (fun kk => lv_d2l hx hb hd kk) h K
  | fcmp op => exact hx_s_fcmp (fun kk => lv_fcmp hx hb hd kk) h K
  | dcmp op => exact hx_s_dcmp (fun kk => lv_dcmp hx hb hd kk) h K
  | ifCond cnd o => exact hx_s_if hx hb hd (of_decide_eq_true hlk) h K
  | if_icmp cnd o => exact hx_s_icmp hx hb hd (of_decide_eq_true hlk) h K
  | goto o => exact hx_s_goto (fun kk => lv_goto hx hb hd (of_decide_eq_true hlk) kk) h K
  | tableswitch df lo hi os =>
    rw [Bool.and_eq_true, decide_eq_true_eq, decide_eq_true_eq] at hlk
    exact hx_s_sw hx hb hd hlk.1 hlk.2 h K
  | iinc i n => exact hx_s_inc (fun h1 h2 h3 kk => lv_iinc hx hb hd h1 h2 rfl h3 rfl kk) h K
  | getfield i => exact hx_s_get hx hb hown hts hK hd hlk h K
  | putfield i =>
    rw [Bool.and_eq_true] at hlk
    exact hx_s_put hx hb hown hts hK hini hd hlk.1 hlk.2 h K
  | iaload => exact hx_s_arl (ty := .int) hx hb hK hX hbl hbA hd h K
  | baload => exact hx_s_arl (ty := .boolean) hx hb hK hX hbl hbA hd h K
  | caload => exact hx_s_arl (ty := .char) hx hb hK hX hbl hbA hd h K
  | laload => exact hx_s_arl (ty := .long) hx hb hK hX hbl hbA hd h K
  | aaload => exact hx_s_arl (ty := .object RX3) hx hb hK hX hbl hbA hd h K
  | iastore => exact hx_s_ars (ty := .int) hx hb hK hd h K
  | bastore => exact hx_s_ars (ty := .boolean) hx hb hK hd h K
  | castore => exact hx_s_ars (ty := .char) hx hb hK hd h K
  | lastore => exact hx_s_ars (ty := .long) hx hb hK hd h K
  | aastore => exact hx_s_ars (ty := .object "") hx hb hK hd h K
  | arraylength => exact hx_s_len hx hb hX hbl hbA hd h K
  | dup => exact hx_s_dup (fun h1 kk => lv_dup hx hb hd h1 kk) h K
  | dup2 => exact hx_s_dup2 (fun h1 h2 kk => lv_dup2_11 hx hb hd h1 h2 kk) h K
  | pop => exact hx_s_pop (fun h1 kk => lv_pop hx hb hd h1 kk) h K
  | new i =>
    match tg, hlk, h with
    | [], hlk, h => exact hx_s_newo hx hb hown hts hK hA hRc hlk hd h K
    | _ :: _, hlk, h => unfold hx_thr at h; dsimp only at h; split at h <;> cases h
  | newarray t => exact hx_s_newa hx hb hts hK hA hRc (of_decide_eq_true hlk) hd h K
  | anewarray i => exact hx_s_newq hx hb hown hts hK hAO hA hRc hlk hd h K
  | invokevirtual i =>
    match tg, h with
    | [ci], h => exact (hx_callV_no h).elim
    | [], h => cases h
    | _ :: _ :: _, h => cases h
  | invokestatic i =>
    match tg, hlk, h with
    | [], hlk, h => exact (hx_call_no h).elim
    | [1], hlk, h => exact hx_s_abs hx hb hml hown hts hR2 hRc hlk hd h K
    | [2], hlk, h => exact hx_s_min hx hb hml hown hts hR2 hRc hlk hd h K
    | [3], hlk, h => exact hx_s_copy hx hb hml hown hts hK hR2 hlk hd h K
    | [0], hlk, h => cases h
    | [z + 4], hlk, h => cases h
    | _ :: _ :: _, hlk, h => cases hlk
  | invokespecial i =>
    match tg, hlk, h with
    | [ci], hlk, h => exact (hx_callV_no h).elim
    | [], hlk, h => cases hlk
    | [_, _], hlk, h => exact hx_s_obj hx hb hml hown hts hR2 hlk hd h K
    | _ :: _ :: _ :: _, hlk, h => cases hlk
  | ireturn =>
    unfold hx_iret at h
    dsimp only at h
    split at h
    · split at h
      · cases h
      · split at h <;> cases h
      · cases h
    · cases h
  | lreturn =>
    dsimp only at h
    split at h
    · split at h
      · cases h
      · cases h
    · cases h
  | freturn =>
    dsimp only at h
    split at h
    · split at h
      · cases h
      · cases h
    · cases h
  | dreturn =>
    dsimp only at h
    split at h
    · split at h
      · cases h
      · cases h
    · cases h
  | areturn =>
    dsimp only at h
    split at h
    · split at h
      · cases h
      · cases h
    · cases h
  | return_ =>
    dsimp only at h
    split at h
    · split at h
      · cases h
      · cases h
    · cases h
  | _ => cases h
end HXS
