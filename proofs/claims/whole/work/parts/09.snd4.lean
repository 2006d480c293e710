/-! ===== soundness, 5: arrays, what is made, natives ===== -/
theorem hx_K1 {dC : Nat → ClassId} {dI : Nat → Nat → Nat} {s : State} {cA : ClassId} {ty : FieldType} (hK : va_K (dC, dI) vwCl [] s) (h : ArrOfT s cA ty ∧ va_RA s cA ty) : va_K (dC, dI) vwCl [(cA, ty)] s := by
  refine ⟨hK.1, fun k q hk => ?_⟩
  cases k with
  | zero => cases hk; exact h
  | succ k => cases hk
theorem hx_inb_ok {i : Int32} {n : Nat} (h : hx_inb i n = true) : vp_in i n := by
  unfold hx_inb at h
  show ¬ (i < 0 ∨ n ≤ i.toNatClampNeg)
  exact of_decide_eq_true h
section HXS
variable {p : Program} {l : Launch} {e : Env} {R : Room} {s : State} {m : MethodId} {args : Array Value} {below : List Frame} {meth : Method} {c : Code} {Q : State → Prop}
variable {dC : Nat → ClassId} {dI : Nat → Nat → Nat} {A : Nat → Prop} {b : Nat} {G : Nat × (Nat → Nat)} {sc : Nat × (Nat → Int32)} {d k : Nat}
variable {pc : Nat} {ls : List (Option Value)} {st : List Value} {Hs : hx_HS} {u : Nat} {fs : hx_FS}
def hx_ldi (ty : FieldType) : Instr := match ty with
  | .int => .iaload
  | .boolean => .baload
  | .char => .caload
  | .long => .laload
  | _ => .aaload
theorem hx_s_arl {ty : FieldType} (hx : p.tables.exec = Jvm.exec) (hb : c.code = hx_by k) (hK : va_K (dC, dI) vwCl [] s) (hX : va_X b sc.1 sc.2 s s.heap) (hbl : b < s.heap.size) (hbA : ¬ A b) (hd : decode (hx_by k) pc = .ok (hx_ldi ty, 1))
    (h : hx_arl ty sc pc ls st Hs u = some (.inl fs)) (K : hx_Wt p l e R s m args below meth c Q dC dI A b G k fs) : hx_Wt p l e R s m args below meth c Q dC dI A b G k (pc, ls, st, Hs, u) := by
  unfold hx_arl at h
  split at h
  · rename_i i a r
    split at h
    · rename_i t n cs hcell
      split at h
      · rename_i hc
        obtain ⟨rfl, hin⟩ := hc
        have hin := hx_inb_ok hin
        have he := fun (ad : Nat → Nat) (ac : Nat → ClassId) => hx_ws_at (ad := ad) (ac := ac) (b := b) hcell
        split at h
        · have e1 := hx_k_inj h
          subst e1
          intro H locs ad ac lc hI hL
          exact va_iald hx hb (hx_K1 hK (hI.2.2.2.1 a _ hcell)) hI.1 a 0 (he ad ac) rfl hin hd (K H locs ad ac lc hI hL)
        · have e1 := hx_k_inj h
          subst e1
          intro H locs ad ac lc hI hL
          exact va_zald hx hb (hx_K1 hK (hI.2.2.2.1 a _ hcell)) hI.1 a 0 (he ad ac) rfl hin hd (K H locs ad ac lc hI hL)
        · have e1 := hx_k_inj h
          subst e1
          intro H locs ad ac lc hI hL
          exact va_cald hx hb (hx_K1 hK (hI.2.2.2.1 a _ hcell)) hI.1 a 0 (he ad ac) rfl hin hd (K H locs ad ac lc hI hL)
        · have e1 := hx_k_inj h
          subst e1
          intro H locs ad ac lc hI hL
          exact va_lald hx hb (hx_K1 hK (hI.2.2.2.1 a _ hcell)) hI.1 a 0 (he ad ac) rfl hin hd (K H locs ad ac lc hI hL)
        · split at h
          · rename_i q hq
            have e1 := hx_k_inj h
            subst e1
            intro H locs ad ac lc hI hL
            refine va_aldq hx hb (hx_K1 hK (hI.2.2.2.1 a _ hcell)) hI.1 a 0 (he ad ac) rfl hin hd ?_
            dsimp only
            rw [hq]
            exact K H locs ad ac lc hI hL
          · cases h
        · cases h
      · cases h
    · cases h
  · rename_i i z r
    split at h
    · rename_i hc
      obtain ⟨rfl, hin⟩ := hc
      have e1 := hx_k_inj h
      subst e1
      intro H locs ad ac lc hI hL
      exact va_sld hx hb hX hbl hbA hI.2.2.1 (hx_inb_ok hin) hd (K H locs ad ac lc hI hL)
    · cases h
  · cases h
def hx_sti (ty : FieldType) : Instr := match ty with
  | .int => .iastore
  | .boolean => .bastore
  | .char => .castore
  | .long => .lastore
  | _ => .aastore
theorem hx_s_ars {ty : FieldType} (hx : p.tables.exec = Jvm.exec) (hb : c.code = hx_by k) (hK : va_K (dC, dI) vwCl [] s) (hd : decode (hx_by k) pc = .ok (hx_sti ty, 1))
    (h : hx_ars ty pc ls st Hs u = some (.inl fs)) (K : hx_Wt p l e R s m args below meth c Q dC dI A b G k fs) : hx_Wt p l e R s m args below meth c Q dC dI A b G k (pc, ls, st, Hs, u) := by
  unfold hx_ars at h
  split at h
  · rename_i x i a r
    split at h
    · rename_i t n cs hcell
      split at h
      · rename_i hc
        obtain ⟨rfl, hin⟩ := hc
        have hin := hx_inb_ok hin
        have he := fun (ad : Nat → Nat) (ac : Nat → ClassId) => hx_ws_at (ad := ad) (ac := ac) (b := b) hcell
        split at h
        · have e1 := hx_k_inj h
          subst e1
          intro H locs ad ac lc hI hL
          refine va_iast hx hb (hx_K1 hK (hI.2.2.2.1 a _ hcell)) hI.1 hI.2.1 hI.2.2.1 a 0 (he ad ac) rfl hin hd (fun H1 locs1 hP hD hS => ?_)
          have e2 : hx_ws ad ac b (Hs.1, hx_up Hs.2.1 a i.toNatClampNeg x, Hs.2.2) = (hx_ws ad ac b Hs).set a (ad a, .inl (ac a, n, .inl (upd (Hs.2.1 a) i.toNatClampNeg x))) := by
            rw [hx_ws_set (Hs := Hs) (H2 := (Hs.1, hx_up Hs.2.1 a i.toNatClampNeg x, Hs.2.2)) (k := a) (e := .inr (.int, n, cs)) hcell rfl (fun z hz => ⟨rfl, hx_up_ne hz, rfl⟩)]
            show List.set _ a (ad a, Sum.inl (ac a, n, Sum.inl (hx_up Hs.2.1 a i.toNatClampNeg x a))) = _
            rw [hx_up_eq]
            rfl
          exact K H1 locs1 ad ac lc ⟨by rw [e2]; exact hP, by rw [e2]; exact hD, hS, hx_T_same hI.2.2.2.1 rfl, hx_G_same hI.2.2.2.2 rfl⟩ hL
        · have e1 := hx_k_inj h
          subst e1
          intro H locs ad ac lc hI hL
          refine va_zast hx hb (hx_K1 hK (hI.2.2.2.1 a _ hcell)) hI.1 hI.2.1 hI.2.2.1 a 0 (he ad ac) rfl hin hd (fun H1 locs1 hP hD hS => ?_)
          have e2 : hx_ws ad ac b (Hs.1, hx_up Hs.2.1 a i.toNatClampNeg (vp_nar .boolean x), Hs.2.2) = (hx_ws ad ac b Hs).set a (ad a, .inl (ac a, n, .inl (upd (Hs.2.1 a) i.toNatClampNeg (vp_nar .boolean x)))) := by
            rw [hx_ws_set (Hs := Hs) (H2 := (Hs.1, hx_up Hs.2.1 a i.toNatClampNeg (vp_nar .boolean x), Hs.2.2)) (k := a) (e := .inr (.boolean, n, cs)) hcell rfl (fun z hz => ⟨rfl, hx_up_ne hz, rfl⟩)]
            show List.set _ a (ad a, Sum.inl (ac a, n, Sum.inl (hx_up Hs.2.1 a i.toNatClampNeg (vp_nar .boolean x) a))) = _
            rw [hx_up_eq]
            rfl
          exact K H1 locs1 ad ac lc ⟨by rw [e2]; exact hP, by rw [e2]; exact hD, hS, hx_T_same hI.2.2.2.1 rfl, hx_G_same hI.2.2.2.2 rfl⟩ hL
        · have e1 := hx_k_inj h
          subst e1
          intro H locs ad ac lc hI hL
          refine va_cast hx hb (hx_K1 hK (hI.2.2.2.1 a _ hcell)) hI.1 hI.2.1 hI.2.2.1 a 0 (he ad ac) rfl hin hd (fun H1 locs1 hP hD hS => ?_)
          have e2 : hx_ws ad ac b (Hs.1, hx_up Hs.2.1 a i.toNatClampNeg (vp_nar .char x), Hs.2.2) = (hx_ws ad ac b Hs).set a (ad a, .inl (ac a, n, .inl (upd (Hs.2.1 a) i.toNatClampNeg (vp_nar .char x)))) := by
            rw [hx_ws_set (Hs := Hs) (H2 := (Hs.1, hx_up Hs.2.1 a i.toNatClampNeg (vp_nar .char x), Hs.2.2)) (k := a) (e := .inr (.char, n, cs)) hcell rfl (fun z hz => ⟨rfl, hx_up_ne hz, rfl⟩)]
            show List.set _ a (ad a, Sum.inl (ac a, n, Sum.inl (hx_up Hs.2.1 a i.toNatClampNeg (vp_nar .char x) a))) = _
            rw [hx_up_eq]
            rfl
          exact K H1 locs1 ad ac lc ⟨by rw [e2]; exact hP, by rw [e2]; exact hD, hS, hx_T_same hI.2.2.2.1 rfl, hx_G_same hI.2.2.2.2 rfl⟩ hL
        · cases h
      · cases h
    · cases h
  · rename_i x i a r
    split at h
    · rename_i t n cs hcell
      split at h
      · rename_i hc
        obtain ⟨rfl, rfl, hin⟩ := hc
        have hin := hx_inb_ok hin
        have he := fun (ad : Nat → Nat) (ac : Nat → ClassId) => hx_ws_at (ad := ad) (ac := ac) (b := b) hcell
        have e1 := hx_k_inj h
        subst e1
        intro H locs ad ac lc hI hL
        refine va_last hx hb (hx_K1 hK (hI.2.2.2.1 a _ hcell)) hI.1 hI.2.1 hI.2.2.1 a 0 (he ad ac) rfl hin hd (fun H1 locs1 hP hD hS => ?_)
        have e2 : hx_ws ad ac b (Hs.1, Hs.2.1, hx_up Hs.2.2 a i.toNatClampNeg x) = (hx_ws ad ac b Hs).set a (ad a, .inl (ac a, n, .inr (.inl (vp_updL (Hs.2.2 a) i.toNatClampNeg x)))) := by
          rw [hx_ws_set (Hs := Hs) (H2 := (Hs.1, Hs.2.1, hx_up Hs.2.2 a i.toNatClampNeg x)) (k := a) (e := .inr (.long, n, cs)) hcell rfl (fun z hz => ⟨rfl, rfl, hx_up_ne hz⟩)]
          show List.set _ a (ad a, Sum.inl (ac a, n, Sum.inr (Sum.inl (hx_up Hs.2.2 a i.toNatClampNeg x a)))) = _
          rw [hx_up_eq]
          rfl
        exact K H1 locs1 ad ac lc ⟨by rw [e2]; exact hP, by rw [e2]; exact hD, hS, hx_T_same hI.2.2.2.1 rfl, hx_G_same hI.2.2.2.2 rfl⟩ hL
      · cases h
    · cases h
  · rename_i q i a r
    split at h
    · rename_i t n cs ci ks hcell hq
      cases hcl : hx_nth vwCl ci with
      | none =>
        simp only [hcl] at h
        split at h
        · rename_i hc
          exact absurd hc.2.2.2 (by simp)
        · cases h
      | some cl =>
        simp only [hcl] at h
        split at h
        · rename_i hc
          obtain ⟨hin, hlen, rfl, hty⟩ := hc
          have hin := hx_inb_ok hin
          have ht := decide_eq_true_eq.mp hty
          subst ht
          have he := fun (ad : Nat → Nat) (ac : Nat → ClassId) => hx_ws_at (ad := ad) (ac := ac) (b := b) hcell
          have hv := fun (ad : Nat → Nat) (ac : Nat → ClassId) => hx_ws_at (ad := ad) (ac := ac) (b := b) hq
          have hlk : a < Hs.1.length := hx_lt_nth hcell
          have hlt : i.toNatClampNeg < n := Nat.not_le.mp fun z => hin (Or.inr z)
          have e1 := hx_k_inj h
          subst e1
          intro H locs ad ac lc hI hL
          refine va_astq hx hb (hx_K1 hK (hI.2.2.2.1 a _ hcell)) hI.1 hI.2.1 hI.2.2.1 a 0 q ci (r := cl) (he ad ac) rfl (hv ad ac) (by rw [← hx_nth_eq]; exact hcl) hin hd (fun H1 locs1 hP hD hS => ?_)
          have e2 : hx_ws ad ac b (Hs.1.set a (.inr (.object cl.1, n, cs.set i.toNatClampNeg (some q))), Hs.2) = (hx_ws ad ac b Hs).set a (ad a, .inl (ac a, n, .inr (.inr (.inr (.inr (va_up (fun i => match hx_nth cs i with
              | some (some q) => some (ad q)
              | _ => none) i.toNatClampNeg (some (ad q)))))))) := by
            rw [hx_ws_set (Hs := Hs) (H2 := (Hs.1.set a (.inr (.object cl.1, n, cs.set i.toNatClampNeg (some q))), Hs.2)) (k := a) (e := .inr (.object cl.1, n, cs.set i.toNatClampNeg (some q))) (hx_nth_set_self hlk) (List.length_set) (fun z hz => ⟨hx_nth_set_ne hz, rfl, rfl⟩)]
            show List.set _ a (ad a, Sum.inl (ac a, n, Sum.inr (Sum.inr (Sum.inr (Sum.inr _))))) = _
            congr 9
            funext z
            unfold va_up
            by_cases hz : z = i.toNatClampNeg
            · subst hz
              rw [if_pos rfl, hx_nth_set_self (by rw [hlen]; exact hlt)]
            · rw [if_neg hz, hx_nth_set_ne hz]
              rfl
          refine K H1 locs1 ad ac lc ⟨by rw [e2]; exact hP, by rw [e2]; exact hD, hS, fun k9 o hk9 => ?_, hx_G_same hI.2.2.2.2 (List.length_set)⟩ hL
          by_cases hz : k9 = a
          · subst hz
            have := hx_nth_set_eq hk9
            cases this
            have h5 := hI.2.2.2.1 _ _ hcell
            exact h5
          · exact hI.2.2.2.1 k9 o (by rw [hx_nth_set_ne hz] at hk9; exact hk9)
        · cases h
    · cases h
  · cases h
theorem hx_s_len (hx : p.tables.exec = Jvm.exec) (hb : c.code = hx_by k) (hX : va_X b sc.1 sc.2 s s.heap) (hbl : b < s.heap.size) (hbA : ¬ A b) (hd : decode (hx_by k) pc = .ok (.arraylength, 1))
    (h : hx_len sc pc ls st Hs u = some (.inl fs)) (K : hx_Wt p l e R s m args below meth c Q dC dI A b G k fs) : hx_Wt p l e R s m args below meth c Q dC dI A b G k (pc, ls, st, Hs, u) := by
  unfold hx_len at h
  split at h
  · have e1 := hx_k_inj h
    subst e1
    intro H locs ad ac lc hI hL
    exact va_slen hx hb hX hbl hbA hI.2.2.1 hd (K H locs ad ac lc hI hL)
  · cases h
theorem hx_s_copy {i : Nat} (hx : p.tables.exec = Jvm.exec) (hb : c.code = hx_by k) (hml : c.maxLocals = hx_ml k) (hown : s.vm.findClass (hx_R (hx_own k)) = some m.cls) (hts : ∀ w ∈ hx_LW, w.before args s = true) (hK : va_K (dC, dI) vwCl [] s) (hR : 20 ≤ R.frames ∧ 200 ≤ R.locals) (hl : hx_has hx_SL (hx_own k, i, 3) = true) (hd : decode (hx_by k) pc = .ok (.invokestatic i, 3))
    (h : hx_copy pc ls st Hs u = some (.inl fs)) (K : hx_Wt p l e R s m args below meth c Q dC dI A b G k fs) : hx_Wt p l e R s m args below meth c Q dC dI A b G k (pc, ls, st, Hs, u) := by
  obtain ⟨z9, hz9⟩ := hx_has_in hl
  have hw := hx_wi_in (hx_SL_ok _ hz9)
  have hw2 := hx_w_copy
  unfold hx_copy at h
  split at h
  · rename_i n dp b9 sp a r
    split at h
    · rename_i t1 n1 cs1 t2 n2 cs2 hc1 hc2
      split at h
      · rename_i hc
        obtain ⟨rfl, rfl, h1, h2, h3, h4, h5, h6⟩ := hc
        have e1 := hx_k_inj h
        subst e1
        intro H locs ad ac lc hI hL
        have he1 := hx_ws_at (ad := ad) (ac := ac) (b := b) hc1
        have he2 := hx_ws_at (ad := ad) (ac := ac) (b := b) hc2
        have hK2 : va_K (dC, dI) vwCl [(ac a, .int), (ac b9, .int)] s := (hx_K1 hK (hI.2.2.2.1 a _ hc1)).app (hx_K1 hK (hI.2.2.2.1 b9 _ hc2))
        refine va_copyi (ty := .int) hx hb (hml.trans hL.1.symm) hown (hts _ hw) (hts _ (hx_wd_in hw2.1)) (hts _ (hx_wd_in hw2.2.1)) (hts _ (hx_wd_in hw2.2.2)) hK2 hI.1 hI.2.1 hI.2.2.1 a b9 0 1 he1 he2 rfl rfl rfl h1 h2 h3 h4 h5 (fun _ _ => rfl) (by omega) ?_ hd (fun H1 locs1 hP hD hS => ?_)
        · rw [hx_cat_map]
          have : nativeFrameWords "java/lang/System" "arraycopy" 5 = 7 := by decide
          omega
        · have e2 : hx_ws ad ac b (Hs.1, hx_row Hs.2.1 b9 (va_cpy (Hs.2.1 a) (Hs.2.1 b9) sp.toNatClampNeg dp.toNatClampNeg n.toNatClampNeg), Hs.2.2) = (hx_ws ad ac b Hs).set b9 (ad b9, .inl (ac b9, n2, .inl (va_cpy (Hs.2.1 a) (Hs.2.1 b9) sp.toNatClampNeg dp.toNatClampNeg n.toNatClampNeg))) := by
            rw [hx_ws_set (Hs := Hs) (H2 := (Hs.1, hx_row Hs.2.1 b9 (va_cpy (Hs.2.1 a) (Hs.2.1 b9) sp.toNatClampNeg dp.toNatClampNeg n.toNatClampNeg), Hs.2.2)) (k := b9) (e := .inr (.int, n2, cs2)) hc2 rfl (fun z hz => ⟨rfl, hx_row_ne hz, rfl⟩)]
            show List.set _ b9 (ad b9, Sum.inl (ac b9, n2, Sum.inl (hx_row Hs.2.1 b9 _ b9))) = _
            rw [hx_row_eq]
          exact K H1 locs1 ad ac lc ⟨by rw [e2]; exact hP, by rw [e2]; exact hD, hS, hx_T_same hI.2.2.2.1 rfl, hx_G_same hI.2.2.2.2 rfl⟩ hL
      · cases h
    · cases h
  · cases h
theorem hx_s_abs {i : Nat} (hx : p.tables.exec = Jvm.exec) (hb : c.code = hx_by k) (hml : c.maxLocals = hx_ml k) (hown : s.vm.findClass (hx_R (hx_own k)) = some m.cls) (hts : ∀ w ∈ hx_LW, w.before args s = true) (hR : 20 ≤ R.frames ∧ 200 ≤ R.locals) (hRc : hx_bud k ≤ R.cells ∧ 1000 * hx_bud k ≤ R.slots) (hl : hx_has hx_SL (hx_own k, i, 1) = true) (hd : decode (hx_by k) pc = .ok (.invokestatic i, 3))
    (h : hx_abs (hx_bud k) pc ls st Hs u = some (.inl fs)) (K : hx_Wt p l e R s m args below meth c Q dC dI A b G k fs) : hx_Wt p l e R s m args below meth c Q dC dI A b G k (pc, ls, st, Hs, u) := by
  obtain ⟨z9, hz9⟩ := hx_has_in hl
  have hw := hx_wi_in (hx_SL_ok _ hz9)
  have hw2 := hx_w_abs
  unfold hx_abs at h
  split at h
  · rename_i x r
    split at h
    · rename_i hc
      have e1 := hx_k_inj h
      subst e1
      intro H locs ad ac lc hI hL
      refine va_mabs hx hb (hml.trans hL.1.symm) hown (hts _ hw) (hts _ (hx_wd_in hw2.1)) (hts _ (hx_wd_in hw2.2.1)) (hts _ (hx_wd_in hw2.2.2)) (by omega) ?_ (by show u ≤ _; omega) (by show 1000 * u ≤ _; omega) hd (K H locs ad ac lc hI hL)
      rw [hx_cat_map]
      omega
    · cases h
  · cases h
theorem hx_s_min {i : Nat} (hx : p.tables.exec = Jvm.exec) (hb : c.code = hx_by k) (hml : c.maxLocals = hx_ml k) (hown : s.vm.findClass (hx_R (hx_own k)) = some m.cls) (hts : ∀ w ∈ hx_LW, w.before args s = true) (hR : 20 ≤ R.frames ∧ 200 ≤ R.locals) (hRc : hx_bud k ≤ R.cells ∧ 1000 * hx_bud k ≤ R.slots) (hl : hx_has hx_SL (hx_own k, i, 2) = true) (hd : decode (hx_by k) pc = .ok (.invokestatic i, 3))
    (h : hx_min (hx_bud k) pc ls st Hs u = some (.inl fs)) (K : hx_Wt p l e R s m args below meth c Q dC dI A b G k fs) : hx_Wt p l e R s m args below meth c Q dC dI A b G k (pc, ls, st, Hs, u) := by
  obtain ⟨z9, hz9⟩ := hx_has_in hl
  have hw := hx_wi_in (hx_SL_ok _ hz9)
  have hw2 := hx_w_min
  unfold hx_min at h
  split at h
  · rename_i y x r
    split at h
    · rename_i hc
      have e1 := hx_k_inj h
      subst e1
      intro H locs ad ac lc hI hL
      refine va_mmin hx hb (hml.trans hL.1.symm) hown (hts _ hw) (hts _ (hx_wd_in hw2.1)) (hts _ (hx_wd_in hx_w_abs.2.1)) (hts _ (hx_wd_in hw2.2)) (by omega) ?_ (by show u ≤ _; omega) (by show 1000 * u ≤ _; omega) hd (K H locs ad ac lc hI hL)
      rw [hx_cat_map]
      omega
    · cases h
  · cases h
theorem hx_s_obj {i : Nat} (hx : p.tables.exec = Jvm.exec) (hb : c.code = hx_by k) (hml : c.maxLocals = hx_ml k) (hown : s.vm.findClass (hx_R (hx_own k)) = some m.cls) (hts : ∀ w ∈ hx_LW, w.before args s = true) (hR : 20 ≤ R.frames ∧ 200 ≤ R.locals) (hl : hx_has hx_SL (hx_own k, i, 0) = true) (hd : decode (hx_by k) pc = .ok (.invokespecial i, 3))
    (h : hx_objI pc ls st Hs u = some (.inl fs)) (K : hx_Wt p l e R s m args below meth c Q dC dI A b G k fs) : hx_Wt p l e R s m args below meth c Q dC dI A b G k (pc, ls, st, Hs, u) := by
  obtain ⟨z9, hz9⟩ := hx_has_in hl
  have hw := hx_wi_in (hx_SL_ok _ hz9)
  have hw2 := hx_w_obj
  unfold hx_objI at h
  split at h
  · rename_i a r
    split at h
    · rename_i hc
      have e1 := hx_k_inj h
      subst e1
      intro H locs ad ac lc hI hL
      refine W.objInit hx hb hown (hts _ hw) (hts _ (hx_wd_in hw2.1)) (hts _ (hx_wd_in hw2.2)) rfl (show lc.size = _ by rw [hL.1]; exact hml.symm) rfl hd (by omega) ?_ (K H locs ad ac lc hI hL)
      show 2 * 0 + ((r.map (hx_cv ad b)).map fun v => v.category).sum + 12 ≤ _
      rw [hx_cat_map]
      omega
    · cases h
  · cases h
end HXS
