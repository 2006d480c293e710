/-! ===== soundness, 6: what is made ===== -/
theorem hx_cv_ag {ad ad' : Nat → Nat} {b n : Nat} {v : Value} (hv : hx_wv n v = true) (ag : ∀ k, k < n → ad' k = ad k) : hx_cv ad' b v = hx_cv ad b v := by
  cases v with
  | ref a => show Value.ref (ad' a) = Value.ref (ad a); rw [ag a (of_decide_eq_true hv)]
  | _ => rfl
theorem hx_wv_fv {n : Nat} {w : Value} {x : Int32} {y : Int64} (h : hx_wv n w = true) : hx_wv n (hx_fv w x y) = true := by
  cases w with
  | int _ => rfl
  | long _ => rfl
  | _ => exact h
theorem hx_st_ag {ad ad' : Nat → Nat} {b n : Nat} {st : List Value} (h : hx_wvs n st = true) (ag : ∀ k, k < n → ad' k = ad k) : st.map (hx_cv ad' b) = st.map (hx_cv ad b) := by
  apply List.map_congr_left
  intro v hv
  exact hx_cv_ag (List.all_eq_true.mp h v hv) ag
theorem hx_L_ag {ad ad' : Nat → Nat} {b n nL : Nat} {lc : Array Slot} {ls : List (Option Value)} (hw : hx_wls n ls = true) (ag : ∀ k, k < n → ad' k = ad k) (h : hx_L ad b lc nL ls) : hx_L ad' b lc nL ls := by
  refine ⟨h.1, h.2.1, h.2.2.1, fun i v hi => ?_⟩
  have h2 := h.2.2.2 i v hi
  rw [hx_nth_eq] at hi
  have h3 := List.all_eq_true.mp hw _ (List.mem_of_getElem? hi)
  rw [hx_cv_ag h3 ag]
  exact h2
theorem hx_ec_ag {ad ad' : Nat → Nat} {ac ac' : Nat → ClassId} {b k n : Nat} {e : hx_SE} {d : Nat → Int32} {g : Nat → Int64} (he : hx_we n e = true) (ag : ∀ k, k < n → ad' k = ad k) (agc : ac' k = ac k) : hx_ec ad' ac' b k e d g = hx_ec ad ac b k e d g := by
  cases e with
  | inl o =>
    show Sum.inr (o.1, _) = Sum.inr (o.1, _)
    congr 2
    apply List.ext_getElem?
    intro i
    rw [List.getElem?_mapIdx, List.getElem?_mapIdx]
    cases hi : o.2[i]? with
    | none => rfl
    | some w =>
      show some (hx_cv ad' b _) = some (hx_cv ad b _)
      have h1 := List.all_eq_true.mp he w (List.mem_of_getElem? hi)
      rw [hx_cv_ag (hx_wv_fv h1) ag]
  | inr o =>
    obtain ⟨ty, m, cs⟩ := o
    cases ty with
    | object C =>
      have hf : (fun i => match hx_nth cs i with
        | some (some q) => some (ad' q)
        | _ => none) = (fun i => match hx_nth cs i with
        | some (some q) => some (ad q)
        | _ => none) := by
        funext i
        cases hi : hx_nth cs i with
        | none => rfl
        | some r =>
          cases r with
          | none => rfl
          | some q =>
            rw [hx_nth_eq] at hi
            have h1 := List.all_eq_true.mp he _ (List.mem_of_getElem? hi)
            show some (ad' q) = some (ad q)
            rw [ag q (of_decide_eq_true h1)]
      show Sum.inl (ac' k, m, _) = Sum.inl (ac k, m, _)
      rw [agc]
      exact congrArg (fun z => (Sum.inl (ac k, m, Sum.inr (Sum.inr (Sum.inr (Sum.inr z)))) : va_E)) hf
    | _ =>
      show Sum.inl (ac' k, m, _) = Sum.inl (ac k, m, _)
      rw [agc]
/-- one cell more -/
theorem hx_ws_push {ad ad' : Nat → Nat} {ac ac' : Nat → ClassId} {b : Nat} {Hs : hx_HS} {e : hx_SE} {f : Nat → Int32} {g : Nat → Int64} (hS : hx_wsh Hs.1 = true) (ag : ∀ k, k < Hs.1.length → ad' k = ad k) (agc : ∀ k, k < Hs.1.length → ac' k = ac k) :
    hx_ws ad' ac' b (Hs.1 ++ [e], hx_row Hs.2.1 Hs.1.length f, hx_row Hs.2.2 Hs.1.length g) = hx_ws ad ac b Hs ++ [(ad' Hs.1.length, hx_ec ad' ac' b Hs.1.length e f g)] := by
  apply List.ext_getElem?
  intro i
  unfold hx_ws
  rw [List.getElem?_mapIdx]
  by_cases hi : i < Hs.1.length
  · rw [List.getElem?_append_left hi, List.getElem?_append_left (by rw [List.length_mapIdx]; exact hi), List.getElem?_mapIdx]
    have hz : Hs.1[i]? = some Hs.1[i] := List.getElem?_eq_getElem hi
    rw [hz]
    have h1 := List.all_eq_true.mp hS _ (List.mem_of_getElem? hz)
    show some (ad' i, hx_ec ad' ac' b i _ (hx_row Hs.2.1 Hs.1.length f i) (hx_row Hs.2.2 Hs.1.length g i)) = some (ad i, _)
    rw [hx_row_ne (by omega), hx_row_ne (by omega), ag i hi, hx_ec_ag h1 ag (agc i hi)]
  · by_cases hj : i = Hs.1.length
    · subst hj
      rw [List.getElem?_append_right (Nat.le_refl _), List.getElem?_append_right (by rw [List.length_mapIdx]; exact Nat.le_refl _), Nat.sub_self, List.length_mapIdx, Nat.sub_self]
      show some (ad' _, hx_ec ad' ac' b _ _ (hx_row Hs.2.1 _ f _) (hx_row Hs.2.2 _ g _)) = some (_, _)
      rw [hx_row_eq, hx_row_eq]
    · rw [List.getElem?_eq_none (by simp; omega), List.getElem?_eq_none (by simp; omega)]
      rfl
theorem hx_dv (t : FieldType) (ad : Nat → Nat) (b : Nat) : hx_cv ad b (hx_fv (defaultValue t) 0 0) = defaultValue t := by cases t <;> rfl
theorem hx_kinds_wf (ci n : Nat) : (hx_kinds ci).all (hx_wv n) = true := by
  unfold hx_kinds
  split <;> rfl
theorem hx_nth_append {α : Type} {l : List α} {e : α} {k : Nat} {o : α} (h : hx_nth (l ++ [e]) k = some o) : (k < l.length ∧ hx_nth l k = some o) ∨ (k = l.length ∧ o = e) := by
  rw [hx_nth_eq] at h
  by_cases hk : k < l.length
  · rw [List.getElem?_append_left hk] at h
    exact Or.inl ⟨hk, by rw [hx_nth_eq]; exact h⟩
  · rw [List.getElem?_append_right (by omega)] at h
    cases hz : k - l.length with
    | zero =>
      rw [hz] at h
      cases h
      exact Or.inr ⟨by omega, rfl⟩
    | succ j => rw [hz] at h; cases h
theorem hx_clen {x : Int32} {n : Nat} (h : ¬ x < 0) : Int32.ofNat x.toNatClampNeg = x := by
  obtain ⟨j, hj, rfl⟩ := nI_of h
  rw [nI_clamp hj]
  rfl
section HXS
variable {p : Program} {l : Launch} {e : Env} {R : Room} {s : State} {m : MethodId} {args : Array Value} {below : List Frame} {meth : Method} {c : Code} {Q : State → Prop}
variable {dC : Nat → ClassId} {dI : Nat → Nat → Nat} {A : Nat → Prop} {b : Nat} {G : Nat × (Nat → Nat)} {sc : Nat × (Nat → Int32)} {d k : Nat}
variable {pc : Nat} {ls : List (Option Value)} {st : List Value} {Hs : hx_HS} {u : Nat} {fs : hx_FS}
theorem hx_s_newo {i ci : Nat} (hx : p.tables.exec = Jvm.exec) (hb : c.code = hx_by k) (hown : s.vm.findClass (hx_R (hx_own k)) = some m.cls) (hts : ∀ w ∈ hx_LW, w.before args s = true) (hK : va_K (dC, dI) vwCl [] s) (hA : ∀ q, s.heap.size ≤ q → A q) (hRc : hx_bud k ≤ R.cells ∧ 1000 * hx_bud k ≤ R.slots) (hl : hx_has hx_NL (hx_own k, i, ci) = true) (hd : decode (hx_by k) pc = .ok (.new i, 3))
    (h : hx_newo ci (hx_bud k) pc ls st Hs u = some (.inl fs)) (K : hx_Wt p l e R s m args below meth c Q dC dI A b G k fs) : hx_Wt p l e R s m args below meth c Q dC dI A b G k (pc, ls, st, Hs, u) := by
  obtain ⟨z9, hz9⟩ := hx_has_in hl
  have hq := hx_NL_ok _ hz9
  unfold hx_nlok at hq
  dsimp only at hq
  split at hq
  · rename_i C T N hC
    simp only [Bool.and_eq_true, decide_eq_true_eq] at hq
    obtain ⟨⟨⟨hci, hw1⟩, hw2⟩, hw3⟩ := hq
    obtain ⟨hCR, hin, hty, hnm, hdf, hlen, hN⟩ := hx_cls hci hC
    unfold hx_newo at h
    split at h
    · rename_i hc
      obtain ⟨hwf, hu⟩ := hc
      unfold hx_wf at hwf
      simp only [Bool.and_eq_true] at hwf
      have e1 := hx_k_inj h
      subst e1
      intro H locs ad ac lc hI hL
      have GG := hI.2.2.2.2
      refine va_new (fs := (hx_kinds ci).mapIdx (fun _ w => hx_cv ad b (hx_fv w 0 0))) hx hb hts hin (hx_fty ci) hty hown (hts _ (hx_wd_in hw1)) (hts _ (hx_wd_in hw2)) (hts _ (hx_wd_in hw3)) hK hI.1 hI.2.1 hI.2.2.1 hA (by rw [← hx_nth_eq]; exact hC) (fun j hj => ?_) (by show u + 1 ≤ _; omega) (by show 1000 * u + N ≤ _; omega) hd (fun q H1 hP hD hS => ?_)
      · have h3 := hdf j hj
        show _ = List.getD _ j _
        rw [List.getD_eq_getElem?_getD, hx_mapIdx_at h3]
        exact (hx_dv _ _ _).symm
      · have ag : ∀ z, z < Hs.1.length → (fun z => if z = Hs.1.length then q else ad z) z = ad z := fun z hz => if_neg (by omega)
        have e2 := hx_ws_push (ad := ad) (ad' := fun z => if z = Hs.1.length then q else ad z) (ac := ac) (ac' := ac) (b := b) (Hs := Hs) (e := .inl (ci, hx_kinds ci)) (f := fun _ => 0) (g := fun _ => 0) hwf.2 ag (fun _ _ => rfl)
        have e3 : hx_ec (fun z => if z = Hs.1.length then q else ad z) ac b Hs.1.length (.inl (ci, hx_kinds ci)) (fun _ => 0) (fun _ => 0) = hx_ec ad ac b Hs.1.length (.inl (ci, hx_kinds ci)) (fun _ => 0) (fun _ => 0) := hx_ec_ag (n := Hs.1.length) (hx_kinds_wf ci _) ag rfl
        rw [e3] at e2
        try dsimp only at e2
        rw [if_pos rfl] at e2
        refine W.widen (k := u + 1) (n := 1000 * (u + 1)) (Nat.le_refl _) (by show 1000 * u + N ≤ _; omega) ?_
        have K9 := K H1 locs (fun z => if z = Hs.1.length then q else ad z) ac lc ⟨by rw [e2]; exact hP, by rw [e2]; exact hD, hS, fun k9 o hk9 => ?_, hx_G_push GG ag (by simp only [List.length_append]; omega)⟩ (hx_L_ag hwf.1.1 ag hL)
        · simp only [List.map_cons] at K9
          rw [hx_st_ag hwf.1.2 ag] at K9
          have e4 : hx_cv (fun z => if z = Hs.1.length then q else ad z) b (.ref Hs.1.length) = .ref q := by
            show Value.ref (if _ then _ else _) = _
            rw [if_pos rfl]
          rw [e4] at K9
          exact K9
        · rcases hx_nth_append hk9 with ⟨-, h5⟩ | ⟨-, h5⟩
          · exact hI.2.2.2.1 k9 o h5
          · cases h5
    · cases h
  · cases hq
/-- a new array: what is common to the kinds -/
theorem hx_newx {ty : FieldType} {n : Nat} {cs : List (Option Nat)} {r : List Value} {q : Nat} {cA : ClassId} {H1 : Heap} {locs : List Loc} {ad : Nat → Nat} {ac : Nat → ClassId} {lc : Array Slot} {a0 : vp_A} {pc2 : Nat} (hwf : hx_wf ls r Hs.1 = true) (GG : hx_G G ad Hs) (hT : hx_T s ac Hs) (hL : hx_L ad b lc (hx_ml k) ls)
    (ha : ∀ ad2 ac2, hx_ec ad2 ac2 b Hs.1.length (.inr (ty, n, cs)) (fun _ => 0) (fun _ => 0) = .inl (ac2 Hs.1.length, a0)) (hn : n ≤ 1000) (hty : ArrOfT s cA ty ∧ va_RA s cA ty)
    (hP : va_P (dC, dI) vwCl (hx_ws ad ac b Hs ++ [(q, .inl (cA, a0))]) H1) (hD : va_D A (hx_ws ad ac b Hs ++ [(q, .inl (cA, a0))])) (hS : va_S A s.heap H1 locs)
    (K : hx_Wt p l e R s m args below meth c Q dC dI A b G k (pc2, ls, .ref Hs.1.length :: r, (Hs.1 ++ [.inr (ty, n, cs)], hx_row Hs.2.1 Hs.1.length (fun _ => 0), hx_row Hs.2.2 Hs.1.length (fun _ => 0)), u + 1)) :
    W p l e R s m args below meth c H1 locs (u + 1) (1000 * u + n) Q (F0 m pc2 lc (.ref q :: r.map (hx_cv ad b))) := by
  unfold hx_wf at hwf
  simp only [Bool.and_eq_true] at hwf
  have ag : ∀ z, z < Hs.1.length → (fun z => if z = Hs.1.length then q else ad z) z = ad z := fun z hz => if_neg (by omega)
  have agc : ∀ z, z < Hs.1.length → (fun z => if z = Hs.1.length then cA else ac z) z = ac z := fun z hz => if_neg (by omega)
  have e2 := hx_ws_push (ad := ad) (ad' := fun z => if z = Hs.1.length then q else ad z) (ac := ac) (ac' := fun z => if z = Hs.1.length then cA else ac z) (b := b) (Hs := Hs) (e := .inr (ty, n, cs)) (f := fun _ => 0) (g := fun _ => 0) hwf.2 ag agc
  rw [ha] at e2
  try dsimp only at e2
  rw [if_pos rfl, if_pos rfl] at e2
  refine W.widen (k := u + 1) (n := 1000 * (u + 1)) (Nat.le_refl _) (by omega) ?_
  have K9 := K H1 locs (fun z => if z = Hs.1.length then q else ad z) (fun z => if z = Hs.1.length then cA else ac z) lc ⟨by rw [e2]; exact hP, by rw [e2]; exact hD, hS, fun k9 o hk9 => ?_, hx_G_push GG ag (by simp only [List.length_append]; omega)⟩ (hx_L_ag hwf.1.1 ag hL)
  · simp only [List.map_cons] at K9
    rw [hx_st_ag hwf.1.2 ag] at K9
    have e4 : hx_cv (fun z => if z = Hs.1.length then q else ad z) b (.ref Hs.1.length) = .ref q := by
      show Value.ref (if _ then _ else _) = _
      rw [if_pos rfl]
    rw [e4] at K9
    exact K9
  · rcases hx_nth_append hk9 with ⟨h4, h5⟩ | ⟨h4, h5⟩
    · dsimp only
      rw [if_neg (by omega)]
      exact hT k9 o h5
    · cases h5
      dsimp only
      rw [if_pos h4]
      exact hty
theorem hx_s_newa {t : ArrayType} (hx : p.tables.exec = Jvm.exec) (hb : c.code = hx_by k) (hts : ∀ w ∈ hx_LW, w.before args s = true) (hK : va_K (dC, dI) vwCl [] s) (hA : ∀ q, s.heap.size ≤ q → A q) (hRc : hx_bud k ≤ R.cells ∧ 1000 * hx_bud k ≤ R.slots) (ht : t = .int ∨ t = .boolean ∨ t = .char ∨ t = .long) (hd : decode (hx_by k) pc = .ok (.newarray t, 2))
    (h : hx_newa (newarray.typeOf t) (hx_bud k) pc ls st Hs u = some (.inl fs)) (K : hx_Wt p l e R s m args below meth c Q dC dI A b G k fs) : hx_Wt p l e R s m args below meth c Q dC dI A b G k (pc, ls, st, Hs, u) := by
  have hw2 := hx_w_arr
  unfold hx_newa at h
  split at h
  · rename_i n r
    split at h
    · rename_i hc
      obtain ⟨hwf, hu, hn0, hn⟩ := hc
      have e1 := hx_k_inj h
      subst e1
      intro H locs ad ac lc hI hL
      rcases ht with rfl | rfl | rfl | rfl
      · exact va_newa (a0 := (n.toNatClampNeg, .inl (fun _ => 0))) (N' := n.toNatClampNeg) (ty := .int) (atype := .int) hx hb (hts _ (hx_wd_in hw2.1)) rfl hK hI.1 hI.2.1 hI.2.2.1 hA (fun _ => rfl) hn0 rfl (by show n.toNatClampNeg * 4 ≤ _; omega) (by show u + 1 ≤ _; omega) (by show 1000 * u + _ ≤ _; omega) hd (fun q cA H1 hK1 hP hD hS => hx_newx hwf hI.2.2.2.2 hI.2.2.2.1 hL (fun _ _ => rfl) hn (hK1.2 0 _ rfl) hP hD hS K)
      · exact va_newa (a0 := (n.toNatClampNeg, .inl (fun _ => 0))) (N' := n.toNatClampNeg) (ty := .boolean) (atype := .boolean) hx hb (hts _ (hx_wd_in hw2.2.1)) rfl hK hI.1 hI.2.1 hI.2.2.1 hA (fun _ => rfl) hn0 rfl (by show n.toNatClampNeg * 1 ≤ _; omega) (by show u + 1 ≤ _; omega) (by show 1000 * u + _ ≤ _; omega) hd (fun q cA H1 hK1 hP hD hS => hx_newx hwf hI.2.2.2.2 hI.2.2.2.1 hL (fun _ _ => rfl) hn (hK1.2 0 _ rfl) hP hD hS K)
      · exact va_newa (a0 := (n.toNatClampNeg, .inl (fun _ => 0))) (N' := n.toNatClampNeg) (ty := .char) (atype := .char) hx hb (hts _ (hx_wd_in hw2.2.2.1)) rfl hK hI.1 hI.2.1 hI.2.2.1 hA (fun _ => rfl) hn0 rfl (by show n.toNatClampNeg * 2 ≤ _; omega) (by show u + 1 ≤ _; omega) (by show 1000 * u + _ ≤ _; omega) hd (fun q cA H1 hK1 hP hD hS => hx_newx hwf hI.2.2.2.2 hI.2.2.2.1 hL (fun _ _ => rfl) hn (hK1.2 0 _ rfl) hP hD hS K)
      · exact va_newa (a0 := (n.toNatClampNeg, .inr (.inl (fun _ => 0)))) (N' := n.toNatClampNeg) (ty := .long) (atype := .long) hx hb (hts _ (hx_wd_in hw2.2.2.2)) rfl hK hI.1 hI.2.1 hI.2.2.1 hA (fun _ => rfl) hn0 rfl (by show n.toNatClampNeg * 8 ≤ _; omega) (by show u + 1 ≤ _; omega) (by show 1000 * u + _ ≤ _; omega) hd (fun q cA H1 hK1 hP hD hS => hx_newx hwf hI.2.2.2.2 hI.2.2.2.1 hL (fun _ _ => rfl) hn (hK1.2 0 _ rfl) hP hD hS K)
    · cases h
  · cases h
theorem hx_s_newq {i : Nat} (hx : p.tables.exec = Jvm.exec) (hb : c.code = hx_by k) (hown : s.vm.findClass (hx_R (hx_own k)) = some m.cls) (hts : ∀ w ∈ hx_LW, w.before args s = true) (hK : va_K (dC, dI) vwCl [] s) (hAO : va_AO RX3 s) (hA : ∀ q, s.heap.size ≤ q → A q) (hRc : hx_bud k ≤ R.cells ∧ 1000 * hx_bud k ≤ R.slots) (hl : hx_has hx_NL (hx_own k, i, 3) = true) (hd : decode (hx_by k) pc = .ok (.anewarray i, 3))
    (h : hx_newq RX3 (hx_bud k) pc ls st Hs u = some (.inl fs)) (K : hx_Wt p l e R s m args below meth c Q dC dI A b G k fs) : hx_Wt p l e R s m args below meth c Q dC dI A b G k (pc, ls, st, Hs, u) := by
  obtain ⟨z9, hz9⟩ := hx_has_in hl
  have hq := hx_NL_ok _ hz9
  have hq2 : hx_wd (.classLink (hx_R (hx_own k)) i RX3) = true := by
    unfold hx_nlok at hq
    dsimp only at hq
    rw [show hx_nth vwCl 3 = some (RX3, TX3, 8) from rfl] at hq
    simp only [Bool.and_eq_true] at hq
    exact hq.1.1.2
  unfold hx_newq at h
  split at h
  · rename_i n r
    split at h
    · rename_i hc
      obtain ⟨hwf, hu, hn0, hn⟩ := hc
      have e1 := hx_k_inj h
      subst e1
      intro H locs ad ac lc hI hL
      refine va_newq (N' := n.toNatClampNeg) hx hb hown (hts _ (hx_wd_in hq2)) hAO hK hI.1 hI.2.1 hI.2.2.1 hA hn0 rfl (by omega) (by show u + 1 ≤ _; omega) (by show 1000 * u + _ ≤ _; omega) hd (fun q cA H1 hK1 hP hD hS => hx_newx hwf hI.2.2.2.2 hI.2.2.2.1 hL (fun ad2 ac2 => ?_) hn (hK1.2 0 _ rfl) hP hD hS K)
      have hf : (fun z => match hx_nth (List.replicate n.toNatClampNeg none) z with
        | some (some q) => some (ad2 q)
        | _ => none) = (fun _ => none) := by
        funext z
        have h7 : ∀ (w : Nat), hx_nth (List.replicate w (none : Option Nat)) z = none ∨ hx_nth (List.replicate w (none : Option Nat)) z = some none := by
          intro w
          rw [hx_nth_eq, List.getElem?_replicate]
          split
          · exact Or.inr rfl
          · exact Or.inl rfl
        rcases h7 n.toNatClampNeg with h8 | h8 <;> rw [h8]
      exact congrArg (fun z => (Sum.inl (ac2 Hs.1.length, n.toNatClampNeg, Sum.inr (Sum.inr (Sum.inr (Sum.inr z)))) : va_E)) hf
    · cases h
  · cases h
end HXS
