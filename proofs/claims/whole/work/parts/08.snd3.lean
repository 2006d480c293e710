/-! ===== soundness, 4: branches on ints, switches, fields, arrays, what is made, natives ===== -/
theorem hx_at_in {k pc : Nat} {ce : hx_CE} (h : hx_at k pc = some ce) : hx_ck k (pc, ce) = true := by
  unfold hx_at at h
  have hc := hx_chk_all k
  unfold hx_chk at hc
  split at h
  · rename_i l hl
    rw [hl] at hc
    have key : ∀ (l : List (Nat × hx_CE)), hx_look l pc = some ce → (pc, ce) ∈ l := by
      intro l
      induction l with
      | nil => intro z; cases z
      | cons q l ih =>
        intro z
        unfold hx_look at z
        split at z
        · rename_i hq
          cases z
          subst hq
          exact List.mem_cons_self
        · exact List.mem_cons_of_mem _ (ih z)
    exact List.all_eq_true.mp hc _ (key l h)
  · cases h
theorem hx_ck_d {k pc : Nat} {ce : hx_CE} (h : hx_ck k (pc, ce) = true) : decode (hx_by k) pc = .ok (ce.1, hx_il ce.1 ce.2.2.2.1) := by
  unfold hx_ck at h
  rw [Bool.and_eq_true] at h
  exact hx_isd_ok h.1
theorem hx_ck_l {k pc : Nat} {ce : hx_CE} (h : hx_ck k (pc, ce) = true) : hx_lk k pc ce = true := by
  unfold hx_ck at h
  rw [Bool.and_eq_true] at h
  exact h.2
/-- the classes of the worlds -/
def hx_cok (ci : Nat) : Bool := match hx_nth vwCl ci with
  | some (C, T, N) => decide (C = hx_R ci) && (u_ws C T N).all hx_wd && (List.range N).all (fun j => decide (parseFieldDescriptor (T j).2.2.1 = some (hx_fty ci j)) && (List.range N).all (fun i => decide (j = i) || decide ((T j).2.1 ≠ (T i).2.1)) && decide (hx_nth (hx_kinds ci) j = some (defaultValue (hx_fty ci j)))) && decide ((hx_kinds ci).length = N) && decide (N ≤ 1000)
  | none => false
theorem hx_cok_all : ∀ ci ∈ List.range 6, hx_cok ci = true := by decide +kernel
theorem hx_cls {ci : Nat} {C : String} {T : u_T} {N : Nat} (hci : ci < 6) (h : hx_nth vwCl ci = some (C, T, N)) : C = hx_R ci ∧ (∀ w ∈ u_ws C T N, w ∈ hx_LW) ∧ (∀ j, j < N → parseFieldDescriptor (T j).2.2.1 = some (hx_fty ci j)) ∧ (∀ a, a < N → ∀ b, b < N → a ≠ b → (T a).2.1 ≠ (T b).2.1) ∧ (∀ j, j < N → hx_nth (hx_kinds ci) j = some (defaultValue (hx_fty ci j))) ∧ (hx_kinds ci).length = N ∧ N ≤ 1000 := by
  have hk := hx_cok_all ci (List.mem_range.mpr hci)
  unfold hx_cok at hk
  rw [h] at hk
  simp only [Bool.and_eq_true, decide_eq_true_eq] at hk
  obtain ⟨⟨⟨⟨h1, h2⟩, h3⟩, h4⟩, h5⟩ := hk
  have h3' : ∀ j, j < N → parseFieldDescriptor (T j).2.2.1 = some (hx_fty ci j) ∧ (∀ i, i < N → j = i ∨ (T j).2.1 ≠ (T i).2.1) ∧ hx_nth (hx_kinds ci) j = some (defaultValue (hx_fty ci j)) := by
    intro j hj
    have h := List.all_eq_true.mp h3 j (List.mem_range.mpr hj)
    simp only [Bool.and_eq_true, decide_eq_true_eq] at h
    refine ⟨h.1.1, fun i hi => ?_, h.2⟩
    have h6 := List.all_eq_true.mp h.1.2 i (List.mem_range.mpr hi)
    simp only [Bool.or_eq_true, decide_eq_true_eq] at h6
    exact h6
  exact ⟨h1, fun w hw => hx_wd_in (List.all_eq_true.mp h2 w hw), fun j hj => (h3' j hj).1, fun a ha b hb hab => ((h3' a ha).2.1 b hb).resolve_left hab, fun j hj => (h3' j hj).2.2, h4, h5⟩
theorem hx_FL_at {o i ci j : Nat} (h : hx_has hx_FL (o, i, ci, j) = true) : ∃ (C : String) (T : u_T) (N : Nat), hx_nth vwCl ci = some (C, T, N) ∧ ci < 6 ∧ j < N ∧ (T j).1 = C ∧ Jvm.Cond.fieldLink (hx_R o) i C (T j).2.1 (T j).2.2.1 ∈ hx_LW := by
  obtain ⟨n, hn⟩ := hx_has_in h
  have hq := hx_FL_ok _ hn
  unfold hx_flok at hq
  dsimp only at hq
  split at hq
  · rename_i C T N hC
    simp only [Bool.and_eq_true, decide_eq_true_eq] at hq
    exact ⟨C, T, N, hC, hq.1.1.1, hq.1.1.2, hq.1.2, hx_wi_in hq.2⟩
  · cases hq
section HXS
variable {p : Program} {l : Launch} {e : Env} {R : Room} {s : State} {m : MethodId} {args : Array Value} {below : List Frame} {meth : Method} {c : Code} {Q : State → Prop}
variable {dC : Nat → ClassId} {dI : Nat → Nat → Nat} {A : Nat → Prop} {b : Nat} {G : Nat × (Nat → Nat)} {sc : Nat × (Nat → Int32)} {d k : Nat}
variable {pc : Nat} {ls : List (Option Value)} {st : List Value} {Hs : hx_HS} {u : Nat} {fs : hx_FS}
theorem hx_s_if {cond : Jvm.ClassFile.Cond} {o : Int} {t : Nat} (hx : p.tables.exec = Jvm.exec) (hb : c.code = hx_by k) (hd : decode (hx_by k) pc = .ok (.ifCond cond o, 3)) (ht : (pc : Int) + o = (t : Int))
    (h : hx_if cond t pc ls st Hs u = some (.inl fs)) (K : hx_Wt p l e R s m args below meth c Q dC dI A b G k fs) : hx_Wt p l e R s m args below meth c Q dC dI A b G k (pc, ls, st, Hs, u) := by
  unfold hx_if at h
  split at h
  · rename_i x r
    cases cond with
    | eq => exact hx_s_br (v := [.int x]) (fun kt kf => lv_if_eq hx hb hd ht kt kf) h K
    | ne => exact hx_s_br (v := [.int x]) (fun kt kf => lv_if_ne hx hb hd ht kt (fun z => kf (fun z2 => z2 z))) h K
    | lt => exact hx_s_br (v := [.int x]) (fun kt kf => lv_if_lt hx hb hd ht kt kf) h K
    | ge => exact hx_s_br (v := [.int x]) (fun kt kf => lv_if_ge hx hb hd ht kt kf) h K
    | gt => exact hx_s_br (v := [.int x]) (fun kt kf => lv_if_gt hx hb hd ht kt kf) h K
    | le => exact hx_s_br (v := [.int x]) (fun kt kf => lv_if_le hx hb hd ht kt kf) h K
  · cases h
theorem hx_s_icmp {cond : Jvm.ClassFile.Cond} {o : Int} {t : Nat} (hx : p.tables.exec = Jvm.exec) (hb : c.code = hx_by k) (hd : decode (hx_by k) pc = .ok (.if_icmp cond o, 3)) (ht : (pc : Int) + o = (t : Int))
    (h : hx_icmp cond t pc ls st Hs u = some (.inl fs)) (K : hx_Wt p l e R s m args below meth c Q dC dI A b G k fs) : hx_Wt p l e R s m args below meth c Q dC dI A b G k (pc, ls, st, Hs, u) := by
  unfold hx_icmp at h
  split at h
  · rename_i y x r
    cases cond with
    | eq => exact hx_s_br (v := [.int y, .int x]) (fun kt kf => lv_icmp_eq hx hb hd ht kt kf) h K
    | ne => exact hx_s_br (v := [.int y, .int x]) (fun kt kf => lv_icmp_ne hx hb hd ht kt (fun z => kf (fun z2 => z2 z))) h K
    | lt => exact hx_s_br (v := [.int y, .int x]) (fun kt kf => lv_icmp_lt hx hb hd ht kt kf) h K
    | ge => exact hx_s_br (v := [.int y, .int x]) (fun kt kf => lv_icmp_ge hx hb hd ht kt kf) h K
    | gt => exact hx_s_br (v := [.int y, .int x]) (fun kt kf => lv_icmp_gt hx hb hd ht kt kf) h K
    | le => exact hx_s_br (v := [.int y, .int x]) (fun kt kf => lv_icmp_le hx hb hd ht kt kf) h K
  · cases h
theorem hx_s_sw {df lo hi : Int} {os : Array Int} {len t : Nat} {tg : List Nat} (hx : p.tables.exec = Jvm.exec) (hb : c.code = hx_by k) (hd : decode (hx_by k) pc = .ok (.tableswitch df lo hi os, len)) (ht : (pc : Int) + df = (t : Int)) (hg : os.toList.map (fun o => (pc : Int) + o) = tg.map Int.ofNat)
    (h : hx_sw lo hi t tg ls st Hs u = some (.inl fs)) (K : hx_Wt p l e R s m args below meth c Q dC dI A b G k fs) : hx_Wt p l e R s m args below meth c Q dC dI A b G k (pc, ls, st, Hs, u) := by
  unfold hx_sw at h
  split at h
  · rename_i x r
    split at h
    · rename_i hout
      have e1 := hx_k_inj h
      subst e1
      intro H locs ad ac lc hI hL
      exact lv_tableOut hx hb hd hout ht (K H locs ad ac lc hI hL)
    · rename_i hin
      rw [not_or] at hin
      split at h
      · rename_i t2 ht2
        have e1 := hx_k_inj h
        subst e1
        intro H locs ad ac lc hI hL
        rw [hx_nth_eq] at ht2
        have h3 : (tg.map Int.ofNat)[(x.toInt - lo).toNat]? = some (Int.ofNat t2) := by rw [List.getElem?_map, ht2]; rfl
        rw [← hg, List.getElem?_map] at h3
        cases ho : os.toList[(x.toInt - lo).toNat]? with
        | none => rw [ho] at h3; cases h3
        | some off =>
          rw [ho] at h3
          have h4 : (pc : Int) + off = (t2 : Int) := Option.some.inj h3
          rw [Array.getElem?_toList] at ho
          exact lv_tableIn hx hb hd hin.1 hin.2 ho h4 (K H locs ad ac lc hI hL)
      · cases h
  · cases h
theorem hx_mapIdx_at {ks : List Value} {j : Nat} {w : Value} {f : Nat → Value → Value} (h : hx_nth ks j = some w) : (ks.mapIdx f)[j]? = some (f j w) := by
  rw [hx_nth_eq] at h
  rw [List.getElem?_mapIdx, h]
  rfl
theorem hx_s_get {i ci j : Nat} (hx : p.tables.exec = Jvm.exec) (hb : c.code = hx_by k) (hown : s.vm.findClass (hx_R (hx_own k)) = some m.cls) (hts : ∀ w ∈ hx_LW, w.before args s = true) (hK : va_K (dC, dI) vwCl [] s) (hd : decode (hx_by k) pc = .ok (.getfield i, 3)) (hl : hx_has hx_FL (hx_own k, i, ci, j) = true)
    (h : hx_get ci j pc ls st Hs u = some (.inl fs)) (K : hx_Wt p l e R s m args below meth c Q dC dI A b G k fs) : hx_Wt p l e R s m args below meth c Q dC dI A b G k (pc, ls, st, Hs, u) := by
  obtain ⟨C, T, N, hC, hci, hj, hTC, hw⟩ := hx_FL_at hl
  obtain ⟨hCR, hin, -⟩ := hx_cls hci hC
  unfold hx_get at h
  split at h
  · rename_i a r
    split at h
    · rename_i c9 ks hcell
      split at h
      · rename_i hcc
        subst hcc
        split at h
        · rename_i w hw9
          have e1 := hx_k_inj h
          subst e1
          intro H locs ad ac lc hI hL
          have he := hx_ws_at (ad := ad) (ac := ac) (b := b) hcell
          exact va_get hx hb hts hin hown hK hI.1 a he (by rw [← hx_nth_eq]; exact hC) j hj (hts _ hw) (fun x hx9 => by rw [hTC] at hx9; exact hx9) (hx_mapIdx_at hw9) hd (K H locs ad ac lc hI hL)
        · cases h
      · cases h
    · cases h
  · cases h
theorem hx_fit_ok {ty : FieldType} {x : Int32} (h : hx_fit ty x = true) : narrow ty (.int x) = .int x ∧ fits ty (.int x) = true := by
  unfold hx_fit at h
  split at h
  · exact ⟨rfl, rfl⟩
  · simp only [Bool.or_eq_true, decide_eq_true_eq] at h
    rcases h with rfl | rfl
    · exact ⟨by decide, by decide⟩
    · exact ⟨by decide, by decide⟩
  · cases h
theorem hx_rty_ok {ty : FieldType} {q : Nat} (h : hx_rty ty = true) : narrow ty (.ref q) = .ref q ∧ fits ty (.ref q) = true := by
  unfold hx_rty at h
  split at h
  · exact ⟨rfl, rfl⟩
  · exact ⟨rfl, rfl⟩
  · cases h
/-- a store in a field, final or not -/
theorem hx_putw {i ci j q0 a : Nat} {C : String} {T : u_T} {N : Nat} {H : Heap} {locs : List Loc} {ws : va_W} {cells slots : Nat} {lc : Array Slot} {rest : List Value} {v : Value} {gs : List Value} (hx : p.tables.exec = Jvm.exec) (hb : c.code = hx_by k) (hown : s.vm.findClass (hx_R (hx_own k)) = some m.cls) (hts : ∀ w ∈ hx_LW, w.before args s = true) (hK : va_K (dC, dI) vwCl [] s) (hd : decode (hx_by k) pc = .ok (.putfield i, 3))
    (hC : hx_nth vwCl ci = some (C, T, N)) (hci : ci < 6) (hj : j < N) (hTC : (T j).1 = C) (hw : Jvm.Cond.fieldLink (hx_R (hx_own k)) i C (T j).2.1 (T j).2.2.1 ∈ hx_LW) (hini : (hx_y k).name = "<init>" → meth.name = "<init>") (hfin : ((T j).2.2.2 = false ∨ ((hx_y k).name = "<init>" ∧ hx_own k = ci)))
    (hP : va_P (dC, dI) vwCl ws H) (hD : va_D A ws) (hS : va_S A s.heap H locs) (he : ws[q0]? = some (a, .inr (ci, gs))) (hn : narrow (hx_fty ci j) v = v) (hf : fits (hx_fty ci j) v = true) (hg : j < gs.length)
    (kk : ∀ (H1 : Heap) (locs1 : List Loc), va_P (dC, dI) vwCl (ws.set q0 (a, .inr (ci, gs.set j v))) H1 → va_D A (ws.set q0 (a, .inr (ci, gs.set j v))) → va_S A s.heap H1 locs1 → W p l e R s m args below meth c H1 locs1 cells slots Q (F0 m (pc + 3) lc rest)) : W p l e R s m args below meth c H locs cells slots Q (F0 m pc lc (v :: .ref a :: rest)) := by
  obtain ⟨hCR, hin, hty, hnm, -⟩ := hx_cls hci hC
  cases hz : (T j).2.2.2 with
  | false => exact va_put hx hb hts hin (hx_fty ci) hty hnm hown hK hP hD hS q0 he (by rw [← hx_nth_eq]; exact hC) j hj (hts _ hw) (fun x hx9 => by rw [hTC] at hx9; exact hx9) hz (hty j hj) hn hf hg hd kk
  | true =>
    rcases hfin with h | ⟨h1, h2⟩
    · rw [hz] at h; cases h
    · exact va_putF hx hb hts hin (hx_fty ci) hty hnm hown hK hP hD hS q0 he (by rw [← hx_nth_eq]; exact hC) j hj (hts _ hw) (fun x hx9 => by rw [hTC] at hx9; exact hx9) hz (hini h1) (by rw [hTC, hCR, h2]) (hty j hj) hn hf hg hd kk
theorem hx_mapIdx_set {ks : List Value} {j : Nat} {w : Value} {f g : Nat → Value → Value} (ho : ∀ i z, i ≠ j → g i z = f i z) : (ks.set j w).mapIdx g = (ks.mapIdx f).set j (g j w) := by
  apply List.ext_getElem?
  intro i
  by_cases hi : i = j
  · subst hi
    by_cases hl : i < ks.length
    · rw [List.getElem?_mapIdx, List.getElem?_set_self hl, List.getElem?_set_self (by rw [List.length_mapIdx]; exact hl)]
      rfl
    · rw [List.getElem?_eq_none (by rw [List.length_mapIdx, List.length_set]; omega), List.getElem?_eq_none (by rw [List.length_set, List.length_mapIdx]; omega)]
  · rw [List.getElem?_mapIdx, List.getElem?_set_ne (Ne.symm hi), List.getElem?_set_ne (Ne.symm hi), List.getElem?_mapIdx]
    cases ks[i]? with
    | none => rfl
    | some z => show some (g i z) = some (f i z); rw [ho i z hi]
theorem hx_set_same {α : Type} {l : List α} {j : Nat} {w : α} (h : hx_nth l j = some w) : l.set j w = l := by
  apply List.ext_getElem?
  intro i
  by_cases hi : i = j
  · subst hi
    rw [hx_nth_eq] at h
    rw [List.getElem?_set_self (List.getElem?_eq_some_iff.mp h).1, h]
  · rw [List.getElem?_set_ne (Ne.symm hi)]
theorem hx_lt_nth {α : Type} {l : List α} {j : Nat} {w : α} (h : hx_nth l j = some w) : j < l.length := by
  rw [hx_nth_eq] at h
  exact (List.getElem?_eq_some_iff.mp h).1
theorem hx_T_same {ac : Nat → ClassId} {Hs H2 : hx_HS} (h : hx_T s ac Hs) (e1 : H2.1 = Hs.1) : hx_T s ac H2 := fun k o hk => h k o (by rw [← e1]; exact hk)
theorem hx_s_put {i ci j : Nat} (hx : p.tables.exec = Jvm.exec) (hb : c.code = hx_by k) (hown : s.vm.findClass (hx_R (hx_own k)) = some m.cls) (hts : ∀ w ∈ hx_LW, w.before args s = true) (hK : va_K (dC, dI) vwCl [] s) (hini : (hx_y k).name = "<init>" → meth.name = "<init>") (hd : decode (hx_by k) pc = .ok (.putfield i, 3)) (hl : hx_has hx_FL (hx_own k, i, ci, j) = true)
    (hfin : (match hx_nth vwCl ci with
      | some (_, T, _) => decide ((T j).2.2.2 = false) || (decide ((hx_y k).name = "<init>") && decide (hx_own k = ci))
      | none => false) = true)
    (h : hx_put (hx_fty ci j) ci j pc ls st Hs u = some (.inl fs)) (K : hx_Wt p l e R s m args below meth c Q dC dI A b G k fs) : hx_Wt p l e R s m args below meth c Q dC dI A b G k (pc, ls, st, Hs, u) := by
  obtain ⟨C, T, N, hC, hci, hj, hTC, hw⟩ := hx_FL_at hl
  rw [hC] at hfin
  simp only [Bool.or_eq_true, Bool.and_eq_true, decide_eq_true_eq] at hfin
  unfold hx_put at h
  split at h
  · rename_i v a r
    split at h
    · rename_i c9 ks hcell
      split at h
      · rename_i hcc
        subst hcc
        have hlk : a < Hs.1.length := hx_lt_nth hcell
        split at h
        · rename_i z x hw9
          split at h
          · rename_i hfit
            obtain ⟨hn, hf⟩ := hx_fit_ok hfit
            have e1 := hx_k_inj h
            subst e1
            intro H locs ad ac lc hI hL
            have he := hx_ws_at (ad := ad) (ac := ac) (b := b) hcell
            refine hx_putw hx hb hown hts hK hd hC hci hj hTC hw hini hfin hI.1 hI.2.1 hI.2.2.1 he hn hf (by rw [List.length_mapIdx]; exact hx_lt_nth hw9) (fun H1 locs1 hP hD hS => ?_)
            have e2 : hx_ws ad ac b (Hs.1, hx_up Hs.2.1 a j x, Hs.2.2) = (hx_ws ad ac b Hs).set a (ad a, .inr (c9, (ks.mapIdx (fun j w => hx_cv ad b (hx_fv w (Hs.2.1 a j) (Hs.2.2 a j)))).set j (.int x))) := by
              rw [hx_ws_set (Hs := Hs) (H2 := (Hs.1, hx_up Hs.2.1 a j x, Hs.2.2)) (k := a) (e := .inl (c9, ks)) hcell rfl (fun z hz => ⟨rfl, hx_up_ne hz, rfl⟩)]
              congr 2
              show Sum.inr (c9, ks.mapIdx _) = _
              congr 2
              have := hx_mapIdx_set (ks := ks) (j := j) (w := .int z) (f := fun j w => hx_cv ad b (hx_fv w (Hs.2.1 a j) (Hs.2.2 a j))) (g := fun j2 w => hx_cv ad b (hx_fv w ((hx_up Hs.2.1 a j x) a j2) (Hs.2.2 a j2))) (fun i w hi => by simp only [hx_up_eq, if_neg hi])
              rw [hx_set_same hw9] at this
              rw [this]
              congr 1
              show Value.int (hx_up Hs.2.1 a j x a j) = _
              rw [hx_up_eq]
              simp
            exact K H1 locs1 ad ac lc ⟨by rw [e2]; exact hP, by rw [e2]; exact hD, hS, hx_T_same hI.2.2.2.1 rfl, hx_G_same hI.2.2.2.2 rfl⟩ hL
          · cases h
        · rename_i z x hw9
          split at h
          · rename_i hfit
            have e1 := hx_k_inj h
            subst e1
            intro H locs ad ac lc hI hL
            have he := hx_ws_at (ad := ad) (ac := ac) (b := b) hcell
            refine hx_putw hx hb hown hts hK hd hC hci hj hTC hw hini hfin hI.1 hI.2.1 hI.2.2.1 he (by rw [hfit]; rfl) (by rw [hfit]; rfl) (by rw [List.length_mapIdx]; exact hx_lt_nth hw9) (fun H1 locs1 hP hD hS => ?_)
            have e2 : hx_ws ad ac b (Hs.1, Hs.2.1, hx_up Hs.2.2 a j x) = (hx_ws ad ac b Hs).set a (ad a, .inr (c9, (ks.mapIdx (fun j w => hx_cv ad b (hx_fv w (Hs.2.1 a j) (Hs.2.2 a j)))).set j (.long x))) := by
              rw [hx_ws_set (Hs := Hs) (H2 := (Hs.1, Hs.2.1, hx_up Hs.2.2 a j x)) (k := a) (e := .inl (c9, ks)) hcell rfl (fun z hz => ⟨rfl, rfl, hx_up_ne hz⟩)]
              congr 2
              show Sum.inr (c9, ks.mapIdx _) = _
              congr 2
              have := hx_mapIdx_set (ks := ks) (j := j) (w := .long z) (f := fun j w => hx_cv ad b (hx_fv w (Hs.2.1 a j) (Hs.2.2 a j))) (g := fun j2 w => hx_cv ad b (hx_fv w (Hs.2.1 a j2) ((hx_up Hs.2.2 a j x) a j2))) (fun i w hi => by simp only [hx_up_eq, if_neg hi])
              rw [hx_set_same hw9] at this
              rw [this]
              congr 1
              show Value.long (hx_up Hs.2.2 a j x a j) = _
              rw [hx_up_eq]
              simp
            exact K H1 locs1 ad ac lc ⟨by rw [e2]; exact hP, by rw [e2]; exact hD, hS, hx_T_same hI.2.2.2.1 rfl, hx_G_same hI.2.2.2.2 rfl⟩ hL
          · cases h
        · rename_i q hw9
          split at h
          · rename_i hfit
            obtain ⟨hn, hf⟩ := hx_rty_ok (q := q) hfit
            have e1 := hx_k_inj h
            subst e1
            intro H locs ad ac lc hI hL
            have he := hx_ws_at (ad := ad) (ac := ac) (b := b) hcell
            obtain ⟨hn2, hf2⟩ := hx_rty_ok (q := ad q) hfit
            refine hx_putw hx hb hown hts hK hd hC hci hj hTC hw hini hfin hI.1 hI.2.1 hI.2.2.1 he (v := .ref (ad q)) hn2 hf2 (by rw [List.length_mapIdx]; exact hx_lt_nth hw9) (fun H1 locs1 hP hD hS => ?_)
            have e2 : hx_ws ad ac b (Hs.1.set a (.inl (c9, ks.set j (.ref q))), Hs.2) = (hx_ws ad ac b Hs).set a (ad a, .inr (c9, (ks.mapIdx (fun j w => hx_cv ad b (hx_fv w (Hs.2.1 a j) (Hs.2.2 a j)))).set j (.ref (ad q)))) := by
              rw [hx_ws_set (Hs := Hs) (H2 := (Hs.1.set a (.inl (c9, ks.set j (.ref q))), Hs.2)) (k := a) (e := .inl (c9, ks.set j (.ref q))) (hx_nth_set_self hlk) (List.length_set) (fun z hz => ⟨hx_nth_set_ne hz, rfl, rfl⟩)]
              congr 2
              show Sum.inr (c9, (ks.set j (.ref q)).mapIdx _) = _
              congr 2
              exact hx_mapIdx_set (fun i w hi => rfl)
            refine K H1 locs1 ad ac lc ⟨by rw [e2]; exact hP, by rw [e2]; exact hD, hS, fun k9 o hk9 => ?_, hx_G_same hI.2.2.2.2 (List.length_set)⟩ hL
            by_cases hz : k9 = a
            · subst hz
              have := hx_nth_set_eq hk9
              cases this
            · exact hI.2.2.2.1 k9 o (by rw [hx_nth_set_ne hz] at hk9; exact hk9)
          · cases h
        · cases h
      · cases h
    · cases h
  · cases h
end HXS
