/-! ===== soundness of the abstract machine, 1: lists, cells, locals ===== -/
theorem hx_nth_eq {α : Type} : ∀ (l : List α) (n : Nat), hx_nth l n = l[n]?
  | [], _ => rfl
  | _ :: _, 0 => rfl
  | _ :: l, n + 1 => by rw [List.getElem?_cons_succ]; exact hx_nth_eq l n
def hx_cv (ad : Nat → Nat) (b : Nat) : Value → Value
  | .ref k => .ref (ad k)
  | .retAddr _ => .ref b
  | v => v
def hx_ec (ad : Nat → Nat) (ac : Nat → ClassId) (b k : Nat) (e : hx_SE) (d : Nat → Int32) (g : Nat → Int64) : va_E := match e with
  | .inl o => .inr (o.1, o.2.mapIdx (fun j w => hx_cv ad b (hx_fv w (d j) (g j))))
  | .inr o => .inl (ac k, o.2.1, match o.1 with
    | .long => .inr (.inl g)
    | .object _ => .inr (.inr (.inr (.inr (fun i => match hx_nth o.2.2 i with
      | some (some q) => some (ad q)
      | _ => none))))
    | _ => .inl d)
def hx_ws (ad : Nat → Nat) (ac : Nat → ClassId) (b : Nat) (Hs : hx_HS) : va_W := Hs.1.mapIdx (fun k e => (ad k, hx_ec ad ac b k e (Hs.2.1 k) (Hs.2.2 k)))
theorem hx_ws_at {ad : Nat → Nat} {ac : Nat → ClassId} {b : Nat} {Hs : hx_HS} {k : Nat} {e : hx_SE} (h : hx_nth Hs.1 k = some e) : (hx_ws ad ac b Hs)[k]? = some (ad k, hx_ec ad ac b k e (Hs.2.1 k) (Hs.2.2 k)) := by
  rw [hx_nth_eq] at h
  unfold hx_ws
  rw [List.getElem?_mapIdx, h]
  rfl
theorem hx_ws_len {ad : Nat → Nat} {ac : Nat → ClassId} {b : Nat} {Hs : hx_HS} : (hx_ws ad ac b Hs).length = Hs.1.length := by unfold hx_ws; rw [List.length_mapIdx]
/-- one cell of it changes -/
theorem hx_ws_set {ad : Nat → Nat} {ac : Nat → ClassId} {b : Nat} {Hs H2 : hx_HS} {k : Nat} {e : hx_SE} (hk : hx_nth H2.1 k = some e) (hl : H2.1.length = Hs.1.length) (ho : ∀ j, j ≠ k → hx_nth H2.1 j = hx_nth Hs.1 j ∧ H2.2.1 j = Hs.2.1 j ∧ H2.2.2 j = Hs.2.2 j) :
    hx_ws ad ac b H2 = (hx_ws ad ac b Hs).set k (ad k, hx_ec ad ac b k e (H2.2.1 k) (H2.2.2 k)) := by
  apply List.ext_getElem?
  intro j
  by_cases hj : j = k
  · subst hj
    have hlt : j < (hx_ws ad ac b Hs).length := by
      rw [hx_ws_len, ← hl]
      rw [hx_nth_eq] at hk
      exact (List.getElem?_eq_some_iff.mp hk).1
    rw [hx_ws_at hk, List.getElem?_set_self hlt]
  · rw [List.getElem?_set_ne (Ne.symm hj)]
    obtain ⟨h1, h2, h3⟩ := ho j hj
    rw [hx_nth_eq, hx_nth_eq] at h1
    unfold hx_ws
    rw [List.getElem?_mapIdx, List.getElem?_mapIdx, h1, h2, h3]
theorem hx_up_ne {α : Type} {d : Nat → Nat → α} {k i j : Nat} {x : α} (h : j ≠ k) : hx_up d k i x j = d j := by
  funext a
  unfold hx_up
  rw [if_neg h]
theorem hx_up_eq {α : Type} {d : Nat → Nat → α} {k i : Nat} {x : α} : hx_up d k i x k = fun j => if j = i then x else d k j := by
  funext a
  unfold hx_up
  rw [if_pos rfl]
theorem hx_row_ne {α : Type} {d : Nat → Nat → α} {k j : Nat} {f : Nat → α} (h : j ≠ k) : hx_row d k f j = d j := by
  unfold hx_row
  rw [if_neg h]
theorem hx_row_eq {α : Type} {d : Nat → Nat → α} {k : Nat} {f : Nat → α} : hx_row d k f k = f := by
  unfold hx_row
  rw [if_pos rfl]
theorem hx_cv_cat (ad : Nat → Nat) (b : Nat) (v : Value) : (hx_cv ad b v).category = v.category := by cases v <;> rfl
theorem hx_c2_cat (v : Value) : hx_c2 v = true ↔ v.category = 2 := by cases v <;> simp [hx_c2, Value.category]
theorem hx_c2_no {v : Value} (h : hx_c2 v = false) : v.category = 1 := by cases v <;> first | rfl | cases h
theorem hx_cat_map (ad : Nat → Nat) (b : Nat) (st : List Value) : ((st.map (hx_cv ad b)).map fun v => v.category).sum = hx_cat st := by
  unfold hx_cat
  rw [List.map_map]
  congr 1
  apply List.map_congr_left
  intro v _
  exact hx_cv_cat ad b v
/-- the locals: those that are known -/
def hx_L (ad : Nat → Nat) (b : Nat) (lc : Array Slot) (nL : Nat) (ls : List (Option Value)) : Prop := lc.size = nL ∧ ls.length = nL ∧ lv_wf lc ∧ ∀ (i : Nat) (v : Value), hx_nth ls i = some (some v) → lc[i]? = some (.val (hx_cv ad b v))
def hx_as (ad : Nat → Nat) (b : Nat) : Nat → List (Option Value) → List (Nat × Value)
  | _, [] => []
  | i, none :: l => hx_as ad b (i + 1) l
  | i, some v :: l => (i, hx_cv ad b v) :: hx_as ad b (i + 1) l
theorem hx_as_mem {ad : Nat → Nat} {b : Nat} {q : Nat × Value} : ∀ {ls : List (Option Value)} {i : Nat}, q ∈ hx_as ad b i ls → ∃ (j : Nat) (v : Value), q = (i + j, hx_cv ad b v) ∧ hx_nth ls j = some (some v)
  | [], _, h => by cases h
  | none :: l, i, h => by
    obtain ⟨j, v, h1, h2⟩ := hx_as_mem (ls := l) (i := i + 1) h
    exact ⟨j + 1, v, by rw [h1]; congr 1; omega, h2⟩
  | some v :: l, i, h => by
    rcases List.mem_cons.mp h with h | h
    · exact ⟨0, v, h, rfl⟩
    · obtain ⟨j, w, h1, h2⟩ := hx_as_mem (ls := l) (i := i + 1) h
      exact ⟨j + 1, w, by rw [h1]; congr 1; omega, h2⟩
theorem hx_as_in {ad : Nat → Nat} {b : Nat} {v : Value} : ∀ {ls : List (Option Value)} {i j : Nat}, hx_nth ls j = some (some v) → (i + j, hx_cv ad b v) ∈ hx_as ad b i ls
  | [], _, _, h => by cases h
  | none :: l, i, 0, h => by cases h
  | none :: l, i, j + 1, h => by
    have := hx_as_in (ls := l) (i := i + 1) (j := j) (ad := ad) (b := b) h
    rwa [show i + 1 + j = i + (j + 1) by omega] at this
  | some w :: l, i, 0, h => by
    cases h
    exact List.mem_cons_self
  | some w :: l, i, j + 1, h => by
    have := hx_as_in (ls := l) (i := i + 1) (j := j) (ad := ad) (b := b) h
    rw [show i + 1 + j = i + (j + 1) by omega] at this
    exact List.mem_cons_of_mem _ this
theorem hx_L.has {ad : Nat → Nat} {b : Nat} {lc : Array Slot} {nL : Nat} {ls : List (Option Value)} (h : hx_L ad b lc nL ls) : lv_has lc nL (hx_as ad b 0 ls) := by
  refine ⟨h.1, h.2.2.1, fun q hq => ?_⟩
  obtain ⟨j, v, h1, h2⟩ := hx_as_mem hq
  subst h1
  have := h.2.2.2 j v h2
  rw [Nat.zero_add]
  exact this
theorem hx_nth_set_ne {α : Type} {l : List α} {i j : Nat} {x : α} (h : j ≠ i) : hx_nth (l.set i x) j = hx_nth l j := by
  rw [hx_nth_eq, hx_nth_eq, List.getElem?_set_ne (Ne.symm h)]
theorem hx_nth_set_eq {α : Type} {l : List α} {i : Nat} {x y : α} (h : hx_nth (l.set i x) i = some y) : y = x := by
  rw [hx_nth_eq] at h
  by_cases hl : i < l.length
  · rw [List.getElem?_set_self hl] at h
    exact (Option.some.inj h).symm
  · rw [List.getElem?_eq_none (by rw [List.length_set]; omega)] at h
    cases h
theorem hx_nth_set_self {α : Type} {l : List α} {i : Nat} {x : α} (h : i < l.length) : hx_nth (l.set i x) i = some x := by
  rw [hx_nth_eq, List.getElem?_set_self h]
theorem hx_kill_spec {ls : List (Option Value)} {i j : Nat} {w : Value} (h : hx_nth (hx_kill ls i) j = some (some w)) : hx_nth ls j = some (some w) ∧ ¬ (j + 1 = i ∧ w.category = 2) := by
  unfold hx_kill at h
  cases i with
  | zero => exact ⟨h, by omega⟩
  | succ i =>
    dsimp only at h
    cases hz : hx_nth ls i with
    | none =>
      rw [hz] at h
      refine ⟨h, fun q => ?_⟩
      obtain ⟨q1, q2⟩ := q
      have : j = i := by omega
      subst this
      rw [hz] at h
      cases h
    | some o =>
      rw [hz] at h
      cases o with
      | none =>
        refine ⟨h, fun q => ?_⟩
        obtain ⟨q1, q2⟩ := q
        have : j = i := by omega
        subst this
        rw [hz] at h
        cases h
      | some v =>
        dsimp only at h
        by_cases hc : hx_c2 v = true
        · rw [if_pos hc] at h
          by_cases hj : j = i
          · subst hj
            have := hx_nth_set_eq h
            cases this
          · rw [hx_nth_set_ne hj] at h
            exact ⟨h, by omega⟩
        · rw [if_neg hc] at h
          refine ⟨h, fun q => ?_⟩
          obtain ⟨q1, q2⟩ := q
          have : j = i := by omega
          subst this
          rw [hz] at h
          cases h
          exact hc ((hx_c2_cat _).mpr q2)
theorem hx_kill_len (ls : List (Option Value)) (i : Nat) : (hx_kill ls i).length = ls.length := by
  unfold hx_kill
  split
  · rfl
  · split
    · split
      · rw [List.length_set]
      · rfl
    · rfl
theorem hx_st1_L {ad : Nat → Nat} {b : Nat} {lc : Array Slot} {nL i : Nat} {ls : List (Option Value)} {v : Value} (hn : ls.length = nL) (h : lv_has lc nL ((i, hx_cv ad b v) :: (hx_as ad b 0 ls).filter (fun q => !(q.1 == i) && !(q.1 + 1 == i && q.2.category == 2)))) : hx_L ad b lc nL (hx_st1 ls i (some v)) := by
  refine ⟨h.1, by unfold hx_st1; rw [List.length_set, hx_kill_len, hn], h.2.1, fun j w hw => ?_⟩
  unfold hx_st1 at hw
  by_cases hj : j = i
  · subst hj
    have := hx_nth_set_eq hw
    cases this
    exact h.2.2 (j, hx_cv ad b v) List.mem_cons_self
  · rw [hx_nth_set_ne hj] at hw
    obtain ⟨h1, h2⟩ := hx_kill_spec hw
    have hm := hx_as_in (ad := ad) (b := b) (i := 0) h1
    rw [Nat.zero_add] at hm
    refine h.2.2 (j, hx_cv ad b w) (List.mem_cons_of_mem _ (List.mem_filter.mpr ⟨hm, ?_⟩))
    simp only [Bool.and_eq_true, Bool.not_eq_true', beq_eq_false_iff_ne, ne_eq, Bool.and_eq_false_iff, hx_cv_cat]
    refine ⟨hj, ?_⟩
    by_cases hji : j + 1 = i
    · exact Or.inr (fun q => h2 ⟨hji, q⟩)
    · exact Or.inl hji
theorem hx_st1_none {ad : Nat → Nat} {b : Nat} {lc : Array Slot} {nL i : Nat} {ls : List (Option Value)} {x : Value} (hn : ls.length = nL) (h : lv_has lc nL ((i, x) :: (hx_as ad b 0 ls).filter (fun q => !(q.1 == i) && !(q.1 + 1 == i && q.2.category == 2)))) : hx_L ad b lc nL (hx_st1 ls i none) := by
  refine ⟨h.1, by unfold hx_st1; rw [List.length_set, hx_kill_len, hn], h.2.1, fun j w hw => ?_⟩
  unfold hx_st1 at hw
  by_cases hj : j = i
  · subst hj
    have := hx_nth_set_eq hw
    cases this
  · rw [hx_nth_set_ne hj] at hw
    obtain ⟨h1, h2⟩ := hx_kill_spec hw
    have hm := hx_as_in (ad := ad) (b := b) (i := 0) h1
    rw [Nat.zero_add] at hm
    refine h.2.2 (j, hx_cv ad b w) (List.mem_cons_of_mem _ (List.mem_filter.mpr ⟨hm, ?_⟩))
    simp only [Bool.and_eq_true, Bool.not_eq_true', beq_eq_false_iff_ne, ne_eq, Bool.and_eq_false_iff, hx_cv_cat]
    refine ⟨hj, ?_⟩
    by_cases hji : j + 1 = i
    · exact Or.inr (fun q => h2 ⟨hji, q⟩)
    · exact Or.inl hji
theorem hx_st2_L {ad : Nat → Nat} {b : Nat} {lc : Array Slot} {nL i : Nat} {ls : List (Option Value)} {v : Value} (hn : ls.length = nL) (h : lv_has lc nL ((i, hx_cv ad b v) :: (hx_as ad b 0 ls).filter (fun q => !(q.1 == i) && (!(q.1 == i + 1) && !(q.1 + 1 == i && q.2.category == 2))))) : hx_L ad b lc nL (hx_st2 ls i v) := by
  refine ⟨h.1, by unfold hx_st2; rw [List.length_set, List.length_set, hx_kill_len, hn], h.2.1, fun j w hw => ?_⟩
  unfold hx_st2 at hw
  by_cases hj2 : j = i + 1
  · subst hj2
    have := hx_nth_set_eq hw
    cases this
  · rw [hx_nth_set_ne hj2] at hw
    by_cases hj : j = i
    · subst hj
      have := hx_nth_set_eq hw
      cases this
      exact h.2.2 (j, hx_cv ad b v) List.mem_cons_self
    · rw [hx_nth_set_ne hj] at hw
      obtain ⟨h1, h2⟩ := hx_kill_spec hw
      have hm := hx_as_in (ad := ad) (b := b) (i := 0) h1
      rw [Nat.zero_add] at hm
      refine h.2.2 (j, hx_cv ad b w) (List.mem_cons_of_mem _ (List.mem_filter.mpr ⟨hm, ?_⟩))
      simp only [Bool.and_eq_true, Bool.not_eq_true', beq_eq_false_iff_ne, ne_eq, Bool.and_eq_false_iff, hx_cv_cat]
      refine ⟨hj, hj2, ?_⟩
      by_cases hji : j + 1 = i
      · exact Or.inr (fun q => h2 ⟨hji, q⟩)
      · exact Or.inl hji
