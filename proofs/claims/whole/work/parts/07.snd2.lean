/-! ===== soundness, 3: a frame's standing facts; the plain instructions ===== -/
def hx_T (s : State) (ac : Nat → ClassId) (Hs : hx_HS) : Prop := ∀ (k : Nat) (o : FieldType × Nat × List (Option Nat)), hx_nth Hs.1 k = some (.inr o) → ArrOfT s (ac k) o.1 ∧ va_RA s (ac k) o.1
/-- the addresses that stood at the start are as they were -/
def hx_G (G : Nat × (Nat → Nat)) (ad : Nat → Nat) (Hs : hx_HS) : Prop := G.1 ≤ Hs.1.length ∧ ∀ z, z < G.1 → ad z = G.2 z
theorem hx_G_same {G : Nat × (Nat → Nat)} {ad : Nat → Nat} {Hs H2 : hx_HS} (h : hx_G G ad Hs) (e : H2.1.length = Hs.1.length) : hx_G G ad H2 := ⟨by rw [e]; exact h.1, h.2⟩
theorem hx_G_push {G : Nat × (Nat → Nat)} {ad ad' : Nat → Nat} {Hs H2 : hx_HS} (h : hx_G G ad Hs) (ag : ∀ z, z < Hs.1.length → ad' z = ad z) (e : Hs.1.length ≤ H2.1.length) : hx_G G ad' H2 := ⟨Nat.le_trans h.1 e, fun z hz => by rw [ag z (Nat.lt_of_lt_of_le hz h.1)]; exact h.2 z hz⟩
def hx_I (dC : Nat → ClassId) (dI : Nat → Nat → Nat) (A : Nat → Prop) (s : State) (b : Nat) (G : Nat × (Nat → Nat)) (H : Heap) (locs : List Loc) (ad : Nat → Nat) (ac : Nat → ClassId) (Hs : hx_HS) : Prop := va_P (dC, dI) vwCl (hx_ws ad ac b Hs) H ∧ va_D A (hx_ws ad ac b Hs) ∧ va_S A s.heap H locs ∧ hx_T s ac Hs ∧ hx_G G ad Hs
def hx_St (sc : Nat × (Nat → Int32)) (b : Nat) (A : Nat → Prop) (U : State) (H : Heap) : Prop :=
  va_X b sc.1 sc.2 U H ∧ b < H.size ∧ ¬ A b ∧ vx_Zq Bundle.tN "UNASSIGNED_STACK" Bundle.steD A U H ∧ vx_Zq Bundle.tN "SUPPRESSED_SENTINEL" Bundle.listD A U H ∧ (∀ q ∈ hx_strs, ∃ a, vk_R q.1 q.2.1 q.2.2 a U) ∧ va_AO RX3 U ∧ (∀ q ∈ hx_nests, va_Nw (.methodLinkNest RX4 q.1 q.2 RX4) U) ∧ (∀ q ∈ hx_ncs, va_Nc q.1 q.2 U) ∧ (∀ w ∈ hx_xw, va_Nw w U)
def hx_F (p : Program) (l : Launch) (R : Room) (s : State) (m : MethodId) (args : Array Value) (meth : Method) (c : Code) (dC : Nat → ClassId) (dI : Nat → Nat → Nat) (A : Nat → Prop) (b : Nat) (sc : Nat × (Nat → Int32)) (d k : Nat) : Prop :=
  p.tables.exec = Jvm.exec ∧ c.code = hx_by k ∧ c.maxLocals = hx_ml k ∧ s.vm.findClass (hx_R (hx_own k)) = some m.cls ∧ (∀ w ∈ hx_LW, w.before args s = true) ∧ meth.sig.returnType = hx_rt k ∧ meth.locks = false ∧ (hx_hh k ≠ [] → c.exceptionTable.toList = tableOf (hx_hh k)) ∧ l.stackTraces = false ∧ va_K (dC, dI) vwCl [] s ∧ (∀ q, s.heap.size ≤ q → A q) ∧ hx_St sc b A s s.heap ∧ (d + 20 ≤ R.frames ∧ 60 * d + 200 ≤ R.locals ∧ hx_bud k ≤ R.cells ∧ 1000 * hx_bud k ≤ R.slots) ∧ ((hx_y k).name = "<init>" → meth.name = "<init>")
section HXS
variable {p : Program} {l : Launch} {e : Env} {R : Room} {s : State} {m : MethodId} {args : Array Value} {below : List Frame} {meth : Method} {c : Code} {Q : State → Prop}
variable {dC : Nat → ClassId} {dI : Nat → Nat → Nat} {A : Nat → Prop} {b : Nat} {G : Nat × (Nat → Nat)} {sc : Nat × (Nat → Int32)} {d k : Nat}
def hx_Wt (p : Program) (l : Launch) (e : Env) (R : Room) (s : State) (m : MethodId) (args : Array Value) (below : List Frame) (meth : Method) (c : Code) (Q : State → Prop) (dC : Nat → ClassId) (dI : Nat → Nat → Nat) (A : Nat → Prop) (b : Nat) (G : Nat × (Nat → Nat)) (k : Nat) (fs : hx_FS) : Prop :=
  ∀ (H : Heap) (locs : List Loc) (ad : Nat → Nat) (ac : Nat → ClassId) (lc : Array Slot), hx_I dC dI A s b G H locs ad ac fs.2.2.2.1 → hx_L ad b lc (hx_ml k) fs.2.1 → W p l e R s m args below meth c H locs fs.2.2.2.2 (1000 * fs.2.2.2.2) Q (F0 m fs.1 lc (fs.2.2.1.map (hx_cv ad b)))
variable {pc : Nat} {ls : List (Option Value)} {st : List Value} {Hs : hx_HS} {u : Nat} {fs : hx_FS}
theorem hx_k_inj {pc : Nat} {ls : List (Option Value)} {st : List Value} {Hs : hx_HS} {u : Nat} {fs : hx_FS} (h : hx_k pc ls st Hs u = some (.inl fs)) : fs = (pc, ls, st, Hs, u) := by
  unfold hx_k at h
  cases h
  rfl
theorem hx_drop_L {ad : Nat → Nat} {b : Nat} {lc : Array Slot} {nL : Nat} : ∀ (tg : List Nat) {ls : List (Option Value)}, hx_L ad b lc nL ls → hx_L ad b lc nL (hx_drop tg ls)
  | [], _, h => h
  | i :: t, ls, h => by
    refine hx_drop_L t (ls := ls.set i none) ⟨h.1, by rw [List.length_set]; exact h.2.1, h.2.2.1, fun j v hj => ?_⟩
    by_cases hz : j = i
    · subst hz
      have := hx_nth_set_eq hj
      cases this
    · rw [hx_nth_set_ne hz] at hj
      exact h.2.2.2 j v hj
/-- a push of a value that is itself -/
theorem hx_s_push {n : Nat} {v : Value} (hv : ∀ ad, hx_cv ad b v = v) (row : ∀ {H : Heap} {locs : List Loc} {cells slots : Nat} {lc : Array Slot} {rest : List Value}, W p l e R s m args below meth c H locs cells slots Q (F0 m (pc + n) lc (v :: rest)) → W p l e R s m args below meth c H locs cells slots Q (F0 m pc lc rest))
    (h : hx_k (pc + n) ls (v :: st) Hs u = some (.inl fs)) (K : hx_Wt p l e R s m args below meth c Q dC dI A b G k fs) : hx_Wt p l e R s m args below meth c Q dC dI A b G k (pc, ls, st, Hs, u) := by
  have e1 := hx_k_inj h
  subst e1
  intro H locs ad ac lc hI hL
  refine row ?_
  have := K H locs ad ac lc hI hL
  simp only [List.map_cons, hv] at this
  exact this
theorem hx_s_ild {i n : Nat} (row : ∀ {H : Heap} {locs : List Loc} {cells slots : Nat} {lc : Array Slot} {rest : List Value} {x : Int32}, lc[i]? = some (.val (.int x)) → W p l e R s m args below meth c H locs cells slots Q (F0 m (pc + n) lc (.int x :: rest)) → W p l e R s m args below meth c H locs cells slots Q (F0 m pc lc rest))
    (h : hx_ild i n pc ls st Hs u = some (.inl fs)) (K : hx_Wt p l e R s m args below meth c Q dC dI A b G k fs) : hx_Wt p l e R s m args below meth c Q dC dI A b G k (pc, ls, st, Hs, u) := by
  unfold hx_ild at h
  split at h
  · rename_i x hx
    have e1 := hx_k_inj h
    subst e1
    intro H locs ad ac lc hI hL
    exact row (hL.2.2.2 i _ hx) (K H locs ad ac lc hI hL)
  · cases h
theorem hx_s_lld {i n : Nat} (row : ∀ {H : Heap} {locs : List Loc} {cells slots : Nat} {lc : Array Slot} {rest : List Value} {x : Int64}, lc[i]? = some (.val (.long x)) → W p l e R s m args below meth c H locs cells slots Q (F0 m (pc + n) lc (.long x :: rest)) → W p l e R s m args below meth c H locs cells slots Q (F0 m pc lc rest))
    (h : hx_lld i n pc ls st Hs u = some (.inl fs)) (K : hx_Wt p l e R s m args below meth c Q dC dI A b G k fs) : hx_Wt p l e R s m args below meth c Q dC dI A b G k (pc, ls, st, Hs, u) := by
  unfold hx_lld at h
  split at h
  · rename_i x hx
    have e1 := hx_k_inj h
    subst e1
    intro H locs ad ac lc hI hL
    exact row (hL.2.2.2 i _ hx) (K H locs ad ac lc hI hL)
  · cases h
theorem hx_s_fld {i n : Nat} (row : ∀ {H : Heap} {locs : List Loc} {cells slots : Nat} {lc : Array Slot} {rest : List Value} {x : UInt32}, lc[i]? = some (.val (.float x)) → W p l e R s m args below meth c H locs cells slots Q (F0 m (pc + n) lc (.float x :: rest)) → W p l e R s m args below meth c H locs cells slots Q (F0 m pc lc rest))
    (h : hx_fld i n pc ls st Hs u = some (.inl fs)) (K : hx_Wt p l e R s m args below meth c Q dC dI A b G k fs) : hx_Wt p l e R s m args below meth c Q dC dI A b G k (pc, ls, st, Hs, u) := by
  unfold hx_fld at h
  split at h
  · rename_i x hx
    have e1 := hx_k_inj h
    subst e1
    intro H locs ad ac lc hI hL
    exact row (hL.2.2.2 i _ hx) (K H locs ad ac lc hI hL)
  · cases h
theorem hx_s_dld {i n : Nat} (row : ∀ {H : Heap} {locs : List Loc} {cells slots : Nat} {lc : Array Slot} {rest : List Value} {x : UInt64}, lc[i]? = some (.val (.double x)) → W p l e R s m args below meth c H locs cells slots Q (F0 m (pc + n) lc (.double x :: rest)) → W p l e R s m args below meth c H locs cells slots Q (F0 m pc lc rest))
    (h : hx_dld i n pc ls st Hs u = some (.inl fs)) (K : hx_Wt p l e R s m args below meth c Q dC dI A b G k fs) : hx_Wt p l e R s m args below meth c Q dC dI A b G k (pc, ls, st, Hs, u) := by
  unfold hx_dld at h
  split at h
  · rename_i x hx
    have e1 := hx_k_inj h
    subst e1
    intro H locs ad ac lc hI hL
    exact row (hL.2.2.2 i _ hx) (K H locs ad ac lc hI hL)
  · cases h
theorem hx_s_ald {i n : Nat} (row : ∀ {H : Heap} {locs : List Loc} {cells slots : Nat} {lc : Array Slot} {rest : List Value} {x : Nat}, lc[i]? = some (.val (.ref x)) → W p l e R s m args below meth c H locs cells slots Q (F0 m (pc + n) lc (.ref x :: rest)) → W p l e R s m args below meth c H locs cells slots Q (F0 m pc lc rest))
    (h : hx_ald i n pc ls st Hs u = some (.inl fs)) (K : hx_Wt p l e R s m args below meth c Q dC dI A b G k fs) : hx_Wt p l e R s m args below meth c Q dC dI A b G k (pc, ls, st, Hs, u) := by
  unfold hx_ald at h
  split at h
  · rename_i x hx
    have e1 := hx_k_inj h
    subst e1
    intro H locs ad ac lc hI hL
    exact row (hL.2.2.2 i _ hx) (K H locs ad ac lc hI hL)
  · rename_i x hx
    have e1 := hx_k_inj h
    subst e1
    intro H locs ad ac lc hI hL
    exact row (hL.2.2.2 i _ hx) (K H locs ad ac lc hI hL)
  · cases h
/-- stores of one slot -/
theorem hx_s_ist {tg : List Nat} {i n : Nat} (row : ∀ {H : Heap} {locs : List Loc} {cells slots : Nat} {lc : Array Slot} {rest : List Value} {x : Int32} {lv : List (Nat × Value)}, lv_has lc (hx_ml k) lv → i < hx_ml k → (∀ lc' : Array Slot, lv_has lc' (hx_ml k) ((i, Value.int x) :: lv.filter (fun q => !(q.1 == i) && !(q.1 + 1 == i && q.2.category == 2))) → W p l e R s m args below meth c H locs cells slots Q (F0 m (pc + n) lc' rest)) → W p l e R s m args below meth c H locs cells slots Q (F0 m pc lc (.int x :: rest)))
    (h : hx_ist tg i n pc ls st Hs u = some (.inl fs)) (K : hx_Wt p l e R s m args below meth c Q dC dI A b G k fs) : hx_Wt p l e R s m args below meth c Q dC dI A b G k (pc, ls, st, Hs, u) := by
  unfold hx_ist at h
  split at h
  · rename_i x r
    split at h
    · rename_i hi
      have e1 := hx_k_inj h
      subst e1
      intro H locs ad ac lc hI hL
      exact row hL.has (by rw [← hL.2.1]; exact hi) (fun lc' hl' => K H locs ad ac lc' hI (hx_drop_L tg (hx_st1_L (v := .int x) hL.2.1 hl')))
    · cases h
  · cases h
theorem hx_s_fst {tg : List Nat} {i n : Nat} (row : ∀ {H : Heap} {locs : List Loc} {cells slots : Nat} {lc : Array Slot} {rest : List Value} {x : UInt32} {lv : List (Nat × Value)}, lv_has lc (hx_ml k) lv → i < hx_ml k → (∀ lc' : Array Slot, lv_has lc' (hx_ml k) ((i, Value.float x) :: lv.filter (fun q => !(q.1 == i) && !(q.1 + 1 == i && q.2.category == 2))) → W p l e R s m args below meth c H locs cells slots Q (F0 m (pc + n) lc' rest)) → W p l e R s m args below meth c H locs cells slots Q (F0 m pc lc (.float x :: rest)))
    (h : hx_fst tg i n pc ls st Hs u = some (.inl fs)) (K : hx_Wt p l e R s m args below meth c Q dC dI A b G k fs) : hx_Wt p l e R s m args below meth c Q dC dI A b G k (pc, ls, st, Hs, u) := by
  unfold hx_fst at h
  split at h
  · rename_i x r
    split at h
    · rename_i hi
      have e1 := hx_k_inj h
      subst e1
      intro H locs ad ac lc hI hL
      exact row hL.has (by rw [← hL.2.1]; exact hi) (fun lc' hl' => K H locs ad ac lc' hI (hx_drop_L tg (hx_st1_L (v := .float x) hL.2.1 hl')))
    · cases h
  · cases h
theorem hx_s_ast {tg : List Nat} {i n : Nat} (row : ∀ {H : Heap} {locs : List Loc} {cells slots : Nat} {lc : Array Slot} {rest : List Value} {x : Nat} {lv : List (Nat × Value)}, lv_has lc (hx_ml k) lv → i < hx_ml k → (∀ lc' : Array Slot, lv_has lc' (hx_ml k) ((i, Value.ref x) :: lv.filter (fun q => !(q.1 == i) && !(q.1 + 1 == i && q.2.category == 2))) → W p l e R s m args below meth c H locs cells slots Q (F0 m (pc + n) lc' rest)) → W p l e R s m args below meth c H locs cells slots Q (F0 m pc lc (.ref x :: rest)))
    (h : hx_ast tg i n pc ls st Hs u = some (.inl fs)) (K : hx_Wt p l e R s m args below meth c Q dC dI A b G k fs) : hx_Wt p l e R s m args below meth c Q dC dI A b G k (pc, ls, st, Hs, u) := by
  unfold hx_ast at h
  split at h
  · rename_i x r
    split at h
    · rename_i hi
      have e1 := hx_k_inj h
      subst e1
      intro H locs ad ac lc hI hL
      exact row hL.has (by rw [← hL.2.1]; exact hi) (fun lc' hl' => K H locs ad ac lc' hI (hx_drop_L tg (hx_st1_L (v := .ref x) hL.2.1 hl')))
    · cases h
  · cases h
theorem hx_s_lst {tg : List Nat} {i n : Nat} (row : ∀ {H : Heap} {locs : List Loc} {cells slots : Nat} {lc : Array Slot} {rest : List Value} {x : Int64} {lv : List (Nat × Value)}, lv_has lc (hx_ml k) lv → i + 1 < hx_ml k → (∀ lc' : Array Slot, lv_has lc' (hx_ml k) ((i, Value.long x) :: lv.filter (fun q => !(q.1 == i) && (!(q.1 == i + 1) && !(q.1 + 1 == i && q.2.category == 2)))) → W p l e R s m args below meth c H locs cells slots Q (F0 m (pc + n) lc' rest)) → W p l e R s m args below meth c H locs cells slots Q (F0 m pc lc (.long x :: rest)))
    (h : hx_lst tg i n pc ls st Hs u = some (.inl fs)) (K : hx_Wt p l e R s m args below meth c Q dC dI A b G k fs) : hx_Wt p l e R s m args below meth c Q dC dI A b G k (pc, ls, st, Hs, u) := by
  unfold hx_lst at h
  split at h
  · rename_i x r
    split at h
    · rename_i hi
      have e1 := hx_k_inj h
      subst e1
      intro H locs ad ac lc hI hL
      exact row hL.has (by rw [← hL.2.1]; exact hi) (fun lc' hl' => K H locs ad ac lc' hI (hx_drop_L tg (hx_st2_L (v := .long x) hL.2.1 hl')))
    · cases h
  · cases h
theorem hx_s_dst {tg : List Nat} {i n : Nat} (row : ∀ {H : Heap} {locs : List Loc} {cells slots : Nat} {lc : Array Slot} {rest : List Value} {x : UInt64} {lv : List (Nat × Value)}, lv_has lc (hx_ml k) lv → i + 1 < hx_ml k → (∀ lc' : Array Slot, lv_has lc' (hx_ml k) ((i, Value.double x) :: lv.filter (fun q => !(q.1 == i) && (!(q.1 == i + 1) && !(q.1 + 1 == i && q.2.category == 2)))) → W p l e R s m args below meth c H locs cells slots Q (F0 m (pc + n) lc' rest)) → W p l e R s m args below meth c H locs cells slots Q (F0 m pc lc (.double x :: rest)))
    (h : hx_dst tg i n pc ls st Hs u = some (.inl fs)) (K : hx_Wt p l e R s m args below meth c Q dC dI A b G k fs) : hx_Wt p l e R s m args below meth c Q dC dI A b G k (pc, ls, st, Hs, u) := by
  unfold hx_dst at h
  split at h
  · rename_i x r
    split at h
    · rename_i hi
      have e1 := hx_k_inj h
      subst e1
      intro H locs ad ac lc hI hL
      exact row hL.has (by rw [← hL.2.1]; exact hi) (fun lc' hl' => K H locs ad ac lc' hI (hx_drop_L tg (hx_st2_L (v := .double x) hL.2.1 hl')))
    · cases h
  · cases h
theorem hx_s_inc {tg : List Nat} {i : Nat} {n : Int} (row : ∀ {H : Heap} {locs : List Loc} {cells slots : Nat} {lc : Array Slot} {rest : List Value} {x : Int32} {lv : List (Nat × Value)} {j : Nat}, lv_has lc (hx_ml k) lv → lv[j]? = some (i, .int x) → i < hx_ml k → (∀ lc' : Array Slot, lv_has lc' (hx_ml k) ((i, Value.int (x + Int32.ofInt n)) :: lv.filter (fun q => !(q.1 == i) && !(q.1 + 1 == i && q.2.category == 2))) → W p l e R s m args below meth c H locs cells slots Q (F0 m (pc + 3) lc' rest)) → W p l e R s m args below meth c H locs cells slots Q (F0 m pc lc rest))
    (h : hx_inc tg i n pc ls st Hs u = some (.inl fs)) (K : hx_Wt p l e R s m args below meth c Q dC dI A b G k fs) : hx_Wt p l e R s m args below meth c Q dC dI A b G k (pc, ls, st, Hs, u) := by
  unfold hx_inc at h
  split at h
  · rename_i x hx
    have e1 := hx_k_inj h
    subst e1
    intro H locs ad ac lc hI hL
    have hm := hx_as_in (ad := ad) (b := b) (i := 0) hx
    rw [Nat.zero_add] at hm
    obtain ⟨j, hj⟩ := List.getElem?_of_mem hm
    have hi : i < hx_ml k := by
      rw [← hL.2.1]
      rw [hx_nth_eq] at hx
      exact (List.getElem?_eq_some_iff.mp hx).1
    exact row hL.has hj hi (fun lc' hl' => K H locs ad ac lc' hI (hx_drop_L tg (hx_st1_L (v := .int (x + Int32.ofInt n)) hL.2.1 hl')))
  · cases h
theorem hx_s_ii {f : Int32 → Int32 → Int32} (row : ∀ {H : Heap} {locs : List Loc} {cells slots : Nat} {lc : Array Slot} {rest : List Value} {x y : Int32}, W p l e R s m args below meth c H locs cells slots Q (F0 m (pc + 1) lc (.int (f x y) :: rest)) → W p l e R s m args below meth c H locs cells slots Q (F0 m pc lc (.int y :: .int x :: rest)))
    (h : hx_ii f pc ls st Hs u = some (.inl fs)) (K : hx_Wt p l e R s m args below meth c Q dC dI A b G k fs) : hx_Wt p l e R s m args below meth c Q dC dI A b G k (pc, ls, st, Hs, u) := by
  unfold hx_ii at h
  split at h
  · have e1 := hx_k_inj h
    subst e1
    intro H locs ad ac lc hI hL
    exact row (K H locs ad ac lc hI hL)
  · cases h
theorem hx_s_id {f : Int32 → Int32 → Int32} (row : ∀ {H : Heap} {locs : List Loc} {cells slots : Nat} {lc : Array Slot} {rest : List Value} {x y : Int32}, ¬ y = 0 → W p l e R s m args below meth c H locs cells slots Q (F0 m (pc + 1) lc (.int (f x y) :: rest)) → W p l e R s m args below meth c H locs cells slots Q (F0 m pc lc (.int y :: .int x :: rest)))
    (h : hx_id f pc ls st Hs u = some (.inl fs)) (K : hx_Wt p l e R s m args below meth c Q dC dI A b G k fs) : hx_Wt p l e R s m args below meth c Q dC dI A b G k (pc, ls, st, Hs, u) := by
  unfold hx_id at h
  split at h
  · split at h
    · cases h
    · rename_i hy
      have e1 := hx_k_inj h
      subst e1
      intro H locs ad ac lc hI hL
      exact row hy (K H locs ad ac lc hI hL)
  · cases h
theorem hx_s_i1 {f : Int32 → Value} (hv : ∀ ad x, hx_cv ad b (f x) = f x) (row : ∀ {H : Heap} {locs : List Loc} {cells slots : Nat} {lc : Array Slot} {rest : List Value} {x : Int32}, W p l e R s m args below meth c H locs cells slots Q (F0 m (pc + 1) lc (f x :: rest)) → W p l e R s m args below meth c H locs cells slots Q (F0 m pc lc (.int x :: rest)))
    (h : hx_i1 f pc ls st Hs u = some (.inl fs)) (K : hx_Wt p l e R s m args below meth c Q dC dI A b G k fs) : hx_Wt p l e R s m args below meth c Q dC dI A b G k (pc, ls, st, Hs, u) := by
  unfold hx_i1 at h
  split at h
  · have e1 := hx_k_inj h
    subst e1
    intro H locs ad ac lc hI hL
    have := K H locs ad ac lc hI hL
    simp only [List.map_cons, hv] at this
    exact row this
  · cases h
theorem hx_s_ll {f : Int64 → Int64 → Value} (hv : ∀ ad x y, hx_cv ad b (f x y) = f x y) (row : ∀ {H : Heap} {locs : List Loc} {cells slots : Nat} {lc : Array Slot} {rest : List Value} {x y : Int64}, W p l e R s m args below meth c H locs cells slots Q (F0 m (pc + 1) lc (f x y :: rest)) → W p l e R s m args below meth c H locs cells slots Q (F0 m pc lc (.long y :: .long x :: rest)))
    (h : hx_ll f pc ls st Hs u = some (.inl fs)) (K : hx_Wt p l e R s m args below meth c Q dC dI A b G k fs) : hx_Wt p l e R s m args below meth c Q dC dI A b G k (pc, ls, st, Hs, u) := by
  unfold hx_ll at h
  split at h
  · have e1 := hx_k_inj h
    subst e1
    intro H locs ad ac lc hI hL
    have := K H locs ad ac lc hI hL
    simp only [List.map_cons, hv] at this
    exact row this
  · cases h
theorem hx_s_li {f : Int64 → Int32 → Int64} (row : ∀ {H : Heap} {locs : List Loc} {cells slots : Nat} {lc : Array Slot} {rest : List Value} {x : Int64} {y : Int32}, W p l e R s m args below meth c H locs cells slots Q (F0 m (pc + 1) lc (.long (f x y) :: rest)) → W p l e R s m args below meth c H locs cells slots Q (F0 m pc lc (.int y :: .long x :: rest)))
    (h : hx_li f pc ls st Hs u = some (.inl fs)) (K : hx_Wt p l e R s m args below meth c Q dC dI A b G k fs) : hx_Wt p l e R s m args below meth c Q dC dI A b G k (pc, ls, st, Hs, u) := by
  unfold hx_li at h
  split at h
  · have e1 := hx_k_inj h
    subst e1
    intro H locs ad ac lc hI hL
    exact row (K H locs ad ac lc hI hL)
  · cases h
theorem hx_s_ff {f : UInt32 → UInt32 → UInt32} (row : ∀ {H : Heap} {locs : List Loc} {cells slots : Nat} {lc : Array Slot} {rest : List Value} {x y : UInt32}, vf_n32 (f x y) → W p l e R s m args below meth c H locs cells slots Q (F0 m (pc + 1) lc (.float (f x y) :: rest)) → W p l e R s m args below meth c H locs cells slots Q (F0 m pc lc (.float y :: .float x :: rest)))
    (h : hx_ff f pc ls st Hs u = some (.inl fs)) (K : hx_Wt p l e R s m args below meth c Q dC dI A b G k fs) : hx_Wt p l e R s m args below meth c Q dC dI A b G k (pc, ls, st, Hs, u) := by
  unfold hx_ff at h
  split at h
  · split at h
    · rename_i hn
      have e1 := hx_k_inj h
      subst e1
      intro H locs ad ac lc hI hL
      exact row hn (K H locs ad ac lc hI hL)
    · cases h
  · cases h
theorem hx_s_dd {f : UInt64 → UInt64 → UInt64} (row : ∀ {H : Heap} {locs : List Loc} {cells slots : Nat} {lc : Array Slot} {rest : List Value} {x y : UInt64}, vf_n64 (f x y) → W p l e R s m args below meth c H locs cells slots Q (F0 m (pc + 1) lc (.double (f x y) :: rest)) → W p l e R s m args below meth c H locs cells slots Q (F0 m pc lc (.double y :: .double x :: rest)))
    (h : hx_dd f pc ls st Hs u = some (.inl fs)) (K : hx_Wt p l e R s m args below meth c Q dC dI A b G k fs) : hx_Wt p l e R s m args below meth c Q dC dI A b G k (pc, ls, st, Hs, u) := by
  unfold hx_dd at h
  split at h
  · split at h
    · rename_i hn
      have e1 := hx_k_inj h
      subst e1
      intro H locs ad ac lc hI hL
      exact row hn (K H locs ad ac lc hI hL)
    · cases h
  · cases h
theorem hx_s_fcmp {op : CmpOp} (row : ∀ {H : Heap} {locs : List Loc} {cells slots : Nat} {lc : Array Slot} {rest : List Value} {x y : UInt32}, W p l e R s m args below meth c H locs cells slots Q (F0 m (pc + 1) lc (.int (Op.cmpValue (FP.fcmp x y) op) :: rest)) → W p l e R s m args below meth c H locs cells slots Q (F0 m pc lc (.float y :: .float x :: rest)))
    (h : hx_fcmp op pc ls st Hs u = some (.inl fs)) (K : hx_Wt p l e R s m args below meth c Q dC dI A b G k fs) : hx_Wt p l e R s m args below meth c Q dC dI A b G k (pc, ls, st, Hs, u) := by
  unfold hx_fcmp at h
  split at h
  · have e1 := hx_k_inj h
    subst e1
    intro H locs ad ac lc hI hL
    exact row (K H locs ad ac lc hI hL)
  · cases h
theorem hx_s_dcmp {op : CmpOp} (row : ∀ {H : Heap} {locs : List Loc} {cells slots : Nat} {lc : Array Slot} {rest : List Value} {x y : UInt64}, W p l e R s m args below meth c H locs cells slots Q (F0 m (pc + 1) lc (.int (Op.cmpValue (FP.dcmp x y) op) :: rest)) → W p l e R s m args below meth c H locs cells slots Q (F0 m pc lc (.double y :: .double x :: rest)))
    (h : hx_dcmp op pc ls st Hs u = some (.inl fs)) (K : hx_Wt p l e R s m args below meth c Q dC dI A b G k fs) : hx_Wt p l e R s m args below meth c Q dC dI A b G k (pc, ls, st, Hs, u) := by
  unfold hx_dcmp at h
  split at h
  · have e1 := hx_k_inj h
    subst e1
    intro H locs ad ac lc hI hL
    exact row (K H locs ad ac lc hI hL)
  · cases h
theorem hx_s_fu {f : UInt32 → Value} (hv : ∀ ad x, hx_cv ad b (f x) = f x) (row : ∀ {H : Heap} {locs : List Loc} {cells slots : Nat} {lc : Array Slot} {rest : List Value} {x : UInt32}, W p l e R s m args below meth c H locs cells slots Q (F0 m (pc + 1) lc (f x :: rest)) → W p l e R s m args below meth c H locs cells slots Q (F0 m pc lc (.float x :: rest)))
    (h : hx_fu f pc ls st Hs u = some (.inl fs)) (K : hx_Wt p l e R s m args below meth c Q dC dI A b G k fs) : hx_Wt p l e R s m args below meth c Q dC dI A b G k (pc, ls, st, Hs, u) := by
  unfold hx_fu at h
  split at h
  · have e1 := hx_k_inj h
    subst e1
    intro H locs ad ac lc hI hL
    have := K H locs ad ac lc hI hL
    simp only [List.map_cons, hv] at this
    exact row this
  · cases h
theorem hx_s_f2d (row : ∀ {H : Heap} {locs : List Loc} {cells slots : Nat} {lc : Array Slot} {rest : List Value} {x : UInt32}, vf_n64 (FP.f2d x) → W p l e R s m args below meth c H locs cells slots Q (F0 m (pc + 1) lc (.double (FP.f2d x) :: rest)) → W p l e R s m args below meth c H locs cells slots Q (F0 m pc lc (.float x :: rest)))
    (h : hx_f2d pc ls st Hs u = some (.inl fs)) (K : hx_Wt p l e R s m args below meth c Q dC dI A b G k fs) : hx_Wt p l e R s m args below meth c Q dC dI A b G k (pc, ls, st, Hs, u) := by
  unfold hx_f2d at h
  split at h
  · split at h
    · rename_i hn
      have e1 := hx_k_inj h
      subst e1
      intro H locs ad ac lc hI hL
      exact row hn (K H locs ad ac lc hI hL)
    · cases h
  · cases h
theorem hx_s_d2l (row : ∀ {H : Heap} {locs : List Loc} {cells slots : Nat} {lc : Array Slot} {rest : List Value} {x : UInt64}, W p l e R s m args below meth c H locs cells slots Q (F0 m (pc + 1) lc (.long (FP.d2l x) :: rest)) → W p l e R s m args below meth c H locs cells slots Q (F0 m pc lc (.double x :: rest)))
    (h : hx_d2l pc ls st Hs u = some (.inl fs)) (K : hx_Wt p l e R s m args below meth c Q dC dI A b G k fs) : hx_Wt p l e R s m args below meth c Q dC dI A b G k (pc, ls, st, Hs, u) := by
  unfold hx_d2l at h
  split at h
  · have e1 := hx_k_inj h
    subst e1
    intro H locs ad ac lc hI hL
    exact row (K H locs ad ac lc hI hL)
  · cases h
theorem hx_s_dup (row : ∀ {H : Heap} {locs : List Loc} {cells slots : Nat} {lc : Array Slot} {rest : List Value} {v : Value}, v.category = 1 → W p l e R s m args below meth c H locs cells slots Q (F0 m (pc + 1) lc (v :: v :: rest)) → W p l e R s m args below meth c H locs cells slots Q (F0 m pc lc (v :: rest)))
    (h : hx_dup pc ls st Hs u = some (.inl fs)) (K : hx_Wt p l e R s m args below meth c Q dC dI A b G k fs) : hx_Wt p l e R s m args below meth c Q dC dI A b G k (pc, ls, st, Hs, u) := by
  unfold hx_dup at h
  split at h
  · split at h
    · cases h
    · rename_i hc
      have e1 := hx_k_inj h
      subst e1
      intro H locs ad ac lc hI hL
      exact row (by rw [hx_cv_cat]; exact hx_c2_no (Bool.eq_false_iff.mpr hc)) (K H locs ad ac lc hI hL)
  · cases h
theorem hx_s_pop (row : ∀ {H : Heap} {locs : List Loc} {cells slots : Nat} {lc : Array Slot} {rest : List Value} {v : Value}, v.category = 1 → W p l e R s m args below meth c H locs cells slots Q (F0 m (pc + 1) lc rest) → W p l e R s m args below meth c H locs cells slots Q (F0 m pc lc (v :: rest)))
    (h : hx_pop pc ls st Hs u = some (.inl fs)) (K : hx_Wt p l e R s m args below meth c Q dC dI A b G k fs) : hx_Wt p l e R s m args below meth c Q dC dI A b G k (pc, ls, st, Hs, u) := by
  unfold hx_pop at h
  split at h
  · split at h
    · cases h
    · rename_i hc
      have e1 := hx_k_inj h
      subst e1
      intro H locs ad ac lc hI hL
      exact row (by rw [hx_cv_cat]; exact hx_c2_no (Bool.eq_false_iff.mpr hc)) (K H locs ad ac lc hI hL)
  · cases h
theorem hx_s_dup2 (row : ∀ {H : Heap} {locs : List Loc} {cells slots : Nat} {lc : Array Slot} {rest : List Value} {v w : Value}, v.category = 1 → w.category = 1 → W p l e R s m args below meth c H locs cells slots Q (F0 m (pc + 1) lc (v :: w :: v :: w :: rest)) → W p l e R s m args below meth c H locs cells slots Q (F0 m pc lc (v :: w :: rest)))
    (h : hx_dup2 pc ls st Hs u = some (.inl fs)) (K : hx_Wt p l e R s m args below meth c Q dC dI A b G k fs) : hx_Wt p l e R s m args below meth c Q dC dI A b G k (pc, ls, st, Hs, u) := by
  unfold hx_dup2 at h
  split at h
  · split at h
    · cases h
    · rename_i hc
      rw [Bool.or_eq_true, not_or] at hc
      have e1 := hx_k_inj h
      subst e1
      intro H locs ad ac lc hI hL
      exact row (by rw [hx_cv_cat]; exact hx_c2_no (Bool.eq_false_iff.mpr hc.1)) (by rw [hx_cv_cat]; exact hx_c2_no (Bool.eq_false_iff.mpr hc.2)) (K H locs ad ac lc hI hL)
  · cases h
/-- branches -/
theorem hx_s_br {P : Prop} [Decidable P] {t : Nat} {v : List Value} (row : ∀ {H : Heap} {locs : List Loc} {cells slots : Nat} {lc : Array Slot} {ad : Nat → Nat}, (P → W p l e R s m args below meth c H locs cells slots Q (F0 m t lc (st.map (hx_cv ad b)))) → (¬ P → W p l e R s m args below meth c H locs cells slots Q (F0 m (pc + 3) lc (st.map (hx_cv ad b)))) → W p l e R s m args below meth c H locs cells slots Q (F0 m pc lc ((v ++ st).map (hx_cv ad b))))
    (h : hx_br P t pc ls st Hs u = some (.inl fs)) (K : hx_Wt p l e R s m args below meth c Q dC dI A b G k fs) : hx_Wt p l e R s m args below meth c Q dC dI A b G k (pc, ls, v ++ st, Hs, u) := by
  unfold hx_br at h
  split at h
  · rename_i hP
    have e1 := hx_k_inj h
    subst e1
    intro H locs ad ac lc hI hL
    exact row (fun _ => K H locs ad ac lc hI hL) (fun z => absurd hP z)
  · rename_i hP
    have e1 := hx_k_inj h
    subst e1
    intro H locs ad ac lc hI hL
    exact row (fun z => absurd z hP) (fun _ => K H locs ad ac lc hI hL)
theorem hx_s_goto {t : Nat} {tg : List Nat} (row : ∀ {H : Heap} {locs : List Loc} {cells slots : Nat} {lc : Array Slot} {rest : List Value}, W p l e R s m args below meth c H locs cells slots Q (F0 m t lc rest) → W p l e R s m args below meth c H locs cells slots Q (F0 m pc lc rest))
    (h : hx_k t (hx_drop tg ls) st Hs u = some (.inl fs)) (K : hx_Wt p l e R s m args below meth c Q dC dI A b G k fs) : hx_Wt p l e R s m args below meth c Q dC dI A b G k (pc, ls, st, Hs, u) := by
  have e1 := hx_k_inj h
  subst e1
  intro H locs ad ac lc hI hL
  exact row (K H locs ad ac lc hI (hx_drop_L tg hL))
end HXS
