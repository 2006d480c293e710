/-! ===== soundness, 7: contracts out of runs: entry, premises that move, what comes behind a call ===== -/
theorem hx_args_len (ad : Nat → Nat) (b : Nat) : ∀ as : List Value, (lg_sl (as.map (hx_cv ad b))).length = (hx_args as).length
  | [] => rfl
  | v :: as => by
    have ih := hx_args_len ad b as
    unfold lg_sl at ih ⊢
    rw [List.map_cons, List.flatMap_cons, List.length_append, ih, hx_cv_cat, show hx_args (v :: as) = if hx_c2 v then some v :: none :: hx_args as else some v :: hx_args as from rfl]
    by_cases hc : hx_c2 v = true
    · rw [if_pos ((hx_c2_cat v).mp hc), if_pos hc]
      simp only [List.length_cons, List.length_nil]
      omega
    · rw [if_neg (fun z => hc ((hx_c2_cat v).mpr z)), if_neg hc]
      simp only [List.length_cons, List.length_nil]
      omega
theorem hx_args_mem (ad : Nat → Nat) (b : Nat) : ∀ (as : List Value) (m j i : Nat) (v : Value), hx_nth (hx_args as ++ List.replicate m none) i = some (some v) → (j + i, hx_cv ad b v) ∈ lv_args j (as.map (hx_cv ad b))
  | [], m, j, i, v, h => by
    rw [hx_nth_eq] at h
    have h1 := List.mem_of_getElem? h
    rcases List.mem_append.mp h1 with h2 | h2
    · cases h2
    · have := (List.mem_replicate.mp h2).2
      cases this
  | w :: as, m, j, i, v, h => by
    rw [List.map_cons]
    unfold lv_args
    rw [hx_cv_cat]
    unfold hx_args at h
    by_cases hc : hx_c2 w = true
    · rw [if_pos hc] at h
      rw [if_pos ((hx_c2_cat w).mp hc)]
      match i, h with
      | 0, h => cases h; exact List.mem_cons_self
      | 1, h => cases h
      | i + 2, h =>
        have := hx_args_mem ad b as m (j + 2) i v h
        rw [show j + 2 + i = j + (i + 2) by omega] at this
        exact List.mem_cons_of_mem _ this
    · rw [if_neg hc] at h
      rw [if_neg (fun z => hc ((hx_c2_cat w).mpr z))]
      match i, h with
      | 0, h => cases h; exact List.mem_cons_self
      | i + 1, h =>
        have := hx_args_mem ad b as m (j + 1) i v h
        rw [show j + 1 + i = j + (i + 1) by omega] at this
        exact List.mem_cons_of_mem _ this
theorem hx_L_entry (ad : Nat → Nat) (b : Nat) (as : List Value) {n : Nat} (hn : (hx_args as).length ≤ n) : hx_L ad b ((lg_sl (as.map (hx_cv ad b)) ++ List.replicate (n - (lg_sl (as.map (hx_cv ad b))).length) Slot.unset).toArray) n (hx_entry as n) := by
  have h := lv_entry (as.map (hx_cv ad b)) (n := n) (by rw [hx_args_len]; exact hn)
  refine ⟨h.1, ?_, h.2.1, fun i v hi => ?_⟩
  · unfold hx_entry
    rw [List.length_append, List.length_replicate]
    omega
  · have h2 := hx_args_mem ad b as _ 0 i v hi
    rw [Nat.zero_add] at h2
    exact h.2.2 _ h2
theorem hx_St_move {sc : Nat × (Nat → Int32)} {b : Nat} {A A' : Nat → Prop} {s U : State} {H : Heap} {locs : List Loc} (h : hx_St sc b A s s.heap) (hS : va_S A s.heap H locs) (hU : U.heap = H) (hW : s.WarmedH U.vm) (hA : ∀ q, A' q → A q) : hx_St sc b A' U U.heap := by
  obtain ⟨h1, h2, h3, h4, h5, h6, h7, h8, h9, h10⟩ := h
  have kept : ∀ a : Nat, a < s.heap.size → ¬ A a → U.heap[a]? = s.heap[a]? := fun a ha hz => by rw [hU]; exact hS.2.1 a ha hz
  refine ⟨va_X.moved hW.alike (h1.kept (kept b h2 h3)), by rw [hU]; exact Nat.lt_of_lt_of_le h2 hS.1, fun z => h3 (hA _ z), (vx_Zq.moved hW.alike (h4.kept kept)).narrow hA, (vx_Zq.moved hW.alike (h5.kept kept)).narrow hA, fun q hq => ?_, h7.moved hW.alike, fun q hq => (h8 q hq).warmM hW, fun q hq => (h9 q hq).moved hW.alike, fun w hw => ?_⟩
  · obtain ⟨a, ha⟩ := h6 q hq
    exact ⟨a, ha.warm hW⟩
  · have := h10 w hw
    simp only [hx_xw, List.mem_cons, List.not_mem_nil, or_false] at hw
    rcases hw with rfl | rfl | rfl | rfl | rfl | rfl | rfl | rfl | rfl
    · exact this.warmC hW
    · exact this.warmC hW
    · exact this.warmC hW
    · exact this.warmD hW
    · exact this.warmD hW
    · exact this.warmD hW
    · exact this.warmD hW
    · exact this.warmD hW
    · exact this.warmD hW
theorem hx_T_moved {s U : State} {ac : Nat → ClassId} {Hs : hx_HS} (hvm : s.vm.Alike U.vm) (h : hx_T s ac Hs) : hx_T U ac Hs := fun k o hk => ⟨arrOfT_moved hvm (h k o hk).1, (h k o hk).2.moved hvm⟩
/-- a method's start, and its ends -/
def hx_W0 (dC : Nat → ClassId) (dI : Nat → Nat → Nat) (ad : Nat → Nat) (ac : Nat → ClassId) (b : Nat) (sc : Nat × (Nat → Int32)) (Hs : hx_HS) (sz : Nat) (U : State) : Prop :=
  U.heap.size = sz ∧ va_P (dC, dI) vwCl (hx_ws ad ac b Hs) U.heap ∧ va_K (dC, dI) vwCl [] U ∧ hx_T U ac Hs ∧ va_D (fun _ => True) (hx_ws ad ac b Hs) ∧ hx_St sc b (va_A (hx_ws ad ac b Hs) sz) U U.heap
def hx_W1 (dC : Nat → ClassId) (dI : Nat → Nat → Nat) (ad : Nat → Nat) (b n0 : Nat) (A : Nat → Prop) (Hs : hx_HS) (ad' : Nat → Nat) (t : State) : Prop :=
  hx_G (n0, ad) ad' Hs ∧ ∃ ac' : Nat → ClassId, va_P (dC, dI) vwCl (hx_ws ad' ac' b Hs) t.heap ∧ hx_T t ac' Hs ∧ va_D A (hx_ws ad' ac' b Hs)
def hx_Qc (dC : Nat → ClassId) (dI : Nat → Nat → Nat) (ad : Nat → Nat) (b n0 : Nat) (A : Nat → Prop) (res : hx_RS) (Hs : hx_HS) : Array Value → State → Outcome → State → Prop := fun _ st o t =>
  (∃ (v : Option Value) (ad' : Nat → Nat), res = .inl v ∧ o = .returned (v.map (hx_cv ad' b)) ∧ hx_W1 dC dI ad b n0 A Hs ad' t) ∧ va_F A st t
def hx_XC (dC : Nat → ClassId) (dI : Nat → Nat → Nat) (ad : Nat → Nat) (b n0 : Nat) (A : Nat → Prop) (res : hx_RS) (Hs : hx_HS) : String → State → State → Prop := fun E st t =>
  (∃ (E0 : Nat) (ad' : Nat → Nat), res = .inr E0 ∧ E = hx_E E0 ∧ hx_W1 dC dI ad b n0 A Hs ad' t) ∧ va_F A st t
def hx_rm (d k : Nat) : Room := { frames := d + 20, cells := hx_bud k, slots := 1000 * hx_bud k, locals := 60 * d + 200 }
def hx_cws (k : Nat) : List Jvm.Cond := hx_cw k :: hx_LW
theorem hx_blind {dC : Nat → ClassId} {dI : Nat → Nat → Nat} {ad : Nat → Nat} {ac : Nat → ClassId} {b : Nat} {sc : Nat × (Nat → Int32)} {Hs : hx_HS} {sz : Nat} {av : List Value} : FrameBlind (va_Pc av (hx_W0 dC dI ad ac b sc Hs sz)) := by
  intro a U g mk q
  obtain ⟨q1, q2, q3, q4, q5, q6, q7⟩ := q
  refine ⟨q1, q2, q3, va_K.moved (u := U) (U := U.calling g mk a) (Vm.Alike.refl U.vm) q4, hx_T_moved (s := U) (U := U.calling g mk a) (Vm.Alike.refl U.vm) q5, q6, ?_⟩
  exact hx_St_move (s := U) (U := U.calling g mk a) (H := U.heap) q7 va_S.rf rfl (State.WarmedH.refl U) (fun _ z => z)
theorem hx_LW_good : ∀ w ∈ hx_LW, goodWord w = true := fun w hw => (List.mem_filter.mp hw).2
theorem hx_GoodIn {ws : List Jvm.Cond} (h : ∀ w ∈ ws, w ∈ hx_LW) : GoodIn hx_LW ws := fun w hw => ⟨h w hw, good_of_word (hx_LW_good w (h w hw))⟩
theorem hx_LW_lw : ∀ w ∈ hx_LW, w ∈ lw_tbl := fun w hw => (List.mem_filter.mp hw).1
/-- what the tables say of a callee -/
theorem hx_mokS {k : Nat} (hk : k < 202) : hx_cw k ∈ hx_LW ∧ (if hx_stat k = true then Jvm.Cond.static (hx_y k) ∈ hx_LW else Jvm.Cond.instanceMethod (hx_y k) ∈ hx_LW ∧ ((hx_y k).name = "<init>" ∨ Jvm.Cond.selects (hx_y k).cls (hx_y k) (hx_y k) ∈ hx_LW)) ∧ Jvm.Cond.initialized (hx_y k).cls ∈ hx_LW ∧ plainName (hx_y k).cls = true ∧ (hx_y k).cls = hx_R (hx_own k) ∧
    (hx_y k).cls ≠ "java/lang/invoke/MethodHandle" ∧ (hx_y k).cls ≠ "java/lang/invoke/VarHandle" ∧ (parseMethodDescriptor (hx_y k).desc).map (fun d => d.parameters.length) = some (hx_np k) ∧ hx_ml k ≤ 40 ∧ hx_hk k (hx_hh k) (hx_ct k) = true := by
  have h := hx_mok_all k hk
  unfold hx_mok at h
  split at h
  · cases h
  · simp only [Bool.and_eq_true, decide_eq_true_eq] at h
    obtain ⟨⟨⟨⟨⟨⟨⟨⟨⟨h1, h2⟩, h3⟩, h4⟩, h5⟩, h6⟩, h7⟩, h8⟩, h9⟩, h10⟩ := h
    refine ⟨hx_wi_in h1, ?_, hx_wi_in h3, h4, h5, h6, h7, h8, h9, h10⟩
    by_cases hs : hx_stat k = true
    · rw [if_pos hs] at h2 ⊢
      exact hx_wi_in h2
    · rw [if_neg hs] at h2 ⊢
      simp only [Bool.and_eq_true, Bool.or_eq_true, decide_eq_true_eq] at h2
      refine ⟨hx_wi_in h2.1, ?_⟩
      rcases h2.2 with z | z
      · exact Or.inl z
      · exact Or.inr (hx_wi_in z)
theorem hx_hk_all (k : Nat) : hx_hk k (hx_hh k) (hx_ct k) = true := by
  by_cases hk : k < 202
  · exact (hx_mokS hk).2.2.2.2.2.2.2.2.2
  · by_cases h2 : k = 202
    · rw [h2]; rfl
    · have e1 : hx_hh k = [] := by
        unfold hx_hh
        rw [hx_nth_eq, List.getElem?_eq_none (by show 203 ≤ k; omega)]
      have e2 : hx_ct k = [] := by
        unfold hx_ct
        rw [hx_nth_eq, List.getElem?_eq_none (by show 203 ≤ k; omega)]
      rw [e1, e2]
      rfl
section HXC
variable {p : Program} {l : Launch} {e : Env} {R : Room} {s : State} {m : MethodId} {args : Array Value} {below : List Frame} {meth : Method} {c : Code} {H : Heap} {locs : List Loc} {cells slots : Nat} {Q : State → Prop}
theorem hx_after {mc ms pc : Nat} {lc : Array Slot} {st0 rest : List Value} {Qa : State → Outcome → State → Prop} {XC : String → State → State → Prop} {free : Addr → Prop} (hr : vx_Run p l e R s m args below meth c H locs cells slots mc ms (F0 m pc lc st0) rest Qa XC free)
    (kx : ∀ (E : String) (ce : Cell) (q9 : Addr) (st₀ t : State) (H1 : Heap) (L : List Loc), st₀.heap = H → t.heap = H1 → s.vm.Alike t.vm → XC E st₀ t → (∀ z ∈ L, free z.base) → H1[q9]? = some ce → ce.vm = .none → s.vm.findClass E = some ce.cls → vx_W p l e R s m args below meth c H1 (locs ++ L) (cells + mc) (slots + ms) Q (F0 m pc lc rest) q9)
    (kk : ∀ (v : Option Value) (st₀ t : State) (H1 : Heap) (L : List Loc), st₀.heap = H → t.heap = H1 → s.vm.Alike t.vm → Qa st₀ (.returned v) t → (∀ z ∈ L, free z.base) → W p l e R s m args below meth c H1 (locs ++ L) (cells + mc) (slots + ms) Q (F0 m (pc + 3) lc (v.toList ++ rest))) : W p l e R s m args below meth c H locs cells slots Q (F0 m pc lc st0) := by
  intro T hT X
  rcases hr T hT X with ⟨v, st₀, t, T', L, h0, X', hL, e1, e2, hQ, st⟩ | ⟨q, st₀, t, T', L, E, ce, h0, X', hL, e1, e2, hX, hce, hcv, hcl, st⟩
  · obtain ⟨t2, a1, b1⟩ := kk v st₀ t T'.heap L h0 e1.symm (by rw [← e2]; exact X'.warmed.alike) hQ hL T' rfl X'
    exact ⟨t2, st t2 a1, b1⟩
  · obtain ⟨t2, a1, b1⟩ := kx E ce q st₀ t T'.heap L h0 e1.symm (by rw [← e2]; exact X'.warmed.alike) hX hL (by rw [e1]; exact hce) hcv hcl T' rfl X'
    exact ⟨t2, st.trans a1, b1⟩
end HXC
/-- which row of the table takes it -/
theorem hx_hk_find {k E j npc : Nat} : ∀ (hs qs : List (Nat × Nat × Nat × Nat)), hx_hk k hs qs = true → hx_find qs E = some (j, npc) → ∃ (pre : List (Nat × Nat × Nat × Nat)) (x : Nat × Nat × Nat × Nat) (suf : List (Nat × Nat × Nat × Nat)), hs = pre ++ x :: suf ∧ (∀ z ∈ pre, z.2.2.2 ≠ 0 ∧ ∃ E2, E2 < 3 ∧ E2 ≠ E ∧ Jvm.Cond.classLink (hx_R (hx_own k)) z.2.2.2 (hx_E E2) ∈ hx_LW) ∧ x.2.2.2 ≠ 0 ∧ E < 3 ∧ Jvm.Cond.classLink (hx_R (hx_own k)) x.2.2.2 (hx_E E) ∈ hx_LW ∧
    ((npc = x.2.2.1 + 1 ∧ ∃ j2 : Fin 4, j2.val = j ∧ decode (hx_by k) x.2.2.1 = .ok (.astore_n j2, 1)) ∨ (npc = x.2.2.1 + 2 ∧ decode (hx_by k) x.2.2.1 = .ok (.astore j, 2)))
  | [], [], _, h => by cases h
  | [], _ :: _, h, _ => by cases h
  | _ :: _, [], h, _ => by cases h
  | h :: hs, q :: qs, hh, hf => by
    unfold hx_hk at hh
    simp only [Bool.and_eq_true, decide_eq_true_eq] at hh
    obtain ⟨⟨⟨⟨⟨h1, h2⟩, h3⟩, h4⟩, h5⟩, h6⟩ := hh
    obtain ⟨z9, hz9⟩ := hx_has_in h4
    have hw : Jvm.Cond.classLink (hx_R (hx_own k)) h.2.2.2 (hx_E q.1) ∈ hx_LW := hx_wd_in (hx_CL_ok _ hz9)
    unfold hx_find at hf
    split at hf
    · rename_i he
      cases hf
      subst he
      refine ⟨[], h, hs, rfl, (fun z hz => by cases hz), h3, h2, hw, ?_⟩
      rw [h1]
      split at h5
      · rename_i h7
        split at h5
        · rename_i j2 hj2
          exact Or.inl ⟨h7, j2, of_decide_eq_true h5, hj2⟩
        · cases h5
      · simp only [Bool.and_eq_true, decide_eq_true_eq] at h5
        exact Or.inr ⟨h5.1, hx_isd_ok h5.2⟩
    · rename_i hne
      obtain ⟨pre, x, suf, e1, e2, e3⟩ := hx_hk_find hs qs h6 hf
      refine ⟨h :: pre, x, suf, by rw [e1]; rfl, fun z hz => ?_, e3⟩
      rcases List.mem_cons.mp hz with rfl | hz
      · exact ⟨h3, q.1, h2, hne, hw⟩
      · exact e2 z hz
