/-! THE CLAIM OUT OF ONE WALK OF THE LAW'S BODY. Your part is whole_start (and what it stands on); all else here is the same for every law, but numbers. -/
def R_law : String := "ScrollPiecesLaw"
def lw_P (b : Addr) (xs : List Int32) (args : Array Value) (s : State) : Prop := args = #[.ref b] ∧ s.IntsAt b xs ∧ xs.length ≤ 2560 ∧ (Jvm.Cond.and given_1 narrow_1).before args s = true
/-- what a walk over the start with the record d0 says of its end, said of the start itself -/
theorem lw_closed {s t : State} {o : Outcome} {d0 : Drawn} {L : List Loc} {k n : Nat} (hd0 : s.drawn.sameBut d0 lw_cs) (hv : ∃ v, o = .returned v) (hW : (s.setDrawn d0).WarmedH t.vm) (hs : (s.setDrawn d0).sameButNew ({ t with vm := s.vm } : State) L k n) : State.butDraws s t lw_cs (fun t1 => Framed s o t1 L k n) := by
  have h2 : t.drawn = d0 := congrArg State.drawn hs.1
  refine ⟨⟨hv, hW, State.sameButNew.setDrawn hs s.drawn⟩, ?_, by decide⟩
  rw [h2]
  exact hd0
def lw_Q (_ : Array Value) (s : State) (o : Outcome) (t : State) : Prop := o = .returned (some (.int 1)) ∧ State.butDraws s t lw_cs (fun t1 => Framed s o t1 [] 601024 7293034)
def lw_Z (below : List Frame) (a : Array Value) (s : State) : State → Prop := fun t => ∃ o, t.status = .running ∧ Ended t below o ∧ lw_Q a s o t
/-- the law's own end, with 1 on the stack, nothing written that was there before, its room as the claim has it; d0: the record of draws at this point (at the entry s.drawn: begin with 'refine W.base ?_' and 'have hd0 := Drawn.sameBut.refl s.drawn lw_cs') -/
theorem lw_ret {p : Program} {l : Launch} {e : Env} {s : State} {m : MethodId} {below : List Frame} {meth : Method} {c : Code} {b : Nat} {d0 : Drawn} (hd0 : s.drawn.sameBut d0 lw_cs) (hx : p.tables.exec = Jvm.exec) (hb : c.code = code) (hr : meth.sig.returnType = ret) (hlocks : meth.locks = false) {pc : Nat} {H : Heap} {ls : Array Slot} (hdg : decode code pc = .ok (.ireturn, 1)) : W p l e room_1 (s.setDrawn d0) m #[Value.ref b] below meth c H [] 601024 7293034 (lw_Z below #[Value.ref b] s) (F0 m pc ls [.int 1]) := by
  intro T hT X
  obtain ⟨fs, hret, hrun, hended, hW, hframe⟩ := X.leave (v := some (.int 1)) (hlocks := hlocks) (fun h => by rw [hr] at h; cases h)
  have hmeth' : T.vm.method? m = some meth := X.method'
  refine ⟨T.setFrames fs, ?_, .returned (some (.int 1)), hrun, hended, rfl, lw_closed hd0 ⟨_, rfl⟩ hW hframe⟩
  jvm_step X.here [X.here.top, hx, hb, hdg, hmeth', hr, ret, narrow_b1]
  (try refine ⟨rfl, ?_⟩); (try refine ⟨rfl, ?_⟩)
  first | (intro acts; rw [hret _ acts rfl rfl rfl]) | rw [hret _ _ rfl rfl rfl]
  exact Steps.refl _
/-- what holds at the law's entry: the machine, the code, the tables' words (any of lw_tbl by 'hts w (by decide +kernel)'), the script of L ints xs at the cell b, what the Statement gives of the start (any of its parts by flat_of_before) -/
def lw_At (p : Program) (s : State) (m : MethodId) (meth : Method) (c : Code) (b L : Nat) (xs : Nat → Int32) : Prop :=
  p.tables.exec = Jvm.exec ∧ c.code = code ∧ meth.sig.returnType = ret ∧ c.maxLocals = 9 ∧ s.vm.findClass R_law = some m.cls ∧ (∀ w ∈ lw_tbl, w.before #[Value.ref b] s = true) ∧ va_X b L xs s s.heap ∧ b < s.heap.size ∧ meth.locks = false ∧ (Jvm.Cond.and given_1 narrow_1).before #[Value.ref b] s = true
-- ===== YOUR PART BEGINS =====
/-! ===== the law's own frame: a run of the abstract machine is the walk of the law ===== -/
theorem hx_privs_in : ∀ w ∈ tables_1, w ∈ lw_tbl := fun w h => List.mem_append_right _ h
def hx_narrow : List Jvm.Cond := flatC (Jvm.Cond.and given_1 narrow_1)
theorem hx_nar_nc : hx_ncs.all (fun q => decide (Jvm.Cond.not (.castable q.1 q.2) ∈ hx_narrow)) = true := by decide +kernel
theorem hx_nar_str : hx_strs.all (fun q => decide (Jvm.Cond.exactly (.string q.1 q.2.1) "java/lang/String" ∈ hx_narrow) && decide (Jvm.Cond.stringRef q.1 q.2.1 q.2.2 ∈ lw_tbl)) = true := by decide +kernel
theorem hx_nar_st : decide (Jvm.Cond.isRef (.static Bundle.tN "UNASSIGNED_STACK" Bundle.steD) ∈ hx_narrow) && decide (Jvm.Cond.isRef (.static Bundle.tN "SUPPRESSED_SENTINEL" Bundle.listD) ∈ hx_narrow) = true := by decide +kernel
theorem hx_tb_st : decide (Jvm.Cond.laysStatic Bundle.tN "UNASSIGNED_STACK" Bundle.steD ∈ lw_tbl) && decide (Jvm.Cond.laysStatic Bundle.tN "SUPPRESSED_SENTINEL" Bundle.listD ∈ lw_tbl) && decide (Jvm.Cond.initialized Bundle.tN ∈ lw_tbl) = true := by decide +kernel
theorem hx_tb_nest : hx_nests.all (fun q => decide (Jvm.Cond.methodLinkNest RX4 q.1 q.2 RX4 ∈ lw_tbl)) = true := by decide +kernel
theorem hx_tb_xw : hx_xw.all (fun w => decide (w ∈ lw_tbl) && w.onTables) = true := by decide +kernel
theorem hx_tb_ao : decide (Jvm.Cond.arrayOver (.object RX3) ∈ lw_tbl) = true := by decide +kernel
theorem hx_tb_in : [(0, 3), (1, 5), (2, 9), (3, 8), (4, 12), (5, 17)].all (fun q => decide (Jvm.Cond.instantiable (hx_R q.1) q.2 ∈ lw_tbl)) = true := by decide +kernel
set_option maxHeartbeats 4000000 in
set_option maxRecDepth 100000 in
theorem hx_start {p : Program} {e : Env} {s : State} {m : MethodId} {below : List Frame} {meth : Method} {c : Code} (l : Launch) (hflags : l.flags = flags0) {b L : Nat} {xs : Nat → Int32} (C0 : lw_At p s m meth c b L xs)
    {n : Nat} {H2 : hx_HS} {u2 : Nat} (hrun : hx_run (L, xs) n 100 202 (0, hx_entry [.retAddr 0] 9, [], ([], fun _ _ => 0, fun _ _ => 0), 0) = some (.inl (some (.int 1)), H2, u2)) : W p l e room_1 s m #[Value.ref b] below meth c s.heap [] 0 0 (lw_Z below #[Value.ref b] s) (entryFrame m ([Value.ref b] : List Value).toArray 9) := by
  obtain ⟨hx, hb, hr, hml, hown, hts0, hX, hbl, hlocks, hgv⟩ := id C0
  have hts : ∀ w ∈ lw_tbl, w.before #[Value.ref b] (s.setDrawn s.drawn) = true := dr_words hts0 _
  have hd0 := Drawn.sameBut.refl s.drawn lw_cs
  have hg : ∀ w ∈ hx_narrow, w.before #[Value.ref b] (s.setDrawn s.drawn) = true := dr_words (flat_of_before _ hgv) _
  have hA : ∀ q : Nat, (s.setDrawn s.drawn).heap.size ≤ q → (fun q : Nat => s.heap.size ≤ q) q := fun _ h => h
  have nA : ∀ a : Nat, a < s.heap.size → ¬ (fun q : Nat => s.heap.size ≤ q) a := fun a h => Nat.not_le.mpr h
  have inst : ∀ ci N, (ci, N) ∈ [(0, 3), (1, 5), (2, 9), (3, 8), (4, 12), (5, 17)] → (Jvm.Cond.instantiable (hx_R ci) N).before #[Value.ref b] (s.setDrawn s.drawn) = true := fun ci N hm => hts _ (of_decide_eq_true (List.all_eq_true.mp hx_tb_in _ hm))
  have wsin : ∀ ci (C : String) (T : u_T) (N : Nat), ci < 6 → hx_nth vwCl ci = some (C, T, N) → ∀ w ∈ u_ws C T N, w ∈ lw_tbl := fun ci C T N hci hC w hw => hx_LW_lw w ((hx_cls hci hC).2.1 w hw)
  obtain ⟨c0, i0, hk0⟩ := u_known (C := RX0) (T := TX0) (N := 3) (n := 3) hts (wsin 0 _ _ _ (by decide) rfl) (inst 0 3 (by decide))
  obtain ⟨c1, i1, hk1⟩ := u_known (C := RX1) (T := TX1) (N := 5) (n := 5) hts (wsin 1 _ _ _ (by decide) rfl) (inst 1 5 (by decide))
  obtain ⟨c2, i2, hk2⟩ := u_known (C := RX2) (T := TX2) (N := 9) (n := 9) hts (wsin 2 _ _ _ (by decide) rfl) (inst 2 9 (by decide))
  obtain ⟨c3, i3, hk3⟩ := u_known (C := RX3) (T := TX3) (N := 8) (n := 8) hts (wsin 3 _ _ _ (by decide) rfl) (inst 3 8 (by decide))
  obtain ⟨c4, i4, hk4⟩ := u_known (C := RX4) (T := TX4) (N := 12) (n := 12) hts (wsin 4 _ _ _ (by decide) rfl) (inst 4 12 (by decide))
  obtain ⟨c5, i5, hk5⟩ := u_known (C := RX5) (T := TX5) (N := 17) (n := 17) hts (wsin 5 _ _ _ (by decide) rfl) (inst 5 17 (by decide))
  obtain ⟨dC, dI, hKc⟩ : ∃ (dC : Nat → ClassId) (dI : Nat → Nat → Nat), ∀ (k : Nat) (q : vw_C), vwCl[k]? = some q → u_Kn (s.setDrawn s.drawn) q.1 q.2.1 q.2.2 (dC k) (dI k) := by
    refine ⟨fun k => match k with
      | 0 => c0
      | 1 => c1
      | 2 => c2
      | 3 => c3
      | 4 => c4
      | _ => c5, fun k => match k with
      | 0 => i0
      | 1 => i1
      | 2 => i2
      | 3 => i3
      | 4 => i4
      | _ => i5, ?_⟩
    intro k q hq
    match k, hq with
    | 0, hq => cases hq; exact hk0
    | 1, hq => cases hq; exact hk1
    | 2, hq => cases hq; exact hk2
    | 3, hq => cases hq; exact hk3
    | 4, hq => cases hq; exact hk4
    | 5, hq => cases hq; exact hk5
    | k + 6, hq => simp [vwCl] at hq
  have hK : va_K (dC, dI) vwCl [] (s.setDrawn s.drawn) := ⟨hKc, fun k q h => by simp at h⟩
  have tst := hx_tb_st
  have nst := hx_nar_st
  simp only [Bool.and_eq_true, decide_eq_true_eq] at tst nst
  have hSt : hx_St (L, xs) b (fun q : Nat => s.heap.size ≤ q) (s.setDrawn s.drawn) (s.setDrawn s.drawn).heap := by
    refine ⟨hX, hbl, nA b hbl, vx_Zqof (hts _ tst.1.1) (hts _ tst.2) (hg _ nst.1) nA, vx_Zqof (hts _ tst.1.2) (hts _ tst.2) (hg _ nst.2) nA, fun q hq => ?_, va_AO.of (hts _ (of_decide_eq_true hx_tb_ao)), fun q hq => ?_, fun q hq => ?_, fun w hw => ?_⟩
    · have h := List.all_eq_true.mp hx_nar_str q hq
      simp only [Bool.and_eq_true, decide_eq_true_eq] at h
      obtain ⟨a, ha⟩ : ∃ a, (Term.string q.1 q.2.1).eval #[Value.ref b] (s.setDrawn s.drawn) none [] (s.setDrawn s.drawn) = some (.ref a) := by
        obtain ⟨a, c9, cell, k9, h1, -⟩ := Cond.exactly_spec (hg _ h.1)
        exact ⟨a, h1⟩
      exact ⟨a, vk_R.of (hts _ h.2) ha⟩
    · exact va_Nw.of rfl (hts _ (of_decide_eq_true (List.all_eq_true.mp hx_tb_nest q hq)))
    · exact va_Nc.of (hg _ (of_decide_eq_true (List.all_eq_true.mp hx_nar_nc q hq)))
    · have h := List.all_eq_true.mp hx_tb_xw w hw
      simp only [Bool.and_eq_true, decide_eq_true_eq] at h
      exact va_Nw.of h.2 (hts _ h.1)
  have hl : l.stackTraces = false := by
    unfold Launch.stackTraces
    rw [hflags]
    decide
  have hle := hx_run_le _ _ _ _ _ _ _ hrun
  have hF : hx_F p l room_1 (s.setDrawn s.drawn) m #[Value.ref b] meth c dC dI (fun q : Nat => s.heap.size ≤ q) b (L, xs) 100 202 := by
    refine ⟨hx, hb, hml, hown, fun w hw => hts w (hx_LW_lw w hw), hr, hlocks, fun z => (z rfl).elim, hl, hK, hA, hSt, ⟨Nat.le_of_ble_eq_true rfl, Nat.le_of_ble_eq_true rfl, Nat.le_of_ble_eq_true rfl, Nat.le_of_ble_eq_true rfl⟩, fun z => absurd z (by decide)⟩
  refine W.base ?_
  rw [lg_entry_eq]
  refine hx_all n (L, xs) 100 202 0 _ [] _ 0 _ H2 u2 hrun p l e room_1 (s.setDrawn s.drawn) m #[Value.ref b] below meth c _ dC dI (fun q : Nat => s.heap.size ≤ q) b (0, fun _ => 0) hF ?_ ?_ ?_ s.heap [] (fun _ => 0) (fun _ => dC 0) _ ⟨fun k q h => by simp [hx_ws] at h, ⟨fun i j p q h => by simp [hx_ws] at h, fun k q h => by simp [hx_ws] at h⟩, va_S.rf, fun k o h => (by cases h), Nat.zero_le _, fun z hz => absurd hz (Nat.not_lt_zero z)⟩ (hx_L_entry (fun _ => 0) b [.retAddr 0] (by decide))
  · intro v hv pc0 i st0 H locs ad ac lc hd hrk hI hsize
    cases hv
    rcases hrk with ⟨x, rfl, rfl, hx1, hrt⟩ | ⟨x, -, -, hx1, -⟩ | ⟨x, -, -, hx1, -⟩ | ⟨x, -, -, hx1, -⟩ | ⟨-, -, hx1, -⟩ | ⟨x, _, -, -, hx1, -⟩
    · cases hx1
      refine va_forget (fun q hq => hI.2.2.1.2.2 q hq) ?_
      refine W.widen (k := 601024) (n := 7293034) (Nat.le_trans hle (Nat.le_of_ble_eq_true rfl)) (Nat.le_trans (Nat.mul_le_mul_left _ hle) (Nat.le_of_ble_eq_true rfl)) ?_
      exact lw_ret hd0 hx hb hr hlocks hd
    · cases hx1
    · cases hx1
    · cases hx1
    · cases hx1
    · cases hx1
  · intro E hE
    cases hE
  · intro E hE
    cases hE
