/-! ===== BEGIN a constructor that throws (launches without stack traces) ===== -/
section VXIA
variable {p : Program} {l : Launch} {e : Env} {R : Room} {s : State} {m : MethodId} {args : Array Value} {below : List Frame} {meth : Method} {c : Code} {T : State} {locs : List Loc} {cells slots : Nat}
theorem vx_callI (X : Stand p l e R s m args below meth c T locs cells slots) (hexec : p.tables.exec = Jvm.exec) {own : String} {index : Nat} {y : MethodName} {bytes : ByteArray} {maxL : Nat}
    (hown : s.vm.findClass own = some m.cls) (hy1 : y.name = "<init>") (hlink : (Cond.methodLink own index y).before args s = true) (hinst : (Cond.instanceMethod y).before args s = true)
    (hcode : (Cond.code y bytes maxL none).before args s = true) (hy : y.cls ≠ "java/lang/invoke/MethodHandle" ∧ y.cls ≠ "java/lang/invoke/VarHandle")
    {W9 : Nat} {Pre : Pt → Array Value → Prop} {Post : Pt → Array Value → Option Value → Pt → Prop} {PostX : Pt → Array Value → Addr → Pt → Prop} (hK : vx_Back l R p e below s args y 3 W9 Pre Post PostX)
    {g : JFrame} (hg : g.method = m) (hsize : g.locals.size = c.maxLocals) {a : Addr} {argsL rest : List Value} (hlen : ∀ sig, parseMethodDescriptor y.desc = some sig → argsL.length = sig.parameters.length)
    (hstack : g.stack = argsL.reverse ++ .ref a :: rest) (hW : 2 * g.monitorRoom + (rest.map fun v => v.category).sum ≤ W9) (hdg : decode c.code g.pc = .ok (.invokespecial index, 3))
    (hpre : ∀ vm₁, s.WarmedH vm₁ → Pre ⟨T.setVm vm₁, locs, cells, slots⟩ (Value.ref a :: argsL).toArray) :
    (∃ (v : Option Value) (vm₁ : Vm) (B : Pt), s.WarmedH vm₁ ∧ Stand p l e R s m args below meth c B.U B.locs B.cells B.slots ∧ Post ⟨T.setVm vm₁, locs, cells, slots⟩ (Value.ref a :: argsL).toArray v B ∧
      ∀ target, Steps p.tables e below (B.U.setTop { g with pc := g.pc + 3, stack := v.toList ++ rest }) target → Steps p.tables e below (T.setTop g) target) ∨
    (∃ (q : Addr) (vm₁ : Vm) (B : Pt), s.WarmedH vm₁ ∧ Stand p l e R s m args below meth c B.U B.locs B.cells B.slots ∧ PostX ⟨T.setVm vm₁, locs, cells, slots⟩ (Value.ref a :: argsL).toArray q B ∧
      Steps p.tables e below (T.setTop g) ((B.U.setTop { g with stack := rest }).pushFrame (.throwing q))) := by
  subst hg
  have hpl : e.platform.magicAccessors = ({} : Platform).magicAccessors := by rw [X.admits.platform]
  obtain ⟨mk, methM, cM, kP, vm₁, hnamed, hmethM, hcodeM, -, hlocalsM, -, hkP, -, hW₁, hstep₁⟩ := Steps.initColdArgs (e := e) X.here hexec X.warmed hpl hown hy1 hy hlink hinst hcode (f := g) rfl hlen hstack hdg
  have X₁ := X.noted hW₁
  rcases hK g.method meth c ⟨T.setVm vm₁, locs, cells, slots⟩ { g with stack := rest } (.invokespecial index) mk (Value.ref a :: argsL).toArray X₁ rfl hsize hdg hW (X₁.named hnamed) (hpre vm₁ X₁.warmed) with ⟨v, B, X', hpost, hsteps⟩ | ⟨q, B, X', hpost, hsteps⟩
  · exact Or.inl ⟨v, vm₁, B, X₁.warmed, X', hpost, fun target h => hstep₁ _ fun acts => by rw [doInvoke_state]; exact hsteps.trans h⟩
  · exact Or.inr ⟨q, vm₁, B, X₁.warmed, X', hpost, hstep₁ _ fun acts => by rw [doInvoke_state]; exact hsteps⟩
end VXIA
section VXIB
variable {p : Program} {l : Launch} {e : Env} {R : Room} {s : State} {m : MethodId} {args : Array Value} {below : List Frame} {meth : Method} {c : Code} {H : Heap} {locs : List Loc} {cells slots : Nat}
variable {y : MethodName} {bytes cc : ByteArray} {maxL nL mc ms n index : Nat} {ret : Option FieldType} {ws : List Cond} {rm : Room} {Pc : Array Value → State → Prop} {Qc : Array Value → State → Outcome → State → Prop} {XC : String → State → State → Prop} {free : Addr → Prop} {Ts : List Cond} {own C : String} {b : Addr} {As rest : List Value} {g : JFrame}
theorem vx_runI (S : CallFix p m c cc nL s args Ts own) (hM : vx_Met l y ws rm Pc Qc XC mc ms free) (cw : CallB R s args own index y bytes maxL none ws rm mc ms n ∧ y.name = "<init>" ∧ (Cond.instanceMethod y).before args s = true) (hp : PreS s H Pc (.ref b :: As))
    (hg : g.method = m) (hn : As.length = n) (hsize : g.locals.size = nL) (hstack : g.stack = As.reverse ++ .ref b :: rest) (hW : 2 * g.monitorRoom + (rest.map fun v => v.category).sum ≤ 8) (hdg : decode cc g.pc = .ok (.invokespecial index, 3)) (hf : cells + mc ≤ R.cells ∧ slots + ms ≤ R.slots) :
    vx_Run p l e R s m args below meth c H locs cells slots mc ms g rest (Qc (Value.ref b :: As).toArray) XC free := by
  have hK : vx_Back l R p e below s args y 3 8 (PreOf R mc ms Pc) (PostOf Qc mc ms free) (vx_Post XC mc ms free) := vx_callBack cw.1 hM hp.1
  obtain ⟨⟨-, -, -, -, -, -, hcode, -, hy, hlen, hl⟩, hy1, hin⟩ := cw
  obtain ⟨hx, hb, hml, ho, -⟩ := S
  have hPc := hp.2
  intro T hT X
  rcases vx_callI X hx (bytes := bytes) (maxL := maxL) ho hy1 hl hin hcode hy hK hg (hsize.trans hml.symm) (a := b) (argsL := As) (rest := rest) (fun sig h => hn.trans (hlen sig h)) hstack hW (by rw [hb]; exact hdg)
    (fun vm₁ hW₁ => ⟨hf.1, hf.2, hPc (T.setVm vm₁) hT hW₁⟩) with ⟨v, vm₁, ⟨U', l2, c2, s2⟩, hW₁, X', ⟨g', mk, t, L, e1, e2, hq, h1, hL, h2, h3⟩, st⟩ | ⟨q, vm₁, ⟨U', l2, c2, s2⟩, hW₁, X', ⟨g', mk, t, L, E, ce, e1, e2, hq, hce, hcv, hcl, h1, hL, h2, h3⟩, st⟩
  · dsimp only [Pt.U, Pt.locs, Pt.cells, Pt.slots] at X' e1 e2 h1 h2 h3 st
    subst h1; subst h2; subst h3
    exact Or.inl ⟨v, (T.setVm vm₁).calling g' mk (Value.ref b :: As).toArray, t, U', L, hT, X', hL, e1, e2, hq, st⟩
  · dsimp only [Pt.U, Pt.locs, Pt.cells, Pt.slots] at X' e1 e2 h1 h2 h3 st hcl
    subst h1; subst h2; subst h3
    exact Or.inr ⟨q, (T.setVm vm₁).calling g' mk (Value.ref b :: As).toArray, t, U', L, E, ce, hT, X', hL, e1, e2, hq, hce, hcv, vx_cls hW₁ hcl, st⟩
end VXIB
/-! ===== END ===== -/
/-! ===== BEGIN a private constructor of a nest mate that throws ===== -/
section VXIC
variable {p : Program} {l : Launch} {e : Env} {R : Room} {s : State} {m : MethodId} {args : Array Value} {below : List Frame} {meth : Method} {c : Code} {T : State} {locs : List Loc} {cells slots : Nat}
theorem vx_callIN (X : Stand p l e R s m args below meth c T locs cells slots) (hexec : p.tables.exec = Jvm.exec) {own : String} {index : Nat} {host : String} {y : MethodName} {bytes : ByteArray} {maxL : Nat}
    (hown : s.vm.findClass own = some m.cls) (hy1 : y.name = "<init>") (hlink : (Cond.methodLinkNest own index y host).before args s = true) (hinst : (Cond.instanceMethod y).before args s = true)
    (hcode : (Cond.code y bytes maxL none).before args s = true) (hy : y.cls ≠ "java/lang/invoke/MethodHandle" ∧ y.cls ≠ "java/lang/invoke/VarHandle")
    {W9 : Nat} {Pre : Pt → Array Value → Prop} {Post : Pt → Array Value → Option Value → Pt → Prop} {PostX : Pt → Array Value → Addr → Pt → Prop} (hK : vx_Back l R p e below s args y 3 W9 Pre Post PostX)
    {g : JFrame} (hg : g.method = m) (hsize : g.locals.size = c.maxLocals) {a : Addr} {argsL rest : List Value} (hlen : ∀ sig, parseMethodDescriptor y.desc = some sig → argsL.length = sig.parameters.length)
    (hstack : g.stack = argsL.reverse ++ .ref a :: rest) (hW : 2 * g.monitorRoom + (rest.map fun v => v.category).sum ≤ W9) (hdg : decode c.code g.pc = .ok (.invokespecial index, 3))
    (hpre : ∀ vm₁, s.WarmedH vm₁ → Pre ⟨T.setVm vm₁, locs, cells, slots⟩ (Value.ref a :: argsL).toArray) :
    (∃ (v : Option Value) (vm₁ : Vm) (B : Pt), s.WarmedH vm₁ ∧ Stand p l e R s m args below meth c B.U B.locs B.cells B.slots ∧ Post ⟨T.setVm vm₁, locs, cells, slots⟩ (Value.ref a :: argsL).toArray v B ∧
      ∀ target, Steps p.tables e below (B.U.setTop { g with pc := g.pc + 3, stack := v.toList ++ rest }) target → Steps p.tables e below (T.setTop g) target) ∨
    (∃ (q : Addr) (vm₁ : Vm) (B : Pt), s.WarmedH vm₁ ∧ Stand p l e R s m args below meth c B.U B.locs B.cells B.slots ∧ PostX ⟨T.setVm vm₁, locs, cells, slots⟩ (Value.ref a :: argsL).toArray q B ∧
      Steps p.tables e below (T.setTop g) ((B.U.setTop { g with stack := rest }).pushFrame (.throwing q))) := by
  subst hg
  have hpl : e.platform.magicAccessors = ({} : Platform).magicAccessors := by rw [X.admits.platform]
  obtain ⟨mk, methM, cM, kP, vm₁, hnamed, hmethM, hcodeM, -, hlocalsM, -, hkP, -, hW₁, hstep₁⟩ := Steps.initColdArgsNest (e := e) X.here hexec X.warmed hpl hown hy1 hy hlink hinst hcode (f := g) rfl hlen hstack hdg
  have X₁ := X.noted hW₁
  rcases hK g.method meth c ⟨T.setVm vm₁, locs, cells, slots⟩ { g with stack := rest } (.invokespecial index) mk (Value.ref a :: argsL).toArray X₁ rfl hsize hdg hW (X₁.named hnamed) (hpre vm₁ X₁.warmed) with ⟨v, B, X', hpost, hsteps⟩ | ⟨q, B, X', hpost, hsteps⟩
  · exact Or.inl ⟨v, vm₁, B, X₁.warmed, X', hpost, fun target h => hstep₁ _ fun acts => by rw [doInvoke_state]; exact hsteps.trans h⟩
  · exact Or.inr ⟨q, vm₁, B, X₁.warmed, X', hpost, hstep₁ _ fun acts => by rw [doInvoke_state]; exact hsteps⟩
end VXIC
section VXID
variable {p : Program} {l : Launch} {e : Env} {R : Room} {s : State} {m : MethodId} {args : Array Value} {below : List Frame} {meth : Method} {c : Code} {H : Heap} {locs : List Loc} {cells slots : Nat}
theorem vx_runIN {y : MethodName} {bytes cc : ByteArray} {maxL nL mc ms n index : Nat} {ws : List Cond} {rm : Room} {Pc : Array Value → State → Prop} {Qc : Array Value → State → Outcome → State → Prop} {XC : String → State → State → Prop} {free : Addr → Prop} {Ts : List Cond} {own host : String} {b : Addr} {As rest : List Value} {g : JFrame}
    (S : CallFix p m c cc nL s args Ts own) (hM : vx_Met l y ws rm Pc Qc XC mc ms free) (cw : va_CN R s args own index y host bytes maxL none ws rm mc ms n ∧ y.name = "<init>" ∧ (Cond.instanceMethod y).before args s = true) (hp : PreS s H Pc (.ref b :: As))
    (hg : g.method = m) (hn : As.length = n) (hsize : g.locals.size = nL) (hstack : g.stack = As.reverse ++ .ref b :: rest) (hW : 2 * g.monitorRoom + (rest.map fun v => v.category).sum ≤ 8) (hdg : decode cc g.pc = .ok (.invokespecial index, 3)) (hf : cells + mc ≤ R.cells ∧ slots + ms ≤ R.slots) :
    vx_Run p l e R s m args below meth c H locs cells slots mc ms g rest (Qc (Value.ref b :: As).toArray) XC free := by
  obtain ⟨⟨⟨hrc, hrs, hfr, hlo, hws, hcw⟩, hcode, hini, hy, hlen, hl⟩, hx1, hx2⟩ := cw
  have hK : vx_Back l R p e below s args y 3 8 (PreOf R mc ms Pc) (PostOf Qc mc ms free) (vx_Post XC mc ms free) := vx_back (bytes := bytes) (maxL := maxL) (ret := none) hM hp.1 hrc hrs hfr hlo hws hcw (fun a' U hW => word_at hW (Or.inl (by first | rfl | simp [Cond.onTables, Cond.keeps, Cond.steady])) hini)
  obtain ⟨hx, hb, hml, ho, -⟩ := S
  have hPc := hp.2
  intro T hT X
  rcases vx_callIN X hx (bytes := bytes) (maxL := maxL) ho hx1 hl hx2 hcode hy hK hg (hsize.trans hml.symm) (a := b) (argsL := As) (rest := rest) (fun sig h => hn.trans (hlen sig h)) hstack hW (by rw [hb]; exact hdg)
    (fun vm₁ hW₁ => ⟨hf.1, hf.2, hPc (T.setVm vm₁) hT hW₁⟩) with ⟨v, vm₁, ⟨U', l2, c2, s2⟩, hW₁, X', ⟨g', mk, t, L, e1, e2, hq, h1, hL, h2, h3⟩, st⟩ | ⟨q, vm₁, ⟨U', l2, c2, s2⟩, hW₁, X', ⟨g', mk, t, L, E, ce, e1, e2, hq, hce, hcv, hcl, h1, hL, h2, h3⟩, st⟩
  · dsimp only [Pt.U, Pt.locs, Pt.cells, Pt.slots] at X' e1 e2 h1 h2 h3 st
    subst h1; subst h2; subst h3
    exact Or.inl ⟨v, (T.setVm vm₁).calling g' mk (Value.ref b :: As).toArray, t, U', L, hT, X', hL, e1, e2, hq, st⟩
  · dsimp only [Pt.U, Pt.locs, Pt.cells, Pt.slots] at X' e1 e2 h1 h2 h3 st hcl
    subst h1; subst h2; subst h3
    exact Or.inr ⟨q, (T.setVm vm₁).calling g' mk (Value.ref b :: As).toArray, t, U', L, E, ce, hT, X', hL, e1, e2, hq, hce, hcv, vx_cls hW₁ hcl, st⟩
end VXID
/-! ===== END ===== -/
/-! ===== soundness, 10: calls; every run ===== -/
theorem hx_take_rev {α : Type} : ∀ (n : Nat) (st : List α) (x : α), hx_nth st n = some x → st.take (n + 1) = st.take n ++ [x] ∧ (st.take n).length = n
  | 0, a :: l, x, h => by cases h; exact ⟨rfl, rfl⟩
  | n + 1, a :: l, x, h => by
    obtain ⟨h1, h2⟩ := hx_take_rev n l x h
    exact ⟨by show a :: l.take (n + 1) = a :: l.take n ++ [x]; rw [h1]; rfl, by show (l.take n).length + 1 = n + 1; rw [h2]⟩
  | 0, [], x, h => by cases h
  | n + 1, [], x, h => by cases h
theorem hx_call_yes {kc n pc : Nat} {ls : List (Option Value)} {st : List Value} {Hs : hx_HS} {u kd : Nat} {as : List Value} {fs : hx_FS} (h : hx_call kc n pc ls st Hs u = some (.inr (.inl (kd, as, fs)))) : kd = kc ∧ as = (st.take n).reverse ∧ fs = (pc, ls, st.drop n, Hs, u) ∧ n ≤ st.length ∧ hx_cat (st.drop n) ≤ 8 ∧ hx_wls Hs.1.length ls = true ∧ hx_wvs Hs.1.length (st.drop n) = true := by
  unfold hx_call at h
  split at h
  · rename_i hc
    cases h
    exact ⟨rfl, rfl, rfl, hc⟩
  · cases h
theorem hx_callV_yes {kc n ci pc : Nat} {ls : List (Option Value)} {st : List Value} {Hs : hx_HS} {u kd : Nat} {as : List Value} {fs : hx_FS} (h : hx_callV kc n ci pc ls st Hs u = some (.inr (.inl (kd, as, fs)))) :
    (∃ a ks, hx_nth st (n - 1) = some (.ref a) ∧ hx_nth Hs.1 a = some (.inl (ci, ks)) ∧ 0 < n) ∧ hx_call kc n pc ls st Hs u = some (.inr (.inl (kd, as, fs))) := by
  unfold hx_callV at h
  split at h
  · rename_i a ha
    split at h
    · rename_i c ks hc
      split at h
      · rename_i hcc
        obtain ⟨rfl, hn⟩ := hcc
        exact ⟨⟨a, ks, ha, hc, hn⟩, h⟩
      · cases h
    · cases h
  · cases h
theorem hx_abs_no {bu pc : Nat} {ls : List (Option Value)} {st : List Value} {Hs : hx_HS} {u : Nat} {z : (Nat × List Value × hx_FS) ⊕ (hx_RS × hx_HS × Nat)} (h : hx_abs bu pc ls st Hs u = some (.inr z)) : False := by
  unfold hx_abs hx_k at h
  split at h
  · split at h <;> cases h
  · cases h
theorem hx_min_no {bu pc : Nat} {ls : List (Option Value)} {st : List Value} {Hs : hx_HS} {u : Nat} {z : (Nat × List Value × hx_FS) ⊕ (hx_RS × hx_HS × Nat)} (h : hx_min bu pc ls st Hs u = some (.inr z)) : False := by
  unfold hx_min hx_k at h
  split at h
  · split at h <;> cases h
  · cases h
theorem hx_copy_no {pc : Nat} {ls : List (Option Value)} {st : List Value} {Hs : hx_HS} {u : Nat} {z : (Nat × List Value × hx_FS) ⊕ (hx_RS × hx_HS × Nat)} (h : hx_copy pc ls st Hs u = some (.inr z)) : False := by
  unfold hx_copy hx_k at h
  split at h
  · split at h
    · split at h <;> cases h
    · cases h
  · cases h
theorem hx_objI_no {pc : Nat} {ls : List (Option Value)} {st : List Value} {Hs : hx_HS} {u : Nat} {z : (Nat × List Value × hx_FS) ⊕ (hx_RS × hx_HS × Nat)} (h : hx_objI pc ls st Hs u = some (.inr z)) : False := by
  unfold hx_objI hx_k at h
  split at h
  · split at h <;> cases h
  · cases h
theorem hx_recv {s : State} {H : Heap} {dC : Nat → ClassId} {dI : Nat → Nat → Nat} {ad : Nat → Nat} {ac : Nat → ClassId} {b a ci : Nat} {Hs : hx_HS} {ks : List Value} (hK : va_K (dC, dI) vwCl [] s) (hP : va_P (dC, dI) vwCl (hx_ws ad ac b Hs) H) (hci : ci < 6) (hcell : hx_nth Hs.1 a = some (.inl (ci, ks))) : ∃ cell : Cell, H[ad a]? = some cell ∧ cell.vm.isStatics = false ∧ s.vm.findClass (hx_R ci) = some cell.cls := by
  have key : ∃ q, hx_nth vwCl ci = some q := by
    match ci, hci with
    | 0, _ => exact ⟨_, rfl⟩
    | 1, _ => exact ⟨_, rfl⟩
    | 2, _ => exact ⟨_, rfl⟩
    | 3, _ => exact ⟨_, rfl⟩
    | 4, _ => exact ⟨_, rfl⟩
    | 5, _ => exact ⟨_, rfl⟩
  obtain ⟨⟨C, T, N⟩, hC⟩ := key
  obtain ⟨hCR, -⟩ := hx_cls hci hC
  have h := va_recv (ws := hx_ws ad ac b Hs) hK hP (ci := ci) (q := (C, T, N)) (by rw [← hx_nth_eq]; exact hC) (hx_ws_at hcell)
  rw [← hCR]
  exact h
theorem hx_step_nocall {sc : Nat × (Nat → Int32)} {bu : Nat} {rt : Option FieldType} {ins : Instr} {a bb : Nat} {v : Value} {tg : List Nat} {pc : Nat} {ls : List (Option Value)} {st : List Value} {Hs : hx_HS} {u : Nat} {z : Nat × List Value × hx_FS} (n1 : ∀ i, ins ≠ .invokevirtual i) (n2 : ∀ i, ins ≠ .invokestatic i) (n3 : ∀ i, ins ≠ .invokespecial i) (h : hx_step sc bu rt (ins, a, bb, v, tg) pc ls st Hs u = some (.inr (.inl z))) : False := by
  unfold hx_step at h
  dsimp only at h
  cases ins
  case invokevirtual i => exact n1 i rfl
  case invokestatic i => exact n2 i rfl
  case invokespecial i => exact n3 i rfl
  all_goals (try simp only [hx_ild, hx_lld, hx_fld, hx_dld, hx_ald, hx_ist, hx_fst, hx_ast, hx_lst, hx_dst, hx_ii, hx_id, hx_i1, hx_ll, hx_li, hx_ff, hx_dd, hx_fcmp, hx_dcmp, hx_fu, hx_f2d, hx_d2l, hx_if, hx_icmp, hx_br, hx_sw, hx_inc, hx_get, hx_put, hx_arl, hx_ars, hx_len, hx_dup, hx_dup2, hx_pop, hx_newo, hx_newa, hx_newq, hx_thr, hx_iret, hx_ret, hx_k] at h)
  all_goals (repeat' (first | cases h | split at h))
section HXR
variable {p : Program} {l : Launch} {e : Env} {R : Room} {s : State} {m : MethodId} {args : Array Value} {below : List Frame} {meth : Method} {c : Code} {H : Heap} {locs : List Loc} {Q : State → Prop}
variable {dC : Nat → ClassId} {dI : Nat → Nat → Nat} {A : Nat → Prop} {b : Nat} {G : Nat × (Nat → Nat)} {sc : Nat × (Nat → Int32)} {d k : Nat}
variable {pc : Nat} {ls : List (Option Value)} {st : List Value} {Hs : hx_HS} {u : Nat} {fs : hx_FS} {ad : Nat → Nat} {ac : Nat → ClassId} {lc : Array Slot}
theorem hx_sub {ws : va_W} (hD : va_D A ws) (hS : va_S A s.heap H locs) (hA : ∀ q, s.heap.size ≤ q → A q) : ∀ q, va_A ws H.size q → A q := by
  intro q h
  rcases h with ⟨k, e, h⟩ | h
  · exact hD.2 k (q, e) h
  · exact hA q (Nat.le_trans hS.1 h)
theorem hx_pre (hI : hx_I dC dI A s b G H locs ad ac Hs) (hK : va_K (dC, dI) vwCl [] s) (hA : ∀ q, s.heap.size ≤ q → A q) (hSt : hx_St sc b A s s.heap) (U : State) (hU : U.heap = H) (hW : s.WarmedH U.vm) : hx_W0 dC dI ad ac b sc Hs H.size U :=
  ⟨by rw [hU], by rw [hU]; exact hI.1, va_K.moved hW.alike hK, hx_T_moved hW.alike hI.2.2.2.1, hI.2.1.weaken (fun _ _ _ _ => trivial), hx_St_move hSt hI.2.2.1 hU hW (hx_sub hI.2.1 hI.2.2.1 hA)⟩
theorem hx_cont {n d1 kc : Nat} {st1 stc : List Value} {res1 res : hx_RS} {H1 H2 : hx_HS} {u2 : Nat} {aa : Array Value} (hA9 : hx_A n) (F : hx_F p l R s m args meth c dC dI A b sc (d1 + 1) k) (hI : hx_I dC dI A s b G H locs ad ac Hs) (hL : hx_L ad b lc (hx_ml k) ls) (wl : hx_wls Hs.1.length ls = true) (wv : hx_wvs Hs.1.length st1 = true) (hcov : ∀ h ∈ hx_hh k, h.1 ≤ pc ∧ pc < h.2.1)
    (hr : vx_Run p l e R s m args below meth c H locs u (1000 * u) (hx_bud kc) (1000 * hx_bud kc) (F0 m pc lc stc) (st1.map (hx_cv ad b)) (hx_Qc dC dI ad b Hs.1.length (va_A (hx_ws ad ac b Hs) H.size) res1 H1 aa) (hx_XC dC dI ad b Hs.1.length (va_A (hx_ws ad ac b Hs) H.size) res1 H1) (va_A (hx_ws ad ac b Hs) H.size))
    (h1 : ∀ v, res1 = .inl v → hx_run sc n (d1 + 1) k (pc + 3, ls, v.toList ++ st1, H1, u + hx_bud kc) = some (res, H2, u2))
    (h2 : ∀ E, res1 = .inr E → (hx_ct k = [] ∧ res = .inr E ∧ H2 = H1 ∧ u2 = u + hx_bud kc) ∨ (∃ j npc, hx_find (hx_ct k) E = some (j, npc) ∧ j < ls.length ∧ hx_run sc n (d1 + 1) k (npc, hx_st1 ls j none, [], H1, u + hx_bud kc) = some (res, H2, u2)))
    (hRet : hx_Ret p l e R s m args below meth c Q dC dI A b G k res H2 u2) (hOut : hx_Out p l e R s m args below meth c Q dC dI A b G k res H2 u2) (hThr : hx_Thr p l e R s m args below meth c Q dC dI A b G k res H2 u2) :
    W p l e R s m args below meth c H locs u (1000 * u) Q (F0 m pc lc stc) := by
  obtain ⟨hx, hb, hml, hown, hts, hrt, hlocks, htab, hl, hK, hA, hSt, hR, hini⟩ := id F
  have hsub := hx_sub hI.2.1 hI.2.2.1 hA
  have world : ∀ (ad' : Nat → Nat) (st₀ t : State) (Hh : Heap) (L : List Loc), st₀.heap = H → t.heap = Hh → s.vm.Alike t.vm → hx_W1 dC dI ad b Hs.1.length (va_A (hx_ws ad ac b Hs) H.size) H1 ad' t → va_F (va_A (hx_ws ad ac b Hs) H.size) st₀ t → (∀ z ∈ L, va_A (hx_ws ad ac b Hs) H.size z.base) → ∃ ac', hx_I dC dI A s b G Hh (locs ++ L) ad' ac' H1 := by
    intro ad' st₀ t Hh L h0 ht hvm hW1 hF1 hL9
    obtain ⟨hg, ac', hP1, hT1, hD1⟩ := hW1
    obtain ⟨-, -, k3⟩ := vx_keep (T' := t) h0 rfl hI.2.2.1 (fun q _ h => hsub q h) hsub hL9 hF1
    exact ⟨ac', by rw [← ht]; exact hP1, hD1.weaken (fun _ q _ h => hsub q.1 h), by rw [← ht]; exact k3, hx_T_moved hvm.symm hT1, Nat.le_trans hI.2.2.2.2.1 hg.1, fun z hz => by rw [hg.2 z (Nat.lt_of_lt_of_le hz hI.2.2.2.2.1)]; exact hI.2.2.2.2.2 z hz⟩
  refine hx_after hr ?_ ?_
  · intro E ce q9 st₀ t Hh L h0 ht hvm hX hL9 hce hcv hcl
    obtain ⟨⟨E0, ad', hres, rfl, hW1⟩, hF1⟩ := hX
    obtain ⟨ac', hI'⟩ := world ad' st₀ t Hh L h0 ht hvm hW1 hF1 hL9
    have hag := hW1.1.2
    rw [← Nat.mul_add]
    rcases h2 E0 hres with ⟨hct, rfl, rfl, rfl⟩ | ⟨j, npc, hfind, hj, hrun⟩
    · have hh0 : hx_hh k = [] := by
        have h9 := hx_hk_all k
        rw [hct] at h9
        cases hz : hx_hh k with
        | nil => rfl
        | cons a b => rw [hz] at h9; cases h9
      exact hOut E0 rfl pc Hh _ ad' ac' lc _ q9 ce hh0 hI' hce hcv hcl
    · obtain ⟨pre, x, suf, e1, e2, e3, e4, e5, e6⟩ := hx_hk_find _ _ (hx_hk_all k) hfind
      have hsplit : c.exceptionTable.toList = tableOf pre ++ ⟨x.1, x.2.1, x.2.2.1, x.2.2.2⟩ :: tableOf suf := by
        rw [htab (by rw [e1]; intro z; cases pre <;> cases z), e1]
        unfold tableOf
        rw [List.map_append, List.map_cons]
      have hxm : x ∈ hx_hh k := by rw [e1]; exact List.mem_append_right _ List.mem_cons_self
      obtain ⟨-, -, -, -, -, -, -, -, hnc, hxw⟩ := hSt
      have hcast : (Jvm.Cond.castable (hx_E E0) (hx_E E0)).before args s = true := by
        have : E0 = 0 ∨ E0 = 1 ∨ E0 = 2 := by omega
        rcases this with rfl | rfl | rfl
        · exact (hxw _ (by simp [hx_xw])).use rfl
        · exact (hxw _ (by simp [hx_xw])).use rfl
        · exact (hxw _ (by simp [hx_xw])).use rfl
      have hL' := (hx_L_ag wl hag hL).has
      have key : ∀ lc' : Array Slot, lv_has lc' (hx_ml k) ((j, Value.ref q9) :: (hx_as ad' b 0 ls).filter (fun q => !(q.1 == j) && !(q.1 + 1 == j && q.2.category == 2))) → W p l e R s m args below meth c Hh (locs ++ L) (u + hx_bud kc) (1000 * (u + hx_bud kc)) Q (F0 m npc lc' []) := by
        intro lc' hlc'
        exact hA9 sc (d1 + 1) k npc _ [] H1 _ res H2 u2 hrun p l e R s m args below meth c Q dC dI A b G F hRet hOut hThr Hh (locs ++ L) ad' ac' lc' hI' (hx_st1_none hL.2.1 hlc')
      refine vx_catch hown (tableOf pre) ⟨x.1, x.2.1, x.2.2.1, x.2.2.2⟩ (tableOf suf) hsplit (fun z hz => ?_) ?_ e3 (hts _ e5) hcast hce hcv hcl ?_
      · unfold tableOf at hz
        obtain ⟨z0, hz0, rfl⟩ := List.mem_map.mp hz
        obtain ⟨h7, E2, h8, h9, h10⟩ := e2 z0 hz0
        refine Or.inr ⟨h7, hx_E E2, hts _ h10, hnc (hx_E E0, hx_E E2) ?_⟩
        have q1 : E0 = 0 ∨ E0 = 1 ∨ E0 = 2 := by omega
        have q2 : E2 = 0 ∨ E2 = 1 ∨ E2 = 2 := by omega
        rcases q1 with rfl | rfl | rfl <;> rcases q2 with rfl | rfl | rfl <;> first | exact absurd rfl h9 | simp [hx_ncs]
      · obtain ⟨c1, c2⟩ := hcov x hxm
        show (decide (x.1 ≤ pc) && decide (pc < x.2.1)) = true
        rw [decide_eq_true c1, decide_eq_true c2]
        rfl
      · rcases e6 with ⟨rfl, j2, rfl, hd⟩ | ⟨rfl, hd⟩
        · exact lv_astore_n hx hb hd rfl hL' (by rw [← hL.2.1]; exact hj) rfl key
        · exact lv_astore hx hb hd hL' (by rw [← hL.2.1]; exact hj) rfl key
  · intro v st₀ t Hh L h0 ht hvm hQ hL9
    obtain ⟨⟨v1, ad', hres, hov, hW1⟩, hF1⟩ := hQ
    obtain ⟨ac', hI'⟩ := world ad' st₀ t Hh L h0 ht hvm hW1 hF1 hL9
    have hag := hW1.1.2
    rw [← Nat.mul_add]
    cases hov
    have K := hA9 sc (d1 + 1) k (pc + 3) _ _ H1 _ res H2 u2 (h1 v1 hres) p l e R s m args below meth c Q dC dI A b G F hRet hOut hThr Hh (locs ++ L) ad' ac' lc hI' (hx_L_ag wl hag hL)
    have e1 : (v1.toList ++ st1).map (hx_cv ad' b) = (v1.map (hx_cv ad' b)).toList ++ st1.map (hx_cv ad b) := by
      rw [List.map_append, hx_st_ag wv hag]
      cases v1 <;> rfl
    dsimp only at K
    rw [e1] at K
    exact K
theorem hx_room {d1 kc : Nat} (F : hx_F p l R s m args meth c dC dI A b sc (d1 + 1) k) (hkc : kc < 202) : (hx_rm d1 kc).frames + 1 ≤ R.frames ∧ 8 + (hx_ml kc + 11) + (hx_rm d1 kc).locals ≤ R.locals := by
  obtain ⟨hx, hb, hml, hown, hts, hrt, hlocks, htab, hl, hK, hA, hSt, hR, hini⟩ := F
  have h1 := (hx_mokS hkc).2.2.2.2.2.2.2.2.1
  refine ⟨?_, ?_⟩
  · show d1 + 20 + 1 ≤ _; omega
  · show 8 + (hx_ml kc + 11) + (60 * d1 + 200) ≤ _; omega
/-- a call, of any of the four kinds -/
theorem hx_s_call {n d1 kc bb : Nat} {ce : hx_CE} {as : List Value} {fs1 : hx_FS} {res1 res : hx_RS} {H1 H2 : hx_HS} {u1 u2 : Nat} (hA9 : hx_A n) (F : hx_F p l R s m args meth c dC dI A b sc (d1 + 1) k) (hat : hx_at k pc = some ce) (h : hx_step sc (hx_bud k) (hx_rt k) ce pc ls st Hs u = some (.inr (.inl (kc, as, fs1)))) (hu : u + hx_bud kc ≤ hx_bud k) (hn : (hx_args as).length ≤ hx_ml kc) (hrun : hx_run sc n d1 kc (0, hx_entry as (hx_ml kc), [], Hs, 0) = some (res1, H1, u1))
    (h1 : ∀ v, res1 = .inl v → hx_run sc n (d1 + 1) k (pc + 3, ls, v.toList ++ fs1.2.2.1, H1, u + hx_bud kc) = some (res, H2, u2))
    (h2 : ∀ E, res1 = .inr E → (hx_ct k = [] ∧ res = .inr E ∧ H2 = H1 ∧ u2 = u + hx_bud kc) ∨ (∃ j npc, hx_find (hx_ct k) E = some (j, npc) ∧ j < ls.length ∧ hx_run sc n (d1 + 1) k (npc, hx_st1 ls j none, [], H1, u + hx_bud kc) = some (res, H2, u2)))
    (hRet : hx_Ret p l e R s m args below meth c Q dC dI A b G k res H2 u2) (hOut : hx_Out p l e R s m args below meth c Q dC dI A b G k res H2 u2) (hThr : hx_Thr p l e R s m args below meth c Q dC dI A b G k res H2 u2) :
    hx_Wt p l e R s m args below meth c Q dC dI A b G k (pc, ls, st, Hs, u) := by
  obtain ⟨hx, hb, hml, hown, hts, hrt, hlocks, htab, hl, hK, hA, hSt, hR, hini⟩ := id F
  have hck := hx_at_in hat
  have hd := hx_ck_d hck
  have hlk := hx_ck_l hck
  obtain ⟨ins, a, b9, v, tg⟩ := ce
  have hstep0 := h
  unfold hx_step at h
  unfold hx_lk at hlk
  dsimp only at hd hlk h
  have hf : u + hx_bud kc ≤ R.cells ∧ 1000 * u + 1000 * hx_bud kc ≤ R.slots := ⟨by omega, by omega⟩
  intro H locs ad ac lc hI hL
  dsimp only at hI hL ⊢
  have hsub := hx_sub hI.2.1 hI.2.2.1 hA
  cases ins with
  | invokevirtual i =>
    match tg, hlk, h with
    | [ci], hlk, h =>
      simp only [Bool.and_eq_true, decide_eq_true_eq] at hlk
      obtain ⟨⟨⟨⟨⟨⟨⟨⟨l1, l2⟩, l3⟩, l4⟩, l5⟩, l6⟩, l7⟩, l8⟩, l9⟩ := hlk
      obtain ⟨⟨a1, ks, ha1, hcell, hn0⟩, h⟩ := hx_callV_yes h
      obtain ⟨rfl, has, rfl, hlen, hcat, wl, wv⟩ := hx_call_yes h
      obtain ⟨hw1, hw2, hw3, hw4, hw5, hw6, hw7, hw8, hw9, hw10⟩ := hx_mokS l1
      rw [if_neg (by rw [l6]; decide)] at hw2
      have hsel := hw2.2.resolve_left l7
      obtain ⟨z9, hz9⟩ := hx_has_in l5
      have hml9 := hx_wi_in (hx_ML_ok _ hz9)
      obtain ⟨t1, t2⟩ := hx_take_rev (b9 - 1) st _ ha1
      rw [show b9 - 1 + 1 = b9 by omega] at t1
      have has2 : as = .ref a1 :: (st.take (b9 - 1)).reverse := by rw [has, t1, List.reverse_append]; rfl
      have hst : st = (st.take (b9 - 1)) ++ .ref a1 :: st.drop b9 := by
        conv => lhs; rw [← List.take_append_drop b9 st, t1]
        rw [List.append_assoc]
        rfl
      have hgood : GoodIn hx_LW (wsV (hx_R (hx_own k)) i (hx_R ci) (hx_y kc) (hx_cws kc)) := hx_GoodIn (fun w hw => by
        unfold wsV at hw
        rcases List.mem_append.mp hw with hw | hw
        · simp only [List.mem_cons, List.not_mem_nil, or_false] at hw
          rcases hw with rfl | rfl | rfl | rfl
          · exact hml9
          · exact hw2.1
          · rw [← l2, ← hw5]; exact hsel
          · rw [← l2, ← hw5]; exact hw3
        · rcases List.mem_cons.mp hw with rfl | hw
          · exact hw1
          · exact hw)
      have hcls := hx_recv (ci := ci) hK hI.1 l3 hcell
      have hM := hx_met hA9 l1 hrun hn l hl dC dI ad ac b H.size
      have hcw : CallW R s args (hx_R (hx_own k)) (hx_R ci) i (hx_y kc) (hx_by kc) (hx_ml kc) (hx_rt kc) (hx_cws kc) (hx_rm d1 kc) (hx_bud kc) (1000 * hx_bud kc) (hx_np kc) := cwV (hx_np kc) hts hgood (ws' := hx_LW) (by unfold hx_cws hx_cw; rw [l8]) rfl rfl ⟨by rw [hw5, l2], hw6, hw7, hw8⟩ (hx_room F l1)
      have hr := vx_runV (e := e) (below := below) (meth := meth) (locs := locs) (H := H) (cells := u) (slots := 1000 * u) (As := (st.take (b9 - 1)).reverse.map (hx_cv ad b)) (rest := (st.drop b9).map (hx_cv ad b)) (b := ad a1) (g := F0 m pc lc (st.map (hx_cv ad b))) ⟨hx, hb, hml, hown, hts⟩ hM hcw ⟨hx_blind, hcls, fun U hU hW => ⟨by rw [has2]; rfl, hx_pre hI hK hA hSt U hU hW⟩⟩ rfl (by rw [List.length_map, List.length_reverse, t2]; omega) hL.1 (by
          show st.map (hx_cv ad b) = _
          conv => lhs; rw [hst]
          rw [List.map_append, List.map_reverse, List.reverse_reverse]
          rfl) (lv_room (by rw [hx_cat_map]; exact hcat)) hd hf
      exact hx_cont hA9 F hI hL wl wv (fun h9 hh9 => by
        have h10 := List.all_eq_true.mp l9 h9 hh9
        simp only [Bool.and_eq_true, decide_eq_true_eq] at h10
        exact h10) hr h1 h2 hRet hOut hThr
    | [], hlk, h => cases h
    | _ :: _ :: _, hlk, h => cases h
  | invokestatic i =>
    match tg, hlk, h with
    | [], hlk, h =>
      simp only [Bool.and_eq_true, decide_eq_true_eq] at hlk
      obtain ⟨⟨⟨⟨l1, l2⟩, l3⟩, l4⟩, l5⟩ := hlk
      obtain ⟨rfl, has, rfl, hlen, hcat, wl, wv⟩ := hx_call_yes h
      obtain ⟨hw1, hw2, hw3, hw4, hw5, hw6, hw7, hw8, hw9, hw10⟩ := hx_mokS l1
      rw [if_pos l4] at hw2
      obtain ⟨z9, hz9⟩ := hx_has_in l3
      have hml9 := hx_wi_in (hx_ML_ok _ hz9)
      have hgood : GoodIn hx_LW (va_wsS (hx_R (hx_own k)) i (hx_y kc) (hx_cws kc)) := hx_GoodIn (fun w hw => by
        unfold va_wsS at hw
        rcases List.mem_append.mp hw with hw | hw
        · simp only [List.mem_cons, List.not_mem_nil, or_false] at hw
          rcases hw with rfl | rfl | rfl
          · exact hml9
          · exact hw2
          · exact hw3
        · rcases List.mem_cons.mp hw with rfl | hw
          · exact hw1
          · exact hw)
      have hM := hx_met hA9 l1 hrun hn l hl dC dI ad ac b H.size
      have hst : st.map (hx_cv ad b) = ((as.map (hx_cv ad b)).reverse) ++ (st.drop b9).map (hx_cv ad b) := by
        rw [has, ← List.map_reverse, List.reverse_reverse, ← List.map_append, List.take_append_drop]
      have hnn : (as.map (hx_cv ad b)).length = hx_np kc := by
        rw [has, List.length_map, List.length_reverse, List.length_take, l2]
        omega
      have hp : PreS s H (va_Pc (as.map (hx_cv ad b)) (hx_W0 dC dI ad ac b sc Hs H.size)) (as.map (hx_cv ad b)) := ⟨hx_blind, fun U hU hW => ⟨rfl, hx_pre hI hK hA hSt U hU hW⟩⟩
      have hcov : ∀ h ∈ hx_hh k, h.1 ≤ pc ∧ pc < h.2.1 := fun h9 hh9 => by rw [l5] at hh9; cases hh9
      cases hh : hx_hh kc with
      | nil =>
        have hcw : CallB R s args (hx_R (hx_own k)) i (hx_y kc) (hx_by kc) (hx_ml kc) (hx_rt kc) (hx_cws kc) (hx_rm d1 kc) (hx_bud kc) (1000 * hx_bud kc) (hx_np kc) ∧ (Jvm.Cond.static (hx_y kc)).before args s = true := va_cwS (hx_np kc) hts hgood (ws' := hx_LW) (by unfold hx_cws hx_cw; rw [hh]) rfl rfl ⟨hw6, hw7, hw8⟩ (hx_room F l1)
        have hr := vx_runS (e := e) (below := below) (meth := meth) (locs := locs) (H := H) (cells := u) (slots := 1000 * u) (rest := (st.drop b9).map (hx_cv ad b)) (g := F0 m pc lc (st.map (hx_cv ad b))) ⟨hx, hb, hml, hown, hts⟩ hM hcw hp rfl hnn hL.1 hst (lv_room (by rw [hx_cat_map]; exact hcat)) hd hf
        exact hx_cont hA9 F hI hL wl wv hcov hr h1 h2 hRet hOut hThr
      | cons q t =>
        have hcw : vx_CSW R s args (hx_R (hx_own k)) i (hx_y kc) (hx_by kc) (hx_ml kc) (hx_rt kc) (q :: t) (hx_cws kc) (hx_rm d1 kc) (hx_bud kc) (1000 * hx_bud kc) (hx_np kc) := vx_cwSW (hx_np kc) hts hgood (ws' := hx_LW) (by unfold hx_cws hx_cw; rw [hh]) rfl rfl ⟨hw6, hw7, hw8⟩ (hx_room F l1)
        have hr := vx_runSX (e := e) (below := below) (meth := meth) (locs := locs) (H := H) (cells := u) (slots := 1000 * u) (rest := (st.drop b9).map (hx_cv ad b)) (g := F0 m pc lc (st.map (hx_cv ad b))) ⟨hx, hb, hml, hown, hts⟩ hM hcw hp rfl hnn hL.1 hst (lv_room (by rw [hx_cat_map]; exact hcat)) hd hf
        exact hx_cont hA9 F hI hL wl wv hcov hr h1 h2 hRet hOut hThr
    | [0], hlk, h => cases h
    | [1], hlk, h => exact (hx_abs_no h).elim
    | [2], hlk, h => exact (hx_min_no h).elim
    | [3], hlk, h => exact (hx_copy_no h).elim
    | [z + 4], hlk, h => cases h
    | _ :: _ :: _, hlk, h => cases hlk
  | invokespecial i =>
    match tg, hlk, h with
    | [ci], hlk, h =>
      simp only [Bool.and_eq_true, decide_eq_true_eq] at hlk
      obtain ⟨⟨⟨⟨⟨⟨⟨⟨⟨l1, l2⟩, l3⟩, l4⟩, l5⟩, l6⟩, l7⟩, l8⟩, l9⟩, l10⟩ := hlk
      obtain ⟨⟨a1, ks, ha1, hcell, hn0⟩, h⟩ := hx_callV_yes h
      obtain ⟨rfl, has, rfl, hlen, hcat, wl, wv⟩ := hx_call_yes h
      obtain ⟨hw1, hw2, hw3, hw4, hw5, hw6, hw7, hw8, hw9, hw10⟩ := hx_mokS l1
      rw [if_neg (by rw [l7]; decide)] at hw2
      obtain ⟨t1, t2⟩ := hx_take_rev (b9 - 1) st _ ha1
      rw [show b9 - 1 + 1 = b9 by omega] at t1
      have has2 : as = .ref a1 :: (st.take (b9 - 1)).reverse := by rw [has, t1, List.reverse_append]; rfl
      have hst : st = (st.take (b9 - 1)) ++ .ref a1 :: st.drop b9 := by
        conv => lhs; rw [← List.take_append_drop b9 st, t1]
        rw [List.append_assoc]
        rfl
      have hgood : GoodIn hx_LW (hx_cws kc) := hx_GoodIn (fun w hw => by
        rcases List.mem_cons.mp hw with rfl | hw
        · exact hw1
        · exact hw)
      have hcw0 : hx_cws kc = Jvm.Cond.code (hx_y kc) (hx_by kc) (hx_ml kc) none :: hx_LW := by unfold hx_cws hx_cw; rw [l8, l6]
      have hM := hx_met hA9 l1 hrun hn l hl dC dI ad ac b H.size
      have hp : PreS s H (va_Pc (as.map (hx_cv ad b)) (hx_W0 dC dI ad ac b sc Hs H.size)) (.ref (ad a1) :: (st.take (b9 - 1)).reverse.map (hx_cv ad b)) := ⟨hx_blind, fun U hU hW => ⟨by rw [has2]; rfl, hx_pre hI hK hA hSt U hU hW⟩⟩
      have hnn : ((st.take (b9 - 1)).reverse.map (hx_cv ad b)).length = hx_np kc := by rw [List.length_map, List.length_reverse, t2]; omega
      have hst2 : st.map (hx_cv ad b) = ((st.take (b9 - 1)).reverse.map (hx_cv ad b)).reverse ++ .ref (ad a1) :: (st.drop b9).map (hx_cv ad b) := by
        conv => lhs; rw [hst]
        rw [List.map_append, List.map_reverse, List.reverse_reverse]
        rfl
      have hcov : ∀ h ∈ hx_hh k, h.1 ≤ pc ∧ pc < h.2.1 := fun h9 hh9 => by rw [l9] at hh9; cases hh9
      have plain : hx_has hx_ML (hx_own k, i, kc) = true → W p l e R s m args below meth c H locs u (1000 * u) Q (F0 m pc lc (st.map (hx_cv ad b))) := by
        intro l11
        obtain ⟨z9, hz9⟩ := hx_has_in l11
        have hml9 := hx_wi_in (hx_ML_ok _ hz9)
        have hcw := cwI (R := R) (args := args) (own := hx_R (hx_own k)) (index := i) (y := hx_y kc) (bytes := hx_by kc) (maxL := hx_ml kc) (ws := hx_cws kc) (rm := hx_rm d1 kc) (mc := hx_bud kc) (ms := 1000 * hx_bud kc) (hx_np kc) hts hgood hcw0 rfl rfl (hts _ hw3) (hts _ hml9) (hts _ hw2.1) l5 ⟨hw6, hw7, hw8⟩ (hx_room F l1)
        have hr := vx_runI (e := e) (below := below) (meth := meth) (locs := locs) (H := H) (cells := u) (slots := 1000 * u) (As := (st.take (b9 - 1)).reverse.map (hx_cv ad b)) (rest := (st.drop b9).map (hx_cv ad b)) (b := ad a1) (g := F0 m pc lc (st.map (hx_cv ad b))) ⟨hx, hb, hml, hown, hts⟩ hM hcw hp rfl hnn hL.1 hst2 (lv_room (by rw [hx_cat_map]; exact hcat)) hd hf
        exact hx_cont hA9 F hI hL wl wv hcov hr h1 h2 hRet hOut hThr
      cases v with
      | long x =>
        dsimp only at l10
        simp only [Bool.and_eq_true, decide_eq_true_eq] at l10
        have hnw := hSt.2.2.2.2.2.2.2.1 (i, hx_y kc) l10.1
        have hown4 : hx_R (hx_own k) = RX4 := by rw [l10.2]; rfl
        have hcw := va_cnB (R := R) (args := args) (own := hx_R (hx_own k)) (host := RX4) (index := i) (y := hx_y kc) (bytes := hx_by kc) (maxL := hx_ml kc) (ws := hx_cws kc) (rm := hx_rm d1 kc) (mc := hx_bud kc) (ms := 1000 * hx_bud kc) (hx_np kc) hts hgood hcw0 rfl rfl (by rw [hown4]; exact hnw) (hts _ hw3) ⟨hw6, hw7, hw8⟩ (hx_room F l1)
        have hr := vx_runIN (e := e) (below := below) (meth := meth) (locs := locs) (H := H) (cells := u) (slots := 1000 * u) (As := (st.take (b9 - 1)).reverse.map (hx_cv ad b)) (rest := (st.drop b9).map (hx_cv ad b)) (b := ad a1) (g := F0 m pc lc (st.map (hx_cv ad b))) ⟨hx, hb, hml, hown, hts⟩ hM ⟨hcw, l5, hts _ hw2.1⟩ hp rfl hnn hL.1 hst2 (lv_room (by rw [hx_cat_map]; exact hcat)) hd hf
        exact hx_cont hA9 F hI hL wl wv hcov hr h1 h2 hRet hOut hThr
      | int x => exact plain l10
      | float x => exact plain l10
      | double x => exact plain l10
      | null => exact plain l10
      | ref x => exact plain l10
      | retAddr x => exact plain l10
    | [], hlk, h => cases hlk
    | [_, _], hlk, h => exact (hx_objI_no h).elim
    | _ :: _ :: _ :: _, hlk, h => cases hlk
  | _ => exact (hx_step_nocall (by intro i hi; cases hi) (by intro i hi; cases hi) (by intro i hi; cases hi) hstep0).elim
end HXR
