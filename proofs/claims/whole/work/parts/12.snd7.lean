/-! ===== soundness, 8: runs, frames, contracts: the whole of it ===== -/
def hx_rok (i : Instr) (rt : Option FieldType) (st : List Value) (v : Option Value) : Prop :=
  (∃ x, i = .ireturn ∧ st = [.int x] ∧ v = some (.int x) ∧ (rt = some .int ∨ (rt = some .boolean ∧ (x = 0 ∨ x = 1)))) ∨ (∃ x, i = .lreturn ∧ st = [.long x] ∧ v = some (.long x) ∧ rt = some .long) ∨ (∃ x, i = .freturn ∧ st = [.float x] ∧ v = some (.float x) ∧ rt = some .float) ∨ (∃ x, i = .dreturn ∧ st = [.double x] ∧ v = some (.double x) ∧ rt = some .double) ∨ (i = .return_ ∧ st = [] ∧ v = none ∧ rt = none) ∨ (∃ x C, i = .areturn ∧ st = [.ref x] ∧ v = some (.ref x) ∧ rt = some (.object C))
def hx_Ret (p : Program) (l : Launch) (e : Env) (R : Room) (s : State) (m : MethodId) (args : Array Value) (below : List Frame) (meth : Method) (c : Code) (Q : State → Prop) (dC : Nat → ClassId) (dI : Nat → Nat → Nat) (A : Nat → Prop) (b : Nat) (G : Nat × (Nat → Nat)) (k : Nat) (res : hx_RS) (Hs : hx_HS) (u : Nat) : Prop :=
  ∀ v, res = .inl v → ∀ (pc0 : Nat) (i : Instr) (st0 : List Value) (H : Heap) (locs : List Loc) (ad : Nat → Nat) (ac : Nat → ClassId) (lc : Array Slot), decode (hx_by k) pc0 = .ok (i, 1) → hx_rok i (hx_rt k) st0 v → hx_I dC dI A s b G H locs ad ac Hs → lc.size = hx_ml k → W p l e R s m args below meth c H locs u (1000 * u) Q (F0 m pc0 lc (st0.map (hx_cv ad b)))
def hx_Out (p : Program) (l : Launch) (e : Env) (R : Room) (s : State) (m : MethodId) (args : Array Value) (below : List Frame) (meth : Method) (c : Code) (Q : State → Prop) (dC : Nat → ClassId) (dI : Nat → Nat → Nat) (A : Nat → Prop) (b : Nat) (G : Nat × (Nat → Nat)) (k : Nat) (res : hx_RS) (Hs : hx_HS) (u : Nat) : Prop :=
  ∀ E, res = .inr E → ∀ (pc0 : Nat) (H : Heap) (locs : List Loc) (ad : Nat → Nat) (ac : Nat → ClassId) (lc : Array Slot) (rest : List Value) (q : Nat) (ce : Cell), hx_hh k = [] → hx_I dC dI A s b G H locs ad ac Hs → H[q]? = some ce → ce.vm = .none → s.vm.findClass (hx_E E) = some ce.cls → vx_W p l e R s m args below meth c H locs u (1000 * u) Q (F0 m pc0 lc rest) q
def hx_Thr (p : Program) (l : Launch) (e : Env) (R : Room) (s : State) (m : MethodId) (args : Array Value) (below : List Frame) (meth : Method) (c : Code) (Q : State → Prop) (dC : Nat → ClassId) (dI : Nat → Nat → Nat) (A : Nat → Prop) (b : Nat) (G : Nat × (Nat → Nat)) (k : Nat) (res : hx_RS) (Hs : hx_HS) (u : Nat) : Prop :=
  ∀ E, res = .inr E → ∀ (pc0 ik si ic ln bb u0 : Nat) (v : Value) (st0 : List Value) (H : Heap) (locs : List Loc) (ad : Nat → Nat) (ac : Nat → ClassId) (lc : Array Slot), hx_at k pc0 = some (.new ik, E, bb, v, [si, ic, ln]) → hx_I dC dI A s b G H locs ad ac Hs → lc.size = hx_ml k → hx_cat st0 ≤ 8 → u0 + 1 = u → W p l e R s m args below meth c H locs u0 (1000 * u0) Q (F0 m pc0 lc (st0.map (hx_cv ad b)))
def hx_A (n : Nat) : Prop := ∀ (sc : Nat × (Nat → Int32)) (d k pc : Nat) (ls : List (Option Value)) (st : List Value) (Hs : hx_HS) (u : Nat) (res : hx_RS) (H2 : hx_HS) (u2 : Nat), hx_run sc n d k (pc, ls, st, Hs, u) = some (res, H2, u2) →
  ∀ (p : Program) (l : Launch) (e : Env) (R : Room) (s : State) (m : MethodId) (args : Array Value) (below : List Frame) (meth : Method) (c : Code) (Q : State → Prop) (dC : Nat → ClassId) (dI : Nat → Nat → Nat) (A : Nat → Prop) (b : Nat) (G : Nat × (Nat → Nat)), hx_F p l R s m args meth c dC dI A b sc d k →
  hx_Ret p l e R s m args below meth c Q dC dI A b G k res H2 u2 → hx_Out p l e R s m args below meth c Q dC dI A b G k res H2 u2 → hx_Thr p l e R s m args below meth c Q dC dI A b G k res H2 u2 → hx_Wt p l e R s m args below meth c Q dC dI A b G k (pc, ls, st, Hs, u)
theorem hx_run_le {sc : Nat × (Nat → Int32)} : ∀ (n d k : Nat) (fs : hx_FS) (res : hx_RS) (H2 : hx_HS) (u2 : Nat), hx_run sc n d k fs = some (res, H2, u2) → u2 ≤ hx_bud k
  | 0, _, _, _, _, _, _, h => by cases h
  | n + 1, d, k, (pc, ls, st, Hs, u), res, H2, u2, h => by
    unfold hx_run at h
    split at h
    · cases h
    · split at h
      · cases h
      · exact hx_run_le n _ _ _ _ _ _ h
      · split at h
        · rename_i hu
          cases h
          exact hu
        · cases h
      · split at h
        · cases h
        · split at h
          · rename_i hu
            split at h
            · cases h
            · exact hx_run_le n _ _ _ _ _ _ h
            · split at h
              · cases h
                exact hu.1
              · split at h
                · split at h
                  · exact hx_run_le n _ _ _ _ _ _ h
                  · cases h
                · cases h
          · cases h
/-- a run of a method is its contract -/
theorem hx_body {n : Nat} (hA : hx_A n) {sc : Nat × (Nat → Int32)} {d k : Nat} {as : List Value} {Hs H2 : hx_HS} {res : hx_RS} {u2 : Nat} (hk : k < 202) (hrun : hx_run sc n d k (0, hx_entry as (hx_ml k), [], Hs, 0) = some (res, H2, u2)) (hn : (hx_args as).length ≤ hx_ml k) {l : Launch} (hl : l.stackTraces = false) {dC : Nat → ClassId} {dI : Nat → Nat → Nat} {ad : Nat → Nat} {ac : Nat → ClassId} {b sz : Nat}
    {p : Program} {e : Env} {s : State} {m : MethodId} {args : Array Value} {below : List Frame} {meth : Method} {c : Code} {s₁ : State} (B : BodyLoose p l (hx_y k) (headSpec (hx_cws k) (hx_rm d k)) (hx_by k) (hx_ml k) (hx_rt k) e s m args below meth c s₁) (hml : c.maxLocals = hx_ml k) (htab : c.exceptionTable.toList = tableOf (hx_hh k)) (hv : va_Pc (as.map (hx_cv ad b)) (hx_W0 dC dI ad ac b sc Hs sz) args s) :
    W p l e (hx_rm d k) s m args below meth c s.heap [] 0 0 (vx_MQ below (hx_Qc dC dI ad b Hs.1.length (va_A (hx_ws ad ac b Hs) sz) res H2) (hx_XC dC dI ad b Hs.1.length (va_A (hx_ws ad ac b Hs) sz) res H2) args s (hx_bud k) (1000 * hx_bud k) (va_A (hx_ws ad ac b Hs) sz)) (entryFrame m args (hx_ml k)) := by
  obtain ⟨hw1, hw2, hw3, hw4, hw5, hw6, hw7, hw8, hw9, hw10⟩ := hx_mokS hk
  obtain ⟨rfl, hsz, hP, hK, hT, hD0, hSt⟩ := hv
  subst hsz
  have hD := hD0.self (sz := s.heap.size)
  have hx := B.exec
  have hb := B.bytes
  have hr := B.returns
  have hlocks := B.notSynchronized
  have hts0 := atoms_spec (ws := hx_cws k) B.pre
  have hts : ∀ w ∈ hx_LW, w.before (as.map (hx_cv ad b)).toArray s = true := fun w hw => hts0 w (List.mem_cons_of_mem _ hw)
  have hown : s.vm.findClass (hx_R (hx_own k)) = some m.cls := by rw [← hw5]; exact findClass_of_methodNamed B.named
  have hin : meth.name = (hx_y k).name := (name_of_methodNamed B.named B.method).1
  have hle := hx_run_le _ _ _ _ _ _ _ hrun
  have hF : hx_F p l (hx_rm d k) s m (as.map (hx_cv ad b)).toArray meth c dC dI (va_A (hx_ws ad ac b Hs) s.heap.size) b sc d k := ⟨hx, hb, hml, hown, hts, hr, hlocks, fun _ => htab, hl, hK, fun q h => Or.inr h, hSt, ⟨Nat.le_refl _, Nat.le_refl _, Nat.le_refl _, Nat.le_refl _⟩, fun h => by rw [hin]; exact h⟩
  rw [lg_entry_eq]
  refine hA sc d k 0 _ [] Hs 0 res H2 u2 hrun p l e (hx_rm d k) s m _ below meth c _ dC dI _ b (Hs.1.length, ad) hF ?_ ?_ ?_ s.heap [] ad ac _ ⟨hP, hD, va_S.rf, hT, Nat.le_refl _, fun _ _ => rfl⟩ (hx_L_entry ad b as hn)
  · intro v hv pc0 i st0 H locs ad' ac' lc hd hrk hI hsize
    refine vx_ret ?_
    refine W.widen (k := hx_bud k) (n := 1000 * hx_bud k) hle (Nat.mul_le_mul_left _ hle) ?_
    have post : ∀ t : State, t.heap = H → s.WarmedH t.vm → hx_Qc dC dI ad b Hs.1.length (va_A (hx_ws ad ac b Hs) s.heap.size) res H2 (as.map (hx_cv ad b)).toArray s (.returned (v.map (hx_cv ad' b))) t := fun t ht hW => ⟨⟨v, ad', hv, rfl, hI.2.2.2.2, ac', by rw [ht]; exact hI.1, hx_T_moved hW.alike hI.2.2.2.1, hI.2.1⟩, hI.2.2.1.F ht⟩
    rcases hrk with ⟨x, rfl, rfl, rfl, hrt⟩ | ⟨x, rfl, rfl, rfl, hrt⟩ | ⟨x, rfl, rfl, rfl, hrt⟩ | ⟨x, rfl, rfl, rfl, hrt⟩ | ⟨rfl, rfl, rfl, hrt⟩ | ⟨x, C, rfl, rfl, rfl, hrt⟩
    · rcases hrt with hrt | ⟨hrt, hx01⟩
      · exact W.iret hx hb (hr.trans hrt) post hI.2.2.1.2.2 hd
      · exact W.zret (ty := .boolean) hx hb (hr.trans hrt) (by rcases hx01 with rfl | rfl <;> decide) post hI.2.2.1.2.2 hd
    · exact W.lret hx hb (hr.trans hrt) post hI.2.2.1.2.2 hd
    · exact W.fret hx hb (hr.trans hrt) post hI.2.2.1.2.2 hd
    · exact W.dret hx hb (hr.trans hrt) post hI.2.2.1.2.2 hd
    · exact W.vret hx hb (hr.trans hrt) post hI.2.2.1.2.2 hd
    · exact W.aret (v := .ref (ad' x)) hx hb (hr.trans hrt) (Or.inl ⟨C, rfl⟩) (Or.inr ⟨ad' x, rfl⟩) post hI.2.2.1.2.2 hd
  · intro E hE pc0 H locs ad' ac' lc rest q ce hh0 hI hce hcv hcl
    refine vx_out ?_ hlocks hce hcv hcl (fun t ht hvm => ⟨⟨E, ad', hE, rfl, hI.2.2.2.2, ac', by rw [ht]; exact hI.1, hx_T_moved hvm hI.2.2.2.1, hI.2.1⟩, hI.2.2.1.F ht⟩) hI.2.2.1.2.2 hle (Nat.mul_le_mul_left _ hle)
    intro x hx9
    rw [htab, hh0] at hx9
    cases hx9
  · intro E hE pc0 ik si ic ln bb u0 v st0 H locs ad' ac' lc hat hI hsize hcat hu0
    have hck := hx_at_in hat
    have hd0 := hx_ck_d hck
    have hlk := hx_ck_l hck
    unfold hx_lk at hlk
    dsimp only at hlk
    simp only [Bool.and_eq_true, decide_eq_true_eq] at hlk
    obtain ⟨⟨⟨⟨⟨⟨h1, h2⟩, h3⟩, h4⟩, h5⟩, h6⟩, h7⟩ := hlk
    obtain ⟨z9, hz9⟩ := hx_has_in h1
    have hxl := hx_XL_ok _ hz9
    unfold hx_xlok at hxl
    simp only [Bool.and_eq_true, decide_eq_true_eq] at hxl
    obtain ⟨⟨⟨hE3, hxl1⟩, hxl2⟩, hxl3⟩ := hxl
    have hat9 : ∀ w ∈ vx_atS (hx_R (hx_own k)) ic (hx_E E) hx_En, w.before (as.map (hx_cv ad b)).toArray s = true ∧ vx_ot w = true := by
      intro w hw
      have h8 := List.all_eq_true.mp hxl3 w hw
      simp only [Bool.or_eq_true, Bool.and_eq_true, decide_eq_true_eq] at h8
      rcases h8 with h8 | ⟨h8, h9⟩
      · have h10 := hx_wd_in h8
        exact ⟨hts w h10, by unfold vx_ot; rw [hx_LW_good w h10, Bool.or_true]⟩
      · exact ⟨(hSt.2.2.2.2.2.2.2.2.2 w h8).use h9, by unfold vx_ot; rw [h9]; rfl⟩
    have hgood : ∀ w ∈ Jvm.Cond.classLink (hx_R (hx_own k)) ik (hx_E E) :: Jvm.Cond.initialized (hx_E E) :: vx_atS (hx_R (hx_own k)) ic (hx_E E) hx_En, vx_ot w = true := by
      intro w hw
      rcases List.mem_cons.mp hw with rfl | hw
      · unfold vx_ot; rw [hx_LW_good _ (hx_wd_in hxl1), Bool.or_true]
      · rcases List.mem_cons.mp hw with rfl | hw
        · unfold vx_ot; rw [hx_LW_good _ (hx_wd_in hxl2), Bool.or_true]
        · exact (hat9 w hw).2
    have hfit : Bundle.fit (hx_E E) = true ∧ ∀ n ∈ hx_En, Bundle.fit n = true := by
      have hE3 : E < 3 := hE3
      have : E = 0 ∨ E = 1 ∨ E = 2 := by omega
      rcases this with rfl | rfl | rfl <;> exact ⟨by decide +kernel, by decide +kernel⟩
    obtain ⟨text, sa, hstr⟩ : ∃ (text : String) (sa : Nat), vk_R (hx_R (hx_own k)) si text sa s := by
      split at h2
      · rename_i q hq
        have e1 := of_decide_eq_true h2
        rw [hx_nth_eq] at hq
        obtain ⟨sa, hsa⟩ := hSt.2.2.2.2.2.1 q (List.mem_of_getElem? hq)
        rw [e1.1, e1.2] at hsa
        exact ⟨_, sa, hsa⟩
      · cases h2
    have hout : ∀ z x, x ∈ c.exceptionTable.toList → covers x z = false := by
      intro z x hx9
      rw [htab, h3] at hx9
      cases hx9
    have hub : u0 + 1 ≤ hx_bud k := by omega
    have hXC : ∀ t : State, s.vm.Alike t.vm → H.size ≤ t.heap.size → (∀ q : Nat, q < H.size → t.heap[q]? = H[q]?) → hx_XC dC dI ad b Hs.1.length (va_A (hx_ws ad ac b Hs) s.heap.size) res H2 (hx_E E) s t := by
      intro t hvm hsz2 hkeep
      refine ⟨⟨E, ad', hE, rfl, hI.2.2.2.2, ac', hI.1.kept (fun k9 q hq => hkeep _ (vx_lt hI.1 hq)), hx_T_moved hvm hI.2.2.2.1, hI.2.1⟩, ?_⟩
      refine ⟨Nat.le_trans hI.2.2.1.1 hsz2, fun q hq hz => ?_⟩
      rw [hkeep q (Nat.lt_of_lt_of_le hq hI.2.2.1.1)]
      exact hI.2.2.1.2.1 q hq hz
    have hlen3 : hx_En.length = 2 := rfl
    by_cases hln : ln = 2
    · subst hln
      rw [if_pos rfl] at h7
      refine vx_throwS (rest := st0.map (hx_cv ad' b)) (names := hx_En) hx hb hl hown hfit.1 hfit.2 (hts _ (hx_wd_in hxl1)) (hts _ (hx_wd_in hxl2)) hstr (fun w hw => (hat9 w hw).1) hgood hSt.2.2.2.1 hSt.2.2.2.2.1 hI.2.2.1 (hsize.trans hml.symm) hd0 (hx_isd_ok h4) (hx_isd_ok h7) (hx_isd_ok h5) (hx_isd_ok h6) (hout _) ?_ ?_ ?_ ?_ hlocks hXC hI.2.2.1.2.2 hub ?_
      · rw [hlen3]; show 2 + 3 < d + 20; omega
      · rw [hx_cat_map, hlen3]; show _ ≤ 60 * d + 200; omega
      · show u0 + 1 ≤ hx_bud k; exact hub
      · show 1000 * u0 + 6 ≤ 1000 * hx_bud k; omega
      · omega
    · rw [if_neg hln] at h7
      simp only [Bool.and_eq_true, decide_eq_true_eq] at h7
      obtain ⟨rfl, h7⟩ := h7
      refine vx_throwSW (rest := st0.map (hx_cv ad' b)) (names := hx_En) hx hb hl hown hfit.1 hfit.2 (hts _ (hx_wd_in hxl1)) (hts _ (hx_wd_in hxl2)) hstr (fun w hw => (hat9 w hw).1) hgood hSt.2.2.2.1 hSt.2.2.2.2.1 hI.2.2.1 (hsize.trans hml.symm) hd0 (hx_isd_ok h4) (hx_isd_ok h7) (hx_isd_ok h5) (hx_isd_ok h6) (hout _) ?_ ?_ ?_ ?_ hlocks hXC hI.2.2.1.2.2 hub ?_
      · rw [hlen3]; show 2 + 3 < d + 20; omega
      · rw [hx_cat_map, hlen3]; show _ ≤ 60 * d + 200; omega
      · show u0 + 1 ≤ hx_bud k; exact hub
      · show 1000 * u0 + 6 ≤ 1000 * hx_bud k; omega
      · omega
theorem hx_met {n : Nat} (hA : hx_A n) {sc : Nat × (Nat → Int32)} {d k : Nat} {as : List Value} {Hs H2 : hx_HS} {res : hx_RS} {u2 : Nat} (hk : k < 202) (hrun : hx_run sc n d k (0, hx_entry as (hx_ml k), [], Hs, 0) = some (res, H2, u2)) (hn : (hx_args as).length ≤ hx_ml k) (l : Launch) (hl : l.stackTraces = false) (dC : Nat → ClassId) (dI : Nat → Nat → Nat) (ad : Nat → Nat) (ac : Nat → ClassId) (b sz : Nat) :
    vx_Met l (hx_y k) (hx_cws k) (hx_rm d k) (va_Pc (as.map (hx_cv ad b)) (hx_W0 dC dI ad ac b sc Hs sz)) (hx_Qc dC dI ad b Hs.1.length (va_A (hx_ws ad ac b Hs) sz) res H2) (hx_XC dC dI ad b Hs.1.length (va_A (hx_ws ad ac b Hs) sz) res H2) (hx_bud k) (1000 * hx_bud k) (va_A (hx_ws ad ac b Hs) sz) := by
  obtain ⟨hw1, hw2, hw3, hw4, hw5, hw6, hw7, hw8, hw9, hw10⟩ := hx_mokS hk
  cases hh : hx_hh k with
  | nil =>
    refine vx_ofW (cc := hx_by k) (maxL := hx_ml k) (ret := hx_rt k) (ws' := hx_LW) hw4 (by unfold hx_cws hx_cw; rw [hh]) ?_
    intro p e s m args below meth c s₁ B hml ht hv
    refine hx_body hA hk hrun hn hl B hml ?_ hv
    rw [hh]
    cases hz : c.exceptionTable.toList with
    | nil => rfl
    | cons x t => exact (ht x (by rw [hz]; exact List.mem_cons_self)).elim
  | cons q t =>
    refine vx_ofWH (cc := hx_by k) (maxL := hx_ml k) (ret := hx_rt k) (hh := q :: t) (ws' := hx_LW) hw4 (by unfold hx_cws hx_cw; rw [hh]) ?_
    intro p e s m args below meth c s₁ B hml hv
    refine hx_body hA hk hrun hn hl B hml ?_ hv
    rw [hh]
    have hts0 := atoms_spec (ws := hx_cws k) B.pre
    have h9 := hts0 (hx_cw k) List.mem_cons_self
    unfold hx_cw at h9
    rw [hh] at h9
    exact vx_table (x := hx_y k) B h9
