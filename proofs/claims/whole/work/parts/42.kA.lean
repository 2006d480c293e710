/-! ===== what each call does to the state: where it throws, its answer, the state behind it ===== -/
abbrev OUT : Type := Nat × Int32 × ST
def isP (t : ST) (x : Int) : Prop := 0 ≤ x ∧ x < (zn (tV t) : Int)
def oAdd (t : ST) (x : Int) : OUT := if 1 ≤ x ∧ x ≤ 60 then (if zn (tV t) = 7 then (2, 0, t) else (0, nI (zn (tV t)), setV (zsv t) (opAdd (tV t) x.toNat))) else (1, 0, t)
def opEdge (V : ZV) (p j h : Nat) : ZV := (zn V, zm V, zw V, gup (ze V) p (gup (ze V p) j h), zh V, zr V, zs V)
def oTear (t : ST) (p s k h : Int) : OUT := if 0 ≤ p ∧ p < (zn (tV t) : Int) then (if (0 ≤ s ∧ s ≤ 1) ∧ (0 ≤ k ∧ k ≤ 3) ∧ 0 ≤ h ∧ h ≤ 5 then (0, nI (ze (tV t) p.toNat (s.toNat * 5 + k.toNat)), setV (zsv t) (opEdge (tV t) p.toNat (s.toNat * 5 + k.toNat) h.toNat)) else (2, 0, t)) else (1, 0, t)
def oFibre (t : ST) (p s h : Int) : OUT := if 0 ≤ p ∧ p < (zn (tV t) : Int) then (if (0 ≤ s ∧ s ≤ 1) ∧ 0 ≤ h ∧ h ≤ 9 then (0, nI (ze (tV t) p.toNat (s.toNat * 5 + 4)), setV (zsv t) (opEdge (tV t) p.toNat (s.toNat * 5 + 4) h.toNat)) else (2, 0, t)) else (1, 0, t)
def oHole (t : ST) (p x : Int) : OUT := if 0 ≤ p ∧ p < (zn (tV t) : Int) then (if 0 ≤ x ∧ x < (zw (tV t) p.toNat : Int) then (if zh (tV t) p.toNat x.toNat = false ∧ (zE (tV t) p.toNat).length = 4 then (3, 0, t) else (0, nI (zE (opHol (tV t) p.toNat x.toNat) p.toNat).length, setV (zsv t) (opHol (tV t) p.toNat x.toNat))) else (2, 0, t)) else (1, 0, t)
def oRemove (t : ST) (p : Int) : OUT := if 0 ≤ p ∧ p < (zn (tV t) : Int) then (0, nI (zn (tV t) - 1), setV (zsv t) (opRem (tV t) p.toNat)) else (1, 0, t)
def opMov (V : ZV) (p pl : Nat) : ZV := (zn V, zm V + 1, zw V, ze V, zh V, zmv V p pl, zs V)
abbrev zcost (V : ZV) (w : Nat → Nat) : Nat := zJs V w 1 (zn V - 1)
def oMove (t : ST) (p x : Int) : OUT := if 0 ≤ p ∧ p < (zn (tV t) : Int) then (if 0 ≤ x ∧ x < (zn (tV t) : Int) then (0, nI (zcost (tV t) (zmv (tV t) p.toNat x.toNat)), setV (zsv t) (opMov (tV t) p.toNat x.toNat)) else (2, 0, t)) else (1, 0, t)
def opOrd (V : ZV) : ZV := (zn V, zm V + 1, zw V, ze V, zh V, zbr V, zs V)
def oOrder (t : ST) : OUT := (0, nI (zleast (tV t)), setV (zsv t) (opOrd (tV t)))
def opSet (V : ZV) (k x : Nat) : ZV := (zn V, zm V, zw V, ze V, zh V, zr V, gup (zs V) k x)
def oSet (t : ST) (k x : Int) : OUT := if 0 ≤ k ∧ k < 2 then (if 0 ≤ x ∧ x ≤ 9 then (0, nI (zs (tV t) k.toNat), setV (zsv t) (opSet (tV t) k.toNat x.toNat)) else (2, 0, t)) else (1, 0, t)
def oAppend (t : ST) (c : Int) : OUT := if 33 ≤ c ∧ c ≤ 126 then (if tn t = 60 then (2, 0, t) else (0, nI (tn t + 1), (tV t, tS t, tK t, tn t + 1, gup (tb t) (tn t) c.toNat))) else (1, 0, t)
def oClear (t : ST) : OUT := (0, nI (tn t), (tV t, tS t, tK t, 0, tb t))
def oKeep (t : ST) (k : Int) : OUT := if 0 ≤ k ∧ k < 2 then (0, nI (zn (tV t)), (tV t, tS t, gup (tK t) k.toNat (some (tV t)), tn t, tb t)) else (1, 0, t)
def oGoBack (t : ST) (k : Int) : OUT := if 0 ≤ k ∧ k < 2 then (match tK t k.toNat with
  | none => (2, 0, t)
  | some X => (0, nI (zn X), setV (zsv t) X)) else (1, 0, t)
def oUndo (t : ST) : OUT := match hx_nth (tS t) ((tS t).length - 1) with
  | none => (1, 0, t)
  | some X => (0, nI ((tS t).length - 1), (X, (tS t).take ((tS t).length - 1), tK t, tn t, tb t))
def zres (ex : List Nat) (u : OUT) : hx_RS := if u.1 = 0 then .inl (some (.int u.2.1)) else .inr (ex.getD (u.1 - 1) 9)
/-- the class's call ends as told -/
def OKc (D : Nat → Nat → Int32) (ex : List Nat) (u : OUT) : hx_RS → (Nat → Nat → Int32) → Prop := fun r D2 => r = zres ex u ∧ InvC D2 u.2.2 ∧ eqM D D2
theorem OKc.x {D : Nat → Nat → Int32} {ex : List Nat} {u : OUT} {t : ST} {k : Nat} {v : Int32} (I : InvC D t) (h : u = (k + 1, v, t)) : OKc D ex u (.inr (ex.getD k 9)) D := by
  subst h
  exact ⟨rfl, I, fun a _ => rfl⟩
theorem OKc.v {D D2 : Nat → Nat → Int32} {ex : List Nat} {u : OUT} {t : ST} {v : Int32} (h : u = (0, v, t)) (I : InvC D2 t) (e : eqM D D2) : OKc D ex u (.inl (some (.int v))) D2 := by
  subst h
  exact ⟨rfl, I, e⟩
/-- an argument in range is a natural number -/
theorem arg_nat {x : Int} (h : 0 ≤ x) : ∃ n : Nat, x = (n : Int) := ⟨x.toNat, by omega⟩
theorem kAdd {sc : Nat × (Nat → Int32)} {d : Nat} {D : Nat → Nat → Int32} {G : Nat → Nat → Int64} {t : ST} {x : Int} (bx1 : -2147483648 ≤ x) (bx2 : x < 2147483648) (I : InvC D t) (hs : SV t) : Cq sc (d + 2) 51 [.ref 0, .int (iI x)] D G (OKc D [0, 1] (oAdd t x)) := by
  obtain ⟨r0, r1, rw, re, rc, rh, rr, rs0, rs1⟩ := rC I.1
  obtain ⟨h7, vw, ve, vh, vE, vr, vj, vs0, vs1⟩ := id hs.1
  have hv := hs.1
  refine Cq.c (fun _ _ _ => c51) ?_
  unfold oAdd
  refine Rq.b (fun _ => b51_0) (fun h0 => ?_) (fun h0 => ?_)
  · try simp (disch := omega) only [Int32.le_iff_toInt_le, Int32.lt_iff_toInt_lt, z_eq, z_nI, z_0, z_m1, z_sub, z_iI, nI_add, nI_mulN, pk_sub, nI_clamp, Nat.reduceAdd, Nat.reduceMul, Nat.reduceSub, Nat.zero_add, Nat.add_zero, r0] at h0
    all_goals (try (exfalso; omega))
    all_goals
      refine Rq.e (b51_11) ?_
      rw [if_neg (by omega)]
      exact OKc.x (k := 0) I rfl
  · try simp (disch := omega) only [Int32.le_iff_toInt_le, Int32.lt_iff_toInt_lt, z_eq, z_nI, z_0, z_m1, z_sub, z_iI, nI_add, nI_mulN, pk_sub, nI_clamp, Nat.reduceAdd, Nat.reduceMul, Nat.reduceSub, Nat.zero_add, Nat.add_zero, r0] at h0
    all_goals (try (exfalso; omega))
    all_goals
      refine Rq.b (fun _ => b51_5) (fun h5 => ?_) (fun h5 => ?_)
      · try simp (disch := omega) only [Int32.le_iff_toInt_le, Int32.lt_iff_toInt_lt, z_eq, z_nI, z_0, z_m1, z_sub, z_iI, nI_add, nI_mulN, pk_sub, nI_clamp, Nat.reduceAdd, Nat.reduceMul, Nat.reduceSub, Nat.zero_add, Nat.add_zero, r0] at h5
        all_goals (try (exfalso; omega))
        all_goals
          refine Rq.b (fun _ => b51_21) (fun h21 => ?_) (fun h21 => ?_)
          · try simp (disch := omega) only [Int32.le_iff_toInt_le, Int32.lt_iff_toInt_lt, z_eq, z_nI, z_0, z_m1, z_sub, z_iI, nI_add, nI_mulN, pk_sub, nI_clamp, Nat.reduceAdd, Nat.reduceMul, Nat.reduceSub, Nat.zero_add, Nat.add_zero, r0] at h21
            all_goals (try (exfalso; omega))
            all_goals
              obtain ⟨_, D4, hC4, rfl, I4, k4⟩ := m85 (sc := sc) (d := d) (G := G) I hs
              refine Rq.s (fun _ => b51_43 hC4) ?_
              obtain ⟨w, rfl⟩ := arg_nat (show 0 ≤ x by omega)
              obtain ⟨_, D5, hC5, rfl, R5, k5⟩ := m35 (sc := sc) (d := d + 1) (G := G) (w := w) I4.1 hv (by show zn (tV t) < 7; omega)
              rw [← i_nI]
              refine Rq.s (fun _ => b51_47 hC5) ?_
              refine Rq.e (b51_55) ?_
              rw [if_pos (by omega), if_neg (by omega)]
              exact OKc.v rfl (InvC_set I4 R5 (fun a ha => k5 a (by omega))) (fun a ha => by rw [k5 a (by omega), k4 a (by omega) (by omega)])
          · try simp (disch := omega) only [Int32.le_iff_toInt_le, Int32.lt_iff_toInt_lt, z_eq, z_nI, z_0, z_m1, z_sub, z_iI, nI_add, nI_mulN, pk_sub, nI_clamp, Nat.reduceAdd, Nat.reduceMul, Nat.reduceSub, Nat.zero_add, Nat.add_zero, r0] at h21
            all_goals (try (exfalso; omega))
            all_goals
              refine Rq.e (b51_33) ?_
              rw [if_pos (by omega), if_pos (by omega)]
              exact OKc.x (k := 1) I rfl
      · try simp (disch := omega) only [Int32.le_iff_toInt_le, Int32.lt_iff_toInt_lt, z_eq, z_nI, z_0, z_m1, z_sub, z_iI, nI_add, nI_mulN, pk_sub, nI_clamp, Nat.reduceAdd, Nat.reduceMul, Nat.reduceSub, Nat.zero_add, Nat.add_zero, r0] at h5
        all_goals (try (exfalso; omega))
        all_goals
          refine Rq.e (b51_11) ?_
          rw [if_neg (by omega)]
          exact OKc.x (k := 0) I rfl
theorem RepC_edge {D D2 : Nat → Nat → Int32} {V : ZV} {p j h : Nat} (R : RepC D 1 V) (hp : p < zn V) (hj : j < 10) (h3 : D2 3 = hx_up D 3 (p * 10 + j) (nI h) 3) (e : ∀ a, a ≠ 3 → D2 a = D a) : RepC D2 1 (opEdge V p j h) := by
  obtain ⟨r0, r1, rw, re, rc, rh, rr, rs0, rs1⟩ := rC R
  refine ⟨by rw [e 1 (by omega)]; exact r0, by rw [e 1 (by omega)]; exact r1, fun q hq => by show D2 2 q = _; rw [e 2 (by omega)]; exact rw q hq, fun q i hq hi => ?_, fun q hq => by show D2 4 q = _; rw [e 4 (by omega)]; exact rc q hq, fun q i y hq hy => by show D2 5 _ = _; rw [e 5 (by omega)]; exact rh q i y hq hy, fun i hi => by show D2 6 i = _; rw [e 6 (by omega)]; exact rr i hi, by show D2 7 0 = _; rw [e 7 (by omega)]; exact rs0, by show D2 7 1 = _; rw [e 7 (by omega)]; exact rs1⟩
  show D2 3 (q * 10 + i) = nI (gup (ze V) p (gup (ze V p) j h) q i)
  rw [h3, hx_up_at]
  by_cases c : q = p
  · rw [c, gup_s]
    by_cases c2 : i = j
    · rw [c2, gup_s, if_pos ⟨rfl, rfl⟩]
    · rw [gup_n _ _ c2, if_neg (by omega)]
      exact re p i hp hi
  · rw [gup_n _ _ c, if_neg (by omega)]
    exact re q i hq hi
theorem m84T {sc : Nat × (Nat → Int32)} {d : Nat} {D : Nat → Nat → Int32} {G : Nat → Nat → Int64} {t : ST} {p s k h mo : Nat} (I : InvC D t) (hs : SV t) (hp : p < zn (tV t)) (h1 : s ≤ 1) (h2 : k ≤ 4) (h3 : h ≤ mo) (h4 : mo < 100) : Cq sc (d + 2) 84 [.ref 0, .int (nI p), .int (nI s), .int (nI k), .int (nI h), .int (nI mo)] D G (fun r D2 => r = .inl (some (.int (nI (ze (tV t) p (s * 5 + k))))) ∧ InvC D2 (setV (zsv t) (opEdge (tV t) p (s * 5 + k) h)) ∧ eqM D D2) := by
  obtain ⟨r0, r1, rw, re, rc, rh, rr, rs0, rs1⟩ := rC I.1
  obtain ⟨h7, vw, ve, vh, vE, vr, vj, vs0, vs1⟩ := id hs.1
  have hv := hs.1

  refine Cq.c (fun _ _ _ => c84) ?_
  refine Rq.b (fun _ => b84_0) (fun h0 => ?_) (fun h0 => ?_)
  · try simp (disch := omega) only [Int32.le_iff_toInt_le, Int32.lt_iff_toInt_lt, z_eq, z_nI, z_0, z_m1, z_sub, nI_add, nI_mulN, pk_sub, nI_clamp, Nat.reduceAdd, Nat.reduceMul, Nat.reduceSub, Nat.zero_add, Nat.add_zero] at h0
    all_goals (try (exfalso; omega))
    all_goals
      refine Rq.e (b84_9) ?_
      exfalso; omega
  · try simp (disch := omega) only [Int32.le_iff_toInt_le, Int32.lt_iff_toInt_lt, z_eq, z_nI, z_0, z_m1, z_sub, nI_add, nI_mulN, pk_sub, nI_clamp, Nat.reduceAdd, Nat.reduceMul, Nat.reduceSub, Nat.zero_add, Nat.add_zero] at h0
    all_goals (try (exfalso; omega))
    all_goals
      refine Rq.b (fun _ => b84_4) (fun h4 => ?_) (fun h4 => ?_)
      · try simp (disch := omega) only [Int32.le_iff_toInt_le, Int32.lt_iff_toInt_lt, z_eq, z_nI, z_0, z_m1, z_sub, nI_add, nI_mulN, pk_sub, nI_clamp, Nat.reduceAdd, Nat.reduceMul, Nat.reduceSub, Nat.zero_add, Nat.add_zero] at h4
        all_goals (try (exfalso; omega))
        all_goals
          refine Rq.b (fun _ => b84_20) (fun h20 => ?_) (fun h20 => ?_)
          · try simp (disch := omega) only [Int32.le_iff_toInt_le, Int32.lt_iff_toInt_lt, z_eq, z_nI, z_0, z_m1, z_sub, nI_add, nI_mulN, pk_sub, nI_clamp, Nat.reduceAdd, Nat.reduceMul, Nat.reduceSub, Nat.zero_add, Nat.add_zero] at h20
            all_goals (try (exfalso; omega))
            all_goals
              refine Rq.e (b84_32) ?_
              exfalso; omega
          · try simp (disch := omega) only [Int32.le_iff_toInt_le, Int32.lt_iff_toInt_lt, z_eq, z_nI, z_0, z_m1, z_sub, nI_add, nI_mulN, pk_sub, nI_clamp, Nat.reduceAdd, Nat.reduceMul, Nat.reduceSub, Nat.zero_add, Nat.add_zero] at h20
            all_goals (try (exfalso; omega))
            all_goals
              refine Rq.b (fun _ => b84_25) (fun h25 => ?_) (fun h25 => ?_)
              · try simp (disch := omega) only [Int32.le_iff_toInt_le, Int32.lt_iff_toInt_lt, z_eq, z_nI, z_0, z_m1, z_sub, nI_add, nI_mulN, pk_sub, nI_clamp, Nat.reduceAdd, Nat.reduceMul, Nat.reduceSub, Nat.zero_add, Nat.add_zero] at h25
                all_goals (try (exfalso; omega))
                all_goals
                  obtain ⟨_, D4, hC4, rfl, I4, k4⟩ := m85 (sc := sc) (d := d) (G := G) I hs
                  refine Rq.s (fun _ => b84_43 hC4) ?_
                  have e4 : D4 3 (p * 10 + s * 5 + k) = nI (ze (tV t) p (s * 5 + k)) := by
                    rw [show p * 10 + s * 5 + k = p * 10 + (s * 5 + k) by omega]
                    exact (rC I4.1).2.2.2.1 p (s * 5 + k) hp (by omega)
                  refine Rq.s (fun _ => b84_47 (by (try simp (disch := omega) only [nI_add, nI_mulN, pk_sub, nI_clamp, Nat.reduceAdd, Nat.reduceMul, Nat.reduceSub, Nat.zero_add, Nat.add_zero, e4]); exact nI_inbT (by omega) (by omega))) ?_
                  try simp (disch := omega) only [nI_add, nI_mulN, pk_sub, nI_clamp, Nat.reduceAdd, Nat.reduceMul, Nat.reduceSub, Nat.zero_add, Nat.add_zero, e4]
                  refine Rq.e (b84_71 (by (try simp (disch := omega) only [nI_add, nI_mulN, pk_sub, nI_clamp, Nat.reduceAdd, Nat.reduceMul, Nat.reduceSub, Nat.zero_add, Nat.add_zero, e4]); exact nI_inbT (by omega) (by omega))) ?_
                  rw [nI_clamp (by omega)]
                  refine ⟨rfl, InvC_set I4 (RepC_edge I4.1 hp (by omega) (by rw [show p * 10 + (s * 5 + k) = p * 10 + s * 5 + k by omega]) (fun a ha => by rw [hx_up_ne ha])) (fun a ha => by rw [hx_up_ne (by omega)]), fun a ha => by rw [hx_up_ne (by omega), k4 a (by omega) (by omega)]⟩
              · try simp (disch := omega) only [Int32.le_iff_toInt_le, Int32.lt_iff_toInt_lt, z_eq, z_nI, z_0, z_m1, z_sub, nI_add, nI_mulN, pk_sub, nI_clamp, Nat.reduceAdd, Nat.reduceMul, Nat.reduceSub, Nat.zero_add, Nat.add_zero] at h25
                all_goals (try (exfalso; omega))
                all_goals
                  refine Rq.e (b84_32) ?_
                  exfalso; omega
      · try simp (disch := omega) only [Int32.le_iff_toInt_le, Int32.lt_iff_toInt_lt, z_eq, z_nI, z_0, z_m1, z_sub, nI_add, nI_mulN, pk_sub, nI_clamp, Nat.reduceAdd, Nat.reduceMul, Nat.reduceSub, Nat.zero_add, Nat.add_zero] at h4
        all_goals (try (exfalso; omega))
        all_goals
          refine Rq.e (b84_9) ?_
          exfalso; omega
theorem m84F {sc : Nat × (Nat → Int32)} {d : Nat} {D : Nat → Nat → Int32} {G : Nat → Nat → Int64} {p : Nat} {s h : Int} {k : Int32} {mo : Nat} (b1 : -2147483648 ≤ s) (b2 : s < 2147483648) (b3 : -2147483648 ≤ h) (b4 : h < 2147483648) (h4 : mo < 100) (hn : ¬ ((0 ≤ s ∧ s ≤ 1) ∧ 0 ≤ h ∧ h ≤ (mo : Int))) : Cl sc (d + 2) 84 [.ref 0, .int (nI p), .int (iI s), .int k, .int (iI h), .int (nI mo)] (hx_S0, D, G) (.inr 0) (hx_S0, D, G) := by
  have K : Cq sc (d + 2) 84 [.ref 0, .int (nI p), .int (iI s), .int k, .int (iI h), .int (nI mo)] D G (fun r D2 => r = .inr 0 ∧ D2 = D) := by
    refine Cq.c (fun _ _ _ => c84) ?_
    refine Rq.b (fun _ => b84_0) (fun h0 => ?_) (fun h0 => ?_)
    · try simp (disch := omega) only [Int32.le_iff_toInt_le, Int32.lt_iff_toInt_lt, z_eq, z_nI, z_0, z_m1, z_sub, z_iI, nI_add, nI_mulN, pk_sub, nI_clamp, Nat.reduceAdd, Nat.reduceMul, Nat.reduceSub, Nat.zero_add, Nat.add_zero] at h0
      all_goals (try (exfalso; omega))
      all_goals
        refine Rq.e (b84_9) ?_
        exact ⟨rfl, rfl⟩
    · try simp (disch := omega) only [Int32.le_iff_toInt_le, Int32.lt_iff_toInt_lt, z_eq, z_nI, z_0, z_m1, z_sub, z_iI, nI_add, nI_mulN, pk_sub, nI_clamp, Nat.reduceAdd, Nat.reduceMul, Nat.reduceSub, Nat.zero_add, Nat.add_zero] at h0
      all_goals (try (exfalso; omega))
      all_goals
        refine Rq.b (fun _ => b84_4) (fun h4 => ?_) (fun h4 => ?_)
        · try simp (disch := omega) only [Int32.le_iff_toInt_le, Int32.lt_iff_toInt_lt, z_eq, z_nI, z_0, z_m1, z_sub, z_iI, nI_add, nI_mulN, pk_sub, nI_clamp, Nat.reduceAdd, Nat.reduceMul, Nat.reduceSub, Nat.zero_add, Nat.add_zero] at h4
          all_goals (try (exfalso; omega))
          all_goals
            refine Rq.b (fun _ => b84_20) (fun h20 => ?_) (fun h20 => ?_)
            · try simp (disch := omega) only [Int32.le_iff_toInt_le, Int32.lt_iff_toInt_lt, z_eq, z_nI, z_0, z_m1, z_sub, z_iI, nI_add, nI_mulN, pk_sub, nI_clamp, Nat.reduceAdd, Nat.reduceMul, Nat.reduceSub, Nat.zero_add, Nat.add_zero] at h20
              all_goals (try (exfalso; omega))
              all_goals
                refine Rq.e (b84_32) ?_
                exact ⟨rfl, rfl⟩
            · try simp (disch := omega) only [Int32.le_iff_toInt_le, Int32.lt_iff_toInt_lt, z_eq, z_nI, z_0, z_m1, z_sub, z_iI, nI_add, nI_mulN, pk_sub, nI_clamp, Nat.reduceAdd, Nat.reduceMul, Nat.reduceSub, Nat.zero_add, Nat.add_zero] at h20
              all_goals (try (exfalso; omega))
              all_goals
                refine Rq.b (fun _ => b84_25) (fun h25 => ?_) (fun h25 => ?_)
                · try simp (disch := omega) only [Int32.le_iff_toInt_le, Int32.lt_iff_toInt_lt, z_eq, z_nI, z_0, z_m1, z_sub, z_iI, nI_add, nI_mulN, pk_sub, nI_clamp, Nat.reduceAdd, Nat.reduceMul, Nat.reduceSub, Nat.zero_add, Nat.add_zero] at h25
                  all_goals (try (exfalso; omega))
                  all_goals
                    exfalso; omega
                · try simp (disch := omega) only [Int32.le_iff_toInt_le, Int32.lt_iff_toInt_lt, z_eq, z_nI, z_0, z_m1, z_sub, z_iI, nI_add, nI_mulN, pk_sub, nI_clamp, Nat.reduceAdd, Nat.reduceMul, Nat.reduceSub, Nat.zero_add, Nat.add_zero] at h25
                  all_goals (try (exfalso; omega))
                  all_goals
                    refine Rq.e (b84_32) ?_
                    exact ⟨rfl, rfl⟩
        · try simp (disch := omega) only [Int32.le_iff_toInt_le, Int32.lt_iff_toInt_lt, z_eq, z_nI, z_0, z_m1, z_sub, z_iI, nI_add, nI_mulN, pk_sub, nI_clamp, Nat.reduceAdd, Nat.reduceMul, Nat.reduceSub, Nat.zero_add, Nat.add_zero] at h4
          all_goals (try (exfalso; omega))
          all_goals
            refine Rq.e (b84_9) ?_
            exact ⟨rfl, rfl⟩
  obtain ⟨r, D2, h2, rfl, rfl⟩ := K
  exact h2
theorem kTear {sc : Nat × (Nat → Int32)} {d : Nat} {D : Nat → Nat → Int32} {G : Nat → Nat → Int64} {t : ST} {p : Int} {s : Int} {k : Int} {h : Int} (bp1 : -2147483648 ≤ p) (bp2 : p < 2147483648) (bs1 : -2147483648 ≤ s) (bs2 : s < 2147483648) (bk1 : -2147483648 ≤ k) (bk2 : k < 2147483648) (bh1 : -2147483648 ≤ h) (bh2 : h < 2147483648) (I : InvC D t) (hs : SV t) : Cq sc (d + 3) 52 [.ref 0, .int (iI p), .int (iI s), .int (iI k), .int (iI h)] D G (OKc D [2, 0] (oTear t p s k h)) := by
  obtain ⟨r0, r1, rw, re, rc, rh, rr, rs0, rs1⟩ := rC I.1
  obtain ⟨h7, vw, ve, vh, vE, vr, vj, vs0, vs1⟩ := id hs.1
  have hv := hs.1
  refine Cq.c (fun _ _ _ => c52) ?_
  unfold oTear
  by_cases hp : 0 ≤ p ∧ p < (zn (tV t) : Int)
  · rw [if_pos hp]
    have h80 := m80T (sc := sc) (d := d + 2) (G := G) bp1 bp2 r0 (by omega) hp
    obtain ⟨p, rfl⟩ := arg_nat hp.1
    by_cases ha : (0 ≤ s ∧ s ≤ 1) ∧ (0 ≤ k ∧ k ≤ 3) ∧ 0 ≤ h ∧ h ≤ 5
    · rw [if_pos ha]
      obtain ⟨s, rfl⟩ := arg_nat ha.1.1
      obtain ⟨k, rfl⟩ := arg_nat ha.2.1.1
      obtain ⟨h, rfl⟩ := arg_nat ha.2.2.1
      simp only [← i_nI, Int.toNat_natCast] at h80 ⊢
      obtain ⟨_, D5, hC5, rfl, I5, k5⟩ := m84T (sc := sc) (d := d) (G := G) (p := p) (s := s) (k := k) (h := h) (mo := 5) I hs (by omega) (by omega) (by omega) (by omega) (by omega)
      refine Rq.s (fun _ => b52_0 (by (try simp (disch := omega) only [nI_add, nI_mulN, pk_sub, nI_clamp, Nat.reduceAdd, Nat.reduceMul, Nat.reduceSub, Nat.zero_add, Nat.add_zero]); exact h80)) ?_
      refine Rq.b (fun _ => b52_5) (fun h5 => ?_) (fun h5 => ?_)
      · try simp (disch := omega) only [Int32.le_iff_toInt_le, Int32.lt_iff_toInt_lt, z_eq, z_nI, z_0, z_m1, z_sub, nI_add, nI_mulN, pk_sub, nI_clamp, Nat.reduceAdd, Nat.reduceMul, Nat.reduceSub, Nat.zero_add, Nat.add_zero] at h5
        all_goals (try (exfalso; omega))
        all_goals
          refine Rq.e (b52_14) ?_
          exfalso; omega
      · try simp (disch := omega) only [Int32.le_iff_toInt_le, Int32.lt_iff_toInt_lt, z_eq, z_nI, z_0, z_m1, z_sub, nI_add, nI_mulN, pk_sub, nI_clamp, Nat.reduceAdd, Nat.reduceMul, Nat.reduceSub, Nat.zero_add, Nat.add_zero] at h5
        all_goals (try (exfalso; omega))
        all_goals
          refine Rq.b (fun _ => b52_9) (fun h9 => ?_) (fun h9 => ?_)
          · try simp (disch := omega) only [Int32.le_iff_toInt_le, Int32.lt_iff_toInt_lt, z_eq, z_nI, z_0, z_m1, z_sub, nI_add, nI_mulN, pk_sub, nI_clamp, Nat.reduceAdd, Nat.reduceMul, Nat.reduceSub, Nat.zero_add, Nat.add_zero] at h9
            all_goals (try (exfalso; omega))
            all_goals
              refine Rq.s (fun _ => b52_24 hC5) ?_
              refine Rq.e (b52_34) ?_
              exact OKc.v rfl I5 k5
          · try simp (disch := omega) only [Int32.le_iff_toInt_le, Int32.lt_iff_toInt_lt, z_eq, z_nI, z_0, z_m1, z_sub, nI_add, nI_mulN, pk_sub, nI_clamp, Nat.reduceAdd, Nat.reduceMul, Nat.reduceSub, Nat.zero_add, Nat.add_zero] at h9
            all_goals (try (exfalso; omega))
            all_goals
              refine Rq.e (b52_14) ?_
              exfalso; omega
    · rw [if_neg ha]
      rw [← i_nI] at h80 ⊢
      refine Rq.s (fun _ => b52_0 (by (try simp (disch := omega) only [nI_add, nI_mulN, pk_sub, nI_clamp, Nat.reduceAdd, Nat.reduceMul, Nat.reduceSub, Nat.zero_add, Nat.add_zero]); exact h80)) ?_
      refine Rq.b (fun _ => b52_5) (fun h5 => ?_) (fun h5 => ?_)
      · try simp (disch := omega) only [Int32.le_iff_toInt_le, Int32.lt_iff_toInt_lt, z_eq, z_nI, z_0, z_m1, z_sub, z_iI, nI_add, nI_mulN, pk_sub, nI_clamp, Nat.reduceAdd, Nat.reduceMul, Nat.reduceSub, Nat.zero_add, Nat.add_zero] at h5
        all_goals (try (exfalso; omega))
        all_goals
          refine Rq.e (b52_14) ?_
          exact OKc.x (k := 1) I rfl
      · try simp (disch := omega) only [Int32.le_iff_toInt_le, Int32.lt_iff_toInt_lt, z_eq, z_nI, z_0, z_m1, z_sub, z_iI, nI_add, nI_mulN, pk_sub, nI_clamp, Nat.reduceAdd, Nat.reduceMul, Nat.reduceSub, Nat.zero_add, Nat.add_zero] at h5
        all_goals (try (exfalso; omega))
        all_goals
          refine Rq.b (fun _ => b52_9) (fun h9 => ?_) (fun h9 => ?_)
          · try simp (disch := omega) only [Int32.le_iff_toInt_le, Int32.lt_iff_toInt_lt, z_eq, z_nI, z_0, z_m1, z_sub, z_iI, nI_add, nI_mulN, pk_sub, nI_clamp, Nat.reduceAdd, Nat.reduceMul, Nat.reduceSub, Nat.zero_add, Nat.add_zero] at h9
            all_goals (try (exfalso; omega))
            all_goals
              refine Rq.e (b52_24_x  (by (try simp (disch := omega) only [nI_add, nI_mulN, pk_sub, nI_clamp, Nat.reduceAdd, Nat.reduceMul, Nat.reduceSub, Nat.zero_add, Nat.add_zero]); exact m84F bs1 bs2 bh1 bh2 (by omega) (fun z => ha ⟨z.1, ⟨by omega, by omega⟩, z.2⟩))) ?_
              exact OKc.x (k := 1) I rfl
          · try simp (disch := omega) only [Int32.le_iff_toInt_le, Int32.lt_iff_toInt_lt, z_eq, z_nI, z_0, z_m1, z_sub, z_iI, nI_add, nI_mulN, pk_sub, nI_clamp, Nat.reduceAdd, Nat.reduceMul, Nat.reduceSub, Nat.zero_add, Nat.add_zero] at h9
            all_goals (try (exfalso; omega))
            all_goals
              refine Rq.e (b52_14) ?_
              exact OKc.x (k := 1) I rfl
  · rw [if_neg hp]
    exact Rq.e (b52_0_x (m80F bp1 bp2 r0 (by omega) hp)) (OKc.x (k := 0) I rfl)
theorem kFibre {sc : Nat × (Nat → Int32)} {d : Nat} {D : Nat → Nat → Int32} {G : Nat → Nat → Int64} {t : ST} {p : Int} {s : Int} {h : Int} (bp1 : -2147483648 ≤ p) (bp2 : p < 2147483648) (bs1 : -2147483648 ≤ s) (bs2 : s < 2147483648) (bh1 : -2147483648 ≤ h) (bh2 : h < 2147483648) (I : InvC D t) (hs : SV t) : Cq sc (d + 3) 53 [.ref 0, .int (iI p), .int (iI s), .int (iI h)] D G (OKc D [2, 0] (oFibre t p s h)) := by
  obtain ⟨r0, r1, rw, re, rc, rh, rr, rs0, rs1⟩ := rC I.1
  obtain ⟨h7, vw, ve, vh, vE, vr, vj, vs0, vs1⟩ := id hs.1
  have hv := hs.1
  refine Cq.c (fun _ _ _ => c53) ?_
  unfold oFibre
  by_cases hp : 0 ≤ p ∧ p < (zn (tV t) : Int)
  · rw [if_pos hp]
    have h80 := m80T (sc := sc) (d := d + 2) (G := G) bp1 bp2 r0 (by omega) hp
    obtain ⟨p, rfl⟩ := arg_nat hp.1
    by_cases ha : (0 ≤ s ∧ s ≤ 1) ∧ 0 ≤ h ∧ h ≤ 9
    · rw [if_pos ha]
      obtain ⟨s, rfl⟩ := arg_nat ha.1.1
      obtain ⟨h, rfl⟩ := arg_nat ha.2.1
      simp only [← i_nI, Int.toNat_natCast] at h80 ⊢
      obtain ⟨_, D5, hC5, rfl, I5, k5⟩ := m84T (sc := sc) (d := d) (G := G) (p := p) (s := s) (k := 4) (h := h) (mo := 9) I hs (by omega) (by omega) (by omega) (by omega) (by omega)
      refine Rq.s (fun _ => b53_0 (by (try simp (disch := omega) only [nI_add, nI_mulN, pk_sub, nI_clamp, Nat.reduceAdd, Nat.reduceMul, Nat.reduceSub, Nat.zero_add, Nat.add_zero]); exact h80)) ?_
      refine Rq.s (fun _ => b53_5 hC5) ?_
      refine Rq.e (b53_15) ?_
      exact OKc.v rfl I5 k5
    · rw [if_neg ha]
      rw [← i_nI] at h80 ⊢
      refine Rq.s (fun _ => b53_0 (by (try simp (disch := omega) only [nI_add, nI_mulN, pk_sub, nI_clamp, Nat.reduceAdd, Nat.reduceMul, Nat.reduceSub, Nat.zero_add, Nat.add_zero]); exact h80)) ?_
      refine Rq.e (b53_5_x  (by (try simp (disch := omega) only [nI_add, nI_mulN, pk_sub, nI_clamp, Nat.reduceAdd, Nat.reduceMul, Nat.reduceSub, Nat.zero_add, Nat.add_zero]); exact m84F bs1 bs2 bh1 bh2 (by omega) ha)) ?_
      exact OKc.x (k := 1) I rfl
  · rw [if_neg hp]
    exact Rq.e (b53_0_x (m80F bp1 bp2 r0 (by omega) hp)) (OKc.x (k := 0) I rfl)
