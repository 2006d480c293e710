/-! ===== runs with what holds at their end ===== -/
def Rq (sc : Nat × (Nat → Int32)) (d k : Nat) (fs : hx_FS) (G : Nat → Nat → Int64) (Q : hx_RS → (Nat → Nat → Int32) → Prop) : Prop := ∃ r D2 u, Rn sc d k fs (r, (hx_S0, D2, G), u) ∧ Q r D2
def Cq (sc : Nat × (Nat → Int32)) (d k : Nat) (as : List Value) (D : Nat → Nat → Int32) (G : Nat → Nat → Int64) (Q : hx_RS → (Nat → Nat → Int32) → Prop) : Prop := ∃ r D2, Cl sc d k as (hx_S0, D, G) r (hx_S0, D2, G) ∧ Q r D2
section RQ
variable {sc : Nat × (Nat → Int32)} {d k : Nat} {f1 f2 f3 : hx_FS} {D D2 : Nat → Nat → Int32} {G : Nat → Nat → Int64} {Q : hx_RS → (Nat → Nat → Int32) → Prop} {P : Prop} {r : hx_RS} {u : Nat} {as : List Value}
theorem Rq.s (h : ∀ r, Rn sc d k f2 r → Rn sc d k f1 r) (K : Rq sc d k f2 G Q) : Rq sc d k f1 G Q := by
  obtain ⟨r, D2, u, h2, q⟩ := K
  exact ⟨r, D2, u, h _ h2, q⟩
theorem Rq.bt (h : ∀ r, (P → Rn sc d k f2 r) → (¬ P → Rn sc d k f3 r) → Rn sc d k f1 r) (p : P) (K : Rq sc d k f2 G Q) : Rq sc d k f1 G Q := Rq.s (fun r K => h r (fun _ => K) (fun z => absurd p z)) K
theorem Rq.bf (h : ∀ r, (P → Rn sc d k f2 r) → (¬ P → Rn sc d k f3 r) → Rn sc d k f1 r) (p : ¬ P) (K : Rq sc d k f3 G Q) : Rq sc d k f1 G Q := Rq.s (fun r K => h r (fun z => absurd z p) (fun _ => K)) K
theorem Rq.b (h : ∀ r, (P → Rn sc d k f2 r) → (¬ P → Rn sc d k f3 r) → Rn sc d k f1 r) (kt : P → Rq sc d k f2 G Q) (kf : ¬ P → Rq sc d k f3 G Q) : Rq sc d k f1 G Q := by
  by_cases p : P
  · exact Rq.bt h p (kt p)
  · exact Rq.bf h p (kf p)
theorem Rq.e (h : Rn sc d k f1 (r, (hx_S0, D2, G), u)) (q : Q r D2) : Rq sc d k f1 G Q := ⟨r, D2, u, h, q⟩
theorem Cq.c {f : hx_FS} (h : ∀ r H2 u, Rn sc d k f (r, H2, u) → Cl sc d k as (hx_S0, D, G) r H2) (K : Rq sc d k f G Q) : Cq sc d k as D G Q := by
  obtain ⟨r, D2, u, h2, q⟩ := K
  exact ⟨r, D2, h _ _ _ h2, q⟩
/-- the answer v, nothing changed -/
def Qp (v : Int32) (D : Nat → Nat → Int32) : hx_RS → (Nat → Nat → Int32) → Prop := fun r D2 => r = .inl (some (.int v)) ∧ D2 = D
theorem Qp.i {a v : Int32} (h : a = v) : Qp v D (.inl (some (.int a))) D := ⟨by rw [h], rfl⟩
theorem Cq.p {v : Int32} (h : Cq sc d k as D G (Qp v D)) : Cl sc d k as (hx_S0, D, G) (.inl (some (.int v))) (hx_S0, D, G) := by
  obtain ⟨r, D2, h2, rfl, rfl⟩ := h
  exact h2
theorem Cq.m {Q2 : hx_RS → (Nat → Nat → Int32) → Prop} (h : Cq sc d k as D G Q) (w : ∀ r D2, Q r D2 → Q2 r D2) : Cq sc d k as D G Q2 := by
  obtain ⟨r, D2, h2, q⟩ := h
  exact ⟨r, D2, h2, w _ _ q⟩
theorem Rq.m {Q2 : hx_RS → (Nat → Nat → Int32) → Prop} (h : Rq sc d k f1 G Q) (w : ∀ r D2, Q r D2 → Q2 r D2) : Rq sc d k f1 G Q2 := by
  obtain ⟨r, D2, u, h2, q⟩ := h
  exact ⟨r, D2, u, h2, w _ _ q⟩
end RQ
/-! ===== ints, told by what they are worth ===== -/
theorem z_eq (x y : Int32) : (x = y) = (x.toInt = y.toInt) := propext Int32.toInt_inj.symm
theorem z_nI {n : Nat} (h : n < 2 ^ 31) : (nI n).toInt = (n : Int) := nI_toInt h
theorem z_0 : (0 : Int32).toInt = 0 := rfl
theorem z_m1 : (-1 : Int32).toInt = -1 := rfl
theorem z_sub {a b : Nat} (ha : a < 2 ^ 30) (hb : b < 2 ^ 30) : (nI a - nI b).toInt = (a : Int) - b := pk_sub_toInt ha hb
theorem hx_up_s {α : Type} (d : Nat → Nat → α) (k i : Nat) (x : α) : hx_up d k i x k i = x := by rw [hx_up_at, if_pos ⟨rfl, rfl⟩]
theorem hx_up_in {α : Type} (d : Nat → Nat → α) (k : Nat) {i j : Nat} (x : α) (h : j ≠ i) : hx_up d k i x k j = d k j := by rw [hx_up_at, if_neg (fun z => h z.2)]
theorem hx_row_s {α : Type} (d : Nat → Nat → α) (k : Nat) (f : Nat → α) : hx_row d k f k = f := by
  funext j
  rw [hx_row_at, if_pos rfl]
