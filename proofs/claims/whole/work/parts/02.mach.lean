/-! ===== an abstract machine: cells by their index, ints as functions; what a method does there, it does in the Java machine (part 'snd') ===== -/
abbrev hx_SE : Type := (Nat × List Value) ⊕ (FieldType × Nat × List (Option Nat))
abbrev hx_HS : Type := List hx_SE × (Nat → Nat → Int32) × (Nat → Nat → Int64)
abbrev hx_FS : Type := Nat × List (Option Value) × List Value × hx_HS × Nat
abbrev hx_CE : Type := Instr × Nat × Nat × Value × List Nat
abbrev hx_RS : Type := Option Value ⊕ Nat
abbrev hx_Act : Type := hx_FS ⊕ ((Nat × List Value × hx_FS) ⊕ (hx_RS × hx_HS × Nat))
def hx_nth {α : Type} : List α → Nat → Option α
  | [], _ => none
  | a :: _, 0 => some a
  | _ :: l, n + 1 => hx_nth l n
def hx_look {α : Type} : List (Nat × α) → Nat → Option α
  | [], _ => none
  | q :: l, n => if q.1 = n then some q.2 else hx_look l n
def hx_up {α : Type} (d : Nat → Nat → α) (k i : Nat) (x : α) : Nat → Nat → α := fun a j => if a = k then (if j = i then x else d a j) else d a j
def hx_row {α : Type} (d : Nat → Nat → α) (k : Nat) (f : Nat → α) : Nat → Nat → α := fun a => if a = k then f else d a
def hx_inb (i : Int32) (n : Nat) : Bool := decide (¬ (i < 0 ∨ n ≤ i.toNatClampNeg))
def hx_c2 : Value → Bool
  | .long _ => true
  | .double _ => true
  | _ => false
/-- locals -/
def hx_kill (ls : List (Option Value)) (i : Nat) : List (Option Value) := match i with
  | 0 => ls
  | j + 1 => match hx_nth ls j with
    | some (some v) => if hx_c2 v then ls.set j none else ls
    | _ => ls
/-- what isn't used any more is forgotten (behind a goto) -/
def hx_drop : List Nat → List (Option Value) → List (Option Value)
  | [], ls => ls
  | i :: t, ls => hx_drop t (ls.set i none)
def hx_st1 (ls : List (Option Value)) (i : Nat) (v : Option Value) : List (Option Value) := (hx_kill ls i).set i v
def hx_st2 (ls : List (Option Value)) (i : Nat) (v : Value) : List (Option Value) := ((hx_kill ls i).set i (some v)).set (i + 1) none
def hx_args : List Value → List (Option Value)
  | [] => []
  | v :: l => if hx_c2 v then some v :: none :: hx_args l else some v :: hx_args l
def hx_entry (args : List Value) (n : Nat) : List (Option Value) := hx_args args ++ List.replicate (n - (hx_args args).length) none
def hx_wv (n : Nat) : Value → Bool
  | .ref a => decide (a < n)
  | _ => true
def hx_wvs (n : Nat) (st : List Value) : Bool := st.all (hx_wv n)
def hx_wls (n : Nat) (ls : List (Option Value)) : Bool := ls.all fun o => match o with
  | some v => hx_wv n v
  | none => true
def hx_we (n : Nat) : hx_SE → Bool
  | .inl o => o.2.all (hx_wv n)
  | .inr o => o.2.2.all fun r => match r with
    | some a => decide (a < n)
    | none => true
def hx_wsh (S : List hx_SE) : Bool := S.all (hx_we S.length)
def hx_cat (st : List Value) : Nat := (st.map fun v => v.category).sum
/-- a step that goes on -/
def hx_k (pc : Nat) (ls : List (Option Value)) (st : List Value) (H : hx_HS) (u : Nat) : Option hx_Act := some (.inl (pc, ls, st, H, u))
def hx_ild (i n pc : Nat) (ls : List (Option Value)) (st : List Value) (H : hx_HS) (u : Nat) : Option hx_Act := match hx_nth ls i with
  | some (some (.int x)) => hx_k (pc + n) ls (.int x :: st) H u
  | _ => none
def hx_lld (i n pc : Nat) (ls : List (Option Value)) (st : List Value) (H : hx_HS) (u : Nat) : Option hx_Act := match hx_nth ls i with
  | some (some (.long x)) => hx_k (pc + n) ls (.long x :: st) H u
  | _ => none
def hx_fld (i n pc : Nat) (ls : List (Option Value)) (st : List Value) (H : hx_HS) (u : Nat) : Option hx_Act := match hx_nth ls i with
  | some (some (.float x)) => hx_k (pc + n) ls (.float x :: st) H u
  | _ => none
def hx_dld (i n pc : Nat) (ls : List (Option Value)) (st : List Value) (H : hx_HS) (u : Nat) : Option hx_Act := match hx_nth ls i with
  | some (some (.double x)) => hx_k (pc + n) ls (.double x :: st) H u
  | _ => none
def hx_ald (i n pc : Nat) (ls : List (Option Value)) (st : List Value) (H : hx_HS) (u : Nat) : Option hx_Act := match hx_nth ls i with
  | some (some (.ref x)) => hx_k (pc + n) ls (.ref x :: st) H u
  | some (some (.retAddr x)) => hx_k (pc + n) ls (.retAddr x :: st) H u
  | _ => none
def hx_ist (tg : List Nat) (i n pc : Nat) (ls : List (Option Value)) (st : List Value) (H : hx_HS) (u : Nat) : Option hx_Act := match st with
  | .int x :: r => if i < ls.length then hx_k (pc + n) (hx_drop tg (hx_st1 ls i (some (.int x)))) r H u else none
  | _ => none
def hx_fst (tg : List Nat) (i n pc : Nat) (ls : List (Option Value)) (st : List Value) (H : hx_HS) (u : Nat) : Option hx_Act := match st with
  | .float x :: r => if i < ls.length then hx_k (pc + n) (hx_drop tg (hx_st1 ls i (some (.float x)))) r H u else none
  | _ => none
def hx_ast (tg : List Nat) (i n pc : Nat) (ls : List (Option Value)) (st : List Value) (H : hx_HS) (u : Nat) : Option hx_Act := match st with
  | .ref x :: r => if i < ls.length then hx_k (pc + n) (hx_drop tg (hx_st1 ls i (some (.ref x)))) r H u else none
  | _ => none
def hx_lst (tg : List Nat) (i n pc : Nat) (ls : List (Option Value)) (st : List Value) (H : hx_HS) (u : Nat) : Option hx_Act := match st with
  | .long x :: r => if i + 1 < ls.length then hx_k (pc + n) (hx_drop tg (hx_st2 ls i (.long x))) r H u else none
  | _ => none
def hx_dst (tg : List Nat) (i n pc : Nat) (ls : List (Option Value)) (st : List Value) (H : hx_HS) (u : Nat) : Option hx_Act := match st with
  | .double x :: r => if i + 1 < ls.length then hx_k (pc + n) (hx_drop tg (hx_st2 ls i (.double x))) r H u else none
  | _ => none
def hx_ii (f : Int32 → Int32 → Int32) (pc : Nat) (ls : List (Option Value)) (st : List Value) (H : hx_HS) (u : Nat) : Option hx_Act := match st with
  | .int y :: .int x :: r => hx_k (pc + 1) ls (.int (f x y) :: r) H u
  | _ => none
def hx_id (f : Int32 → Int32 → Int32) (pc : Nat) (ls : List (Option Value)) (st : List Value) (H : hx_HS) (u : Nat) : Option hx_Act := match st with
  | .int y :: .int x :: r => if y = 0 then none else hx_k (pc + 1) ls (.int (f x y) :: r) H u
  | _ => none
def hx_i1 (f : Int32 → Value) (pc : Nat) (ls : List (Option Value)) (st : List Value) (H : hx_HS) (u : Nat) : Option hx_Act := match st with
  | .int x :: r => hx_k (pc + 1) ls (f x :: r) H u
  | _ => none
def hx_ll (f : Int64 → Int64 → Value) (pc : Nat) (ls : List (Option Value)) (st : List Value) (H : hx_HS) (u : Nat) : Option hx_Act := match st with
  | .long y :: .long x :: r => hx_k (pc + 1) ls (f x y :: r) H u
  | _ => none
def hx_li (f : Int64 → Int32 → Int64) (pc : Nat) (ls : List (Option Value)) (st : List Value) (H : hx_HS) (u : Nat) : Option hx_Act := match st with
  | .int y :: .long x :: r => hx_k (pc + 1) ls (.long (f x y) :: r) H u
  | _ => none
def hx_ff (f : UInt32 → UInt32 → UInt32) (pc : Nat) (ls : List (Option Value)) (st : List Value) (H : hx_HS) (u : Nat) : Option hx_Act := match st with
  | .float y :: .float x :: r => if f x y &&& 0x7fffffff ≤ 0x7f800000 then hx_k (pc + 1) ls (.float (f x y) :: r) H u else none
  | _ => none
def hx_dd (f : UInt64 → UInt64 → UInt64) (pc : Nat) (ls : List (Option Value)) (st : List Value) (H : hx_HS) (u : Nat) : Option hx_Act := match st with
  | .double y :: .double x :: r => if f x y &&& 0x7fffffffffffffff ≤ 0x7ff0000000000000 then hx_k (pc + 1) ls (.double (f x y) :: r) H u else none
  | _ => none
def hx_fcmp (op : CmpOp) (pc : Nat) (ls : List (Option Value)) (st : List Value) (H : hx_HS) (u : Nat) : Option hx_Act := match st with
  | .float y :: .float x :: r => hx_k (pc + 1) ls (.int (Op.cmpValue (FP.fcmp x y) op) :: r) H u
  | _ => none
def hx_dcmp (op : CmpOp) (pc : Nat) (ls : List (Option Value)) (st : List Value) (H : hx_HS) (u : Nat) : Option hx_Act := match st with
  | .double y :: .double x :: r => hx_k (pc + 1) ls (.int (Op.cmpValue (FP.dcmp x y) op) :: r) H u
  | _ => none
def hx_fu (f : UInt32 → Value) (pc : Nat) (ls : List (Option Value)) (st : List Value) (H : hx_HS) (u : Nat) : Option hx_Act := match st with
  | .float x :: r => hx_k (pc + 1) ls (f x :: r) H u
  | _ => none
def hx_f2d (pc : Nat) (ls : List (Option Value)) (st : List Value) (H : hx_HS) (u : Nat) : Option hx_Act := match st with
  | .float x :: r => if FP.f2d x &&& 0x7fffffffffffffff ≤ 0x7ff0000000000000 then hx_k (pc + 1) ls (.double (FP.f2d x) :: r) H u else none
  | _ => none
def hx_d2l (pc : Nat) (ls : List (Option Value)) (st : List Value) (H : hx_HS) (u : Nat) : Option hx_Act := match st with
  | .double x :: r => hx_k (pc + 1) ls (.long (FP.d2l x) :: r) H u
  | _ => none
def hx_br (c : Prop) [Decidable c] (t pc : Nat) (ls : List (Option Value)) (st : List Value) (H : hx_HS) (u : Nat) : Option hx_Act := if c then hx_k t ls st H u else hx_k (pc + 3) ls st H u
def hx_if (cond : Jvm.ClassFile.Cond) (t pc : Nat) (ls : List (Option Value)) (st : List Value) (H : hx_HS) (u : Nat) : Option hx_Act := match st with
  | .int x :: r => match cond with
    | .eq => hx_br (x = 0) t pc ls r H u
    | .ne => hx_br (¬ x = 0) t pc ls r H u
    | .lt => hx_br (x < 0) t pc ls r H u
    | .ge => hx_br (0 ≤ x) t pc ls r H u
    | .gt => hx_br (0 < x) t pc ls r H u
    | .le => hx_br (x ≤ 0) t pc ls r H u
  | _ => none
def hx_icmp (cond : Jvm.ClassFile.Cond) (t pc : Nat) (ls : List (Option Value)) (st : List Value) (H : hx_HS) (u : Nat) : Option hx_Act := match st with
  | .int y :: .int x :: r => match cond with
    | .eq => hx_br (x = y) t pc ls r H u
    | .ne => hx_br (¬ x = y) t pc ls r H u
    | .lt => hx_br (x < y) t pc ls r H u
    | .ge => hx_br (y ≤ x) t pc ls r H u
    | .gt => hx_br (y < x) t pc ls r H u
    | .le => hx_br (x ≤ y) t pc ls r H u
  | _ => none
def hx_sw (lo hi : Int) (t : Nat) (tg : List Nat) (ls : List (Option Value)) (st : List Value) (H : hx_HS) (u : Nat) : Option hx_Act := match st with
  | .int x :: r => if x.toInt < lo ∨ hi < x.toInt then hx_k t ls r H u else match hx_nth tg (x.toInt - lo).toNat with
    | some t2 => hx_k t2 ls r H u
    | none => none
  | _ => none
def hx_inc (tg : List Nat) (i : Nat) (c : Int) (pc : Nat) (ls : List (Option Value)) (st : List Value) (H : hx_HS) (u : Nat) : Option hx_Act := match hx_nth ls i with
  | some (some (.int x)) => hx_k (pc + 3) (hx_drop tg (hx_st1 ls i (some (.int (x + Int32.ofInt c))))) st H u
  | _ => none
def hx_fv (w : Value) (x : Int32) (y : Int64) : Value := match w with
  | .int _ => .int x
  | .long _ => .long y
  | w => w
/-- getfield of field j of class ci -/
def hx_get (ci j pc : Nat) (ls : List (Option Value)) (st : List Value) (H : hx_HS) (u : Nat) : Option hx_Act := match st with
  | .ref a :: r => match hx_nth H.1 a with
    | some (.inl (c, ks)) => if c = ci then match hx_nth ks j with
        | some w => hx_k (pc + 3) ls (hx_fv w (H.2.1 a j) (H.2.2 a j) :: r) H u
        | none => none
      else none
    | _ => none
  | _ => none
/-- what fits a field: an int anything, a boolean 0 and 1 -/
def hx_fit (ty : FieldType) (x : Int32) : Bool := match ty with
  | .int => true
  | .boolean => decide (x = 0) || decide (x = 1)
  | _ => false
def hx_rty (ty : FieldType) : Bool := match ty with
  | .object _ => true
  | .array _ => true
  | _ => false
def hx_put (ty : FieldType) (ci j pc : Nat) (ls : List (Option Value)) (st : List Value) (H : hx_HS) (u : Nat) : Option hx_Act := match st with
  | v :: .ref a :: r => match hx_nth H.1 a with
    | some (.inl (c, ks)) => if c = ci then match hx_nth ks j, v with
        | some (.int _), .int x => if hx_fit ty x then hx_k (pc + 3) ls r (H.1, hx_up H.2.1 a j x, H.2.2) u else none
        | some (.long _), .long x => if ty = .long then hx_k (pc + 3) ls r (H.1, H.2.1, hx_up H.2.2 a j x) u else none
        | some .null, .ref q => if hx_rty ty then hx_k (pc + 3) ls r (H.1.set a (.inl (c, ks.set j (.ref q))), H.2) u else none
        | _, _ => none
      else none
    | _ => none
  | _ => none
/-- an array's load; .retAddr is the script -/
def hx_arl (ty : FieldType) (sc : Nat × (Nat → Int32)) (pc : Nat) (ls : List (Option Value)) (st : List Value) (H : hx_HS) (u : Nat) : Option hx_Act := match st with
  | .int i :: .ref a :: r => match hx_nth H.1 a with
    | some (.inr (t, n, cs)) => if t = ty ∧ hx_inb i n = true then (match ty with
        | .int => hx_k (pc + 1) ls (.int (H.2.1 a i.toNatClampNeg) :: r) H u
        | .boolean => hx_k (pc + 1) ls (.int (H.2.1 a i.toNatClampNeg) :: r) H u
        | .char => hx_k (pc + 1) ls (.int (H.2.1 a i.toNatClampNeg) :: r) H u
        | .long => hx_k (pc + 1) ls (.long (H.2.2 a i.toNatClampNeg) :: r) H u
        | .object _ => match hx_nth cs i.toNatClampNeg with
          | some (some q) => hx_k (pc + 1) ls (.ref q :: r) H u
          | _ => none
        | _ => none) else none
    | _ => none
  | .int i :: .retAddr _ :: r => if ty = .int ∧ hx_inb i sc.1 = true then hx_k (pc + 1) ls (.int (sc.2 i.toNatClampNeg) :: r) H u else none
  | _ => none
def hx_ars (ty : FieldType) (pc : Nat) (ls : List (Option Value)) (st : List Value) (H : hx_HS) (u : Nat) : Option hx_Act := match st with
  | .int x :: .int i :: .ref a :: r => match hx_nth H.1 a with
    | some (.inr (t, n, _)) => if t = ty ∧ hx_inb i n = true then (match ty with
        | .int => hx_k (pc + 1) ls r (H.1, hx_up H.2.1 a i.toNatClampNeg x, H.2.2) u
        | .boolean => hx_k (pc + 1) ls r (H.1, hx_up H.2.1 a i.toNatClampNeg (vp_nar .boolean x), H.2.2) u
        | .char => hx_k (pc + 1) ls r (H.1, hx_up H.2.1 a i.toNatClampNeg (vp_nar .char x), H.2.2) u
        | _ => none) else none
    | _ => none
  | .long x :: .int i :: .ref a :: r => match hx_nth H.1 a with
    | some (.inr (t, n, _)) => if ty = .long ∧ t = .long ∧ hx_inb i n = true then hx_k (pc + 1) ls r (H.1, H.2.1, hx_up H.2.2 a i.toNatClampNeg x) u else none
    | _ => none
  | .ref q :: .int i :: .ref a :: r => match hx_nth H.1 a, hx_nth H.1 q with
    | some (.inr (t, n, cs)), some (.inl (ci, _)) => if hx_inb i n = true ∧ cs.length = n ∧ ty = .object "" ∧ (match hx_nth vwCl ci with
        | some cl => decide (t = .object cl.1)
        | none => false) = true then hx_k (pc + 1) ls r (H.1.set a (.inr (t, n, cs.set i.toNatClampNeg (some q))), H.2) u else none
    | _, _ => none
  | _ => none
def hx_len (sc : Nat × (Nat → Int32)) (pc : Nat) (ls : List (Option Value)) (st : List Value) (H : hx_HS) (u : Nat) : Option hx_Act := match st with
  | .retAddr _ :: r => hx_k (pc + 1) ls (.int (Int32.ofNat sc.1) :: r) H u
  | _ => none
def hx_dup (pc : Nat) (ls : List (Option Value)) (st : List Value) (H : hx_HS) (u : Nat) : Option hx_Act := match st with
  | v :: r => if hx_c2 v then none else hx_k (pc + 1) ls (v :: v :: r) H u
  | _ => none
def hx_dup2 (pc : Nat) (ls : List (Option Value)) (st : List Value) (H : hx_HS) (u : Nat) : Option hx_Act := match st with
  | v :: w :: r => if hx_c2 v || hx_c2 w then none else hx_k (pc + 1) ls (v :: w :: v :: w :: r) H u
  | _ => none
def hx_pop (pc : Nat) (ls : List (Option Value)) (st : List Value) (H : hx_HS) (u : Nat) : Option hx_Act := match st with
  | v :: r => if hx_c2 v then none else hx_k (pc + 1) ls r H u
  | _ => none
/-- a new object of class ci (its fields' kinds: ks); all must be well formed; a unit is paid -/
def hx_wf (ls : List (Option Value)) (st : List Value) (S : List hx_SE) : Bool := hx_wls S.length ls && hx_wvs S.length st && hx_wsh S
def hx_kinds (ci : Nat) : List Value := match ci with
  | 0 => [.null, .null, .null]
  | 1 => [.null, .null, .int 0, .int 0, .int 0]
  | 2 => [.int 0, .int 0, .null, .int 0, .null, .int 0, .int 0, .int 0, .int 0]
  | 3 => [.int 0, .int 0, .null, .null, .null, .null, .null, .null]
  | 4 => [.null, .null, .int 0, .int 0, .null, .null, .null, .int 0, .null, .null, .null, .null]
  | _ => [.int 0, .null, .null, .null, .int 0, .null, .int 0, .null, .int 0, .null, .int 0, .null, .null, .int 0, .int 0, .null, .long 0]
def hx_newo (ci bu pc : Nat) (ls : List (Option Value)) (st : List Value) (H : hx_HS) (u : Nat) : Option hx_Act :=
  if hx_wf ls st H.1 = true ∧ u + 1 ≤ bu then hx_k (pc + 3) ls (.ref H.1.length :: st) (H.1 ++ [.inl (ci, hx_kinds ci)], hx_row H.2.1 H.1.length (fun _ => 0), hx_row H.2.2 H.1.length (fun _ => 0)) (u + 1) else none
def hx_newa (ty : FieldType) (bu pc : Nat) (ls : List (Option Value)) (st : List Value) (H : hx_HS) (u : Nat) : Option hx_Act := match st with
  | .int n :: r => if hx_wf ls r H.1 = true ∧ u + 1 ≤ bu ∧ ¬ n < 0 ∧ n.toNatClampNeg ≤ 1000 then hx_k (pc + 2) ls (.ref H.1.length :: r) (H.1 ++ [.inr (ty, n.toNatClampNeg, [])], hx_row H.2.1 H.1.length (fun _ => 0), hx_row H.2.2 H.1.length (fun _ => 0)) (u + 1) else none
  | _ => none
def hx_newq (C : String) (bu pc : Nat) (ls : List (Option Value)) (st : List Value) (H : hx_HS) (u : Nat) : Option hx_Act := match st with
  | .int n :: r => if hx_wf ls r H.1 = true ∧ u + 1 ≤ bu ∧ ¬ n < 0 ∧ n.toNatClampNeg ≤ 1000 then hx_k (pc + 3) ls (.ref H.1.length :: r) (H.1 ++ [.inr (.object C, n.toNatClampNeg, List.replicate n.toNatClampNeg none)], hx_row H.2.1 H.1.length (fun _ => 0), hx_row H.2.2 H.1.length (fun _ => 0)) (u + 1) else none
  | _ => none
/-- System.arraycopy of ints -/
def hx_copy (pc : Nat) (ls : List (Option Value)) (st : List Value) (H : hx_HS) (u : Nat) : Option hx_Act := match st with
  | .int n :: .int dp :: .ref b :: .int sp :: .ref a :: r => match hx_nth H.1 a, hx_nth H.1 b with
    | some (.inr (t1, n1, _)), some (.inr (t2, n2, _)) => if t1 = .int ∧ t2 = .int ∧ ¬ sp < 0 ∧ ¬ dp < 0 ∧ ¬ n < 0 ∧ sp.toNatClampNeg + n.toNatClampNeg ≤ n1 ∧ dp.toNatClampNeg + n.toNatClampNeg ≤ n2 ∧ hx_cat r ≤ 8 then hx_k (pc + 3) ls r (H.1, hx_row H.2.1 b (va_cpy (H.2.1 a) (H.2.1 b) sp.toNatClampNeg dp.toNatClampNeg n.toNatClampNeg), H.2.2) u else none
    | _, _ => none
  | _ => none
def hx_abs (bu pc : Nat) (ls : List (Option Value)) (st : List Value) (H : hx_HS) (u : Nat) : Option hx_Act := match st with
  | .int x :: r => if hx_cat r ≤ 8 ∧ u ≤ bu then hx_k (pc + 3) ls (.int (if 0 ≤ x then x else 0 - x) :: r) H u else none
  | _ => none
def hx_min (bu pc : Nat) (ls : List (Option Value)) (st : List Value) (H : hx_HS) (u : Nat) : Option hx_Act := match st with
  | .int y :: .int x :: r => if hx_cat r ≤ 8 ∧ u ≤ bu then hx_k (pc + 3) ls (.int (if y < x then y else x) :: r) H u else none
  | _ => none
/-- a call: n arguments (this among them), which come off the stack -/
def hx_call (kc n : Nat) (pc : Nat) (ls : List (Option Value)) (st : List Value) (H : hx_HS) (u : Nat) : Option hx_Act :=
  if n ≤ st.length ∧ hx_cat (st.drop n) ≤ 8 ∧ hx_wls H.1.length ls = true ∧ hx_wvs H.1.length (st.drop n) = true then some (.inr (.inl (kc, (st.take n).reverse, (pc, ls, st.drop n, H, u)))) else none
def hx_ret (st : List Value) (H : hx_HS) (u : Nat) : Option hx_Act := match st with
  | [v] => some (.inr (.inr (.inl (some v), H, u)))
  | _ => none
def hx_iret (ty : Option FieldType) (st : List Value) (H : hx_HS) (u : Nat) : Option hx_Act := match st with
  | [.int v] => (match ty with
    | some .int => some (.inr (.inr (.inl (some (.int v)), H, u)))
    | some .boolean => if v = 0 ∨ v = 1 then some (.inr (.inr (.inl (some (.int v)), H, u))) else none
    | _ => none)
  | _ => none
def hx_objI (pc : Nat) (ls : List (Option Value)) (st : List Value) (H : hx_HS) (u : Nat) : Option hx_Act := match st with
  | .ref a :: r => if a < H.1.length ∧ hx_cat r ≤ 8 then hx_k (pc + 3) ls r H u else none
  | _ => none
def hx_callV (kc n ci : Nat) (pc : Nat) (ls : List (Option Value)) (st : List Value) (H : hx_HS) (u : Nat) : Option hx_Act := match hx_nth st (n - 1) with
  | some (.ref a) => match hx_nth H.1 a with
    | some (.inl (c, _)) => if c = ci ∧ 0 < n then hx_call kc n pc ls st H u else none
    | _ => none
  | _ => none
/-- new E(text), thrown: new, dup, ldc, invokespecial, athrow -/
def hx_thr (E bu : Nat) (st : List Value) (H : hx_HS) (u : Nat) : Option hx_Act := if u + 1 ≤ bu ∧ hx_cat st ≤ 8 then some (.inr (.inr (.inr E, H, u + 1))) else none
/-- the type of field j of class ci -/
def hx_fty (ci j : Nat) : FieldType := match ci with
  | 0 => tyX0 j
  | 1 => tyX1 j
  | 2 => tyX2 j
  | 3 => tyX3 j
  | 4 => tyX4 j
  | _ => tyX5 j
def hx_step (sc : Nat × (Nat → Int32)) (bu : Nat) (rt : Option FieldType) (ce : hx_CE) (pc : Nat) (ls : List (Option Value)) (st : List Value) (H : hx_HS) (u : Nat) : Option hx_Act := match ce with
  | (ins, a, b, v, tg) => match ins with
    | .iload i => hx_ild i 2 pc ls st H u
    | .iload_n i => hx_ild i.val 1 pc ls st H u
    | .lload i => hx_lld i 2 pc ls st H u
    | .lload_n i => hx_lld i.val 1 pc ls st H u
    | .fload i => hx_fld i 2 pc ls st H u
    | .fload_n i => hx_fld i.val 1 pc ls st H u
    | .dload i => hx_dld i 2 pc ls st H u
    | .dload_n i => hx_dld i.val 1 pc ls st H u
    | .aload i => hx_ald i 2 pc ls st H u
    | .aload_n i => hx_ald i.val 1 pc ls st H u
    | .istore i => hx_ist tg i 2 pc ls st H u
    | .istore_n i => hx_ist tg i.val 1 pc ls st H u
    | .lstore i => hx_lst tg i 2 pc ls st H u
    | .lstore_n i => hx_lst tg i.val 1 pc ls st H u
    | .fstore i => hx_fst tg i 2 pc ls st H u
    | .fstore_n i => hx_fst tg i.val 1 pc ls st H u
    | .dstore i => hx_dst tg i 2 pc ls st H u
    | .dstore_n i => hx_dst tg i.val 1 pc ls st H u
    | .astore i => hx_ast tg i 2 pc ls st H u
    | .astore_n i => hx_ast tg i.val 1 pc ls st H u
    | .iconst _ => hx_k (pc + 1) ls (v :: st) H u
    | .bipush _ => hx_k (pc + 2) ls (v :: st) H u
    | .sipush _ => hx_k (pc + 3) ls (v :: st) H u
    | .lconst _ => hx_k (pc + 1) ls (v :: st) H u
    | .fconst _ => hx_k (pc + 1) ls (v :: st) H u
    | .dconst _ => hx_k (pc + 1) ls (v :: st) H u
    | .ldc _ => hx_k (pc + 2) ls (v :: st) H u
    | .ldc_w _ => hx_k (pc + 3) ls (v :: st) H u
    | .ldc2_w _ => hx_k (pc + 3) ls (v :: st) H u
    | .iadd => hx_ii (fun x y => x + y) pc ls st H u
    | .isub => hx_ii (fun x y => x - y) pc ls st H u
    | .imul => hx_ii (fun x y => x * y) pc ls st H u
    | .iand => hx_ii (fun x y => x &&& y) pc ls st H u
    | .ior => hx_ii (fun x y => x ||| y) pc ls st H u
    | .ixor => hx_ii (fun x y => x ^^^ y) pc ls st H u
    | .ishl => hx_ii (fun x y => x <<< (y &&& 31)) pc ls st H u
    | .ishr => hx_ii (fun x y => x >>> (y &&& 31)) pc ls st H u
    | .idiv => hx_id (fun x y => x / y) pc ls st H u
    | .irem => hx_id (fun x y => x - x / y * y) pc ls st H u
    | .ineg => hx_i1 (fun x => .int (-x)) pc ls st H u
    | .i2l => hx_i1 (fun x => .long x.toInt64) pc ls st H u
    | .i2c => hx_i1 (fun x => .int (x.toUInt32 % 65536).toInt32) pc ls st H u
    | .i2f => hx_i1 (fun x => .float (FP.i2f x)) pc ls st H u
    | .i2d => hx_i1 (fun x => .double (FP.i2d x)) pc ls st H u
    | .ladd => hx_ll (fun x y => .long (x + y)) pc ls st H u
    | .lsub => hx_ll (fun x y => .long (x - y)) pc ls st H u
    | .lmul => hx_ll (fun x y => .long (x * y)) pc ls st H u
    | .lor => hx_ll (fun x y => .long (x ||| y)) pc ls st H u
    | .lshl => hx_li (fun x y => x <<< (y.toInt64 &&& 63)) pc ls st H u
    | .lcmp => hx_ll (fun x y => .int (lg_cmp x y)) pc ls st H u
    | .fdiv => hx_ff FP.fdiv pc ls st H u
    | .fmul => hx_ff FP.fmul pc ls st H u
    | .fsub => hx_ff FP.fsub pc ls st H u
    | .ddiv => hx_dd FP.ddiv pc ls st H u
    | .dmul => hx_dd FP.dmul pc ls st H u
    | .dsub => hx_dd FP.dsub pc ls st H u
    | .fneg => hx_fu (fun x => .float (FP.fneg x)) pc ls st H u
    | .f2i => hx_fu (fun x => .int (FP.f2i x)) pc ls st H u
    | .f2d => hx_f2d pc ls st H u
    | .d2l => hx_d2l pc ls st H u
    | .fcmp op => hx_fcmp op pc ls st H u
    | .dcmp op => hx_dcmp op pc ls st H u
    | .ifCond c _ => hx_if c a pc ls st H u
    | .if_icmp c _ => hx_icmp c a pc ls st H u
    | .goto _ => hx_k a (hx_drop tg ls) st H u
    | .tableswitch _ lo hi _ => hx_sw lo hi a tg ls st H u
    | .iinc i c => hx_inc tg i c pc ls st H u
    | .getfield _ => hx_get a b pc ls st H u
    | .putfield _ => hx_put (hx_fty a b) a b pc ls st H u
    | .iaload => hx_arl .int sc pc ls st H u
    | .baload => hx_arl .boolean sc pc ls st H u
    | .caload => hx_arl .char sc pc ls st H u
    | .laload => hx_arl .long sc pc ls st H u
    | .aaload => hx_arl (.object RX3) sc pc ls st H u
    | .iastore => hx_ars .int pc ls st H u
    | .bastore => hx_ars .boolean pc ls st H u
    | .castore => hx_ars .char pc ls st H u
    | .lastore => hx_ars .long pc ls st H u
    | .aastore => hx_ars (.object "") pc ls st H u
    | .arraylength => hx_len sc pc ls st H u
    | .dup => hx_dup pc ls st H u
    | .dup2 => hx_dup2 pc ls st H u
    | .pop => hx_pop pc ls st H u
    | .new _ => match tg with
      | [] => hx_newo a bu pc ls st H u
      | _ => hx_thr a bu st H u
    | .newarray ty => hx_newa (newarray.typeOf ty) bu pc ls st H u
    | .anewarray _ => hx_newq RX3 bu pc ls st H u
    | .invokevirtual _ => match tg with
      | [ci] => hx_callV a b ci pc ls st H u
      | _ => none
    | .invokestatic _ => match tg with
      | [] => hx_call a b pc ls st H u
      | [1] => hx_abs bu pc ls st H u
      | [2] => hx_min bu pc ls st H u
      | [3] => hx_copy pc ls st H u
      | _ => none
    | .invokespecial _ => match tg with
      | [ci] => hx_callV a b ci pc ls st H u
      | _ => hx_objI pc ls st H u
    | .ireturn => hx_iret rt st H u
    | .lreturn => match st with
      | [.long _] => if rt = some .long then hx_ret st H u else none
      | _ => none
    | .freturn => match st with
      | [.float _] => if rt = some .float then hx_ret st H u else none
      | _ => none
    | .dreturn => match st with
      | [.double _] => if rt = some .double then hx_ret st H u else none
      | _ => none
    | .areturn => match st with
      | [.ref _] => match rt with
        | some (.object _) => hx_ret st H u
        | _ => none
      | _ => none
    | .return_ => match st with
      | [] => if rt = none then some (.inr (.inr (.inl none, H, u))) else none
      | _ => none
    | _ => none
