/-! ===== straight stretches of code: their conditions come as a list ===== -/
/-- the shapes behind the law's beginning: 0 ScrollPieces, 1 now (2..7), 8 saved, 9 slots, 10 slotFull, 11 buffer, 12 Reader (13, 14), 15 Cheapest (16, 17, 18), 19 HoleLine (20, 21), 22 triedRow, 23.. saved Scrolls, 65, 72 slots, 79 the model (80..88), 89 out -/
def hx_S0 : List hx_SE := [.inl (4, [.ref 1, .ref 8, .int 0, .int 0, .ref 9, .ref 10, .ref 11, .int 0, .ref 12, .ref 15, .ref 19, .ref 22]), .inl (3, [.int 0, .int 0, .ref 2, .ref 3, .ref 4, .ref 5, .ref 6, .ref 7]), .inr (.int, 7, []), .inr (.int, 70, []), .inr (.int, 7, []), .inr (.int, 28, []), .inr (.int, 7, []), .inr (.int, 2, []), .inr (.object RX3, 6, [some 23, some 30, some 37, some 44, some 51, some 58]), .inr (.object RX3, 2, [some 65, some 72]), .inr (.boolean, 2, []), .inr (.char, 60, []), .inl (2, [.int 0, .int 0, .ref 13, .int 0, .ref 14, .int 0, .int 0, .int 0, .int 0]), .inr (.int, 10, []), .inr (.int, 4, []), .inl (0, [.ref 16, .ref 17, .ref 18]), .inr (.int, 49, []), .inr (.int, 896, []), .inr (.int, 7, []), .inl (1, [.ref 20, .ref 21, .int 0, .int 0, .int 0]), .inr (.int, 28, []), .inr (.int, 28, []), .inr (.int, 7, []), .inl (3, [.int 0, .int 0, .ref 24, .ref 25, .ref 26, .ref 27, .ref 28, .ref 29]), .inr (.int, 7, []), .inr (.int, 70, []), .inr (.int, 7, []), .inr (.int, 28, []), .inr (.int, 7, []), .inr (.int, 2, []), .inl (3, [.int 0, .int 0, .ref 31, .ref 32, .ref 33, .ref 34, .ref 35, .ref 36]), .inr (.int, 7, []), .inr (.int, 70, []), .inr (.int, 7, []), .inr (.int, 28, []), .inr (.int, 7, []), .inr (.int, 2, []), .inl (3, [.int 0, .int 0, .ref 38, .ref 39, .ref 40, .ref 41, .ref 42, .ref 43]), .inr (.int, 7, []), .inr (.int, 70, []), .inr (.int, 7, []), .inr (.int, 28, []), .inr (.int, 7, []), .inr (.int, 2, []), .inl (3, [.int 0, .int 0, .ref 45, .ref 46, .ref 47, .ref 48, .ref 49, .ref 50]), .inr (.int, 7, []), .inr (.int, 70, []), .inr (.int, 7, []), .inr (.int, 28, []), .inr (.int, 7, []), .inr (.int, 2, []), .inl (3, [.int 0, .int 0, .ref 52, .ref 53, .ref 54, .ref 55, .ref 56, .ref 57]), .inr (.int, 7, []), .inr (.int, 70, []), .inr (.int, 7, []), .inr (.int, 28, []), .inr (.int, 7, []), .inr (.int, 2, []), .inl (3, [.int 0, .int 0, .ref 59, .ref 60, .ref 61, .ref 62, .ref 63, .ref 64]), .inr (.int, 7, []), .inr (.int, 70, []), .inr (.int, 7, []), .inr (.int, 28, []), .inr (.int, 7, []), .inr (.int, 2, []), .inl (3, [.int 0, .int 0, .ref 66, .ref 67, .ref 68, .ref 69, .ref 70, .ref 71]), .inr (.int, 7, []), .inr (.int, 70, []), .inr (.int, 7, []), .inr (.int, 28, []), .inr (.int, 7, []), .inr (.int, 2, []), .inl (3, [.int 0, .int 0, .ref 73, .ref 74, .ref 75, .ref 76, .ref 77, .ref 78]), .inr (.int, 7, []), .inr (.int, 70, []), .inr (.int, 7, []), .inr (.int, 28, []), .inr (.int, 7, []), .inr (.int, 2, []), .inl (5, [.int 0, .ref 80, .ref 81, .ref 82, .int 0, .ref 83, .int 0, .ref 84, .int 0, .ref 85, .int 0, .ref 86, .ref 87, .int 0, .int 0, .ref 88, .long 0]), .inr (.int, 102, []), .inr (.int, 102, []), .inr (.int, 612, []), .inr (.int, 204, []), .inr (.int, 60, []), .inr (.int, 896, []), .inr (.int, 28, []), .inr (.int, 28, []), .inr (.int, 13, []), .inr (.long, 1, [])]
def hx_AT : List Bool → Prop
  | [] => True
  | b :: l => b = true ∧ hx_AT l
abbrev hx_CR : Type := Option (hx_FS × List Bool)
def hx_c (pc : Nat) (ls : List (Option Value)) (st : List Value) (H : hx_HS) (u : Nat) (c : List Bool) : hx_CR := some ((pc, ls, st, H, u), c)
def hx_arlC (ty : FieldType) (sc : Nat × (Nat → Int32)) (pc : Nat) (ls : List (Option Value)) (st : List Value) (H : hx_HS) (u : Nat) : hx_CR := match st with
  | .int i :: .ref a :: r => match hx_nth H.1 a with
    | some (.inr (t, n, _)) => if t = ty then (match ty with
        | .int => hx_c (pc + 1) ls (.int (H.2.1 a i.toNatClampNeg) :: r) H u [hx_inb i n]
        | .boolean => hx_c (pc + 1) ls (.int (H.2.1 a i.toNatClampNeg) :: r) H u [hx_inb i n]
        | .char => hx_c (pc + 1) ls (.int (H.2.1 a i.toNatClampNeg) :: r) H u [hx_inb i n]
        | .long => hx_c (pc + 1) ls (.long (H.2.2 a i.toNatClampNeg) :: r) H u [hx_inb i n]
        | _ => none) else none
    | _ => none
  | .int i :: .retAddr _ :: r => if ty = .int then hx_c (pc + 1) ls (.int (sc.2 i.toNatClampNeg) :: r) H u [hx_inb i sc.1] else none
  | _ => none
def hx_arsC (ty : FieldType) (pc : Nat) (ls : List (Option Value)) (st : List Value) (H : hx_HS) (u : Nat) : hx_CR := match st with
  | .int x :: .int i :: .ref a :: r => match hx_nth H.1 a with
    | some (.inr (t, n, _)) => if t = ty then (match ty with
        | .int => hx_c (pc + 1) ls r (H.1, hx_up H.2.1 a i.toNatClampNeg x, H.2.2) u [hx_inb i n]
        | .boolean => hx_c (pc + 1) ls r (H.1, hx_up H.2.1 a i.toNatClampNeg (vp_nar .boolean x), H.2.2) u [hx_inb i n]
        | .char => hx_c (pc + 1) ls r (H.1, hx_up H.2.1 a i.toNatClampNeg (vp_nar .char x), H.2.2) u [hx_inb i n]
        | _ => none) else none
    | _ => none
  | .long x :: .int i :: .ref a :: r => match hx_nth H.1 a with
    | some (.inr (t, n, _)) => if ty = .long ∧ t = .long then hx_c (pc + 1) ls r (H.1, H.2.1, hx_up H.2.2 a i.toNatClampNeg x) u [hx_inb i n] else none
    | _ => none
  | _ => none
def hx_idC (f : Int32 → Int32 → Int32) (pc : Nat) (ls : List (Option Value)) (st : List Value) (H : hx_HS) (u : Nat) : hx_CR := match st with
  | .int y :: .int x :: r => hx_c (pc + 1) ls (.int (f x y) :: r) H u [decide (¬ y = 0)]
  | _ => none
def hx_ffC (f : UInt32 → UInt32 → UInt32) (pc : Nat) (ls : List (Option Value)) (st : List Value) (H : hx_HS) (u : Nat) : hx_CR := match st with
  | .float y :: .float x :: r => hx_c (pc + 1) ls (.float (f x y) :: r) H u [decide (f x y &&& 0x7fffffff ≤ 0x7f800000)]
  | _ => none
def hx_ddC (f : UInt64 → UInt64 → UInt64) (pc : Nat) (ls : List (Option Value)) (st : List Value) (H : hx_HS) (u : Nat) : hx_CR := match st with
  | .double y :: .double x :: r => hx_c (pc + 1) ls (.double (f x y) :: r) H u [decide (f x y &&& 0x7fffffffffffffff ≤ 0x7ff0000000000000)]
  | _ => none
def hx_f2dC (pc : Nat) (ls : List (Option Value)) (st : List Value) (H : hx_HS) (u : Nat) : hx_CR := match st with
  | .float x :: r => hx_c (pc + 1) ls (.double (FP.f2d x) :: r) H u [decide (FP.f2d x &&& 0x7fffffffffffffff ≤ 0x7ff0000000000000)]
  | _ => none
def hx_copyC (pc : Nat) (ls : List (Option Value)) (st : List Value) (H : hx_HS) (u : Nat) : hx_CR := match st with
  | .int n :: .int dp :: .ref b :: .int sp :: .ref a :: r => match hx_nth H.1 a, hx_nth H.1 b with
    | some (.inr (t1, n1, _)), some (.inr (t2, n2, _)) => if t1 = .int ∧ t2 = .int ∧ hx_cat r ≤ 8 then hx_c (pc + 3) ls r (H.1, hx_row H.2.1 b (va_cpy (H.2.1 a) (H.2.1 b) sp.toNatClampNeg dp.toNatClampNeg n.toNatClampNeg), H.2.2) u [decide (¬ sp < 0 ∧ ¬ dp < 0 ∧ ¬ n < 0 ∧ sp.toNatClampNeg + n.toNatClampNeg ≤ n1 ∧ dp.toNatClampNeg + n.toNatClampNeg ≤ n2)] else none
    | _, _ => none
  | _ => none
def hx_putC (ci j pc : Nat) (ls : List (Option Value)) (st : List Value) (H : hx_HS) (u : Nat) : hx_CR := match st with
  | .int x :: .ref a :: r => match hx_nth H.1 a with
    | some (.inl (c, ks)) => if c = ci then (match hx_nth ks j with
        | some (.int _) => hx_c (pc + 3) ls r (H.1, hx_up H.2.1 a j x, H.2.2) u [decide (x = 0) || decide (x = 1)]
        | _ => none) else none
    | _ => none
  | _ => none
def hx_absv (x : Int32) : Int32 := if 0 ≤ x then x else 0 - x
def hx_minv (x y : Int32) : Int32 := if y < x then y else x
def hx_absC (bu pc : Nat) (ls : List (Option Value)) (st : List Value) (H : hx_HS) (u : Nat) : hx_CR := match st with
  | .int x :: r => if hx_cat r ≤ 8 ∧ u ≤ bu then hx_c (pc + 3) ls (.int (hx_absv x) :: r) H u [] else none
  | _ => none
def hx_minC (bu pc : Nat) (ls : List (Option Value)) (st : List Value) (H : hx_HS) (u : Nat) : hx_CR := match st with
  | .int y :: .int x :: r => if hx_cat r ≤ 8 ∧ u ≤ bu then hx_c (pc + 3) ls (.int (hx_minv x y) :: r) H u [] else none
  | _ => none
def hx_stC (sc : Nat × (Nat → Int32)) (k : Nat) (ce : hx_CE) (pc : Nat) (ls : List (Option Value)) (st : List Value) (H : hx_HS) (u : Nat) : hx_CR := match ce.1 with
  | .iaload => hx_arlC .int sc pc ls st H u
  | .baload => hx_arlC .boolean sc pc ls st H u
  | .caload => hx_arlC .char sc pc ls st H u
  | .laload => hx_arlC .long sc pc ls st H u
  | .iastore => hx_arsC .int pc ls st H u
  | .bastore => hx_arsC .boolean pc ls st H u
  | .castore => hx_arsC .char pc ls st H u
  | .lastore => hx_arsC .long pc ls st H u
  | .idiv => hx_idC (fun x y => x / y) pc ls st H u
  | .irem => hx_idC (fun x y => x - x / y * y) pc ls st H u
  | .fdiv => hx_ffC FP.fdiv pc ls st H u
  | .fmul => hx_ffC FP.fmul pc ls st H u
  | .fsub => hx_ffC FP.fsub pc ls st H u
  | .ddiv => hx_ddC FP.ddiv pc ls st H u
  | .dmul => hx_ddC FP.dmul pc ls st H u
  | .dsub => hx_ddC FP.dsub pc ls st H u
  | .f2d => hx_f2dC pc ls st H u
  | .putfield _ => (match hx_fty ce.2.1 ce.2.2.1 with
    | .boolean => hx_putC ce.2.1 ce.2.2.1 pc ls st H u
    | _ => match hx_step sc (hx_bud k) (hx_rt k) ce pc ls st H u with
      | some (.inl fs) => some (fs, [])
      | _ => none)
  | .invokestatic _ => (match ce.2.2.2.2 with
    | [1] => hx_absC (hx_bud k) pc ls st H u
    | [2] => hx_minC (hx_bud k) pc ls st H u
    | [3] => hx_copyC pc ls st H u
    | _ => match hx_step sc (hx_bud k) (hx_rt k) ce pc ls st H u with
      | some (.inl fs) => some (fs, [])
      | _ => none)
  | _ => match hx_step sc (hx_bud k) (hx_rt k) ce pc ls st H u with
    | some (.inl fs) => some (fs, [])
    | _ => none
def hx_sC (sc : Nat × (Nat → Int32)) (k : Nat) : Nat → hx_FS → hx_CR
  | 0, fs => some (fs, [])
  | n + 1, (pc, ls, st, H, u) => match hx_at k pc with
    | none => none
    | some ce => match hx_stC sc k ce pc ls st H u with
      | none => none
      | some (fs, c) => match hx_sC sc k n fs with
        | none => none
        | some (fs2, c2) => some (fs2, c ++ c2)
theorem hx_AT_app {a b : List Bool} (h : hx_AT (a ++ b)) : hx_AT a ∧ hx_AT b := by
  induction a with
  | nil => exact ⟨trivial, h⟩
  | cons x a ih => exact ⟨⟨h.1, (ih h.2).1⟩, (ih h.2).2⟩
section SC
variable {sc : Nat × (Nat → Int32)} {d k pc : Nat} {ls : List (Option Value)} {st : List Value} {H : hx_HS} {u : Nat} {r : hx_RS × hx_HS × Nat} {ce : hx_CE} {fs : hx_FS} {c : List Bool}
theorem hx_stC_ok (h : hx_stC sc k ce pc ls st H u = some (fs, c)) (hc : hx_AT c) : hx_step sc (hx_bud k) (hx_rt k) ce pc ls st H u = some (.inl fs) := by
  have dflt : (match hx_step sc (hx_bud k) (hx_rt k) ce pc ls st H u with
    | some (.inl fs) => some (fs, ([] : List Bool))
    | _ => none) = some (fs, c) → hx_step sc (hx_bud k) (hx_rt k) ce pc ls st H u = some (.inl fs) := by
    intro h
    split at h
    · rename_i fs9 hs
      cases h
      exact hs
    · cases h
  have arl : ∀ ty, hx_arlC ty sc pc ls st H u = some (fs, c) → hx_arl ty sc pc ls st H u = some (.inl fs) := by
    intro ty h
    unfold hx_arlC at h
    unfold hx_arl
    split at h
    · split at h
      · rename_i t n cs hcell
        dsimp only
        rw [hcell]
        try dsimp only
        split at h
        · rename_i ht
          subst ht
          split at h
          · cases h; rw [if_pos ⟨rfl, hc.1⟩]; rfl
          · cases h; rw [if_pos ⟨rfl, hc.1⟩]; rfl
          · cases h; rw [if_pos ⟨rfl, hc.1⟩]; rfl
          · cases h; rw [if_pos ⟨rfl, hc.1⟩]; rfl
          · cases h
        · cases h
      · cases h
    · split at h
      · rename_i ht
        cases h
        dsimp only
        rw [if_pos ⟨ht, hc.1⟩]
        rfl
      · cases h
    · cases h
  have ars : ∀ ty, hx_arsC ty pc ls st H u = some (fs, c) → hx_ars ty pc ls st H u = some (.inl fs) := by
    intro ty h
    unfold hx_arsC at h
    unfold hx_ars
    split at h
    · split at h
      · rename_i t n cs hcell
        dsimp only
        rw [hcell]
        try dsimp only
        split at h
        · rename_i ht
          subst ht
          split at h
          · cases h; rw [if_pos ⟨rfl, hc.1⟩]; rfl
          · cases h; rw [if_pos ⟨rfl, hc.1⟩]; rfl
          · cases h; rw [if_pos ⟨rfl, hc.1⟩]; rfl
          · cases h
        · cases h
      · cases h
    · split at h
      · rename_i t n cs hcell
        dsimp only
        rw [hcell]
        try dsimp only
        split at h
        · rename_i ht
          cases h
          rw [if_pos ⟨ht.1, ht.2, hc.1⟩]
          rfl
        · cases h
      · cases h
    · cases h
  have idc : ∀ f, hx_idC f pc ls st H u = some (fs, c) → hx_id f pc ls st H u = some (.inl fs) := by
    intro f h
    unfold hx_idC at h
    unfold hx_id
    split at h
    · cases h
      dsimp only
      rw [if_neg (of_decide_eq_true hc.1)]
      rfl
    · cases h
  have ffc : ∀ f, hx_ffC f pc ls st H u = some (fs, c) → hx_ff f pc ls st H u = some (.inl fs) := by
    intro f h
    unfold hx_ffC at h
    unfold hx_ff
    split at h
    · cases h
      dsimp only
      rw [if_pos (of_decide_eq_true hc.1)]
      rfl
    · cases h
  have ddc : ∀ f, hx_ddC f pc ls st H u = some (fs, c) → hx_dd f pc ls st H u = some (.inl fs) := by
    intro f h
    unfold hx_ddC at h
    unfold hx_dd
    split at h
    · cases h
      dsimp only
      rw [if_pos (of_decide_eq_true hc.1)]
      rfl
    · cases h
  have fdc : hx_f2dC pc ls st H u = some (fs, c) → hx_f2d pc ls st H u = some (.inl fs) := by
    intro h
    unfold hx_f2dC at h
    unfold hx_f2d
    split at h
    · cases h
      dsimp only
      rw [if_pos (of_decide_eq_true hc.1)]
      rfl
    · cases h
  have cpc : hx_copyC pc ls st H u = some (fs, c) → hx_copy pc ls st H u = some (.inl fs) := by
    intro h
    unfold hx_copyC at h
    unfold hx_copy
    split at h
    · split at h
      · rename_i t1 n1 cs1 t2 n2 cs2 h1 h2
        dsimp only
        rw [h1, h2]
        try dsimp only
        split at h
        · rename_i ht
          cases h
          have hz := of_decide_eq_true hc.1
          rw [if_pos ⟨ht.1, ht.2.1, hz.1, hz.2.1, hz.2.2.1, hz.2.2.2.1, hz.2.2.2.2, ht.2.2⟩]
          rfl
        · cases h
      · cases h
    · cases h
  have ptc : ∀ ci j, hx_putC ci j pc ls st H u = some (fs, c) → hx_put .boolean ci j pc ls st H u = some (.inl fs) := by
    intro ci j h
    unfold hx_putC at h
    unfold hx_put
    split at h
    · split at h
      · rename_i c9 ks hcell
        dsimp only
        rw [hcell]
        try dsimp only
        split at h
        · rename_i hcc
          rw [if_pos hcc]
          split at h
          · rename_i z hz
            rw [hz]
            try dsimp only
            cases h
            rw [if_pos (show hx_fit .boolean _ = true from hc.1)]
            rfl
          · cases h
        · cases h
      · cases h
    · cases h
  obtain ⟨ins, a, bb, v, tg⟩ := ce
  unfold hx_stC at h
  dsimp only at h
  cases ins
  case iaload => exact arl .int h
  case baload => exact arl .boolean h
  case caload => exact arl .char h
  case laload => exact arl .long h
  case iastore => exact ars .int h
  case bastore => exact ars .boolean h
  case castore => exact ars .char h
  case lastore => exact ars .long h
  case idiv => exact idc _ h
  case irem => exact idc _ h
  case fdiv => exact ffc _ h
  case fmul => exact ffc _ h
  case fsub => exact ffc _ h
  case ddiv => exact ddc _ h
  case dmul => exact ddc _ h
  case dsub => exact ddc _ h
  case f2d => exact fdc h
  case putfield i =>
    dsimp only at h
    split at h
    · rename_i hty
      show hx_put (hx_fty a bb) a bb pc ls st H u = _
      rw [hty]
      exact ptc _ _ h
    · exact dflt h
  case invokestatic i =>
    dsimp only at h
    split at h
    · show hx_abs (hx_bud k) pc ls st H u = _
      unfold hx_absC at h
      unfold hx_abs
      split at h
      · dsimp only
        split at h
        · rename_i hz
          cases h
          rw [if_pos hz]
          rfl
        · cases h
      · cases h
    · show hx_min (hx_bud k) pc ls st H u = _
      unfold hx_minC at h
      unfold hx_min
      split at h
      · dsimp only
        split at h
        · rename_i hz
          cases h
          rw [if_pos hz]
          rfl
        · cases h
      · cases h
    · exact cpc h
    · exact dflt h
  all_goals exact dflt h
theorem Rn_sC : ∀ (n : Nat) {fs fs2 : hx_FS} {c : List Bool}, hx_sC sc k n fs = some (fs2, c) → hx_AT c → Rn sc d k fs2 r → Rn sc d k fs r
  | 0, fs, fs2, c, h, _, K => by cases h; exact K
  | n + 1, (pc, ls, st, H, u), fs2, c, h, hc, K => by
    unfold hx_sC at h
    split at h
    · cases h
    · rename_i ce hat
      split at h
      · cases h
      · rename_i fs1 c1 hs
        split at h
        · cases h
        · rename_i fs3 c3 hs3
          cases h
          obtain ⟨h1, h2⟩ := hx_AT_app hc
          exact Rn_step hat (hx_stC_ok hs h1) (Rn_sC n hs3 h2 K)
end SC
