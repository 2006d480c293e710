/-! ===== branches, switches, ends, by rules ===== -/
section RNB
variable {sc : Nat × (Nat → Int32)} {d k pc : Nat} {ls : List (Option Value)} {st : List Value} {H : hx_HS} {u : Nat} {r : hx_RS × hx_HS × Nat} {o : Int} {a bb : Nat} {v : Value} {tg : List Nat} {x y : Int32}
theorem Rn_br {P : Prop} [Decidable P] {ce : hx_CE} {st2 : List Value} (hat : hx_at k pc = some ce) (hs : hx_step sc (hx_bud k) (hx_rt k) ce pc ls st H u = hx_br P a pc ls st2 H u) (kt : P → Rn sc d k (a, ls, st2, H, u) r) (kf : ¬ P → Rn sc d k (pc + 3, ls, st2, H, u) r) : Rn sc d k (pc, ls, st, H, u) r := by
  unfold hx_br at hs
  by_cases h : P
  · rw [if_pos h] at hs
    exact Rn_step hat hs (kt h)
  · rw [if_neg h] at hs
    exact Rn_step hat hs (kf h)
theorem rn_if_eq (hat : hx_at k pc = some (.ifCond .eq o, a, bb, v, tg)) (kt : x = 0 → Rn sc d k (a, ls, st, H, u) r) (kf : ¬ (x = 0) → Rn sc d k (pc + 3, ls, st, H, u) r) : Rn sc d k (pc, ls, .int x :: st, H, u) r := Rn_br hat rfl kt kf
theorem rn_icmp_eq (hat : hx_at k pc = some (.if_icmp .eq o, a, bb, v, tg)) (kt : x = y → Rn sc d k (a, ls, st, H, u) r) (kf : ¬ (x = y) → Rn sc d k (pc + 3, ls, st, H, u) r) : Rn sc d k (pc, ls, .int y :: .int x :: st, H, u) r := Rn_br hat rfl kt kf
theorem rn_if_ne (hat : hx_at k pc = some (.ifCond .ne o, a, bb, v, tg)) (kt : ¬ x = 0 → Rn sc d k (a, ls, st, H, u) r) (kf : ¬ (¬ x = 0) → Rn sc d k (pc + 3, ls, st, H, u) r) : Rn sc d k (pc, ls, .int x :: st, H, u) r := Rn_br hat rfl kt kf
theorem rn_icmp_ne (hat : hx_at k pc = some (.if_icmp .ne o, a, bb, v, tg)) (kt : ¬ x = y → Rn sc d k (a, ls, st, H, u) r) (kf : ¬ (¬ x = y) → Rn sc d k (pc + 3, ls, st, H, u) r) : Rn sc d k (pc, ls, .int y :: .int x :: st, H, u) r := Rn_br hat rfl kt kf
theorem rn_if_lt (hat : hx_at k pc = some (.ifCond .lt o, a, bb, v, tg)) (kt : x < 0 → Rn sc d k (a, ls, st, H, u) r) (kf : ¬ (x < 0) → Rn sc d k (pc + 3, ls, st, H, u) r) : Rn sc d k (pc, ls, .int x :: st, H, u) r := Rn_br hat rfl kt kf
theorem rn_icmp_lt (hat : hx_at k pc = some (.if_icmp .lt o, a, bb, v, tg)) (kt : x < y → Rn sc d k (a, ls, st, H, u) r) (kf : ¬ (x < y) → Rn sc d k (pc + 3, ls, st, H, u) r) : Rn sc d k (pc, ls, .int y :: .int x :: st, H, u) r := Rn_br hat rfl kt kf
theorem rn_if_ge (hat : hx_at k pc = some (.ifCond .ge o, a, bb, v, tg)) (kt : 0 ≤ x → Rn sc d k (a, ls, st, H, u) r) (kf : ¬ (0 ≤ x) → Rn sc d k (pc + 3, ls, st, H, u) r) : Rn sc d k (pc, ls, .int x :: st, H, u) r := Rn_br hat rfl kt kf
theorem rn_icmp_ge (hat : hx_at k pc = some (.if_icmp .ge o, a, bb, v, tg)) (kt : y ≤ x → Rn sc d k (a, ls, st, H, u) r) (kf : ¬ (y ≤ x) → Rn sc d k (pc + 3, ls, st, H, u) r) : Rn sc d k (pc, ls, .int y :: .int x :: st, H, u) r := Rn_br hat rfl kt kf
theorem rn_if_gt (hat : hx_at k pc = some (.ifCond .gt o, a, bb, v, tg)) (kt : 0 < x → Rn sc d k (a, ls, st, H, u) r) (kf : ¬ (0 < x) → Rn sc d k (pc + 3, ls, st, H, u) r) : Rn sc d k (pc, ls, .int x :: st, H, u) r := Rn_br hat rfl kt kf
theorem rn_icmp_gt (hat : hx_at k pc = some (.if_icmp .gt o, a, bb, v, tg)) (kt : y < x → Rn sc d k (a, ls, st, H, u) r) (kf : ¬ (y < x) → Rn sc d k (pc + 3, ls, st, H, u) r) : Rn sc d k (pc, ls, .int y :: .int x :: st, H, u) r := Rn_br hat rfl kt kf
theorem rn_if_le (hat : hx_at k pc = some (.ifCond .le o, a, bb, v, tg)) (kt : x ≤ 0 → Rn sc d k (a, ls, st, H, u) r) (kf : ¬ (x ≤ 0) → Rn sc d k (pc + 3, ls, st, H, u) r) : Rn sc d k (pc, ls, .int x :: st, H, u) r := Rn_br hat rfl kt kf
theorem rn_icmp_le (hat : hx_at k pc = some (.if_icmp .le o, a, bb, v, tg)) (kt : x ≤ y → Rn sc d k (a, ls, st, H, u) r) (kf : ¬ (x ≤ y) → Rn sc d k (pc + 3, ls, st, H, u) r) : Rn sc d k (pc, ls, .int y :: .int x :: st, H, u) r := Rn_br hat rfl kt kf
theorem rn_zret (hat : hx_at k pc = some (.ireturn, a, bb, v, tg)) (hr : hx_rt k = some .boolean) (hy : x = 0 ∨ x = 1) (hu : u ≤ hx_bud k) : Rn sc d k (pc, ls, [.int x], H, u) (.inl (some (.int x)), H, u) := by
  refine Rn_end hat ?_ hu
  rw [hr]
  show (if x = 0 ∨ x = 1 then _ else _) = _
  rw [if_pos hy]
theorem rn_aaload {n q c : Nat} {cs : List (Option Nat)} (hat : hx_at k pc = some (.aaload, a, bb, v, tg)) (hc : hx_nth H.1 c = some (.inr (.object RX3, n, cs))) (hb : hx_inb x n = true) (hq : hx_nth cs x.toNatClampNeg = some (some q)) (K : Rn sc d k (pc + 1, ls, .ref q :: st, H, u) r) : Rn sc d k (pc, ls, .int x :: .ref c :: st, H, u) r := by
  refine Rn_step hat ?_ K
  show hx_arl (.object RX3) sc pc ls (.int x :: .ref c :: st) H u = _
  unfold hx_arl
  dsimp only
  rw [hc]
  dsimp only
  rw [if_pos ⟨rfl, hb⟩, hq]
  rfl
theorem rn_sw {df lo hi : Int} {os : Array Int} (hat : hx_at k pc = some (.tableswitch df lo hi os, a, bb, v, tg)) (hl : (tg.length : Int) = hi - lo + 1) (kk : ∀ (i t : Nat), hx_nth tg i = some t → x.toInt = lo + i → Rn sc d k (t, ls, st, H, u) r) (kd : (x.toInt < lo ∨ hi < x.toInt) → Rn sc d k (a, ls, st, H, u) r) : Rn sc d k (pc, ls, .int x :: st, H, u) r := by
  by_cases h : x.toInt < lo ∨ hi < x.toInt
  · refine Rn_step hat ?_ (kd h)
    show hx_sw lo hi a tg ls (.int x :: st) H u = _
    unfold hx_sw
    dsimp only
    rw [if_pos h]
    rfl
  · have h2 := h
    rw [not_or] at h2
    have hlt : (x.toInt - lo).toNat < tg.length := by omega
    have hq : hx_nth tg (x.toInt - lo).toNat = some tg[(x.toInt - lo).toNat] := by rw [hx_nth_eq]; exact List.getElem?_eq_getElem hlt
    refine Rn_step hat ?_ (kk _ _ hq (by omega))
    show hx_sw lo hi a tg ls (.int x :: st) H u = _
    unfold hx_sw
    dsimp only
    rw [if_neg h, hq]
    rfl
theorem rn_int {x : Int32} {z : Int32} (h : x.toInt = z.toInt) : x = z := Int32.toInt_inj.mp h
theorem rn_sw0_4 {df : Int} {os : Array Int} {t0 t1 t2 t3 : Nat} (hat : hx_at k pc = some (.tableswitch df 0 3 os, a, bb, v, [t0, t1, t2, t3])) (k0 : x = 0 → Rn sc d k (t0, ls, st, H, u) r) (k1 : x = 1 → Rn sc d k (t1, ls, st, H, u) r) (k2 : x = 2 → Rn sc d k (t2, ls, st, H, u) r) (k3 : x = 3 → Rn sc d k (t3, ls, st, H, u) r) (kd : (x.toInt < 0 ∨ 3 < x.toInt) → Rn sc d k (a, ls, st, H, u) r) : Rn sc d k (pc, ls, .int x :: st, H, u) r := by
  refine rn_sw hat rfl (fun i t ht hx => ?_) kd
  match i, ht with
  | 0, ht => cases ht; exact k0 (rn_int (by rw [hx]; rfl))
  | 1, ht => cases ht; exact k1 (rn_int (by rw [hx]; rfl))
  | 2, ht => cases ht; exact k2 (rn_int (by rw [hx]; rfl))
  | 3, ht => cases ht; exact k3 (rn_int (by rw [hx]; rfl))
  | i + 4, ht => cases ht
theorem rn_sw0_10 {df : Int} {os : Array Int} {t0 t1 t2 t3 t4 t5 t6 t7 t8 t9 : Nat} (hat : hx_at k pc = some (.tableswitch df 0 9 os, a, bb, v, [t0, t1, t2, t3, t4, t5, t6, t7, t8, t9])) (k0 : x = 0 → Rn sc d k (t0, ls, st, H, u) r) (k1 : x = 1 → Rn sc d k (t1, ls, st, H, u) r) (k2 : x = 2 → Rn sc d k (t2, ls, st, H, u) r) (k3 : x = 3 → Rn sc d k (t3, ls, st, H, u) r) (k4 : x = 4 → Rn sc d k (t4, ls, st, H, u) r) (k5 : x = 5 → Rn sc d k (t5, ls, st, H, u) r) (k6 : x = 6 → Rn sc d k (t6, ls, st, H, u) r) (k7 : x = 7 → Rn sc d k (t7, ls, st, H, u) r) (k8 : x = 8 → Rn sc d k (t8, ls, st, H, u) r) (k9 : x = 9 → Rn sc d k (t9, ls, st, H, u) r) (kd : (x.toInt < 0 ∨ 9 < x.toInt) → Rn sc d k (a, ls, st, H, u) r) : Rn sc d k (pc, ls, .int x :: st, H, u) r := by
  refine rn_sw hat rfl (fun i t ht hx => ?_) kd
  match i, ht with
  | 0, ht => cases ht; exact k0 (rn_int (by rw [hx]; rfl))
  | 1, ht => cases ht; exact k1 (rn_int (by rw [hx]; rfl))
  | 2, ht => cases ht; exact k2 (rn_int (by rw [hx]; rfl))
  | 3, ht => cases ht; exact k3 (rn_int (by rw [hx]; rfl))
  | 4, ht => cases ht; exact k4 (rn_int (by rw [hx]; rfl))
  | 5, ht => cases ht; exact k5 (rn_int (by rw [hx]; rfl))
  | 6, ht => cases ht; exact k6 (rn_int (by rw [hx]; rfl))
  | 7, ht => cases ht; exact k7 (rn_int (by rw [hx]; rfl))
  | 8, ht => cases ht; exact k8 (rn_int (by rw [hx]; rfl))
  | 9, ht => cases ht; exact k9 (rn_int (by rw [hx]; rfl))
  | i + 10, ht => cases ht
theorem rn_sw11_3 {df : Int} {os : Array Int} {t0 t1 t2 : Nat} (hat : hx_at k pc = some (.tableswitch df 11 13 os, a, bb, v, [t0, t1, t2])) (k0 : x = 11 → Rn sc d k (t0, ls, st, H, u) r) (k1 : x = 12 → Rn sc d k (t1, ls, st, H, u) r) (k2 : x = 13 → Rn sc d k (t2, ls, st, H, u) r) (kd : (x.toInt < 11 ∨ 13 < x.toInt) → Rn sc d k (a, ls, st, H, u) r) : Rn sc d k (pc, ls, .int x :: st, H, u) r := by
  refine rn_sw hat rfl (fun i t ht hx => ?_) kd
  match i, ht with
  | 0, ht => cases ht; exact k0 (rn_int (by rw [hx]; rfl))
  | 1, ht => cases ht; exact k1 (rn_int (by rw [hx]; rfl))
  | 2, ht => cases ht; exact k2 (rn_int (by rw [hx]; rfl))
  | i + 3, ht => cases ht
theorem rn_sw0_9 {df : Int} {os : Array Int} {t0 t1 t2 t3 t4 t5 t6 t7 t8 : Nat} (hat : hx_at k pc = some (.tableswitch df 0 8 os, a, bb, v, [t0, t1, t2, t3, t4, t5, t6, t7, t8])) (k0 : x = 0 → Rn sc d k (t0, ls, st, H, u) r) (k1 : x = 1 → Rn sc d k (t1, ls, st, H, u) r) (k2 : x = 2 → Rn sc d k (t2, ls, st, H, u) r) (k3 : x = 3 → Rn sc d k (t3, ls, st, H, u) r) (k4 : x = 4 → Rn sc d k (t4, ls, st, H, u) r) (k5 : x = 5 → Rn sc d k (t5, ls, st, H, u) r) (k6 : x = 6 → Rn sc d k (t6, ls, st, H, u) r) (k7 : x = 7 → Rn sc d k (t7, ls, st, H, u) r) (k8 : x = 8 → Rn sc d k (t8, ls, st, H, u) r) (kd : (x.toInt < 0 ∨ 8 < x.toInt) → Rn sc d k (a, ls, st, H, u) r) : Rn sc d k (pc, ls, .int x :: st, H, u) r := by
  refine rn_sw hat rfl (fun i t ht hx => ?_) kd
  match i, ht with
  | 0, ht => cases ht; exact k0 (rn_int (by rw [hx]; rfl))
  | 1, ht => cases ht; exact k1 (rn_int (by rw [hx]; rfl))
  | 2, ht => cases ht; exact k2 (rn_int (by rw [hx]; rfl))
  | 3, ht => cases ht; exact k3 (rn_int (by rw [hx]; rfl))
  | 4, ht => cases ht; exact k4 (rn_int (by rw [hx]; rfl))
  | 5, ht => cases ht; exact k5 (rn_int (by rw [hx]; rfl))
  | 6, ht => cases ht; exact k6 (rn_int (by rw [hx]; rfl))
  | 7, ht => cases ht; exact k7 (rn_int (by rw [hx]; rfl))
  | 8, ht => cases ht; exact k8 (rn_int (by rw [hx]; rfl))
  | i + 9, ht => cases ht
theorem rn_sw0_3 {df : Int} {os : Array Int} {t0 t1 t2 : Nat} (hat : hx_at k pc = some (.tableswitch df 0 2 os, a, bb, v, [t0, t1, t2])) (k0 : x = 0 → Rn sc d k (t0, ls, st, H, u) r) (k1 : x = 1 → Rn sc d k (t1, ls, st, H, u) r) (k2 : x = 2 → Rn sc d k (t2, ls, st, H, u) r) (kd : (x.toInt < 0 ∨ 2 < x.toInt) → Rn sc d k (a, ls, st, H, u) r) : Rn sc d k (pc, ls, .int x :: st, H, u) r := by
  refine rn_sw hat rfl (fun i t ht hx => ?_) kd
  match i, ht with
  | 0, ht => cases ht; exact k0 (rn_int (by rw [hx]; rfl))
  | 1, ht => cases ht; exact k1 (rn_int (by rw [hx]; rfl))
  | 2, ht => cases ht; exact k2 (rn_int (by rw [hx]; rfl))
  | i + 3, ht => cases ht
theorem rn_sw0_29 {df : Int} {os : Array Int} {t0 t1 t2 t3 t4 t5 t6 t7 t8 t9 t10 t11 t12 t13 t14 t15 t16 t17 t18 t19 t20 t21 t22 t23 t24 t25 t26 t27 t28 : Nat} (hat : hx_at k pc = some (.tableswitch df 0 28 os, a, bb, v, [t0, t1, t2, t3, t4, t5, t6, t7, t8, t9, t10, t11, t12, t13, t14, t15, t16, t17, t18, t19, t20, t21, t22, t23, t24, t25, t26, t27, t28])) (k0 : x = 0 → Rn sc d k (t0, ls, st, H, u) r) (k1 : x = 1 → Rn sc d k (t1, ls, st, H, u) r) (k2 : x = 2 → Rn sc d k (t2, ls, st, H, u) r) (k3 : x = 3 → Rn sc d k (t3, ls, st, H, u) r) (k4 : x = 4 → Rn sc d k (t4, ls, st, H, u) r) (k5 : x = 5 → Rn sc d k (t5, ls, st, H, u) r) (k6 : x = 6 → Rn sc d k (t6, ls, st, H, u) r) (k7 : x = 7 → Rn sc d k (t7, ls, st, H, u) r) (k8 : x = 8 → Rn sc d k (t8, ls, st, H, u) r) (k9 : x = 9 → Rn sc d k (t9, ls, st, H, u) r) (k10 : x = 10 → Rn sc d k (t10, ls, st, H, u) r) (k11 : x = 11 → Rn sc d k (t11, ls, st, H, u) r) (k12 : x = 12 → Rn sc d k (t12, ls, st, H, u) r) (k13 : x = 13 → Rn sc d k (t13, ls, st, H, u) r) (k14 : x = 14 → Rn sc d k (t14, ls, st, H, u) r) (k15 : x = 15 → Rn sc d k (t15, ls, st, H, u) r) (k16 : x = 16 → Rn sc d k (t16, ls, st, H, u) r) (k17 : x = 17 → Rn sc d k (t17, ls, st, H, u) r) (k18 : x = 18 → Rn sc d k (t18, ls, st, H, u) r) (k19 : x = 19 → Rn sc d k (t19, ls, st, H, u) r) (k20 : x = 20 → Rn sc d k (t20, ls, st, H, u) r) (k21 : x = 21 → Rn sc d k (t21, ls, st, H, u) r) (k22 : x = 22 → Rn sc d k (t22, ls, st, H, u) r) (k23 : x = 23 → Rn sc d k (t23, ls, st, H, u) r) (k24 : x = 24 → Rn sc d k (t24, ls, st, H, u) r) (k25 : x = 25 → Rn sc d k (t25, ls, st, H, u) r) (k26 : x = 26 → Rn sc d k (t26, ls, st, H, u) r) (k27 : x = 27 → Rn sc d k (t27, ls, st, H, u) r) (k28 : x = 28 → Rn sc d k (t28, ls, st, H, u) r) (kd : (x.toInt < 0 ∨ 28 < x.toInt) → Rn sc d k (a, ls, st, H, u) r) : Rn sc d k (pc, ls, .int x :: st, H, u) r := by
  refine rn_sw hat rfl (fun i t ht hx => ?_) kd
  match i, ht with
  | 0, ht => cases ht; exact k0 (rn_int (by rw [hx]; rfl))
  | 1, ht => cases ht; exact k1 (rn_int (by rw [hx]; rfl))
  | 2, ht => cases ht; exact k2 (rn_int (by rw [hx]; rfl))
  | 3, ht => cases ht; exact k3 (rn_int (by rw [hx]; rfl))
  | 4, ht => cases ht; exact k4 (rn_int (by rw [hx]; rfl))
  | 5, ht => cases ht; exact k5 (rn_int (by rw [hx]; rfl))
  | 6, ht => cases ht; exact k6 (rn_int (by rw [hx]; rfl))
  | 7, ht => cases ht; exact k7 (rn_int (by rw [hx]; rfl))
  | 8, ht => cases ht; exact k8 (rn_int (by rw [hx]; rfl))
  | 9, ht => cases ht; exact k9 (rn_int (by rw [hx]; rfl))
  | 10, ht => cases ht; exact k10 (rn_int (by rw [hx]; rfl))
  | 11, ht => cases ht; exact k11 (rn_int (by rw [hx]; rfl))
  | 12, ht => cases ht; exact k12 (rn_int (by rw [hx]; rfl))
  | 13, ht => cases ht; exact k13 (rn_int (by rw [hx]; rfl))
  | 14, ht => cases ht; exact k14 (rn_int (by rw [hx]; rfl))
  | 15, ht => cases ht; exact k15 (rn_int (by rw [hx]; rfl))
  | 16, ht => cases ht; exact k16 (rn_int (by rw [hx]; rfl))
  | 17, ht => cases ht; exact k17 (rn_int (by rw [hx]; rfl))
  | 18, ht => cases ht; exact k18 (rn_int (by rw [hx]; rfl))
  | 19, ht => cases ht; exact k19 (rn_int (by rw [hx]; rfl))
  | 20, ht => cases ht; exact k20 (rn_int (by rw [hx]; rfl))
  | 21, ht => cases ht; exact k21 (rn_int (by rw [hx]; rfl))
  | 22, ht => cases ht; exact k22 (rn_int (by rw [hx]; rfl))
  | 23, ht => cases ht; exact k23 (rn_int (by rw [hx]; rfl))
  | 24, ht => cases ht; exact k24 (rn_int (by rw [hx]; rfl))
  | 25, ht => cases ht; exact k25 (rn_int (by rw [hx]; rfl))
  | 26, ht => cases ht; exact k26 (rn_int (by rw [hx]; rfl))
  | 27, ht => cases ht; exact k27 (rn_int (by rw [hx]; rfl))
  | 28, ht => cases ht; exact k28 (rn_int (by rw [hx]; rfl))
  | i + 29, ht => cases ht
end RNB
