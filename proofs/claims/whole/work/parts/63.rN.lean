/-! ===== the reference reads the holes, a piece ===== -/
def zH (l : List Nat) : Nat → Bool := fun x => decide (x ∈ l)
def q3 (q : RS) (l : List Nat) (x : Int) : RS := (qb q, 3, qw q, qe q, qr q, x, l, qd q)
theorem qclose_w (q : RS) : qw (qclose q) = qw q := by unfold qclose; split <;> rfl
theorem qclose_e (q : RS) : qd (qclose q) = qd q := by unfold qclose; split <;> rfl
theorem aT_q3 (q : RS) (l : List Nat) (x : Int) (c : Nat) : aT (q3 q l x) c = aP (q3 q l x) c := by
  unfold aT
  rw [if_neg (by show ¬ 3 = 0; omega), if_neg (by show ¬ 3 = 1; omega), if_neg (by show ¬ 3 = 2; omega)]
theorem isP_iff {q : RS} {l : List Nat} {x : Int} {lo hi : Nat} (v : Nat) (hlo : (lo : Int) = qlast (q3 q l x) + 1) (hhi : hi + 1 = qw q) : qisP (q3 q l x) (v : Int) = true ↔ lo ≤ v ∧ v ≤ hi := by
  unfold qisP
  rw [decide_eq_true_iff]
  show qlast (q3 q l x) < (v : Int) ∧ (v : Int) < (qw q : Int) ↔ _
  omega
theorem begP_iff {q : RS} {l : List Nat} {x : Int} {lo hi : Nat} (v : Nat) (hlo : (lo : Int) = qlast (q3 q l x) + 1) (hhi : hi + 1 = qw q) : qbegP (q3 q l x) (v : Int) = true ↔ 0 < v ∧ 10 * v ≤ hi ∧ lo ≤ 10 * v + 9 := by
  unfold qbegP
  rw [decide_eq_true_iff]
  show 0 < (v : Int) ∧ (v : Int) * 10 < (qw q : Int) ∧ qlast (q3 q l x) < (v : Int) * 10 + 9 ↔ _
  omega
theorem bg_iff {q : RS} {l : List Nat} {x : Int} {lo hi : Nat} (v : Nat) (hlo : (lo : Int) = qlast (q3 q l x) + 1) (hhi : hi + 1 = qw q) : (qisP (q3 q l x) (v : Int) = true ∨ qbegP (q3 q l x) (v : Int) = true) ↔ BG lo hi v := or_congr (isP_iff v hlo hhi) (begP_iff v hlo hhi)
theorem d3_n1 {q : RS} {l : List Nat} {lo : Nat} (c : Nat) (hlo : (lo : Int) = qlast (q3 q l (-1)) + 1) (hc : ¬ DG c) : aT (q3 q l (-1)) c = none := by
  rw [aT_q3]
  unfold aP
  rw [zdg_n hc, if_pos rfl, if_neg]
  intro z
  have := of_decide_eq_true z
  have z2 : qlast (q3 q l (-1)) < -1 := this.1
  omega
theorem d3_1 {q : RS} {l : List Nat} {lo hi : Nat} (c : Nat) (hlo : (lo : Int) = qlast (q3 q l (-1)) + 1) (hhi : hi + 1 = qw q) (hc : DG c) : aT (q3 q l (-1)) c = if BG lo hi (c - 48) then some (q3 q l ((c - 48 : Nat) : Int)) else none := by
  have hc' : 48 ≤ c ∧ c ≤ 57 := hc
  rw [aT_q3]
  unfold aP
  have e : (if qx (q3 q l (-1)) = -1 then zdg c else qx (q3 q l (-1)) * 10 + zdg c) = ((c - 48 : Nat) : Int) := by
    rw [if_pos (show qx (q3 q l (-1)) = -1 from rfl), zdg_d hc]
    omega
  rw [if_neg (by rw [zdg_d hc]; omega), if_neg (show ¬ qx (q3 q l (-1)) = 0 by show ¬ (-1 : Int) = 0; omega), e]
  by_cases cb : BG lo hi (c - 48)
  · rw [if_pos ((bg_iff _ hlo hhi).mpr cb), if_pos cb]
    rfl
  · rw [if_neg (fun z => cb ((bg_iff _ hlo hhi).mp z)), if_neg cb]
theorem d3_2 {q : RS} {l : List Nat} {lo hi v : Nat} (c : Nat) (hlo : (lo : Int) = qlast (q3 q l v) + 1) (hhi : hi + 1 = qw q) (hc : DG c) : aT (q3 q l v) c = if v = 0 then none else if BG lo hi (10 * v + (c - 48)) then some (q3 q l ((10 * v + (c - 48) : Nat) : Int)) else none := by
  have hc' : 48 ≤ c ∧ c ≤ 57 := hc
  rw [aT_q3]
  unfold aP
  have e : (if qx (q3 q l v) = -1 then zdg c else qx (q3 q l v) * 10 + zdg c) = ((10 * v + (c - 48) : Nat) : Int) := by
    rw [if_neg (show ¬ qx (q3 q l v) = -1 by show ¬ (v : Int) = -1; omega), zdg_d hc]
    show (v : Int) * 10 + _ = _
    omega
  rw [if_neg (by rw [zdg_d hc]; omega)]
  by_cases h0 : v = 0
  · rw [if_pos (show qx (q3 q l v) = 0 by show (v : Int) = 0; omega), if_pos h0]
  · rw [if_neg (show ¬ qx (q3 q l v) = 0 by show ¬ (v : Int) = 0; omega), if_neg h0, e]
    by_cases cb : BG lo hi (10 * v + (c - 48))
    · rw [if_pos ((bg_iff _ hlo hhi).mpr cb), if_pos cb]
      rfl
    · rw [if_neg (fun z => cb ((bg_iff _ hlo hhi).mp z)), if_neg cb]
theorem d3_3 {q : RS} {l : List Nat} {v : Nat} (c : Nat) (hc : ¬ DG c) (h1 : c ≠ 59) (h2 : c ≠ 46) : aT (q3 q l v) c = none := by
  rw [aT_q3]
  unfold aP
  rw [zdg_n hc, if_pos rfl]
  split
  · unfold aN
    rw [if_neg h1, if_neg (fun z => h2 z.1)]
  · rfl
theorem d3_4 {q : RS} {l : List Nat} {lo hi v : Nat} (c : Nat) (hlo : (lo : Int) = qlast (q3 q l v) + 1) (hhi : hi + 1 = qw q) (hc : ¬ DG c) (h : ¬ (lo ≤ v ∧ v ≤ hi)) : aT (q3 q l v) c = none := by
  rw [aT_q3]
  unfold aP
  rw [zdg_n hc, if_pos rfl, if_neg]
  intro z
  exact h ((isP_iff v hlo hhi).mp z)
theorem aT_46 {q : RS} (HQ : Qok q) (h : qwhole q = true) : aT q 46 = if (qh (qclose q)).length < 4 ∧ qlast (qclose q) < (qw q : Int) - 1 then some (q3 q (qh (qclose q)) (-1)) else none := by
  have e : aT q 46 = aN (qclose q) 46 := by
    rcases qclose_p h with h2 | h2
    · unfold aT
      rw [if_neg (by omega), if_neg (by omega), if_pos h2]
      congr 1
      unfold qclose
      rw [if_neg (by omega)]
    · unfold aT
      rw [if_neg (by omega), if_neg (by omega), if_neg (by omega)]
      unfold aP
      rw [show zdg 46 = -1 by decide, if_pos rfl, if_pos h2.2]
  rw [e]
  unfold aN
  rw [if_neg (by omega), qclose_w]
  by_cases c : (qh (qclose q)).length < 4 ∧ qlast (qclose q) < (qw q : Int) - 1
  · rw [if_pos ⟨rfl, c⟩, if_pos c]
    unfold q3 qclose
    split <;> rfl
  · rw [if_neg (fun z => c z.2), if_neg c]
theorem close_q3 {q : RS} {l : List Nat} {v : Nat} (h : l.length < 4) : qh (qclose (q3 q l v)) = l ++ [v] ∧ qlast (qclose (q3 q l v)) = (v : Int) := by
  have e : qclose (q3 q l v) = (qb q, 2, qw q, qe q, qr q, (v : Int), l ++ [v], qd q) := by
    unfold qclose
    rw [if_pos ⟨rfl, h⟩]
    rfl
  rw [e]
  refine ⟨rfl, ?_⟩
  unfold qlast
  show (match hx_nth (l ++ [v]) ((l ++ [v]).length - 1) with
    | some x => (x : Int)
    | none => -1) = (v : Int)
  rw [hx_nth_eq, List.length_append, List.length_singleton, Nat.add_sub_cancel, List.getElem?_append_right (Nat.le_refl _), Nat.sub_self]
  rfl
theorem zM_add (l : List Nat) {v w : Nat} (hv : v < 60) (hw : w ≤ 1) : zM (zH (l ++ [v])) w = if w = v / 30 then zM (zH l) w ||| 2 ^ (v % 30) else zM (zH l) w := by
  have hm : ∀ x, zH (l ++ [v]) x = (zH l x || decide (x = v)) := fun x => by
    unfold zH
    rw [← Bool.decide_or]
    exact decide_eq_decide.mpr (by rw [List.mem_append, List.mem_singleton])
  refine Nat.eq_of_testBit_eq (fun i => ?_)
  rw [zM_tb _ hw, hm]
  by_cases c : w = v / 30
  · rw [if_pos c, Nat.testBit_or, Nat.testBit_two_pow, zM_tb _ hw]
    by_cases hi : i < 30
    · rw [decide_eq_true hi, Bool.true_and, Bool.true_and]
      congr 1
      exact decide_eq_decide.mpr (by omega)
    · rw [decide_eq_false hi, Bool.false_and, Bool.false_and, decide_eq_false (by omega)]
      rfl
  · rw [if_neg c, zM_tb _ hw]
    by_cases hi : i < 30
    · rw [decide_eq_false (show ¬ 30 * w + i = v by omega), Bool.or_false]
    · rw [decide_eq_false hi, Bool.false_and, Bool.false_and]
/-- the piece read -/
def RD (D : Nat → Nat → Int32) (q : RS) : Prop := D 88 0 = nI (qw q) ∧ (∀ j, j < 10 → D 88 (1 + j) = nI (qd q j)) ∧ ∀ w, w ≤ 1 → D 88 (11 + w) = nI (zM (zH (qh (qclose q))) w)
def PEnd (D : Nat → Nat → Int32) (len : Nat) (b : Nat → Nat) (k : Nat) : Prop := (∃ s q, s ≤ len ∧ PF D s ∧ aSt b s = some q ∧ qb q = k ∧ qwhole q = true ∧ RD D q ∧ (s < len → b s ≠ 59 → aT q (b s) = none)) ∨ PB D len b
def PHL (D : Nat → Nat → Int32) (len : Nat) (b : Nat → Nat) (k lo cnt : Nat) : Prop := (∃ s q, s ≤ len ∧ PF D s ∧ aSt b s = some q ∧ qb q = k ∧ qwhole q = true ∧ RD D q ∧ (s < len → b s ≠ 59 → b s ≠ 46 → aT q (b s) = none) ∧ (lo : Int) = qlast (qclose q) + 1 ∧ cnt = (qh (qclose q)).length) ∨ PB D len b
theorem wh_q3 {q : RS} {l : List Nat} {x : Int} : qwhole (q3 q l x) = qisP (q3 q l x) x := by
  unfold qwhole
  rw [decide_eq_false (show ¬ qp (q3 q l x) = 2 by show ¬ 3 = 2; omega), decide_eq_true (show qp (q3 q l x) = 3 from rfl)]
  rfl
theorem mhole {sc : Nat × (Nat → Int32)} {d : Nat} {D : Nat → Nat → Int32} {G : Nat → Nat → Int64} {len : Nat} {b : Nat → Nat} {s lo hi : Nat} {q : RS} {l : List Nat} (B : BM D len b) (h : PF D s) (hs : s ≤ len) (ha : aSt b s = some (q3 q l (-1))) (hlo : (lo : Int) = qlast (q3 q l (-1)) + 1) (hhi : hi + 1 = qw q) (hh : hi < 60) (hle : lo ≤ hi) : Cq sc (d + 2) 142 [.ref 79, .int (nI lo), .int (nI hi)] D G (fun r D2 => eqP D D2 ∧ D2 88 = D 88 ∧ ∃ z, r = .inl (some (.int z)) ∧ ((∃ v s2, z = nI v ∧ lo ≤ v ∧ v ≤ hi ∧ s2 ≤ len ∧ PF D2 s2 ∧ aSt b s2 = some (q3 q l v) ∧ (s2 < len → b s2 ≠ 59 → b s2 ≠ 46 → aT (q3 q l v) (b s2) = none)) ∨ (D2 79 14 = nI 1 ∧ PB D2 len b))) := by
  obtain ⟨r, D2, hC, e1, e2, z, rfl, h3⟩ := m142 (sc := sc) (d := d) (G := G) (lo := lo) (hi := hi) B h hs (by omega) (by omega)
  refine ⟨_, D2, hC, e1, e2, z, rfl, ?_⟩
  have hl2 : ∀ v : Nat, (lo : Int) = qlast (q3 q l v) + 1 := fun _ => hlo
  rcases h3 with ⟨v, rfl, v1, v2, hl, hd, h4⟩ | ⟨f1, f2, hno⟩ | ⟨f1, f2, hl, hd, hb, hr, hx⟩
  · have hd' : 48 ≤ b s ∧ b s ≤ 57 := hd
    rcases h4 with ⟨rfl, hF2, hx⟩ | ⟨h5, hl3, hd2, rfl, hF2⟩
    · refine Or.inl ⟨b s - 48, s + 1, rfl, v1, v2, by omega, hF2, ?_, fun g1 g2 g3 => ?_⟩
      · rw [aSt_s ha, d3_1 _ hlo hhi hd, if_pos (Or.inl ⟨v1, v2⟩)]
      · by_cases gd : DG (b (s + 1))
        · have gd' : 48 ≤ b (s + 1) ∧ b (s + 1) ≤ 57 := gd
          rw [d3_2 _ (hl2 _) hhi gd]
          by_cases g0 : b s - 48 = 0
          · rw [if_pos g0]
          · rw [if_neg g0, if_neg]
            intro z
            rcases z with z | z
            · exact hx ⟨by omega, g1, gd, z.1, z.2⟩
            · omega
        · exact d3_3 _ gd g2 g3
    · have hd2' : 48 ≤ b (s + 1) ∧ b (s + 1) ≤ 57 := hd2
      have a1 : aSt b (s + 1) = some (q3 q l ((b s - 48 : Nat) : Int)) := by
        rw [aSt_s ha, d3_1 _ hlo hhi hd, if_pos (Or.inr ⟨h5, by omega, by omega⟩)]
      refine Or.inl ⟨10 * (b s - 48) + (b (s + 1) - 48), s + 2, rfl, v1, v2, by omega, hF2, ?_, fun g1 g2 g3 => ?_⟩
      · rw [aSt_s a1, d3_2 _ (hl2 _) hhi hd2, if_neg (by omega), if_pos (Or.inl ⟨v1, v2⟩)]
      · by_cases gd : DG (b (s + 2))
        · have gd' : 48 ≤ b (s + 2) ∧ b (s + 2) ≤ 57 := gd
          rw [d3_2 _ (hl2 _) hhi gd, if_neg (by omega), if_neg]
          intro z
          rcases z with z | z
          · omega
          · omega
        · exact d3_3 _ gd g2 g3
  · refine Or.inr ⟨f2, s, hs, ?_, f1, f2⟩
    by_cases hl : s < len
    · refine Or.inl ⟨hl, _, ha, ?_⟩
      by_cases gd : DG (b s)
      · rw [d3_1 _ hlo hhi gd, if_neg (fun z => hno ⟨hl, gd, z⟩)]
      · exact d3_n1 _ hlo gd
    · refine Or.inr ⟨by omega, _, ha, ?_⟩
      rw [wh_q3]
      unfold qisP
      refine decide_eq_false (fun z => ?_)
      have z2 : qlast (q3 q l (-1)) < -1 := z.1
      omega
  · have hd' : 48 ≤ b s ∧ b s ≤ 57 := hd
    have a1 : aSt b (s + 1) = some (q3 q l ((b s - 48 : Nat) : Int)) := by
      rw [aSt_s ha, d3_1 _ hlo hhi hd, if_pos hb]
    refine Or.inr ⟨f2, s + 1, by omega, ?_, f1, f2⟩
    by_cases hl : s + 1 < len
    · refine Or.inl ⟨hl, _, a1, ?_⟩
      by_cases gd : DG (b (s + 1))
      · have gd' : 48 ≤ b (s + 1) ∧ b (s + 1) ≤ 57 := gd
        rw [d3_2 _ (hl2 _) hhi gd]
        by_cases g0 : b s - 48 = 0
        · rw [if_pos g0]
        · rw [if_neg g0, if_neg]
          intro z
          rcases z with z | z
          · exact hx ⟨by omega, hl, gd, z.1, z.2⟩
          · omega
      · exact d3_4 _ (hl2 _) hhi gd hr
    · refine Or.inr ⟨by omega, _, a1, ?_⟩
      rw [wh_q3]
      exact Bool.eq_false_iff.mpr (fun z => hr ((isP_iff _ (hl2 _) hhi).mp z))
theorem RD_k {D D2 : Nat → Nat → Int32} {q : RS} (h : RD D q) (e : D2 88 = D 88) : RD D2 q := by
  unfold RD
  rw [e]
  exact h
theorem m144 {sc : Nat × (Nat → Int32)} {d : Nat} {D : Nat → Nat → Int32} {G : Nat → Nat → Int64} {len : Nat} {b : Nat → Nat} {k : Nat} (B : BM D len b) (h : (∃ s q, s ≤ len ∧ PF D s ∧ aSt b s = some q ∧ qp q = 2 ∧ qh q = [] ∧ PHq D len b k s q) ∨ PB D len b) : Cq sc (d + 3) 144 [.ref 79] D G (fun r D2 => r = .inl none ∧ eqP D D2 ∧ PEnd D2 len b k) := by
  have b1 := B.2.1
  have L : ∀ n cnt lo D3, 4 - cnt = n → cnt ≤ 4 → lo < 100 → eqP D D3 → PHL D3 len b k lo cnt → Rq sc (d + 3) 144 (20, [some (.ref 79), some (.int (nI lo)), some (.int (nI cnt)), none], [], (hx_S0, D3, G), 0) G (fun r D2 => r = .inl none ∧ eqP D D2 ∧ PEnd D2 len b k) := by
    intro n
    induction n using Nat.strongRecOn with
    | _ n ih =>
    intro cnt lo D3 hn hc hlo100 hI hP
    have B3 := hI.B B
    rcases hP with ⟨s, q, hs, hF, ha, hk, hw, hD, hx, hlo, hcnt⟩ | hB
    · have hqo := aSt_ok s q ha
      have hqd := aSt_d s q ha
      have hok := PcOK_i hqo hqd hw
      have hqw : qw q ≤ 60 := hqo.2.1
      have k88 := hD.1
      by_cases h46 : s < len ∧ b s = 46
      · have h139 := m139F (sc := sc) (d := d + 1) (G := G) (lo := 46) (hi := 46) B3 hF h46.1 (by omega) (by omega)
        rw [if_pos (by omega)] at h139
        have a46 := aT_46 hqo hw
        by_cases hc4 : cnt < 4
        · by_cases hlw : lo < qw q
          · rw [if_pos ⟨by omega, by omega⟩] at a46
            have ha2 : aSt b (s + 1) = some (q3 q (qh (qclose q)) (-1)) := by rw [aSt_s ha, h46.2]; exact a46
            have p0 := hF.1
            have E4 : eqP D3 (hx_up D3 79 13 (nI (s + 1))) := eqP.rf.u79 (Or.inl rfl)
            have hlo2 : (lo : Int) = qlast (q3 q (qh (qclose q)) (-1)) + 1 := hlo
            obtain ⟨_, D5, hC5, e5, e88, z, rfl, h5⟩ := mhole (sc := sc) (d := d) (G := G) (lo := lo) (hi := qw q - 1) (E4.B B3) ⟨hx_up_s _ _ _ _, by rw [hx_up_in _ _ _ (by omega)]; exact hF.2⟩ (by omega) ha2 hlo2 (by omega) (by omega) (by omega)
            have I5 := (hI.tr E4).tr e5
            have e88' : D5 88 = D3 88 := by rw [e88, hx_up_ne (by omega)]
            rcases h5 with ⟨v, s2, rfl, v1, v2, hs2, hF2, ha3, hx2⟩ | ⟨f2, hB⟩
            · obtain ⟨c1, c2⟩ := close_q3 (q := q) (l := qh (qclose q)) (v := v) (by omega)
              have p14 := hF2.2
              have g1 : nI 11 + nI v / nI 30 = nI (11 + v / 30) := by rw [pk_div (by omega) (by omega) (by omega), nI_add]
              have g3 : nI v - nI v / nI 30 * nI 30 = nI (v % 30) := pk_rem (by omega) (by omega) (by omega)
              have g2 : D5 88 (11 + v / 30) = nI (zM (zH (qh (qclose q))) (v / 30)) := by rw [e88']; exact hD.2.2 _ (by omega)
              have hND : RD (hx_up D5 88 (11 + v / 30) (nI (zM (zH (qh (qclose q))) (v / 30) ||| 2 ^ (v % 30)))) (q3 q (qh (qclose q)) v) := by
                refine ⟨by rw [hx_up_in _ _ _ (by omega), e88']; exact hD.1, fun j hj => by rw [hx_up_in _ _ _ (by omega), e88']; exact hD.2.1 j hj, fun w hw1 => ?_⟩
                rw [c1, zM_add _ (by omega) hw1]
                by_cases cw : w = v / 30
                · rw [if_pos cw, cw, hx_up_s]
                · rw [if_neg cw, hx_up_in _ _ _ (by omega), e88']
                  exact hD.2.2 w hw1
              refine Rq.s (fun _ => b144_20 (by (try simp (disch := omega) only [nI_add, nI_mulN, pk_sub, nI_clamp, Nat.reduceAdd, Nat.reduceMul, Nat.reduceSub, Nat.zero_add, Nat.add_zero, k88, p0]); exact h139)) ?_
              refine Rq.bf (fun _ => b144_28) (by decide) ?_
              refine Rq.bf (fun _ => b144_31) (by simp (disch := omega) only [Int32.le_iff_toInt_le, z_nI]; omega) ?_
              refine Rq.bf (fun _ => b144_36 (by (try simp (disch := omega) only [nI_add, nI_mulN, pk_sub, nI_clamp, Nat.reduceAdd, Nat.reduceMul, Nat.reduceSub, Nat.zero_add, Nat.add_zero, k88, p0]); exact nI_inbT (by omega) (by omega))) (by rw [nI_clamp (by omega), k88]; simp (disch := omega) only [Int32.le_iff_toInt_le, z_nI]; omega) ?_
              refine Rq.s (fun _ => b144_46 (by (try simp (disch := omega) only [nI_add, nI_mulN, pk_sub, nI_clamp, Nat.reduceAdd, Nat.reduceMul, Nat.reduceSub, Nat.zero_add, Nat.add_zero, k88, p0]); exact nI_inbT (by omega) (by omega)) (by (try simp (disch := omega) only [nI_add, nI_mulN, pk_sub, nI_clamp, Nat.reduceAdd, Nat.reduceMul, Nat.reduceSub, Nat.zero_add, Nat.add_zero, k88, p0]); exact hC5)) ?_
              refine Rq.bf (fun _ => b144_69) (by rw [p14]; exact fun z => z rfl) ?_
              refine Rq.s (fun _ => b144_77 (by decide) (by rw [g1]; exact nI_inbT (by omega) (by omega)) (by decide) (by rw [g1]; exact nI_inbT (by omega) (by omega))) ?_
              try simp (disch := omega) only [nI_add, nI_mulN, pk_sub, nI_clamp, Nat.reduceAdd, Nat.reduceMul, Nat.reduceSub, Nat.zero_add, Nat.add_zero, k88, p0]
              rw [g1, g3, nI_clamp (show 11 + v / 30 < 2 ^ 31 by omega), g2, zB_sh _ (by omega), nI_or]
              refine Rq.s (fun _ => b144_98) ?_
              try simp (disch := omega) only [nI_add, nI_mulN, pk_sub, nI_clamp, Nat.reduceAdd, Nat.reduceMul, Nat.reduceSub, Nat.zero_add, Nat.add_zero, k88, p0]
              refine Rq.s (fun _ => b144_105b) ?_
              refine ih _ (by omega) (cnt + 1) (v + 1) _ rfl (by omega) (by omega) (I5.u88) (Or.inl ⟨s2, _, hs2, ⟨by rw [hx_up_ne (by omega)]; exact hF2.1, by rw [hx_up_ne (by omega)]; exact hF2.2⟩, ha3, hk, ?_, hND, hx2, by rw [c2]; omega, by rw [c1, List.length_append, List.length_singleton]; omega⟩)
              rw [wh_q3]
              exact (isP_iff v (lo := lo) (hi := qw q - 1) hlo2 (by omega)).mpr ⟨v1, v2⟩
            · have p14 := f2
              refine Rq.s (fun _ => b144_20 (by (try simp (disch := omega) only [nI_add, nI_mulN, pk_sub, nI_clamp, Nat.reduceAdd, Nat.reduceMul, Nat.reduceSub, Nat.zero_add, Nat.add_zero, k88, p0]); exact h139)) ?_
              refine Rq.bf (fun _ => b144_28) (by decide) ?_
              refine Rq.bf (fun _ => b144_31) (by simp (disch := omega) only [Int32.le_iff_toInt_le, z_nI]; omega) ?_
              refine Rq.bf (fun _ => b144_36 (by (try simp (disch := omega) only [nI_add, nI_mulN, pk_sub, nI_clamp, Nat.reduceAdd, Nat.reduceMul, Nat.reduceSub, Nat.zero_add, Nat.add_zero, k88, p0]); exact nI_inbT (by omega) (by omega))) (by rw [nI_clamp (by omega), k88]; simp (disch := omega) only [Int32.le_iff_toInt_le, z_nI]; omega) ?_
              refine Rq.s (fun _ => b144_46 (by (try simp (disch := omega) only [nI_add, nI_mulN, pk_sub, nI_clamp, Nat.reduceAdd, Nat.reduceMul, Nat.reduceSub, Nat.zero_add, Nat.add_zero, k88, p0]); exact nI_inbT (by omega) (by omega)) (by (try simp (disch := omega) only [nI_add, nI_mulN, pk_sub, nI_clamp, Nat.reduceAdd, Nat.reduceMul, Nat.reduceSub, Nat.zero_add, Nat.add_zero, k88, p0]); exact hC5)) ?_
              refine Rq.bt (fun _ => b144_69) (by rw [p14]; decide) ?_
              refine Rq.s (fun _ => b144_105) ?_
              refine Rq.s (fun _ => b144_20 (by (try simp (disch := omega) only [nI_add, nI_mulN, pk_sub, nI_clamp, Nat.reduceAdd, Nat.reduceMul, Nat.reduceSub, Nat.zero_add, Nat.add_zero, k88, p0]); exact m139B f2)) ?_
              refine Rq.bt (fun _ => b144_28) (rfl) ?_
              refine Rq.e (b144_108) ?_
              exact ⟨rfl, I5, Or.inr hB⟩
          · rw [if_neg (by omega)] at a46
            have hend : PEnd D3 len b k := Or.inl ⟨s, q, hs, hF, ha, hk, hw, hD, fun g1 g2 => by rw [h46.2]; exact a46⟩
            refine Rq.s (fun _ => b144_20 (by (try simp (disch := omega) only [nI_add, nI_mulN, pk_sub, nI_clamp, Nat.reduceAdd, Nat.reduceMul, Nat.reduceSub, Nat.zero_add, Nat.add_zero, k88]); exact h139)) ?_
            refine Rq.bf (fun _ => b144_28) (by decide) ?_
            refine Rq.bf (fun _ => b144_31) (by simp (disch := omega) only [Int32.le_iff_toInt_le, z_nI]; omega) ?_
            refine Rq.bt (fun _ => b144_36 (by (try simp (disch := omega) only [nI_add, nI_mulN, pk_sub, nI_clamp, Nat.reduceAdd, Nat.reduceMul, Nat.reduceSub, Nat.zero_add, Nat.add_zero, k88]); exact nI_inbT (by omega) (by omega))) (by rw [nI_clamp (by omega), k88]; simp (disch := omega) only [Int32.le_iff_toInt_le, z_nI]; omega) ?_
            refine Rq.e (b144_108) ?_
            exact ⟨rfl, hI, hend⟩
        · rw [if_neg (by omega)] at a46
          have hend : PEnd D3 len b k := Or.inl ⟨s, q, hs, hF, ha, hk, hw, hD, fun g1 g2 => by rw [h46.2]; exact a46⟩
          refine Rq.s (fun _ => b144_20 (by (try simp (disch := omega) only [nI_add, nI_mulN, pk_sub, nI_clamp, Nat.reduceAdd, Nat.reduceMul, Nat.reduceSub, Nat.zero_add, Nat.add_zero, k88]); exact h139)) ?_
          refine Rq.bf (fun _ => b144_28) (by decide) ?_
          refine Rq.bt (fun _ => b144_31) (by simp (disch := omega) only [Int32.le_iff_toInt_le, z_nI]; omega) ?_
          refine Rq.e (b144_108) ?_
          exact ⟨rfl, hI, hend⟩
      · have hend : PEnd D3 len b k := Or.inl ⟨s, q, hs, hF, ha, hk, hw, hD, fun g1 g2 => hx g1 g2 (fun z => h46 ⟨g1, z⟩)⟩
        have h139 : Cl sc (d + 2) 139 [.ref 79, .int (nI 46), .int (nI 46)] (hx_S0, D3, G) (.inl (some (.int (nI 0)))) (hx_S0, D3, G) := by
          by_cases hl : s < len
          · have h139 := m139F (sc := sc) (d := d + 1) (G := G) (lo := 46) (hi := 46) B3 hF hl (by omega) (by omega)
            rw [if_neg (by omega)] at h139
            exact h139
          · have e9 : s = len := by omega
            rw [e9] at hF
            exact m139E B3 hF
        refine Rq.s (fun _ => b144_20 (by (try simp (disch := omega) only [nI_add, nI_mulN, pk_sub, nI_clamp, Nat.reduceAdd, Nat.reduceMul, Nat.reduceSub, Nat.zero_add, Nat.add_zero, k88]); exact h139)) ?_
        refine Rq.bt (fun _ => b144_28) (rfl) ?_
        refine Rq.e (b144_108) ?_
        exact ⟨rfl, hI, hend⟩
    · have hend : PEnd D3 len b k := Or.inr hB
      obtain ⟨e, he, hBe, p0, p1⟩ := hB
      have h139 := m139B (sc := sc) (d := d + 1) (G := G) (x := nI 46) (y := nI 46) p1
      refine Rq.s (fun _ => b144_20 (by (try simp (disch := omega) only [nI_add, nI_mulN, pk_sub, nI_clamp, Nat.reduceAdd, Nat.reduceMul, Nat.reduceSub, Nat.zero_add, Nat.add_zero]); exact h139)) ?_
      refine Rq.bt (fun _ => b144_28) (rfl) ?_
      refine Rq.e (b144_108) ?_
      exact ⟨rfl, hI, hend⟩
  refine Cq.c (fun _ _ _ => c144) ?_
  refine Rq.s (fun _ => b144_0 (by (try simp (disch := omega) only [nI_add, nI_mulN, pk_sub, nI_clamp, Nat.reduceAdd, Nat.reduceMul, Nat.reduceSub, Nat.zero_add, Nat.add_zero]); exact nI_inbT (by omega) (by omega)) (by (try simp (disch := omega) only [nI_add, nI_mulN, pk_sub, nI_clamp, Nat.reduceAdd, Nat.reduceMul, Nat.reduceSub, Nat.zero_add, Nat.add_zero]); exact nI_inbT (by omega) (by omega))) ?_
  try simp (disch := omega) only [nI_add, nI_mulN, pk_sub, nI_clamp, Nat.reduceAdd, Nat.reduceMul, Nat.reduceSub, Nat.zero_add, Nat.add_zero]
  refine L _ 0 0 _ rfl (by omega) (by omega) (eqP.rf.u88.u88) ?_
  rcases h with ⟨s, q, hs, hF, ha, hp, hl, hk, hw, h88, he, hx⟩ | hB
  · have hc : qclose q = q := by
      unfold qclose
      rw [if_neg (by omega)]
    refine Or.inl ⟨s, q, hs, ⟨by rw [hx_up_ne (by omega), hx_up_ne (by omega)]; exact hF.1, by rw [hx_up_ne (by omega), hx_up_ne (by omega)]; exact hF.2⟩, ha, hk, hw, ⟨by rw [hx_up_in _ _ _ (by omega), hx_up_in _ _ _ (by omega)]; exact h88, fun j hj => by rw [hx_up_in _ _ _ (by omega), hx_up_in _ _ _ (by omega)]; exact he j hj, fun w hw1 => ?_⟩, hx, ?_, ?_⟩
    · have hz : zM (zH (qh (qclose q))) w = 0 := by
        rw [hc, hl]
        have e0 : zH [] = fun _ => false := by
          funext x
          exact decide_eq_false (fun z => by cases z)
        unfold zM
        rw [e0, zB_0]
        split <;> rfl
      rw [hz]
      rcases (by omega : w = 0 ∨ w = 1) with c | c <;> subst c
      · rw [hx_up_in _ _ _ (by omega), hx_up_s]
      · rw [hx_up_s]
    · rw [hc]
      unfold qlast
      rw [hl]
      rfl
    · rw [hc, hl]
      rfl
  · exact Or.inr (PB_k hB (by rw [hx_up_ne (by omega), hx_up_ne (by omega)]))
