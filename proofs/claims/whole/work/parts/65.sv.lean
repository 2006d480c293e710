/-! ===== each call keeps what is valid ===== -/
theorem Valid_edge {V : ZV} {p j h : Nat} (hv : Valid V) (h1 : h ≤ 9) (h2 : j ≠ 4 → j ≠ 9 → h ≤ 5) : Valid (opEdge V p j h) := by
  obtain ⟨h7, vw, ve, vh, vE, vr, vj, vs0, vs1⟩ := id hv
  refine ⟨h7, vw, fun q i hq hi => ?_, vh, vE, vr, vj, vs0, vs1⟩
  show gup (ze V) p (gup (ze V p) j h) q i ≤ 9 ∧ (i ≠ 4 → i ≠ 9 → gup (ze V) p (gup (ze V p) j h) q i ≤ 5)
  by_cases c : q = p
  · rw [c, gup_s]
    by_cases c2 : i = j
    · rw [c2, gup_s]; exact ⟨h1, h2⟩
    · rw [gup_n _ _ c2, ← c]; exact ve q i hq hi
  · rw [gup_n _ _ c]; exact ve q i hq hi
theorem Valid_setg {V : ZV} {k x : Nat} (hv : Valid V) (h1 : x ≤ 9) : Valid (opSet V k x) := by
  obtain ⟨h7, vw, ve, vh, vE, vr, vj, vs0, vs1⟩ := id hv
  refine ⟨h7, vw, ve, vh, vE, vr, vj, ?_, ?_⟩
  · show gup (zs V) k x 0 ≤ 9
    by_cases c : 0 = k
    · rw [← c, gup_s]; exact h1
    · rw [gup_n _ _ c]; exact vs0
  · show gup (zs V) k x 1 ≤ 9
    by_cases c : 1 = k
    · rw [← c, gup_s]; exact h1
    · rw [gup_n _ _ c]; exact vs1
theorem sv_oAdd {t : ST} {x : Int} (hs : SV t) : SV (oAdd t x).2.2 := by
  unfold oAdd
  by_cases h : 1 ≤ x ∧ x ≤ 60
  · rw [if_pos h]
    by_cases h7 : zn (tV t) = 7
    · rw [if_pos h7]; exact hs
    · rw [if_neg h7]
      have := hs.1.1
      exact SV_set (SV_zsv hs) (Valid_add hs.1 (by omega) (by omega) (by omega))
  · rw [if_neg h]; exact hs
theorem sv_oTear {t : ST} {p s k h : Int} (hs : SV t) : SV (oTear t p s k h).2.2 := by
  unfold oTear
  by_cases hp : 0 ≤ p ∧ p < (zn (tV t) : Int)
  · rw [if_pos hp]
    by_cases ha : (0 ≤ s ∧ s ≤ 1) ∧ (0 ≤ k ∧ k ≤ 3) ∧ 0 ≤ h ∧ h ≤ 5
    · rw [if_pos ha]
      exact SV_set (SV_zsv hs) (Valid_edge hs.1 (by omega) (fun _ _ => by omega))
    · rw [if_neg ha]; exact hs
  · rw [if_neg hp]; exact hs
theorem sv_oFibre {t : ST} {p s h : Int} (hs : SV t) : SV (oFibre t p s h).2.2 := by
  unfold oFibre
  by_cases hp : 0 ≤ p ∧ p < (zn (tV t) : Int)
  · rw [if_pos hp]
    by_cases ha : (0 ≤ s ∧ s ≤ 1) ∧ 0 ≤ h ∧ h ≤ 9
    · rw [if_pos ha]
      exact SV_set (SV_zsv hs) (Valid_edge hs.1 (by omega) (fun a b => by omega))
    · rw [if_neg ha]; exact hs
  · rw [if_neg hp]; exact hs
theorem sv_oHole {t : ST} {p x : Int} (hs : SV t) : SV (oHole t p x).2.2 := by
  unfold oHole
  by_cases hp : 0 ≤ p ∧ p < (zn (tV t) : Int)
  · rw [if_pos hp]
    by_cases ha : 0 ≤ x ∧ x < (zw (tV t) p.toNat : Int)
    · rw [if_pos ha]
      by_cases h4 : zh (tV t) p.toNat x.toNat = false ∧ (zE (tV t) p.toNat).length = 4
      · rw [if_pos h4]; exact hs
      · rw [if_neg h4]
        have h8 := hs.1.2.2.2.2.1 p.toNat (by omega)
        exact SV_set (SV_zsv hs) (Valid_hol hs.1 (by omega) (by omega) (fun z => by
          have h9 : ¬ (zE (tV t) p.toNat).length = 4 := fun y => h4 ⟨z, y⟩
          omega))
    · rw [if_neg ha]; exact hs
  · rw [if_neg hp]; exact hs
theorem sv_oRemove {t : ST} {p : Int} (hs : SV t) : SV (oRemove t p).2.2 := by
  unfold oRemove
  by_cases hp : 0 ≤ p ∧ p < (zn (tV t) : Int)
  · rw [if_pos hp]
    exact SV_set (SV_zsv hs) (Valid_rem hs.1 (by omega))
  · rw [if_neg hp]; exact hs
theorem sv_oMove {t : ST} {p x : Int} (hs : SV t) : SV (oMove t p x).2.2 := by
  unfold oMove
  by_cases hp : 0 ≤ p ∧ p < (zn (tV t) : Int)
  · rw [if_pos hp]
    by_cases hx : 0 ≤ x ∧ x < (zn (tV t) : Int)
    · rw [if_pos hx]
      exact SV_set (SV_zsv hs) (Valid_row hs.1 (fun i hi => zmv_lt hs.1 (by omega) (by omega) hi) (fun i j hi hj e => zmv_inj hs.1 (p := p.toNat) (pl := x.toNat) (by omega) (by omega) hi hj e))
    · rw [if_neg hx]; exact hs
  · rw [if_neg hp]; exact hs
theorem sv_oOrder {t : ST} (hs : SV t) : SV (oOrder t).2.2 := SV_set (SV_zsv hs) (Valid_row hs.1 (fun i hi => (zbr_ok hs.1 hi).2.1) (fun i j hi hj e => zbr_inj hs.1 hi hj e))
theorem sv_oSet {t : ST} {k x : Int} (hs : SV t) : SV (oSet t k x).2.2 := by
  unfold oSet
  by_cases hp : 0 ≤ k ∧ k < 2
  · rw [if_pos hp]
    by_cases hx : 0 ≤ x ∧ x ≤ 9
    · rw [if_pos hx]
      exact SV_set (SV_zsv hs) (Valid_setg hs.1 (by omega))
    · rw [if_neg hx]; exact hs
  · rw [if_neg hp]; exact hs
theorem sv_oAppend {t : ST} {c : Int} (hs : SV t) : SV (oAppend t c).2.2 := by
  unfold oAppend
  by_cases hp : 33 ≤ c ∧ c ≤ 126
  · rw [if_pos hp]
    by_cases hx : tn t = 60
    · rw [if_pos hx]; exact hs
    · rw [if_neg hx]
      obtain ⟨h1, h2, h3, h4, h5, h6⟩ := hs
      refine ⟨h1, h2, h3, h4, by show tn t + 1 ≤ 60; omega, fun i hi => ?_⟩
      have hi2 : i < tn t + 1 := hi
      show 33 ≤ gup (tb t) (tn t) c.toNat i ∧ gup (tb t) (tn t) c.toNat i ≤ 126
      by_cases e : i = tn t
      · rw [e, gup_s]; omega
      · rw [gup_n _ _ e]; exact h6 i (by omega)
  · rw [if_neg hp]; exact hs
theorem sv_oClear {t : ST} (hs : SV t) : SV (oClear t).2.2 := by
  obtain ⟨h1, h2, h3, h4, h5, h6⟩ := hs
  exact ⟨h1, h2, h3, h4, Nat.zero_le _, fun i hi => absurd hi (Nat.not_lt_zero _)⟩
theorem sv_oKeep {t : ST} {k : Int} (hs : SV t) : SV (oKeep t k).2.2 := by
  unfold oKeep
  by_cases hp : 0 ≤ k ∧ k < 2
  · rw [if_pos hp]
    obtain ⟨h1, h2, h3, h4, h5, h6⟩ := hs
    refine ⟨h1, h2, h3, fun j X hX => ?_, h5, h6⟩
    have hX2 : gup (tK t) k.toNat (some (tV t)) j = some X := hX
    by_cases e : j = k.toNat
    · rw [e, gup_s] at hX2
      cases hX2
      exact h1
    · rw [gup_n _ _ e] at hX2
      exact h4 j X hX2
  · rw [if_neg hp]; exact hs
theorem sv_oGoBack {t : ST} {k : Int} (hs : SV t) : SV (oGoBack t k).2.2 := by
  unfold oGoBack
  by_cases hp : 0 ≤ k ∧ k < 2
  · rw [if_pos hp]
    cases e : tK t k.toNat with
    | none => exact hs
    | some X => exact SV_set (SV_zsv hs) (hs.2.2.2.1 _ X e)
  · rw [if_neg hp]; exact hs
theorem sv_oUndo {t : ST} (hs : SV t) : SV (oUndo t).2.2 := by
  unfold oUndo
  cases e : hx_nth (tS t) ((tS t).length - 1) with
  | none => exact hs
  | some X =>
    obtain ⟨h1, h2, h3, h4, h5, h6⟩ := hs
    exact ⟨h3 X (hx_nth_mem e), by show ((tS t).take ((tS t).length - 1)).length ≤ 6; rw [List.length_take]; omega, fun Y hY => h3 Y (List.mem_of_mem_take hY), h4, h5, h6⟩
theorem sv_oLoad {t : ST} (hs : SV t) : SV (oLoad t).2.2 := by
  unfold oLoad
  cases ha : aSt (tb t) (tn t) with
  | none => exact hs
  | some q =>
    show SV (if qwhole q = true then (if zn (tV t) + qb q ≤ 7 then ((0 : Nat), nI (zn (tV t) + qb q), ((opLoad (tV t) (tb t) (tn t) q, tS (zsv t), tK t, 0, tb t) : ST)) else (2, 0, t)) else (1, 0, t)).2.2
    by_cases hw : qwhole q = true
    · rw [if_pos hw]
      by_cases h7 : zn (tV t) + qb q ≤ 7
      · rw [if_pos h7]
        obtain ⟨h1, h2, h3, h4, h5, h6⟩ := SV_zsv hs
        have hl := zpcs_len _ _ ha
        exact ⟨foldl_valid _ _ hs.1 (by rw [List.length_append, List.length_singleton]; omega) (fun r hr => by
          rcases List.mem_append.mp hr with h3 | h3
          · exact zpcs_ok _ _ ha r h3
          · rw [List.mem_singleton] at h3
            subst h3
            exact PcOK_i (aSt_ok _ _ ha) (aSt_d _ _ ha) hw), h2, h3, h4, Nat.zero_le _, fun i hi => absurd hi (Nat.not_lt_zero _)⟩
      · rw [if_neg h7]; exact hs
    · rw [if_neg hw]; exact hs
theorem st_oPieceOf {t : ST} {p x : Int} : (oPieceOf t p x).2.2 = t := by
  unfold oPieceOf
  repeat' split
  all_goals rfl
theorem st_oIsHole {t : ST} {p x : Int} : (oIsHole t p x).2.2 = t := by
  unfold oIsHole
  repeat' split
  all_goals rfl
theorem st_oAt {t : ST} {x : Int} : (oAt t x).2.2 = t := by
  unfold oAt
  repeat' split
  all_goals rfl
theorem st_oCost {t : ST} {p x : Int} : (oCost t p x).2.2 = t := by
  unfold oCost
  repeat' split
  all_goals rfl
theorem st_oHoleOf {t : ST} {p x : Int} : (oHoleOf t p x).2.2 = t := by
  unfold oHoleOf
  repeat' split
  all_goals rfl
theorem st_oCount {t : ST} {x : Int} : (oCount t x).2.2 = t := by
  unfold oCount
  repeat' split
  all_goals rfl
theorem st_oSetting {t : ST} {x : Int} : (oSetting t x).2.2 = t := by
  unfold oSetting
  repeat' split
  all_goals rfl
theorem st_oBestBehind {t : ST} {x : Int} : (oBestBehind t x).2.2 = t := by
  unfold oBestBehind
  repeat' split
  all_goals rfl
theorem st_oSureness {t : ST} {x : Int} : (oSureness t x).2.2 = t := by
  unfold oSureness
  repeat' split
  all_goals rfl
theorem st_oBestPlace {t : ST} {x : Int} : (oBestPlace t x).2.2 = t := by
  unfold oBestPlace
  repeat' split
  all_goals rfl
