/-! ===== the tables hold ===== -/
theorem hx_kl0 : ((cd_202.drop 0).take 70).all (hx_ck 202) = true := by decide +kernel
theorem hx_kl70 : ((cd_202.drop 70).take 70).all (hx_ck 202) = true := by decide +kernel
theorem hx_kl140 : ((cd_202.drop 140).take 70).all (hx_ck 202) = true := by decide +kernel
theorem hx_kl210 : ((cd_202.drop 210).take 70).all (hx_ck 202) = true := by decide +kernel
theorem hx_kl280 : ((cd_202.drop 280).take 70).all (hx_ck 202) = true := by decide +kernel
theorem hx_kl350 : ((cd_202.drop 350).take 70).all (hx_ck 202) = true := by decide +kernel
theorem hx_kl420 : ((cd_202.drop 420).take 70).all (hx_ck 202) = true := by decide +kernel
theorem hx_kl490 : ((cd_202.drop 490).take 70).all (hx_ck 202) = true := by decide +kernel
theorem hx_kl560 : ((cd_202.drop 560).take 70).all (hx_ck 202) = true := by decide +kernel
theorem hx_kl630 : ((cd_202.drop 630).take 70).all (hx_ck 202) = true := by decide +kernel
theorem hx_kl700 : ((cd_202.drop 700).take 70).all (hx_ck 202) = true := by decide +kernel
theorem hx_kl770 : ((cd_202.drop 770).take 70).all (hx_ck 202) = true := by decide +kernel
theorem hx_kl840 : ((cd_202.drop 840).take 70).all (hx_ck 202) = true := by decide +kernel
theorem hx_kl910 : ((cd_202.drop 910).take 70).all (hx_ck 202) = true := by decide +kernel
theorem hx_all_cut {α : Type} (f : α → Bool) (l : List α) (n m : Nat) (h1 : ((l.drop n).take m).all f = true) (h2 : (l.drop (n + m)).all f = true) : (l.drop n).all f = true := by
  rw [← List.take_append_drop m (l.drop n), List.all_append, h1, List.drop_drop, h2]
  rfl
theorem hx_kc202 : hx_chk 202 = true := by
  show cd_202.all (hx_ck 202) = true
  have h980 : (cd_202.drop 980).all (hx_ck 202) = true := by decide +kernel
  have h910 := hx_all_cut (hx_ck 202) cd_202 910 70 hx_kl910 h980
  have h840 := hx_all_cut (hx_ck 202) cd_202 840 70 hx_kl840 h910
  have h770 := hx_all_cut (hx_ck 202) cd_202 770 70 hx_kl770 h840
  have h700 := hx_all_cut (hx_ck 202) cd_202 700 70 hx_kl700 h770
  have h630 := hx_all_cut (hx_ck 202) cd_202 630 70 hx_kl630 h700
  have h560 := hx_all_cut (hx_ck 202) cd_202 560 70 hx_kl560 h630
  have h490 := hx_all_cut (hx_ck 202) cd_202 490 70 hx_kl490 h560
  have h420 := hx_all_cut (hx_ck 202) cd_202 420 70 hx_kl420 h490
  have h350 := hx_all_cut (hx_ck 202) cd_202 350 70 hx_kl350 h420
  have h280 := hx_all_cut (hx_ck 202) cd_202 280 70 hx_kl280 h350
  have h210 := hx_all_cut (hx_ck 202) cd_202 210 70 hx_kl210 h280
  have h140 := hx_all_cut (hx_ck 202) cd_202 140 70 hx_kl140 h210
  have h70 := hx_all_cut (hx_ck 202) cd_202 70 70 hx_kl70 h140
  have h0 := hx_all_cut (hx_ck 202) cd_202 0 70 hx_kl0 h70
  exact h0
theorem hx_kc0 : ∀ k ∈ (List.range 10).map (· + 0), hx_chk k = true := by decide +kernel
theorem hx_kc10 : ∀ k ∈ (List.range 10).map (· + 10), hx_chk k = true := by decide +kernel
theorem hx_kc20 : ∀ k ∈ (List.range 10).map (· + 20), hx_chk k = true := by decide +kernel
theorem hx_kc30 : ∀ k ∈ (List.range 10).map (· + 30), hx_chk k = true := by decide +kernel
theorem hx_kc40 : ∀ k ∈ (List.range 10).map (· + 40), hx_chk k = true := by decide +kernel
theorem hx_kc50 : ∀ k ∈ (List.range 10).map (· + 50), hx_chk k = true := by decide +kernel
theorem hx_kc60 : ∀ k ∈ (List.range 10).map (· + 60), hx_chk k = true := by decide +kernel
theorem hx_kc70 : ∀ k ∈ (List.range 10).map (· + 70), hx_chk k = true := by decide +kernel
theorem hx_kc80 : ∀ k ∈ (List.range 10).map (· + 80), hx_chk k = true := by decide +kernel
theorem hx_kc90 : ∀ k ∈ (List.range 10).map (· + 90), hx_chk k = true := by decide +kernel
theorem hx_kc100 : ∀ k ∈ (List.range 10).map (· + 100), hx_chk k = true := by decide +kernel
theorem hx_kc110 : ∀ k ∈ (List.range 10).map (· + 110), hx_chk k = true := by decide +kernel
theorem hx_kc120 : ∀ k ∈ (List.range 10).map (· + 120), hx_chk k = true := by decide +kernel
theorem hx_kc130 : ∀ k ∈ (List.range 10).map (· + 130), hx_chk k = true := by decide +kernel
theorem hx_kc140 : ∀ k ∈ (List.range 10).map (· + 140), hx_chk k = true := by decide +kernel
theorem hx_kc150 : ∀ k ∈ (List.range 10).map (· + 150), hx_chk k = true := by decide +kernel
theorem hx_kc160 : ∀ k ∈ (List.range 10).map (· + 160), hx_chk k = true := by decide +kernel
theorem hx_kc170 : ∀ k ∈ (List.range 10).map (· + 170), hx_chk k = true := by decide +kernel
theorem hx_kc180 : ∀ k ∈ (List.range 10).map (· + 180), hx_chk k = true := by decide +kernel
theorem hx_kc190 : ∀ k ∈ (List.range 10).map (· + 190), hx_chk k = true := by decide +kernel
theorem hx_kc200 : ∀ k ∈ (List.range 2).map (· + 200), hx_chk k = true := by decide +kernel
theorem hx_in_range {i j k : Nat} (h1 : i ≤ k) (h2 : k < i + j) : k ∈ (List.range j).map (· + i) := List.mem_map.mpr ⟨k - i, List.mem_range.mpr (by omega), show k - i + i = k by omega⟩
theorem hx_chk_all (k : Nat) : hx_chk k = true := by
  by_cases h0 : k < 10
  · exact hx_kc0 k (hx_in_range (by omega) (by omega))
  by_cases h1 : k < 20
  · exact hx_kc10 k (hx_in_range (by omega) (by omega))
  by_cases h2 : k < 30
  · exact hx_kc20 k (hx_in_range (by omega) (by omega))
  by_cases h3 : k < 40
  · exact hx_kc30 k (hx_in_range (by omega) (by omega))
  by_cases h4 : k < 50
  · exact hx_kc40 k (hx_in_range (by omega) (by omega))
  by_cases h5 : k < 60
  · exact hx_kc50 k (hx_in_range (by omega) (by omega))
  by_cases h6 : k < 70
  · exact hx_kc60 k (hx_in_range (by omega) (by omega))
  by_cases h7 : k < 80
  · exact hx_kc70 k (hx_in_range (by omega) (by omega))
  by_cases h8 : k < 90
  · exact hx_kc80 k (hx_in_range (by omega) (by omega))
  by_cases h9 : k < 100
  · exact hx_kc90 k (hx_in_range (by omega) (by omega))
  by_cases h10 : k < 110
  · exact hx_kc100 k (hx_in_range (by omega) (by omega))
  by_cases h11 : k < 120
  · exact hx_kc110 k (hx_in_range (by omega) (by omega))
  by_cases h12 : k < 130
  · exact hx_kc120 k (hx_in_range (by omega) (by omega))
  by_cases h13 : k < 140
  · exact hx_kc130 k (hx_in_range (by omega) (by omega))
  by_cases h14 : k < 150
  · exact hx_kc140 k (hx_in_range (by omega) (by omega))
  by_cases h15 : k < 160
  · exact hx_kc150 k (hx_in_range (by omega) (by omega))
  by_cases h16 : k < 170
  · exact hx_kc160 k (hx_in_range (by omega) (by omega))
  by_cases h17 : k < 180
  · exact hx_kc170 k (hx_in_range (by omega) (by omega))
  by_cases h18 : k < 190
  · exact hx_kc180 k (hx_in_range (by omega) (by omega))
  by_cases h19 : k < 200
  · exact hx_kc190 k (hx_in_range (by omega) (by omega))
  by_cases h20 : k < 202
  · exact hx_kc200 k (hx_in_range (by omega) (by omega))
  by_cases hz : k = 202
  · rw [hz]; exact hx_kc202
  · unfold hx_chk
    rw [hx_nth_eq, List.getElem?_eq_none (by show 203 ≤ k; omega)]
theorem hx_mo0 : ∀ k ∈ (List.range 25).map (· + 0), hx_mok k = true := by decide +kernel
theorem hx_mo1 : ∀ k ∈ (List.range 25).map (· + 25), hx_mok k = true := by decide +kernel
theorem hx_mo2 : ∀ k ∈ (List.range 25).map (· + 50), hx_mok k = true := by decide +kernel
theorem hx_mo3 : ∀ k ∈ (List.range 25).map (· + 75), hx_mok k = true := by decide +kernel
theorem hx_mo4 : ∀ k ∈ (List.range 25).map (· + 100), hx_mok k = true := by decide +kernel
theorem hx_mo5 : ∀ k ∈ (List.range 25).map (· + 125), hx_mok k = true := by decide +kernel
theorem hx_mo6 : ∀ k ∈ (List.range 25).map (· + 150), hx_mok k = true := by decide +kernel
theorem hx_mo7 : ∀ k ∈ (List.range 25).map (· + 175), hx_mok k = true := by decide +kernel
theorem hx_mo8 : ∀ k ∈ (List.range 2).map (· + 200), hx_mok k = true := by decide +kernel
theorem hx_mok_all (k : Nat) (hk : k < 202) : hx_mok k = true := by
  by_cases h0 : k < 25
  · exact hx_mo0 k (hx_in_range (by omega) (by omega))
  by_cases h1 : k < 50
  · exact hx_mo1 k (hx_in_range (by omega) (by omega))
  by_cases h2 : k < 75
  · exact hx_mo2 k (hx_in_range (by omega) (by omega))
  by_cases h3 : k < 100
  · exact hx_mo3 k (hx_in_range (by omega) (by omega))
  by_cases h4 : k < 125
  · exact hx_mo4 k (hx_in_range (by omega) (by omega))
  by_cases h5 : k < 150
  · exact hx_mo5 k (hx_in_range (by omega) (by omega))
  by_cases h6 : k < 175
  · exact hx_mo6 k (hx_in_range (by omega) (by omega))
  by_cases h7 : k < 200
  · exact hx_mo7 k (hx_in_range (by omega) (by omega))
  by_cases h8 : k < 202
  · exact hx_mo8 k (hx_in_range (by omega) (by omega))
  · omega
