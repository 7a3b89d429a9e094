/-! String's length and charAt over the literals -/
def gJ0_length_8abf5 (A : k_H) (x0 : Int) : Option (Int × k_H) := some (k_svl (x0 - 30), A)
def gJ0_charAt_5068e (A : k_H) (x0 x1 : Int) : Option (Int × k_H) := if 0 ≤ x1 ∧ x1 < k_svl (x0 - 30) then some (k_sbv (x0 - 30) x1, A) else none
theorem k_str1 : ∀ i : Nat, i < 11 → k_shr ((k_sl.getD i 0 : Nat) : Int) 0 = ((k_sl.getD i 0 : Nat) : Int) := by decide +kernel
theorem k_str2 : ∀ i : Nat, i < 11 → ∀ j : Nat, j < k_sl.getD i 0 → (k_c16 (k_and ((k_sb.getD i []).getD j 0).toInt 255) = ((k_sb.getD i []).getD j 0).toInt ∧ k_isC ((k_sb.getD i []).getD j 0).toInt) := by decide +kernel
theorem sgJ0_length_8abf5 {sc : k_SC} {A : k_H} {x0 : Int} {r : Int} {A' : k_H} (hw : k_Wf sc A) (hx0 : k_isS x0) (h : gJ0_length_8abf5 A x0 = some (r, A')) : fJ0_length_8abf5 A x0 = some (r, A') ∧ k_Wf sc A' := by
  unfold gJ0_length_8abf5 at h
  obtain ⟨rfl, rfl⟩ := k_pr h
  refine ⟨?_, hw⟩
  have h1 : k_isSw (x0 - 30) := by have := hx0.1; have := hx0.2; exact ⟨by omega, by omega⟩
  have h2 := k_str1 (-40 - (x0 - 30)).toNat (by have := hx0.1; have := hx0.2; omega)
  have ec : fJ0_coder_7d493 A' x0 = some (0, A') := by
    unfold fJ0_coder_7d493 fJ0_coder_7d493_b0
    rw [if_neg (by decide), if_pos hx0]
    first | rfl | rw [if_pos (Or.inl rfl)]
  unfold fJ0_length_8abf5 fJ0_length_8abf5_b0
  rw [if_pos hx0, if_pos h1, if_pos hx0, ec, k_bds]
  exact congrArg (fun z => some (z, A')) h2
theorem sgJ0_charAt_5068e {sc : k_SC} {A : k_H} {x0 x1 : Int} {r : Int} {A' : k_H} (hw : k_Wf sc A) (hx0 : k_isS x0) (h : gJ0_charAt_5068e A x0 x1 = some (r, A')) : fJ0_charAt_5068e A x0 x1 = some (r, A') ∧ k_Wf sc A' := by
  unfold gJ0_charAt_5068e at h
  obtain ⟨hc, h⟩ := k_pk h
  obtain ⟨rfl, rfl⟩ := k_pr h
  refine ⟨?_, hw⟩
  have h1 : k_isSw (x0 - 30) := by have := hx0.1; have := hx0.2; exact ⟨by omega, by omega⟩
  have h3 : k_isSv (x0 - 30) x1 := ⟨h1, hc.1, hc.2⟩
  have h2 := k_str2 (-40 - (x0 - 30)).toNat (by have := hx0.1; have := hx0.2; omega) x1.toNat (by have := hc.1; have := hc.2; unfold k_svl at this; omega)
  have e1 : k_c16 (k_and (k_sbv (x0 - 30) x1) 255) = k_sbv (x0 - 30) x1 := h2.1
  have e2 : k_isC (k_sbv (x0 - 30) x1) := h2.2
  have el : fJ0_isLatin1_aae02 A' x0 = some (1, A') := by
    unfold fJ0_isLatin1_aae02 fJ0_isLatin1_aae02_b0
    rw [if_neg (by decide), if_pos hx0, if_pos rfl]
  have e3 : fJ3_checkIndex_8e157 A' x1 (k_svl (x0 - 30)) (-1) = some (x1, A') := by
    unfold fJ3_checkIndex_8e157 fJ3_checkIndex_8e157_b0
    rw [if_pos hc.1]
    first | rw [if_pos hc.2] | rw [if_neg (Int.not_le.mpr hc.2)]
  have e4 : fJ0_checkIndex_df160 A' x1 (k_svl (x0 - 30)) = some (0, A') := by
    unfold fJ0_checkIndex_df160 fJ0_checkIndex_df160_b0
    rw [e3]; rfl
  have e5 : fJ1_charAt_3b067 A' (x0 - 30) x1 = some (k_sbv (x0 - 30) x1, A') := by
    unfold fJ1_charAt_3b067 fJ1_charAt_3b067_b0
    rw [if_pos h1, e4, k_bds, if_pos h3, e1, if_pos e2]
  unfold fJ0_charAt_5068e fJ0_charAt_5068e_b0
  rw [if_pos hx0, el, k_bds, if_neg (by decide), if_pos hx0, e5, k_bds, if_pos e2]
/-! X1_givenToOthers -/
def gX1_givenToOthers_b24 (k4g : k_H → Int → Int → Int → Int → Option (Int × k_H)) (A : k_H) (v0 v1 v2 v3 : Int) : Option (Int × k_H) := k4g A v0 v1 v2 (k_wr (v3 + 1))
def gX1_givenToOthers_h4 : Nat → k_H → Int → Int → Int → Int → Option (Int × k_H)
  | 0, _, _, _, _, _ => none
  | N + 1, A, v0, v1, v2, v3 => if v3 < 6 then (if v3 = v1 then (gX1_givenToOthers_b24 (gX1_givenToOthers_h4 N) A v0 v1 v2 v3) else (if 0 ≤ v3 ∧ v3 < ((6 : Nat) : Int) then (gX1_givenToOthers_b24 (gX1_givenToOthers_h4 N) A v0 v1 (k_wr (v2 + (k_rd A (v0 + 3) v3))) v3) else none)) else (some (v2, A))
def gX1_givenToOthers_b0 (A : k_H) (v0 v1 : Int) : Option (Int × k_H) := gX1_givenToOthers_h4 k_FU A v0 v1 0 0
def gX1_givenToOthers (A : k_H) (x0 x1 : Int) : Option (Int × k_H) := gX1_givenToOthers_b0 A x0 x1
set_option maxRecDepth 100000 in
theorem sgX1_givenToOthers_b24 {sc : k_SC} (k4f : k_H → Int → Int → Int → Int → Option (Int × k_H)) (k4g : k_H → Int → Int → Int → Int → Option (Int × k_H)) (hk4 : ∀ (A : k_H) (v0 v1 v2 v3 : Int) (r : Int) (A' : k_H), k_Wf sc A → k_isK v0 1 → k4g A v0 v1 v2 v3 = some (r, A') → k4f A v0 v1 v2 v3 = some (r, A') ∧ k_Wf sc A') (A : k_H) (v0 v1 v2 v3 : Int) (r : Int) (A' : k_H) (hw : k_Wf sc A) (hv0 : k_isK v0 1) (h : gX1_givenToOthers_b24 k4g A v0 v1 v2 v3 = some (r, A')) : fX1_givenToOthers_b24 k4f A v0 v1 v2 v3 = some (r, A') ∧ k_Wf sc A' := by
  unfold gX1_givenToOthers_b24 at h
  unfold fX1_givenToOthers_b24
  exact hk4 _ _ _ _ _ _ _ hw hv0 h
set_option maxRecDepth 100000 in
theorem sgX1_givenToOthers_h4 {sc : k_SC} : ∀ (N : Nat) (A : k_H) (v0 v1 v2 v3 : Int) (r : Int) (A' : k_H), k_Wf sc A → k_isK v0 1 → gX1_givenToOthers_h4 N A v0 v1 v2 v3 = some (r, A') → fX1_givenToOthers_h4 N A v0 v1 v2 v3 = some (r, A') ∧ k_Wf sc A' := by
  intro N
  induction N with
  | zero => intro A v0 v1 v2 v3 r A' hw hv0 h; exact absurd h (by simp [gX1_givenToOthers_h4])
  | succ N ih =>
    intro A v0 v1 v2 v3 r A' hw hv0 h
    rw [gX1_givenToOthers_h4] at h
    rw [fX1_givenToOthers_h4]
    by_cases c1 : v3 < 6
    · rw [if_pos c1] at h
      rw [if_pos c1]
      by_cases c2 : v3 = v1
      · rw [if_pos c2] at h
        rw [if_pos c2]
        exact sgX1_givenToOthers_b24 (fX1_givenToOthers_h4 N) (gX1_givenToOthers_h4 N) ih _ _ _ _ _ _ _ hw hv0 h
      · rw [if_neg c2] at h
        rw [if_neg c2]
        rw [if_pos (k_wO hw hv0)]
        try rw [k_p1_1 hw hv0]
        obtain ⟨hc3, h⟩ := k_pk h
        rw [if_pos (k_wA hw ((k_q1_1 hv0)) hc3)]
        exact sgX1_givenToOthers_b24 (fX1_givenToOthers_h4 N) (gX1_givenToOthers_h4 N) ih _ _ _ _ _ _ _ hw hv0 h
    · rw [if_neg c1] at h
      rw [if_neg c1]
      obtain ⟨rfl, rfl⟩ := k_pr h
      exact ⟨rfl, hw⟩
set_option maxRecDepth 100000 in
theorem sgX1_givenToOthers_b0 {sc : k_SC} (A : k_H) (v0 v1 : Int) (r : Int) (A' : k_H) (hw : k_Wf sc A) (hv0 : k_isK v0 1) (h : gX1_givenToOthers_b0 A v0 v1 = some (r, A')) : fX1_givenToOthers_b0 A v0 v1 = some (r, A') ∧ k_Wf sc A' := by
  unfold gX1_givenToOthers_b0 at h
  unfold fX1_givenToOthers_b0
  exact sgX1_givenToOthers_h4  _ _ _ _ _ _ _ _ hw hv0 h
theorem sgX1_givenToOthers {sc : k_SC} {A : k_H} {x0 x1 : Int} {r : Int} {A' : k_H} (hw : k_Wf sc A) (hx0 : k_isK x0 1) (h : gX1_givenToOthers A x0 x1 = some (r, A')) : fX1_givenToOthers A x0 x1 = some (r, A') ∧ k_Wf sc A' :=
  sgX1_givenToOthers_b0 _ _ _ _ _ hw hx0 h
/-! X1_milesTo -/
def gX1_milesTo_b0 (A : k_H) (v0 v1 : Int) : Option (Int × k_H) := some (k_wr ((if 0 ≤ k_wr ((k_rd A v0 2) - (k_rd A v1 2)) then k_wr ((k_rd A v0 2) - (k_rd A v1 2)) else k_wr (-(k_wr ((k_rd A v0 2) - (k_rd A v1 2))))) + (if 0 ≤ k_wr ((k_rd A v0 3) - (k_rd A v1 3)) then k_wr ((k_rd A v0 3) - (k_rd A v1 3)) else k_wr (-(k_wr ((k_rd A v0 3) - (k_rd A v1 3)))))), A)
def gX1_milesTo (A : k_H) (x0 x1 : Int) : Option (Int × k_H) := gX1_milesTo_b0 A x0 x1
set_option maxRecDepth 100000 in
theorem sgX1_milesTo_b0 {sc : k_SC} (A : k_H) (v0 v1 : Int) (r : Int) (A' : k_H) (hw : k_Wf sc A) (hv0 : k_isK v0 1) (hv1 : k_isK v1 1) (h : gX1_milesTo_b0 A v0 v1 = some (r, A')) : fX1_milesTo_b0 A v0 v1 = some (r, A') ∧ k_Wf sc A' := by
  unfold gX1_milesTo_b0 at h
  unfold fX1_milesTo_b0
  rw [if_pos (k_wO hw hv0)]
  rw [if_pos (k_wO hw hv1)]
  obtain ⟨rfl, rfl⟩ := k_pr h
  exact ⟨rfl, hw⟩
theorem sgX1_milesTo {sc : k_SC} {A : k_H} {x0 x1 : Int} {r : Int} {A' : k_H} (hw : k_Wf sc A) (hx0 : k_isK x0 1) (hx1 : k_isK x1 1) (h : gX1_milesTo A x0 x1 = some (r, A')) : fX1_milesTo A x0 x1 = some (r, A') ∧ k_Wf sc A' :=
  sgX1_milesTo_b0 _ _ _ _ _ hw hx0 hx1 h
/-! X3_circuitOf -/
def gX3_circuitOf_b0 (A : k_H) (v1 : Int) : Option (Int × k_H) := if 0 ≤ v1 then (if v1 < (k_rd A 5 6) then (if 0 ≤ v1 ∧ v1 < ((8 : Nat) : Int) then (some ((k_rd A 11 v1), A)) else none) else (some ((-1), A))) else (some ((-1), A))
def gX3_circuitOf (A : k_H) (x1 : Int) : Option (Int × k_H) := gX3_circuitOf_b0 A x1
set_option maxRecDepth 100000 in
theorem sgX3_circuitOf_b0 {sc : k_SC} (A : k_H) (v1 : Int) (r : Int) (A' : k_H) (hw : k_Wf sc A) (h : gX3_circuitOf_b0 A v1 = some (r, A')) : fX3_circuitOf_b0 A 5 v1 = some (r, A') ∧ k_Wf sc A' := by
  unfold gX3_circuitOf_b0 at h
  unfold fX3_circuitOf_b0
  by_cases c1 : 0 ≤ v1
  · rw [if_pos c1] at h
    rw [if_pos c1]
    rw [if_pos (k_wO hw k_K5)]
    by_cases c2 : v1 < (k_rd A 5 6)
    · rw [if_pos c2] at h
      rw [if_pos c2]
      try rw [k_p3_5 hw]
      obtain ⟨hc3, h⟩ := k_pk h
      rw [if_pos (k_wA hw (k_R11) hc3)]
      obtain ⟨rfl, rfl⟩ := k_pr h
      exact ⟨rfl, hw⟩
    · rw [if_neg c2] at h
      rw [if_neg c2]
      obtain ⟨rfl, rfl⟩ := k_pr h
      exact ⟨rfl, hw⟩
  · rw [if_neg c1] at h
    rw [if_neg c1]
    obtain ⟨rfl, rfl⟩ := k_pr h
    exact ⟨rfl, hw⟩
theorem sgX3_circuitOf {sc : k_SC} {A : k_H} {x1 : Int} {r : Int} {A' : k_H} (hw : k_Wf sc A) (h : gX3_circuitOf A x1 = some (r, A')) : fX3_circuitOf A 5 x1 = some (r, A') ∧ k_Wf sc A' :=
  sgX3_circuitOf_b0 _ _ _ _ hw h
/-! X3_lay -/
def gX3_lay_h80 : Nat → k_H → Int → Int → Option (Int × k_H)
  | 0, _, _, _ => none
  | N + 1, A, v1, v3 => if 0 ≤ v3 then (if 0 ≤ v3 ∧ v3 < (((k_shp (v1 + 1)).2 : Nat) : Int) then (if 0 ≤ v3 ∧ v3 < ((8 : Nat) : Int) then (k_lt (k_wt A 7 v3 (k_rd A (v1 + 1) v3)) fun A4 => if 0 ≤ k_wr (v3 + 1) ∧ k_wr (v3 + 1) < ((9 : Nat) : Int) then (if 0 ≤ v3 ∧ v3 < ((9 : Nat) : Int) then (k_lt (k_wt A4 8 v3 (k_wr ((k_rd A4 8 (k_wr (v3 + 1))) + (k_rd A4 7 v3)))) fun A9 => if 0 ≤ k_wr (v3 + 1) ∧ k_wr (v3 + 1) < ((9 : Nat) : Int) then (if 0 ≤ v3 ∧ v3 < ((9 : Nat) : Int) then (k_lt (k_wt A9 9 v3 (max (k_rd A9 9 (k_wr (v3 + 1))) (k_rd A9 7 v3))) fun A14 => (gX3_lay_h80 N) A14 v1 (k_wr (v3 + (-1)))) else none) else none) else none) else none) else none) else none) else (some (0, A))
def gX3_lay_h27 : Nat → k_H → Int → Int → Int → Option (Int × k_H)
  | 0, _, _, _, _ => none
  | N + 1, A, v1, v2, v3 => if v3 < (k_rd A 5 7) then (if 0 ≤ v3 ∧ v3 < (((k_shp (v2 + 1)).2 : Nat) : Int) then (if 0 ≤ v3 ∧ v3 < ((4 : Nat) : Int) then (k_lt (k_wt A 6 v3 (k_rd A (v2 + 1) v3)) fun A12 => (gX3_lay_h27 N) A12 v1 v2 (k_wr (v3 + 1))) else none) else none) else (if 0 ≤ (k_rd A 5 6) ∧ (k_rd A 5 6) < ((9 : Nat) : Int) then (k_lt (k_wt A 8 (k_rd A 5 6) 0) fun A3 => if 0 ≤ (k_rd A3 5 6) ∧ (k_rd A3 5 6) < ((9 : Nat) : Int) then (k_lt (k_wt A3 9 (k_rd A3 5 6) 0) fun A7 => gX3_lay_h80 k_FU A7 v1 (k_wr ((k_rd A7 5 6) - 1))) else none) else none)
def gX3_lay_b0 (A : k_H) (v1 v2 : Int) : Option (Int × k_H) := k_lt (k_wt A 5 6 (min (k_rd A v1 1) 8)) fun A1 => k_lt (k_wt A1 5 7 (min (k_rd A1 v2 1) 4)) fun A4 => gX3_lay_h27 k_FU A4 v1 v2 0
def gX3_lay (A : k_H) (x1 x2 : Int) : Option (Int × k_H) := gX3_lay_b0 A x1 x2
set_option maxRecDepth 100000 in
theorem sgX3_lay_h80 {sc : k_SC} : ∀ (N : Nat) (A : k_H) (v1 v3 : Int) (r : Int) (A' : k_H), k_Wf sc A → k_isK v1 0 → gX3_lay_h80 N A v1 v3 = some (r, A') → fX3_lay_h80 N A 5 v1 v3 = some (r, A') ∧ k_Wf sc A' := by
  intro N
  induction N with
  | zero => intro A v1 v3 r A' hw hv1 h; exact absurd h (by simp [gX3_lay_h80])
  | succ N ih =>
    intro A v1 v3 r A' hw hv1 h
    rw [gX3_lay_h80] at h
    rw [fX3_lay_h80]
    by_cases c1 : 0 ≤ v3
    · rw [if_pos c1] at h
      rw [if_pos c1]
      rw [if_pos (k_wO hw k_K5)]
      try rw [k_p3_1 hw]
      rw [if_pos (k_wO hw hv1)]
      try rw [k_p0_0 hw hv1]
      obtain ⟨hc2, h⟩ := k_pk h
      rw [if_pos (k_wA hw ((k_q0_0 hv1)) hc2)]
      obtain ⟨hc3, h⟩ := k_pk h
      rw [if_pos (k_wA hw (k_R7) hc3)]
      obtain ⟨A4, eA5, h⟩ := k_pl h
      have hw6 := k_wE eA5 (k_wa hw k_R7 (by decide))
      refine k_ltg eA5 ?_
      try rw [k_p3_2 hw6]
      try rw [k_p3_2 hw6]
      obtain ⟨hc7, h⟩ := k_pk h
      rw [if_pos (k_wA hw6 (k_R8) hc7)]
      try rw [k_p3_1 hw6]
      rw [if_pos (k_wA hw6 (k_R7) hc3)]
      obtain ⟨hc8, h⟩ := k_pk h
      rw [if_pos (k_wA hw6 (k_R8) hc8)]
      obtain ⟨A9, eA10, h⟩ := k_pl h
      have hw11 := k_wE eA10 (k_wa hw6 k_R8 (by decide))
      refine k_ltg eA10 ?_
      try rw [k_p3_3 hw11]
      try rw [k_p3_3 hw11]
      obtain ⟨hc12, h⟩ := k_pk h
      rw [if_pos (k_wA hw11 (k_R9) hc12)]
      try rw [k_p3_1 hw11]
      rw [if_pos (k_wA hw11 (k_R7) hc3)]
      obtain ⟨hc13, h⟩ := k_pk h
      rw [if_pos (k_wA hw11 (k_R9) hc13)]
      obtain ⟨A14, eA15, h⟩ := k_pl h
      have hw16 := k_wE eA15 (k_wa hw11 k_R9 (by decide))
      refine k_ltg eA15 ?_
      exact ih _ _ _ _ _ hw16 hv1 h
    · rw [if_neg c1] at h
      rw [if_neg c1]
      obtain ⟨rfl, rfl⟩ := k_pr h
      exact ⟨rfl, hw⟩
set_option maxRecDepth 100000 in
theorem sgX3_lay_h27 {sc : k_SC} : ∀ (N : Nat) (A : k_H) (v1 v2 v3 : Int) (r : Int) (A' : k_H), k_Wf sc A → k_isK v1 0 → k_isK v2 0 → gX3_lay_h27 N A v1 v2 v3 = some (r, A') → fX3_lay_h27 N A 5 v1 v2 v3 = some (r, A') ∧ k_Wf sc A' := by
  intro N
  induction N with
  | zero => intro A v1 v2 v3 r A' hw hv1 hv2 h; exact absurd h (by simp [gX3_lay_h27])
  | succ N ih =>
    intro A v1 v2 v3 r A' hw hv1 hv2 h
    rw [gX3_lay_h27] at h
    rw [fX3_lay_h27]
    rw [if_pos (k_wO hw k_K5)]
    by_cases c1 : v3 < (k_rd A 5 7)
    · rw [if_pos c1] at h
      rw [if_pos c1]
      try rw [k_p3_0 hw]
      rw [if_pos (k_wO hw hv2)]
      try rw [k_p0_0 hw hv2]
      obtain ⟨hc10, h⟩ := k_pk h
      rw [if_pos (k_wA hw ((k_q0_0 hv2)) hc10)]
      obtain ⟨hc11, h⟩ := k_pk h
      rw [if_pos (k_wA hw (k_R6) hc11)]
      obtain ⟨A12, eA13, h⟩ := k_pl h
      have hw14 := k_wE eA13 (k_wa hw k_R6 (by decide))
      refine k_ltg eA13 ?_
      exact ih _ _ _ _ _ _ hw14 hv1 hv2 h
    · rw [if_neg c1] at h
      rw [if_neg c1]
      try rw [k_p3_2 hw]
      obtain ⟨hc2, h⟩ := k_pk h
      rw [if_pos (k_wA hw (k_R8) hc2)]
      obtain ⟨A3, eA4, h⟩ := k_pl h
      have hw5 := k_wE eA4 (k_wa hw k_R8 (by decide))
      refine k_ltg eA4 ?_
      try rw [k_p3_3 hw5]
      obtain ⟨hc6, h⟩ := k_pk h
      rw [if_pos (k_wA hw5 (k_R9) hc6)]
      obtain ⟨A7, eA8, h⟩ := k_pl h
      have hw9 := k_wE eA8 (k_wa hw5 k_R9 (by decide))
      refine k_ltg eA8 ?_
      exact sgX3_lay_h80  _ _ _ _ _ _ hw9 hv1 h
set_option maxRecDepth 100000 in
theorem sgX3_lay_b0 {sc : k_SC} (A : k_H) (v1 v2 : Int) (r : Int) (A' : k_H) (hw : k_Wf sc A) (hv1 : k_isK v1 0) (hv2 : k_isK v2 0) (h : gX3_lay_b0 A v1 v2 = some (r, A')) : fX3_lay_b0 A 5 v1 v2 = some (r, A') ∧ k_Wf sc A' := by
  unfold gX3_lay_b0 at h
  unfold fX3_lay_b0
  rw [if_pos (k_wO hw hv1)]
  rw [if_pos (k_wO hw k_K5)]
  obtain ⟨A1, eA2, h⟩ := k_pl h
  have hw3 := k_wE eA2 (k_wo hw k_K5 6 (by decide))
  refine k_ltg eA2 ?_
  rw [if_pos (k_wO hw3 hv2)]
  obtain ⟨A4, eA5, h⟩ := k_pl h
  have hw6 := k_wE eA5 (k_wo hw3 k_K5 7 (by decide))
  refine k_ltg eA5 ?_
  exact sgX3_lay_h27  _ _ _ _ _ _ _ hw6 hv1 hv2 h
theorem sgX3_lay {sc : k_SC} {A : k_H} {x1 x2 : Int} {r : Int} {A' : k_H} (hw : k_Wf sc A) (hx1 : k_isK x1 0) (hx2 : k_isK x2 0) (h : gX3_lay A x1 x2 = some (r, A')) : fX3_lay A 5 x1 x2 = some (r, A') ∧ k_Wf sc A' :=
  sgX3_lay_b0 _ _ _ _ _ hw hx1 hx2 h
/-! X3_keep -/
def gX3_keep_b0 (A : k_H) (v1 : Int) : Option (Int × k_H) := if v1 < (k_rd A 5 8) then (k_lt (k_wt A 5 8 v1) fun A2 => if (0 : Int) ≤ 0 ∧ (0 : Int) ≤ 0 ∧ (0 : Int) ≤ (k_rd A2 5 6) ∧ (0 : Int) + (k_rd A2 5 6) ≤ ((8 : Nat) : Int) ∧ (0 : Int) + (k_rd A2 5 6) ≤ ((8 : Nat) : Int) then (k_lt (k_cp A2 10 0 11 0 (k_rd A2 5 6)) fun A6 => some (0, A6)) else none) else (some (0, A))
def gX3_keep (A : k_H) (x1 : Int) : Option (Int × k_H) := gX3_keep_b0 A x1
set_option maxRecDepth 100000 in
theorem sgX3_keep_b0 {sc : k_SC} (A : k_H) (v1 : Int) (r : Int) (A' : k_H) (hw : k_Wf sc A) (h : gX3_keep_b0 A v1 = some (r, A')) : fX3_keep_b0 A 5 v1 = some (r, A') ∧ k_Wf sc A' := by
  unfold gX3_keep_b0 at h
  unfold fX3_keep_b0
  rw [if_pos (k_wO hw k_K5)]
  by_cases c1 : v1 < (k_rd A 5 8)
  · rw [if_pos c1] at h
    rw [if_pos c1]
    obtain ⟨A2, eA3, h⟩ := k_pl h
    have hw4 := k_wE eA3 (k_wo hw k_K5 8 (by decide))
    refine k_ltg eA3 ?_
    try rw [k_p3_4 hw4]
    try rw [k_p3_5 hw4]
    rw [if_pos (k_wR hw4 k_R10)]
    rw [if_pos (k_wR hw4 k_R11)]
    try rw [k_wD hw4 k_R10]
    try rw [k_wD hw4 k_R11]
    obtain ⟨hc5, h⟩ := k_pk h
    rw [if_pos hc5]
    obtain ⟨A6, eA7, h⟩ := k_pl h
    have hw8 := k_wE eA7 (k_wc hw4 k_R11)
    refine k_ltg eA7 ?_
    obtain ⟨rfl, rfl⟩ := k_pr h
    exact ⟨rfl, hw8⟩
  · rw [if_neg c1] at h
    rw [if_neg c1]
    obtain ⟨rfl, rfl⟩ := k_pr h
    exact ⟨rfl, hw⟩
theorem sgX3_keep {sc : k_SC} {A : k_H} {x1 : Int} {r : Int} {A' : k_H} (hw : k_Wf sc A) (h : gX3_keep A x1 = some (r, A')) : fX3_keep A 5 x1 = some (r, A') ∧ k_Wf sc A' :=
  sgX3_keep_b0 _ _ _ _ hw h
/-! X3_lackAtLeast -/
def gX3_lackAtLeast_h7 : Nat → k_H → Int → Int → Int → Int → Option (Int × k_H)
  | 0, _, _, _, _, _ => none
  | N + 1, A, v1, v2, v3, v4 => if v4 < (k_rd A 5 7) then (if 0 ≤ v4 ∧ v4 < ((4 : Nat) : Int) then ((gX3_lackAtLeast_h7 N) A v1 (k_wr (v2 + (k_rd A 6 v4))) (max v3 (k_rd A 6 v4)) (k_wr (v4 + 1))) else none) else (if 0 ≤ v1 ∧ v1 < ((9 : Nat) : Int) then (if 0 ≤ v1 ∧ v1 < ((9 : Nat) : Int) then (some ((max 0 (max (k_wr ((k_rd A 8 v1) - v2)) (k_wr ((k_rd A 9 v1) - v3)))), A)) else none) else none)
def gX3_lackAtLeast_b0 (A : k_H) (v1 : Int) : Option (Int × k_H) := gX3_lackAtLeast_h7 k_FU A v1 0 0 0
def gX3_lackAtLeast (A : k_H) (x1 : Int) : Option (Int × k_H) := gX3_lackAtLeast_b0 A x1
set_option maxRecDepth 100000 in
theorem sgX3_lackAtLeast_h7 {sc : k_SC} : ∀ (N : Nat) (A : k_H) (v1 v2 v3 v4 : Int) (r : Int) (A' : k_H), k_Wf sc A → gX3_lackAtLeast_h7 N A v1 v2 v3 v4 = some (r, A') → fX3_lackAtLeast_h7 N A 5 v1 v2 v3 v4 = some (r, A') ∧ k_Wf sc A' := by
  intro N
  induction N with
  | zero => intro A v1 v2 v3 v4 r A' hw  h; exact absurd h (by simp [gX3_lackAtLeast_h7])
  | succ N ih =>
    intro A v1 v2 v3 v4 r A' hw  h
    rw [gX3_lackAtLeast_h7] at h
    rw [fX3_lackAtLeast_h7]
    rw [if_pos (k_wO hw k_K5)]
    by_cases c1 : v4 < (k_rd A 5 7)
    · rw [if_pos c1] at h
      rw [if_pos c1]
      try rw [k_p3_0 hw]
      obtain ⟨hc4, h⟩ := k_pk h
      rw [if_pos (k_wA hw (k_R6) hc4)]
      try rw [k_p3_0 hw]
      exact ih _ _ _ _ _ _ _ hw h
    · rw [if_neg c1] at h
      rw [if_neg c1]
      try rw [k_p3_2 hw]
      obtain ⟨hc2, h⟩ := k_pk h
      rw [if_pos (k_wA hw (k_R8) hc2)]
      try rw [k_p3_3 hw]
      obtain ⟨hc3, h⟩ := k_pk h
      rw [if_pos (k_wA hw (k_R9) hc3)]
      obtain ⟨rfl, rfl⟩ := k_pr h
      exact ⟨rfl, hw⟩
set_option maxRecDepth 100000 in
theorem sgX3_lackAtLeast_b0 {sc : k_SC} (A : k_H) (v1 : Int) (r : Int) (A' : k_H) (hw : k_Wf sc A) (h : gX3_lackAtLeast_b0 A v1 = some (r, A')) : fX3_lackAtLeast_b0 A 5 v1 = some (r, A') ∧ k_Wf sc A' := by
  unfold gX3_lackAtLeast_b0 at h
  unfold fX3_lackAtLeast_b0
  exact sgX3_lackAtLeast_h7  _ _ _ _ _ _ _ _ hw h
theorem sgX3_lackAtLeast {sc : k_SC} {A : k_H} {x1 : Int} {r : Int} {A' : k_H} (hw : k_Wf sc A) (h : gX3_lackAtLeast A x1 = some (r, A')) : fX3_lackAtLeast A 5 x1 = some (r, A') ∧ k_Wf sc A' :=
  sgX3_lackAtLeast_b0 _ _ _ _ hw h
/-! X3_isLikeOneAhead -/
def gX3_isLikeOneAhead_h2 : Nat → k_H → Int → Int → Option (Int × k_H)
  | 0, _, _, _ => none
  | N + 1, A, v1, v2 => if v2 < v1 then (if 0 ≤ v2 ∧ v2 < ((4 : Nat) : Int) then (if 0 ≤ v1 ∧ v1 < ((4 : Nat) : Int) then (if (k_rd A 6 v2) = (k_rd A 6 v1) then (some (1, A)) else ((gX3_isLikeOneAhead_h2 N) A v1 (k_wr (v2 + 1)))) else none) else none) else (some (0, A))
def gX3_isLikeOneAhead_b0 (A : k_H) (v1 : Int) : Option (Int × k_H) := gX3_isLikeOneAhead_h2 k_FU A v1 0
def gX3_isLikeOneAhead (A : k_H) (x1 : Int) : Option (Int × k_H) := gX3_isLikeOneAhead_b0 A x1
set_option maxRecDepth 100000 in
theorem sgX3_isLikeOneAhead_h2 {sc : k_SC} : ∀ (N : Nat) (A : k_H) (v1 v2 : Int) (r : Int) (A' : k_H), k_Wf sc A → gX3_isLikeOneAhead_h2 N A v1 v2 = some (r, A') → fX3_isLikeOneAhead_h2 N A 5 v1 v2 = some (r, A') ∧ k_Wf sc A' := by
  intro N
  induction N with
  | zero => intro A v1 v2 r A' hw  h; exact absurd h (by simp [gX3_isLikeOneAhead_h2])
  | succ N ih =>
    intro A v1 v2 r A' hw  h
    rw [gX3_isLikeOneAhead_h2] at h
    rw [fX3_isLikeOneAhead_h2]
    by_cases c1 : v2 < v1
    · rw [if_pos c1] at h
      rw [if_pos c1]
      rw [if_pos (k_wO hw k_K5)]
      try rw [k_p3_0 hw]
      obtain ⟨hc2, h⟩ := k_pk h
      rw [if_pos (k_wA hw (k_R6) hc2)]
      try rw [k_p3_0 hw]
      obtain ⟨hc3, h⟩ := k_pk h
      rw [if_pos (k_wA hw (k_R6) hc3)]
      by_cases c4 : (k_rd A 6 v2) = (k_rd A 6 v1)
      · rw [if_pos c4] at h
        rw [if_pos c4]
        obtain ⟨rfl, rfl⟩ := k_pr h
        exact ⟨rfl, hw⟩
      · rw [if_neg c4] at h
        rw [if_neg c4]
        exact ih _ _ _ _ _ hw h
    · rw [if_neg c1] at h
      rw [if_neg c1]
      obtain ⟨rfl, rfl⟩ := k_pr h
      exact ⟨rfl, hw⟩
set_option maxRecDepth 100000 in
theorem sgX3_isLikeOneAhead_b0 {sc : k_SC} (A : k_H) (v1 : Int) (r : Int) (A' : k_H) (hw : k_Wf sc A) (h : gX3_isLikeOneAhead_b0 A v1 = some (r, A')) : fX3_isLikeOneAhead_b0 A 5 v1 = some (r, A') ∧ k_Wf sc A' := by
  unfold gX3_isLikeOneAhead_b0 at h
  unfold fX3_isLikeOneAhead_b0
  exact sgX3_isLikeOneAhead_h2  _ _ _ _ _ _ hw h
theorem sgX3_isLikeOneAhead {sc : k_SC} {A : k_H} {x1 : Int} {r : Int} {A' : k_H} (hw : k_Wf sc A) (h : gX3_isLikeOneAhead A x1 = some (r, A')) : fX3_isLikeOneAhead A 5 x1 = some (r, A') ∧ k_Wf sc A' :=
  sgX3_isLikeOneAhead_b0 _ _ _ _ hw h
/-! X4_plan -/
def gX4_plan_b0 (A : k_H) (v0 v1 v2 v3 v4 : Int) : Option (Int × k_H) := k_lt (k_wt A v0 6 v1) fun A1 => k_lt (k_wt A1 v0 7 v2) fun A4 => k_lt (k_wt A4 v0 8 v3) fun A7 => k_lt (k_wt A7 v0 9 v4) fun A10 => some (0, A10)
def gX4_plan (A : k_H) (x0 x1 x2 x3 x4 : Int) : Option (Int × k_H) := gX4_plan_b0 A x0 x1 x2 x3 x4
set_option maxRecDepth 100000 in
theorem sgX4_plan_b0 {sc : k_SC} (A : k_H) (v0 v1 v2 v3 v4 : Int) (r : Int) (A' : k_H) (hw : k_Wf sc A) (hv0 : k_isK v0 4) (h : gX4_plan_b0 A v0 v1 v2 v3 v4 = some (r, A')) : fX4_plan_b0 A v0 v1 v2 v3 v4 = some (r, A') ∧ k_Wf sc A' := by
  unfold gX4_plan_b0 at h
  unfold fX4_plan_b0
  rw [if_pos (k_wO hw hv0)]
  obtain ⟨A1, eA2, h⟩ := k_pl h
  have hw3 := k_wE eA2 (k_wo hw hv0 6 (by decide))
  refine k_ltg eA2 ?_
  obtain ⟨A4, eA5, h⟩ := k_pl h
  have hw6 := k_wE eA5 (k_wo hw3 hv0 7 (by decide))
  refine k_ltg eA5 ?_
  obtain ⟨A7, eA8, h⟩ := k_pl h
  have hw9 := k_wE eA8 (k_wo hw6 hv0 8 (by decide))
  refine k_ltg eA8 ?_
  obtain ⟨A10, eA11, h⟩ := k_pl h
  have hw12 := k_wE eA11 (k_wo hw9 hv0 9 (by decide))
  refine k_ltg eA11 ?_
  obtain ⟨rfl, rfl⟩ := k_pr h
  exact ⟨rfl, hw12⟩
theorem sgX4_plan {sc : k_SC} {A : k_H} {x0 x1 x2 x3 x4 : Int} {r : Int} {A' : k_H} (hw : k_Wf sc A) (hx0 : k_isK x0 4) (h : gX4_plan A x0 x1 x2 x3 x4 = some (r, A')) : fX4_plan A x0 x1 x2 x3 x4 = some (r, A') ∧ k_Wf sc A' :=
  sgX4_plan_b0 _ _ _ _ _ _ _ _ hw hx0 h
/-! X5_append -/
def gX5_append_h3 : Nat → k_H → Int → Int → Int → Option (Int × k_H)
  | 0, _, _, _, _ => none
  | N + 1, A, v0, v1, v2 => if 0 ≤ v2 then (if (k_rd A v0 1) < 200 then (if 0 ≤ (k_rd A v0 1) ∧ (k_rd A v0 1) < ((200 : Nat) : Int) then (k_lt (k_wt A (v0 + 1) (k_rd A v0 1) (k_and (k_ushr v1 v2) 255)) fun A4 => k_lt (k_wt A4 v0 1 (k_wr ((k_rd A4 v0 1) + 1))) fun A7 => (gX5_append_h3 N) A7 v0 v1 (k_wr (v2 + (-8)))) else none) else (some (0, A))) else (some (0, A))
def gX5_append_b0 (A : k_H) (v0 v1 : Int) : Option (Int × k_H) := gX5_append_h3 k_FU A v0 v1 24
def gX5_append (A : k_H) (x0 x1 : Int) : Option (Int × k_H) := gX5_append_b0 A x0 x1
set_option maxRecDepth 100000 in
theorem sgX5_append_h3 {sc : k_SC} : ∀ (N : Nat) (A : k_H) (v0 v1 v2 : Int) (r : Int) (A' : k_H), k_Wf sc A → k_isK v0 5 → gX5_append_h3 N A v0 v1 v2 = some (r, A') → fX5_append_h3 N A v0 v1 v2 = some (r, A') ∧ k_Wf sc A' := by
  intro N
  induction N with
  | zero => intro A v0 v1 v2 r A' hw hv0 h; exact absurd h (by simp [gX5_append_h3])
  | succ N ih =>
    intro A v0 v1 v2 r A' hw hv0 h
    rw [gX5_append_h3] at h
    rw [fX5_append_h3]
    by_cases c1 : 0 ≤ v2
    · rw [if_pos c1] at h
      rw [if_pos c1]
      rw [if_pos (k_wO hw hv0)]
      by_cases c2 : (k_rd A v0 1) < 200
      · rw [if_pos c2] at h
        rw [if_pos c2]
        try rw [k_p5_0 hw hv0]
        obtain ⟨hc3, h⟩ := k_pk h
        rw [if_pos (k_wA hw ((k_q5_0 hv0)) hc3)]
        obtain ⟨A4, eA5, h⟩ := k_pl h
        have hw6 := k_wE eA5 (k_wa hw (k_q5_0 hv0) (by decide))
        refine k_ltg eA5 ?_
        obtain ⟨A7, eA8, h⟩ := k_pl h
        have hw9 := k_wE eA8 (k_wo hw6 hv0 1 (by decide))
        refine k_ltg eA8 ?_
        exact ih _ _ _ _ _ _ hw9 hv0 h
      · rw [if_neg c2] at h
        rw [if_neg c2]
        obtain ⟨rfl, rfl⟩ := k_pr h
        exact ⟨rfl, hw⟩
    · rw [if_neg c1] at h
      rw [if_neg c1]
      obtain ⟨rfl, rfl⟩ := k_pr h
      exact ⟨rfl, hw⟩
set_option maxRecDepth 100000 in
theorem sgX5_append_b0 {sc : k_SC} (A : k_H) (v0 v1 : Int) (r : Int) (A' : k_H) (hw : k_Wf sc A) (hv0 : k_isK v0 5) (h : gX5_append_b0 A v0 v1 = some (r, A')) : fX5_append_b0 A v0 v1 = some (r, A') ∧ k_Wf sc A' := by
  unfold gX5_append_b0 at h
  unfold fX5_append_b0
  exact sgX5_append_h3  _ _ _ _ _ _ _ hw hv0 h
theorem sgX5_append {sc : k_SC} {A : k_H} {x0 x1 : Int} {r : Int} {A' : k_H} (hw : k_Wf sc A) (hx0 : k_isK x0 5) (h : gX5_append A x0 x1 = some (r, A')) : fX5_append A x0 x1 = some (r, A') ∧ k_Wf sc A' :=
  sgX5_append_b0 _ _ _ _ _ hw hx0 h
/-! X5_copyFrom -/
def gX5_copyFrom_b0 (A : k_H) (v0 v1 : Int) : Option (Int × k_H) := if (0 : Int) ≤ 0 ∧ (0 : Int) ≤ 0 ∧ (0 : Int) ≤ 200 ∧ (0 : Int) + 200 ≤ ((200 : Nat) : Int) ∧ (0 : Int) + 200 ≤ ((200 : Nat) : Int) then (k_lt (k_cp A (v1 + 1) 0 (v0 + 1) 0 200) fun A2 => k_lt (k_wt A2 v0 1 (k_rd A2 v1 1)) fun A5 => some (0, A5)) else none
def gX5_copyFrom (A : k_H) (x0 x1 : Int) : Option (Int × k_H) := gX5_copyFrom_b0 A x0 x1
set_option maxRecDepth 100000 in
theorem sgX5_copyFrom_b0 {sc : k_SC} (A : k_H) (v0 v1 : Int) (r : Int) (A' : k_H) (hw : k_Wf sc A) (hv0 : k_isK v0 5) (hv1 : k_isK v1 5) (h : gX5_copyFrom_b0 A v0 v1 = some (r, A')) : fX5_copyFrom_b0 A v0 v1 = some (r, A') ∧ k_Wf sc A' := by
  unfold gX5_copyFrom_b0 at h
  unfold fX5_copyFrom_b0
  rw [if_pos (k_wO hw hv1)]
  try rw [k_p5_0 hw hv1]
  rw [if_pos (k_wO hw hv0)]
  try rw [k_p5_0 hw hv0]
  rw [if_pos (k_wR hw (k_q5_0 hv1))]
  rw [if_pos (k_wR hw (k_q5_0 hv0))]
  try rw [k_wD hw (k_q5_0 hv1)]
  try rw [k_wD hw (k_q5_0 hv0)]
  obtain ⟨hc1, h⟩ := k_pk h
  rw [if_pos hc1]
  obtain ⟨A2, eA3, h⟩ := k_pl h
  have hw4 := k_wE eA3 (k_wc hw (k_q5_0 hv0))
  refine k_ltg eA3 ?_
  obtain ⟨A5, eA6, h⟩ := k_pl h
  have hw7 := k_wE eA6 (k_wo hw4 hv0 1 (by decide))
  refine k_ltg eA6 ?_
  obtain ⟨rfl, rfl⟩ := k_pr h
  exact ⟨rfl, hw7⟩
theorem sgX5_copyFrom {sc : k_SC} {A : k_H} {x0 x1 : Int} {r : Int} {A' : k_H} (hw : k_Wf sc A) (hx0 : k_isK x0 5) (hx1 : k_isK x1 5) (h : gX5_copyFrom A x0 x1 = some (r, A')) : fX5_copyFrom A x0 x1 = some (r, A') ∧ k_Wf sc A' :=
  sgX5_copyFrom_b0 _ _ _ _ _ hw hx0 hx1 h
/-! X5_byteAt -/
def gX5_byteAt_b0 (A : k_H) (v0 v1 : Int) : Option (Int × k_H) := if 0 ≤ v1 then (if v1 < (k_rd A v0 1) then (if 0 ≤ v1 ∧ v1 < ((200 : Nat) : Int) then (some ((k_rd A (v0 + 1) v1), A)) else none) else (some ((-1), A))) else (some ((-1), A))
def gX5_byteAt (A : k_H) (x0 x1 : Int) : Option (Int × k_H) := gX5_byteAt_b0 A x0 x1
set_option maxRecDepth 100000 in
theorem sgX5_byteAt_b0 {sc : k_SC} (A : k_H) (v0 v1 : Int) (r : Int) (A' : k_H) (hw : k_Wf sc A) (hv0 : k_isK v0 5) (h : gX5_byteAt_b0 A v0 v1 = some (r, A')) : fX5_byteAt_b0 A v0 v1 = some (r, A') ∧ k_Wf sc A' := by
  unfold gX5_byteAt_b0 at h
  unfold fX5_byteAt_b0
  by_cases c1 : 0 ≤ v1
  · rw [if_pos c1] at h
    rw [if_pos c1]
    rw [if_pos (k_wO hw hv0)]
    by_cases c2 : v1 < (k_rd A v0 1)
    · rw [if_pos c2] at h
      rw [if_pos c2]
      try rw [k_p5_0 hw hv0]
      obtain ⟨hc3, h⟩ := k_pk h
      rw [if_pos (k_wA hw ((k_q5_0 hv0)) hc3)]
      obtain ⟨rfl, rfl⟩ := k_pr h
      exact ⟨rfl, hw⟩
    · rw [if_neg c2] at h
      rw [if_neg c2]
      obtain ⟨rfl, rfl⟩ := k_pr h
      exact ⟨rfl, hw⟩
  · rw [if_neg c1] at h
    rw [if_neg c1]
    obtain ⟨rfl, rfl⟩ := k_pr h
    exact ⟨rfl, hw⟩
theorem sgX5_byteAt {sc : k_SC} {A : k_H} {x0 x1 : Int} {r : Int} {A' : k_H} (hw : k_Wf sc A) (hx0 : k_isK x0 5) (h : gX5_byteAt A x0 x1 = some (r, A')) : fX5_byteAt A x0 x1 = some (r, A') ∧ k_Wf sc A' :=
  sgX5_byteAt_b0 _ _ _ _ _ hw hx0 h
/-! X5_holdsAmps -/
def gX5_holdsAmps_h20 : Nat → k_H → Int → Int → Option (Int × k_H)
  | 0, _, _, _ => none
  | N + 1, A, v0, v3 => if v3 < (k_rd A v0 1) then (if 0 ≤ v3 ∧ v3 < ((200 : Nat) : Int) then (if (k_rd A (v0 + 1) v3) = 0 then (some (0, A)) else ((gX5_holdsAmps_h20 N) A v0 (k_wr (v3 + 1)))) else none) else (some (1, A))
def gX5_holdsAmps_b0 (A : k_H) (v0 v1 v2 : Int) : Option (Int × k_H) := if v1 ≤ (k_rd A v0 1) then (if v2 < (k_rd A v0 1) then (some (0, A)) else (gX5_holdsAmps_h20 k_FU A v0 0)) else (some (0, A))
def gX5_holdsAmps (A : k_H) (x0 x1 x2 : Int) : Option (Int × k_H) := gX5_holdsAmps_b0 A x0 x1 x2
set_option maxRecDepth 100000 in
theorem sgX5_holdsAmps_h20 {sc : k_SC} : ∀ (N : Nat) (A : k_H) (v0 v3 : Int) (r : Int) (A' : k_H), k_Wf sc A → k_isK v0 5 → gX5_holdsAmps_h20 N A v0 v3 = some (r, A') → fX5_holdsAmps_h20 N A v0 v3 = some (r, A') ∧ k_Wf sc A' := by
  intro N
  induction N with
  | zero => intro A v0 v3 r A' hw hv0 h; exact absurd h (by simp [gX5_holdsAmps_h20])
  | succ N ih =>
    intro A v0 v3 r A' hw hv0 h
    rw [gX5_holdsAmps_h20] at h
    rw [fX5_holdsAmps_h20]
    rw [if_pos (k_wO hw hv0)]
    by_cases c1 : v3 < (k_rd A v0 1)
    · rw [if_pos c1] at h
      rw [if_pos c1]
      try rw [k_p5_0 hw hv0]
      obtain ⟨hc2, h⟩ := k_pk h
      rw [if_pos (k_wA hw ((k_q5_0 hv0)) hc2)]
      by_cases c3 : (k_rd A (v0 + 1) v3) = 0
      · rw [if_pos c3] at h
        rw [if_pos c3]
        obtain ⟨rfl, rfl⟩ := k_pr h
        exact ⟨rfl, hw⟩
      · rw [if_neg c3] at h
        rw [if_neg c3]
        exact ih _ _ _ _ _ hw hv0 h
    · rw [if_neg c1] at h
      rw [if_neg c1]
      obtain ⟨rfl, rfl⟩ := k_pr h
      exact ⟨rfl, hw⟩
set_option maxRecDepth 100000 in
theorem sgX5_holdsAmps_b0 {sc : k_SC} (A : k_H) (v0 v1 v2 : Int) (r : Int) (A' : k_H) (hw : k_Wf sc A) (hv0 : k_isK v0 5) (h : gX5_holdsAmps_b0 A v0 v1 v2 = some (r, A')) : fX5_holdsAmps_b0 A v0 v1 v2 = some (r, A') ∧ k_Wf sc A' := by
  unfold gX5_holdsAmps_b0 at h
  unfold fX5_holdsAmps_b0
  rw [if_pos (k_wO hw hv0)]
  by_cases c1 : v1 ≤ (k_rd A v0 1)
  · rw [if_pos c1] at h
    rw [if_pos c1]
    by_cases c2 : v2 < (k_rd A v0 1)
    · rw [if_pos c2] at h
      rw [if_pos c2]
      obtain ⟨rfl, rfl⟩ := k_pr h
      exact ⟨rfl, hw⟩
    · rw [if_neg c2] at h
      rw [if_neg c2]
      exact sgX5_holdsAmps_h20  _ _ _ _ _ _ hw hv0 h
  · rw [if_neg c1] at h
    rw [if_neg c1]
    obtain ⟨rfl, rfl⟩ := k_pr h
    exact ⟨rfl, hw⟩
theorem sgX5_holdsAmps {sc : k_SC} {A : k_H} {x0 x1 x2 : Int} {r : Int} {A' : k_H} (hw : k_Wf sc A) (hx0 : k_isK x0 5) (h : gX5_holdsAmps A x0 x1 x2 = some (r, A')) : fX5_holdsAmps A x0 x1 x2 = some (r, A') ∧ k_Wf sc A' :=
  sgX5_holdsAmps_b0 _ _ _ _ _ _ hw hx0 h
/-! X6_clear -/
def gX6_clear_b0 (A : k_H) (v0 : Int) : Option (Int × k_H) := k_lt (k_wt A v0 2 0) fun A1 => k_lt (k_wt A1 v0 3 0) fun A4 => k_lt (k_wt A4 v0 4 0) fun A7 => k_lt (k_wt A7 v0 5 0) fun A10 => k_lt (k_wt A10 v0 6 0) fun A13 => some (0, A13)
def gX6_clear (A : k_H) (x0 : Int) : Option (Int × k_H) := gX6_clear_b0 A x0
set_option maxRecDepth 100000 in
theorem sgX6_clear_b0 {sc : k_SC} (A : k_H) (v0 : Int) (r : Int) (A' : k_H) (hw : k_Wf sc A) (hv0 : k_isK v0 6) (h : gX6_clear_b0 A v0 = some (r, A')) : fX6_clear_b0 A v0 = some (r, A') ∧ k_Wf sc A' := by
  unfold gX6_clear_b0 at h
  unfold fX6_clear_b0
  rw [if_pos (k_wO hw hv0)]
  obtain ⟨A1, eA2, h⟩ := k_pl h
  have hw3 := k_wE eA2 (k_wo hw hv0 2 (by decide))
  refine k_ltg eA2 ?_
  obtain ⟨A4, eA5, h⟩ := k_pl h
  have hw6 := k_wE eA5 (k_wo hw3 hv0 3 (by decide))
  refine k_ltg eA5 ?_
  obtain ⟨A7, eA8, h⟩ := k_pl h
  have hw9 := k_wE eA8 (k_wo hw6 hv0 4 (by decide))
  refine k_ltg eA8 ?_
  obtain ⟨A10, eA11, h⟩ := k_pl h
  have hw12 := k_wE eA11 (k_wo hw9 hv0 5 (by decide))
  refine k_ltg eA11 ?_
  obtain ⟨A13, eA14, h⟩ := k_pl h
  have hw15 := k_wE eA14 (k_wo hw12 hv0 6 (by decide))
  refine k_ltg eA14 ?_
  obtain ⟨rfl, rfl⟩ := k_pr h
  exact ⟨rfl, hw15⟩
theorem sgX6_clear {sc : k_SC} {A : k_H} {x0 : Int} {r : Int} {A' : k_H} (hw : k_Wf sc A) (hx0 : k_isK x0 6) (h : gX6_clear A x0 = some (r, A')) : fX6_clear A x0 = some (r, A') ∧ k_Wf sc A' :=
  sgX6_clear_b0 _ _ _ _ hw hx0 h
/-! X6_copyFrom -/
def gX6_copyFrom_b0 (A : k_H) (v0 v1 : Int) : Option (Int × k_H) := if (0 : Int) ≤ 0 ∧ (0 : Int) ≤ 0 ∧ (0 : Int) ≤ 3 ∧ (0 : Int) + 3 ≤ ((3 : Nat) : Int) ∧ (0 : Int) + 3 ≤ ((3 : Nat) : Int) then (k_lt (k_cp A (v1 + 1) 0 (v0 + 1) 0 3) fun A2 => if (0 : Int) ≤ 0 ∧ (0 : Int) ≤ 0 ∧ (0 : Int) ≤ 3 ∧ (0 : Int) + 3 ≤ ((3 : Nat) : Int) ∧ (0 : Int) + 3 ≤ ((3 : Nat) : Int) then (k_lt (k_cp A2 (v1 + 2) 0 (v0 + 2) 0 3) fun A6 => k_lt (k_wt A6 v0 2 (k_rd A6 v1 2)) fun A9 => k_lt (k_wt A9 v0 3 (k_rd A9 v1 3)) fun A12 => k_lt (k_wt A12 v0 4 (k_rd A12 v1 4)) fun A15 => k_lt (k_wt A15 v0 5 (k_rd A15 v1 5)) fun A18 => if (k_rd A18 v1 6) = 0 ∨ (k_rd A18 v1 6) = 1 then (k_lt (k_wt A18 v0 6 (k_rd A18 v1 6)) fun A22 => some (0, A22)) else none) else none) else none
def gX6_copyFrom (A : k_H) (x0 x1 : Int) : Option (Int × k_H) := gX6_copyFrom_b0 A x0 x1
set_option maxRecDepth 100000 in
theorem sgX6_copyFrom_b0 {sc : k_SC} (A : k_H) (v0 v1 : Int) (r : Int) (A' : k_H) (hw : k_Wf sc A) (hv0 : k_isK v0 6) (hv1 : k_isK v1 6) (h : gX6_copyFrom_b0 A v0 v1 = some (r, A')) : fX6_copyFrom_b0 A v0 v1 = some (r, A') ∧ k_Wf sc A' := by
  unfold gX6_copyFrom_b0 at h
  unfold fX6_copyFrom_b0
  rw [if_pos (k_wO hw hv1)]
  try rw [k_p6_0 hw hv1]
  rw [if_pos (k_wO hw hv0)]
  try rw [k_p6_0 hw hv0]
  rw [if_pos (k_wR hw (k_q6_0 hv1))]
  rw [if_pos (k_wR hw (k_q6_0 hv0))]
  try rw [k_wD hw (k_q6_0 hv1)]
  try rw [k_wD hw (k_q6_0 hv0)]
  obtain ⟨hc1, h⟩ := k_pk h
  rw [if_pos hc1]
  obtain ⟨A2, eA3, h⟩ := k_pl h
  have hw4 := k_wE eA3 (k_wc hw (k_q6_0 hv0))
  refine k_ltg eA3 ?_
  try rw [k_p6_1 hw4 hv1]
  try rw [k_p6_1 hw4 hv0]
  rw [if_pos (k_wR hw4 (k_q6_1 hv1))]
  rw [if_pos (k_wR hw4 (k_q6_1 hv0))]
  try rw [k_wD hw4 (k_q6_1 hv1)]
  try rw [k_wD hw4 (k_q6_1 hv0)]
  obtain ⟨hc5, h⟩ := k_pk h
  rw [if_pos hc5]
  obtain ⟨A6, eA7, h⟩ := k_pl h
  have hw8 := k_wE eA7 (k_wc hw4 (k_q6_1 hv0))
  refine k_ltg eA7 ?_
  obtain ⟨A9, eA10, h⟩ := k_pl h
  have hw11 := k_wE eA10 (k_wo hw8 hv0 2 (by decide))
  refine k_ltg eA10 ?_
  obtain ⟨A12, eA13, h⟩ := k_pl h
  have hw14 := k_wE eA13 (k_wo hw11 hv0 3 (by decide))
  refine k_ltg eA13 ?_
  obtain ⟨A15, eA16, h⟩ := k_pl h
  have hw17 := k_wE eA16 (k_wo hw14 hv0 4 (by decide))
  refine k_ltg eA16 ?_
  obtain ⟨A18, eA19, h⟩ := k_pl h
  have hw20 := k_wE eA19 (k_wo hw17 hv0 5 (by decide))
  refine k_ltg eA19 ?_
  obtain ⟨hc21, h⟩ := k_pk h
  rw [if_pos hc21]
  obtain ⟨A22, eA23, h⟩ := k_pl h
  have hw24 := k_wE eA23 (k_wo hw20 hv0 6 (by decide))
  refine k_ltg eA23 ?_
  obtain ⟨rfl, rfl⟩ := k_pr h
  exact ⟨rfl, hw24⟩
theorem sgX6_copyFrom {sc : k_SC} {A : k_H} {x0 x1 : Int} {r : Int} {A' : k_H} (hw : k_Wf sc A) (hx0 : k_isK x0 6) (hx1 : k_isK x1 6) (h : gX6_copyFrom A x0 x1 = some (r, A')) : fX6_copyFrom A x0 x1 = some (r, A') ∧ k_Wf sc A' :=
  sgX6_copyFrom_b0 _ _ _ _ _ hw hx0 hx1 h
/-! X6_companyHas -/
def gX6_companyHas_b41 (k7g : k_H → Int → Int → Int → Int → Option (Int × k_H)) (A : k_H) (v0 v1 v2 v3 s0 : Int) : Option (Int × k_H) := if 0 ≤ v3 ∧ v3 < ((3 : Nat) : Int) then (if 0 ≤ v3 ∧ v3 < ((3 : Nat) : Int) then (k7g A v0 v1 (k_wr (v2 + k_wr (Int.tdiv (k_wr ((max 0 (k_wr (s0 - (k_rd A (v0 + 2) v3)))) * (k_rd A (v0 + 1) v3))) 100))) (k_wr (v3 + 1))) else none) else none
def gX6_companyHas_h7 : Nat → k_H → Int → Int → Int → Int → Option (Int × k_H)
  | 0, _, _, _, _, _ => none
  | N + 1, A, v0, v1, v2, v3 => if v3 < (k_rd A v0 2) then (if k_wr (v3 + 1) < (k_rd A v0 2) then (if 0 ≤ k_wr (v3 + 1) ∧ k_wr (v3 + 1) < ((3 : Nat) : Int) then (gX6_companyHas_b41 (gX6_companyHas_h7 N) A v0 v1 v2 v3 (min v1 (k_rd A (v0 + 2) (k_wr (v3 + 1))))) else none) else (gX6_companyHas_b41 (gX6_companyHas_h7 N) A v0 v1 v2 v3 v1)) else (some (v2, A))
def gX6_companyHas_b0 (A : k_H) (v0 v1 : Int) : Option (Int × k_H) := gX6_companyHas_h7 k_FU A v0 v1 (k_rd A v0 3) 0
def gX6_companyHas (A : k_H) (x0 x1 : Int) : Option (Int × k_H) := gX6_companyHas_b0 A x0 x1
set_option maxRecDepth 100000 in
theorem sgX6_companyHas_b41 {sc : k_SC} (k7f : k_H → Int → Int → Int → Int → Option (Int × k_H)) (k7g : k_H → Int → Int → Int → Int → Option (Int × k_H)) (hk7 : ∀ (A : k_H) (v0 v1 v2 v3 : Int) (r : Int) (A' : k_H), k_Wf sc A → k_isK v0 6 → k7g A v0 v1 v2 v3 = some (r, A') → k7f A v0 v1 v2 v3 = some (r, A') ∧ k_Wf sc A') (A : k_H) (v0 v1 v2 v3 s0 : Int) (r : Int) (A' : k_H) (hw : k_Wf sc A) (hv0 : k_isK v0 6) (h : gX6_companyHas_b41 k7g A v0 v1 v2 v3 s0 = some (r, A')) : fX6_companyHas_b41 k7f A v0 v1 v2 v3 s0 = some (r, A') ∧ k_Wf sc A' := by
  unfold gX6_companyHas_b41 at h
  unfold fX6_companyHas_b41
  rw [if_pos (k_wO hw hv0)]
  try rw [k_p6_1 hw hv0]
  obtain ⟨hc1, h⟩ := k_pk h
  rw [if_pos (k_wA hw ((k_q6_1 hv0)) hc1)]
  try rw [k_p6_0 hw hv0]
  obtain ⟨hc2, h⟩ := k_pk h
  rw [if_pos (k_wA hw ((k_q6_0 hv0)) hc2)]
  exact hk7 _ _ _ _ _ _ _ hw hv0 h
set_option maxRecDepth 100000 in
theorem sgX6_companyHas_h7 {sc : k_SC} : ∀ (N : Nat) (A : k_H) (v0 v1 v2 v3 : Int) (r : Int) (A' : k_H), k_Wf sc A → k_isK v0 6 → gX6_companyHas_h7 N A v0 v1 v2 v3 = some (r, A') → fX6_companyHas_h7 N A v0 v1 v2 v3 = some (r, A') ∧ k_Wf sc A' := by
  intro N
  induction N with
  | zero => intro A v0 v1 v2 v3 r A' hw hv0 h; exact absurd h (by simp [gX6_companyHas_h7])
  | succ N ih =>
    intro A v0 v1 v2 v3 r A' hw hv0 h
    rw [gX6_companyHas_h7] at h
    rw [fX6_companyHas_h7]
    rw [if_pos (k_wO hw hv0)]
    by_cases c1 : v3 < (k_rd A v0 2)
    · rw [if_pos c1] at h
      rw [if_pos c1]
      by_cases c2 : k_wr (v3 + 1) < (k_rd A v0 2)
      · rw [if_pos c2] at h
        rw [if_pos c2]
        try rw [k_p6_1 hw hv0]
        obtain ⟨hc3, h⟩ := k_pk h
        rw [if_pos (k_wA hw ((k_q6_1 hv0)) hc3)]
        exact sgX6_companyHas_b41 (fX6_companyHas_h7 N) (gX6_companyHas_h7 N) ih _ _ _ _ _ _ _ _ hw hv0 h
      · rw [if_neg c2] at h
        rw [if_neg c2]
        exact sgX6_companyHas_b41 (fX6_companyHas_h7 N) (gX6_companyHas_h7 N) ih _ _ _ _ _ _ _ _ hw hv0 h
    · rw [if_neg c1] at h
      rw [if_neg c1]
      obtain ⟨rfl, rfl⟩ := k_pr h
      exact ⟨rfl, hw⟩
set_option maxRecDepth 100000 in
theorem sgX6_companyHas_b0 {sc : k_SC} (A : k_H) (v0 v1 : Int) (r : Int) (A' : k_H) (hw : k_Wf sc A) (hv0 : k_isK v0 6) (h : gX6_companyHas_b0 A v0 v1 = some (r, A')) : fX6_companyHas_b0 A v0 v1 = some (r, A') ∧ k_Wf sc A' := by
  unfold gX6_companyHas_b0 at h
  unfold fX6_companyHas_b0
  rw [if_pos (k_wO hw hv0)]
  exact sgX6_companyHas_h7  _ _ _ _ _ _ _ _ hw hv0 h
theorem sgX6_companyHas {sc : k_SC} {A : k_H} {x0 x1 : Int} {r : Int} {A' : k_H} (hw : k_Wf sc A) (hx0 : k_isK x0 6) (h : gX6_companyHas A x0 x1 = some (r, A')) : fX6_companyHas A x0 x1 = some (r, A') ∧ k_Wf sc A' :=
  sgX6_companyHas_b0 _ _ _ _ _ hw hx0 h
/-! X6_subsidyOfFee -/
def gX6_subsidyOfFee_b0 (A : k_H) (v0 : Int) : Option (Int × k_H) := some ((min (k_rd A v0 5) (k_wr (Int.tdiv (k_wr ((k_rd A v0 3) * (k_rd A v0 4))) 100))), A)
def gX6_subsidyOfFee (A : k_H) (x0 : Int) : Option (Int × k_H) := gX6_subsidyOfFee_b0 A x0
set_option maxRecDepth 100000 in
theorem sgX6_subsidyOfFee_b0 {sc : k_SC} (A : k_H) (v0 : Int) (r : Int) (A' : k_H) (hw : k_Wf sc A) (hv0 : k_isK v0 6) (h : gX6_subsidyOfFee_b0 A v0 = some (r, A')) : fX6_subsidyOfFee_b0 A v0 = some (r, A') ∧ k_Wf sc A' := by
  unfold gX6_subsidyOfFee_b0 at h
  unfold fX6_subsidyOfFee_b0
  rw [if_pos (k_wO hw hv0)]
  obtain ⟨rfl, rfl⟩ := k_pr h
  exact ⟨rfl, hw⟩
theorem sgX6_subsidyOfFee {sc : k_SC} {A : k_H} {x0 : Int} {r : Int} {A' : k_H} (hw : k_Wf sc A) (hx0 : k_isK x0 6) (h : gX6_subsidyOfFee A x0 = some (r, A')) : fX6_subsidyOfFee A x0 = some (r, A') ∧ k_Wf sc A' :=
  sgX6_subsidyOfFee_b0 _ _ _ _ hw hx0 h
/-! J6_bitCount_0f7a4 -/
def gJ6_bitCount_0f7a4_b0 (A : k_H) (v0 : Int) : Option (Int × k_H) := some ((k_and (k_wr (k_wr ((k_and (k_wr (k_wr ((k_and (k_wr (v0 - (k_and (k_ushr v0 1) 1431655765))) 858993459) + (k_and (k_ushr (k_wr (v0 - (k_and (k_ushr v0 1) 1431655765))) 2) 858993459)) + (k_ushr (k_wr ((k_and (k_wr (v0 - (k_and (k_ushr v0 1) 1431655765))) 858993459) + (k_and (k_ushr (k_wr (v0 - (k_and (k_ushr v0 1) 1431655765))) 2) 858993459))) 4))) 252645135) + (k_ushr (k_and (k_wr (k_wr ((k_and (k_wr (v0 - (k_and (k_ushr v0 1) 1431655765))) 858993459) + (k_and (k_ushr (k_wr (v0 - (k_and (k_ushr v0 1) 1431655765))) 2) 858993459)) + (k_ushr (k_wr ((k_and (k_wr (v0 - (k_and (k_ushr v0 1) 1431655765))) 858993459) + (k_and (k_ushr (k_wr (v0 - (k_and (k_ushr v0 1) 1431655765))) 2) 858993459))) 4))) 252645135) 8)) + (k_ushr (k_wr ((k_and (k_wr (k_wr ((k_and (k_wr (v0 - (k_and (k_ushr v0 1) 1431655765))) 858993459) + (k_and (k_ushr (k_wr (v0 - (k_and (k_ushr v0 1) 1431655765))) 2) 858993459)) + (k_ushr (k_wr ((k_and (k_wr (v0 - (k_and (k_ushr v0 1) 1431655765))) 858993459) + (k_and (k_ushr (k_wr (v0 - (k_and (k_ushr v0 1) 1431655765))) 2) 858993459))) 4))) 252645135) + (k_ushr (k_and (k_wr (k_wr ((k_and (k_wr (v0 - (k_and (k_ushr v0 1) 1431655765))) 858993459) + (k_and (k_ushr (k_wr (v0 - (k_and (k_ushr v0 1) 1431655765))) 2) 858993459)) + (k_ushr (k_wr ((k_and (k_wr (v0 - (k_and (k_ushr v0 1) 1431655765))) 858993459) + (k_and (k_ushr (k_wr (v0 - (k_and (k_ushr v0 1) 1431655765))) 2) 858993459))) 4))) 252645135) 8))) 16))) 63), A)
def gJ6_bitCount_0f7a4 (A : k_H) (x0 : Int) : Option (Int × k_H) := gJ6_bitCount_0f7a4_b0 A x0
set_option maxRecDepth 100000 in
theorem sgJ6_bitCount_0f7a4_b0 {sc : k_SC} (A : k_H) (v0 : Int) (r : Int) (A' : k_H) (hw : k_Wf sc A) (h : gJ6_bitCount_0f7a4_b0 A v0 = some (r, A')) : fJ6_bitCount_0f7a4_b0 A v0 = some (r, A') ∧ k_Wf sc A' := by
  unfold gJ6_bitCount_0f7a4_b0 at h
  unfold fJ6_bitCount_0f7a4_b0
  obtain ⟨rfl, rfl⟩ := k_pr h
  exact ⟨rfl, hw⟩
theorem sgJ6_bitCount_0f7a4 {sc : k_SC} {A : k_H} {x0 : Int} {r : Int} {A' : k_H} (hw : k_Wf sc A) (h : gJ6_bitCount_0f7a4 A x0 = some (r, A')) : fJ6_bitCount_0f7a4 A x0 = some (r, A') ∧ k_Wf sc A' :=
  sgJ6_bitCount_0f7a4_b0 _ _ _ _ hw h
/-! J7_fill_53178 -/
def gJ7_fill_53178_h5 : Nat → k_H → Int → Int → Int → Int → Option (Int × k_H)
  | 0, _, _, _, _, _ => none
  | N + 1, A, v0, v1, v2, v3 => if v2 < v3 then (if 0 ≤ v2 ∧ v2 < ((k_shp v0).2 : Int) then (k_lt (k_wt A v0 v2 v1) fun A3 => (gJ7_fill_53178_h5 N) A3 v0 v1 (k_wr (v2 + 1)) v3) else none) else (some (0, A))
def gJ7_fill_53178_b0 (A : k_H) (v0 v1 : Int) : Option (Int × k_H) := gJ7_fill_53178_h5 k_FU A v0 v1 0 ((k_shp v0).2 : Int)
def gJ7_fill_53178 (A : k_H) (x0 x1 : Int) : Option (Int × k_H) := gJ7_fill_53178_b0 A x0 x1
set_option maxRecDepth 100000 in
theorem sgJ7_fill_53178_h5 {sc : k_SC} : ∀ (N : Nat) (A : k_H) (v0 v1 v2 v3 : Int) (r : Int) (A' : k_H), k_Wf sc A → k_isI v0 → gJ7_fill_53178_h5 N A v0 v1 v2 v3 = some (r, A') → fJ7_fill_53178_h5 N A v0 v1 v2 v3 = some (r, A') ∧ k_Wf sc A' := by
  intro N
  induction N with
  | zero => intro A v0 v1 v2 v3 r A' hw hv0 h; exact absurd h (by simp [gJ7_fill_53178_h5])
  | succ N ih =>
    intro A v0 v1 v2 v3 r A' hw hv0 h
    rw [gJ7_fill_53178_h5] at h
    rw [fJ7_fill_53178_h5]
    by_cases c1 : v2 < v3
    · rw [if_pos c1] at h
      rw [if_pos c1]
      obtain ⟨hc2, h⟩ := k_pk h
      rw [if_pos (k_wA hw (k_iR hv0) hc2)]
      obtain ⟨A3, eA4, h⟩ := k_pl h
      have hw5 := k_wE eA4 (k_wi hw hv0)
      refine k_ltg eA4 ?_
      exact ih _ _ _ _ _ _ _ hw5 hv0 h
    · rw [if_neg c1] at h
      rw [if_neg c1]
      obtain ⟨rfl, rfl⟩ := k_pr h
      exact ⟨rfl, hw⟩
set_option maxRecDepth 100000 in
theorem sgJ7_fill_53178_b0 {sc : k_SC} (A : k_H) (v0 v1 : Int) (r : Int) (A' : k_H) (hw : k_Wf sc A) (hv0 : k_isI v0) (h : gJ7_fill_53178_b0 A v0 v1 = some (r, A')) : fJ7_fill_53178_b0 A v0 v1 = some (r, A') ∧ k_Wf sc A' := by
  unfold gJ7_fill_53178_b0 at h
  unfold fJ7_fill_53178_b0
  rw [if_pos (k_wR hw (k_iR hv0))]
  rw [if_pos (k_wL hw (k_iR hv0))]
  try rw [k_wD hw (k_iR hv0)]
  exact sgJ7_fill_53178_h5  _ _ _ _ _ _ _ _ hw hv0 h
theorem sgJ7_fill_53178 {sc : k_SC} {A : k_H} {x0 x1 : Int} {r : Int} {A' : k_H} (hw : k_Wf sc A) (hx0 : k_isI x0) (h : gJ7_fill_53178 A x0 x1 = some (r, A')) : fJ7_fill_53178 A x0 x1 = some (r, A') ∧ k_Wf sc A' :=
  sgJ7_fill_53178_b0 _ _ _ _ _ hw hx0 h
/-! X0_take -/
def gX0_take_h18 : Nat → k_H → Int → Int → Int → Option (Int × k_H)
  | 0, _, _, _, _ => none
  | N + 1, A, v0, v1, v2 => if v2 < (k_rd A v0 1) then (k_bd (gX5_byteAt A v1 v2) fun r2 A3 => if 0 ≤ v2 ∧ v2 < (((k_shp (v0 + 1)).2 : Nat) : Int) then (k_lt (k_wt A3 (v0 + 1) v2 r2) fun A7 => (gX0_take_h18 N) A7 v0 v1 (k_wr (v2 + 1))) else none) else (some (0, A))
def gX0_take_b0 (A : k_H) (v0 v1 : Int) : Option (Int × k_H) := k_lt (k_wt A v0 1 (min (k_rd A v1 1) ((k_shp (v0 + 1)).2 : Int))) fun A1 => gX0_take_h18 k_FU A1 v0 v1 0
def gX0_take (A : k_H) (x0 x1 : Int) : Option (Int × k_H) := gX0_take_b0 A x0 x1
set_option maxRecDepth 100000 in
theorem sgX0_take_h18 {sc : k_SC} : ∀ (N : Nat) (A : k_H) (v0 v1 v2 : Int) (r : Int) (A' : k_H), k_Wf sc A → k_isK v0 0 → k_isK v1 5 → gX0_take_h18 N A v0 v1 v2 = some (r, A') → fX0_take_h18 N A v0 v1 v2 = some (r, A') ∧ k_Wf sc A' := by
  intro N
  induction N with
  | zero => intro A v0 v1 v2 r A' hw hv0 hv1 h; exact absurd h (by simp [gX0_take_h18])
  | succ N ih =>
    intro A v0 v1 v2 r A' hw hv0 hv1 h
    rw [gX0_take_h18] at h
    rw [fX0_take_h18]
    rw [if_pos (k_wO hw hv0)]
    by_cases c1 : v2 < (k_rd A v0 1)
    · rw [if_pos c1] at h
      rw [if_pos c1]
      try rw [k_p0_0 hw hv0]
      rw [if_pos (k_wO hw hv1)]
      obtain ⟨r2, A3, hq4, h⟩ := k_pb h
      have hw5 := sgX5_byteAt hw hv1 hq4
      rw [hw5.1]
      rw [k_bds]
      obtain ⟨hc6, h⟩ := k_pk h
      rw [if_pos (k_wA hw5.2 ((k_q0_0 hv0)) hc6)]
      obtain ⟨A7, eA8, h⟩ := k_pl h
      have hw9 := k_wE eA8 (k_wa hw5.2 (k_q0_0 hv0) (by decide))
      refine k_ltg eA8 ?_
      exact ih _ _ _ _ _ _ hw9 hv0 hv1 h
    · rw [if_neg c1] at h
      rw [if_neg c1]
      obtain ⟨rfl, rfl⟩ := k_pr h
      exact ⟨rfl, hw⟩
set_option maxRecDepth 100000 in
theorem sgX0_take_b0 {sc : k_SC} (A : k_H) (v0 v1 : Int) (r : Int) (A' : k_H) (hw : k_Wf sc A) (hv0 : k_isK v0 0) (hv1 : k_isK v1 5) (h : gX0_take_b0 A v0 v1 = some (r, A')) : fX0_take_b0 A v0 v1 = some (r, A') ∧ k_Wf sc A' := by
  unfold gX0_take_b0 at h
  unfold fX0_take_b0
  rw [if_pos (k_wO hw hv1)]
  rw [if_pos (k_wO hw hv0)]
  try rw [k_p0_0 hw hv0]
  rw [if_pos (k_wR hw (k_q0_0 hv0))]
  rw [if_pos (k_wL hw (k_q0_0 hv0))]
  try rw [k_wD hw (k_q0_0 hv0)]
  obtain ⟨A1, eA2, h⟩ := k_pl h
  have hw3 := k_wE eA2 (k_wo hw hv0 1 (by decide))
  refine k_ltg eA2 ?_
  exact sgX0_take_h18  _ _ _ _ _ _ _ hw3 hv0 hv1 h
theorem sgX0_take {sc : k_SC} {A : k_H} {x0 x1 : Int} {r : Int} {A' : k_H} (hw : k_Wf sc A) (hx0 : k_isK x0 0) (hx1 : k_isK x1 5) (h : gX0_take A x0 x1 = some (r, A')) : fX0_take A x0 x1 = some (r, A') ∧ k_Wf sc A' :=
  sgX0_take_b0 _ _ _ _ _ hw hx0 hx1 h
/-! X3_search -/
def gX3_search_b118 (rcg : k_H → Int → Int → Option (Int × k_H)) (k39g : k_H → Int → Int → Int → Int → Option (Int × k_H)) (A : k_H) (v1 v2 v3 v4 : Int) : Option (Int × k_H) := k39g A v1 v2 v3 (k_wr (v4 + 1))
def gX3_search_h39 (rcg : k_H → Int → Int → Option (Int × k_H)) : Nat → k_H → Int → Int → Int → Int → Option (Int × k_H)
  | 0, _, _, _, _, _ => none
  | N + 1, A, v1, v2, v3, v4 => if v4 < (k_rd A 5 7) then (k_bd (gX3_isLikeOneAhead A v4) fun r2 A3 => if r2 = 0 then (if 0 ≤ v4 ∧ v4 < ((4 : Nat) : Int) then (k_lt (k_wt A3 6 v4 (max 0 (k_wr ((k_rd A3 6 v4) - v3)))) fun A8 => if 0 ≤ v1 ∧ v1 < ((8 : Nat) : Int) then (k_lt (k_wt A8 10 v1 v4) fun A12 => k_bd (rcg A12 (k_wr (v1 + 1)) (k_wr (v2 + (max 0 (k_wr (v3 - (k_rd A3 6 v4))))))) fun r15 A16 => k_lt (k_wt A16 6 v4 (k_rd A3 6 v4)) fun A19 => gX3_search_b118 rcg (gX3_search_h39 rcg N) A19 v1 v2 v3 v4) else none) else none) else (gX3_search_b118 rcg (gX3_search_h39 rcg N) A3 v1 v2 v3 v4)) else (some (0, A))
def gX3_search_b0 (rcg : k_H → Int → Int → Option (Int × k_H)) (A : k_H) (v1 v2 : Int) : Option (Int × k_H) := if (k_rd A 5 6) ≤ v1 then (k_bd (gX3_keep A v2) fun r8 A9 => some (0, A9)) else (k_bd (gX3_lackAtLeast A v1) fun r2 A3 => if (k_rd A3 5 8) ≤ k_wr (v2 + r2) then (some (0, A3)) else (if 0 ≤ v1 ∧ v1 < ((8 : Nat) : Int) then (gX3_search_h39 rcg k_FU A3 v1 v2 (k_rd A3 7 v1) 0) else none))
def gX3_search_N : Nat → k_H → Int → Int → Option (Int × k_H)
  | 0, _, _, _ => none
  | N + 1, A, x1, x2 => gX3_search_b0 (gX3_search_N N) A x1 x2
def gX3_search (A : k_H) (x1 x2 : Int) : Option (Int × k_H) := gX3_search_N 12 A x1 x2
set_option maxRecDepth 100000 in
theorem sgX3_search_b118 {sc : k_SC} (rcf : k_H → Int → Int → Int → Option (Int × k_H)) (rcg : k_H → Int → Int → Option (Int × k_H)) (hrc : ∀ {A : k_H} {x1 x2 : Int} {r : Int} {A' : k_H}, k_Wf sc A → rcg A x1 x2 = some (r, A') → rcf A 5 x1 x2 = some (r, A') ∧ k_Wf sc A') (k39f : k_H → Int → Int → Int → Int → Int → Option (Int × k_H)) (k39g : k_H → Int → Int → Int → Int → Option (Int × k_H)) (hk39 : ∀ (A : k_H) (v1 v2 v3 v4 : Int) (r : Int) (A' : k_H), k_Wf sc A → k39g A v1 v2 v3 v4 = some (r, A') → k39f A 5 v1 v2 v3 v4 = some (r, A') ∧ k_Wf sc A') (A : k_H) (v1 v2 v3 v4 : Int) (r : Int) (A' : k_H) (hw : k_Wf sc A) (h : gX3_search_b118 rcg k39g A v1 v2 v3 v4 = some (r, A')) : fX3_search_b118 rcf k39f A 5 v1 v2 v3 v4 = some (r, A') ∧ k_Wf sc A' := by
  unfold gX3_search_b118 at h
  unfold fX3_search_b118
  exact hk39 _ _ _ _ _ _ _ hw h
set_option maxRecDepth 100000 in
theorem sgX3_search_h39 {sc : k_SC} (rcf : k_H → Int → Int → Int → Option (Int × k_H)) (rcg : k_H → Int → Int → Option (Int × k_H)) (hrc : ∀ {A : k_H} {x1 x2 : Int} {r : Int} {A' : k_H}, k_Wf sc A → rcg A x1 x2 = some (r, A') → rcf A 5 x1 x2 = some (r, A') ∧ k_Wf sc A') : ∀ (N : Nat) (A : k_H) (v1 v2 v3 v4 : Int) (r : Int) (A' : k_H), k_Wf sc A → gX3_search_h39 rcg N A v1 v2 v3 v4 = some (r, A') → fX3_search_h39 rcf N A 5 v1 v2 v3 v4 = some (r, A') ∧ k_Wf sc A' := by
  intro N
  induction N with
  | zero => intro A v1 v2 v3 v4 r A' hw  h; exact absurd h (by simp [gX3_search_h39])
  | succ N ih =>
    intro A v1 v2 v3 v4 r A' hw  h
    rw [gX3_search_h39] at h
    rw [fX3_search_h39]
    rw [if_pos (k_wO hw k_K5)]
    by_cases c1 : v4 < (k_rd A 5 7)
    · rw [if_pos c1] at h
      rw [if_pos c1]
      obtain ⟨r2, A3, hq4, h⟩ := k_pb h
      have hw5 := sgX3_isLikeOneAhead hw  hq4
      rw [hw5.1]
      rw [k_bds]
      by_cases c6 : r2 = 0
      · rw [if_pos c6] at h
        rw [if_pos c6]
        rw [if_pos (k_wO hw5.2 k_K5)]
        try rw [k_p3_0 hw5.2]
        obtain ⟨hc7, h⟩ := k_pk h
        rw [if_pos (k_wA hw5.2 (k_R6) hc7)]
        try rw [k_p3_0 hw5.2]
        obtain ⟨A8, eA9, h⟩ := k_pl h
        have hw10 := k_wE eA9 (k_wa hw5.2 k_R6 (by decide))
        refine k_ltg eA9 ?_
        try rw [k_p3_4 hw10]
        obtain ⟨hc11, h⟩ := k_pk h
        rw [if_pos (k_wA hw10 (k_R10) hc11)]
        obtain ⟨A12, eA13, h⟩ := k_pl h
        have hw14 := k_wE eA13 (k_wa hw10 k_R10 (by decide))
        refine k_ltg eA13 ?_
        obtain ⟨r15, A16, hq17, h⟩ := k_pb h
        have hw18 := hrc hw14  hq17
        rw [hw18.1]
        rw [k_bds]
        rw [if_pos (k_wO hw18.2 k_K5)]
        try rw [k_p3_0 hw18.2]
        rw [if_pos (k_wA hw18.2 (k_R6) hc7)]
        obtain ⟨A19, eA20, h⟩ := k_pl h
        have hw21 := k_wE eA20 (k_wa hw18.2 k_R6 (by decide))
        refine k_ltg eA20 ?_
        exact sgX3_search_b118 rcf rcg hrc (fX3_search_h39 rcf N) (gX3_search_h39 rcg N) ih _ _ _ _ _ _ _ hw21 h
      · rw [if_neg c6] at h
        rw [if_neg c6]
        exact sgX3_search_b118 rcf rcg hrc (fX3_search_h39 rcf N) (gX3_search_h39 rcg N) ih _ _ _ _ _ _ _ hw5.2 h
    · rw [if_neg c1] at h
      rw [if_neg c1]
      obtain ⟨rfl, rfl⟩ := k_pr h
      exact ⟨rfl, hw⟩
set_option maxRecDepth 100000 in
theorem sgX3_search_b0 {sc : k_SC} (rcf : k_H → Int → Int → Int → Option (Int × k_H)) (rcg : k_H → Int → Int → Option (Int × k_H)) (hrc : ∀ {A : k_H} {x1 x2 : Int} {r : Int} {A' : k_H}, k_Wf sc A → rcg A x1 x2 = some (r, A') → rcf A 5 x1 x2 = some (r, A') ∧ k_Wf sc A') (A : k_H) (v1 v2 : Int) (r : Int) (A' : k_H) (hw : k_Wf sc A) (h : gX3_search_b0 rcg A v1 v2 = some (r, A')) : fX3_search_b0 rcf A 5 v1 v2 = some (r, A') ∧ k_Wf sc A' := by
  unfold gX3_search_b0 at h
  unfold fX3_search_b0
  rw [if_pos (k_wO hw k_K5)]
  by_cases c1 : (k_rd A 5 6) ≤ v1
  · rw [if_pos c1] at h
    rw [if_pos c1]
    obtain ⟨r8, A9, hq10, h⟩ := k_pb h
    have hw11 := sgX3_keep hw  hq10
    rw [hw11.1]
    rw [k_bds]
    obtain ⟨rfl, rfl⟩ := k_pr h
    exact ⟨rfl, hw11.2⟩
  · rw [if_neg c1] at h
    rw [if_neg c1]
    obtain ⟨r2, A3, hq4, h⟩ := k_pb h
    have hw5 := sgX3_lackAtLeast hw  hq4
    rw [hw5.1]
    rw [k_bds]
    rw [if_pos (k_wO hw5.2 k_K5)]
    by_cases c6 : (k_rd A3 5 8) ≤ k_wr (v2 + r2)
    · rw [if_pos c6] at h
      rw [if_pos c6]
      obtain ⟨rfl, rfl⟩ := k_pr h
      exact ⟨rfl, hw5.2⟩
    · rw [if_neg c6] at h
      rw [if_neg c6]
      try rw [k_p3_1 hw5.2]
      obtain ⟨hc7, h⟩ := k_pk h
      rw [if_pos (k_wA hw5.2 (k_R7) hc7)]
      exact sgX3_search_h39 rcf rcg hrc _ _ _ _ _ _ _ _ hw5.2 h
theorem sgX3_search_N {sc : k_SC} : ∀ (N : Nat) {A : k_H} {x1 x2 : Int} {r : Int} {A' : k_H}, k_Wf sc A → gX3_search_N N A x1 x2 = some (r, A') → fX3_search_N N A 5 x1 x2 = some (r, A') ∧ k_Wf sc A' := by
  intro N
  induction N with
  | zero => intro A x1 x2 r A' hw h; exact absurd h (by simp [gX3_search_N])
  | succ N ih =>
    intro A x1 x2 r A' hw h
    rw [gX3_search_N] at h
    rw [fX3_search_N]
    exact sgX3_search_b0 (fX3_search_N N) (gX3_search_N N) ih _ _ _ _ _ hw h
theorem sgX3_search {sc : k_SC} {A : k_H} {x1 x2 : Int} {r : Int} {A' : k_H} (hw : k_Wf sc A) (h : gX3_search A x1 x2 = some (r, A')) : fX3_search A 5 x1 x2 = some (r, A') ∧ k_Wf sc A' := sgX3_search_N 12 hw h
/-! X4_forgetTour -/
def gX4_forgetTour_b0 (A : k_H) (v0 : Int) : Option (Int × k_H) := k_bd (gJ7_fill_53178 A (v0 + 3) (-1)) fun r1 A2 => k_bd (gJ7_fill_53178 A2 (v0 + 4) (-1)) fun r5 A6 => some (0, A6)
def gX4_forgetTour (A : k_H) (x0 : Int) : Option (Int × k_H) := gX4_forgetTour_b0 A x0
set_option maxRecDepth 100000 in
theorem sgX4_forgetTour_b0 {sc : k_SC} (A : k_H) (v0 : Int) (r : Int) (A' : k_H) (hw : k_Wf sc A) (hv0 : k_isK v0 4) (h : gX4_forgetTour_b0 A v0 = some (r, A')) : fX4_forgetTour_b0 A v0 = some (r, A') ∧ k_Wf sc A' := by
  unfold gX4_forgetTour_b0 at h
  unfold fX4_forgetTour_b0
  rw [if_pos (k_wO hw hv0)]
  try rw [k_p4_1 hw hv0]
  obtain ⟨r1, A2, hq3, h⟩ := k_pb h
  have hw4 := sgJ7_fill_53178 hw (k_Ri (k_q4_1 hv0)) hq3
  rw [hw4.1]
  rw [k_bds]
  rw [if_pos (k_wO hw4.2 hv0)]
  try rw [k_p4_2 hw4.2 hv0]
  obtain ⟨r5, A6, hq7, h⟩ := k_pb h
  have hw8 := sgJ7_fill_53178 hw4.2 (k_Ri (k_q4_2 hv0)) hq7
  rw [hw8.1]
  rw [k_bds]
  obtain ⟨rfl, rfl⟩ := k_pr h
  exact ⟨rfl, hw8.2⟩
theorem sgX4_forgetTour {sc : k_SC} {A : k_H} {x0 : Int} {r : Int} {A' : k_H} (hw : k_Wf sc A) (hx0 : k_isK x0 4) (h : gX4_forgetTour A x0 = some (r, A')) : fX4_forgetTour A x0 = some (r, A') ∧ k_Wf sc A' :=
  sgX4_forgetTour_b0 _ _ _ _ hw hx0 h
/-! X6_keptBeforeLoss -/
def gX6_keptBeforeLoss_b0 (A : k_H) (v0 v1 : Int) : Option (Int × k_H) := k_bd (gX6_subsidyOfFee A v0) fun r1 A2 => k_bd (gX6_companyHas A2 v0 v1) fun r5 A6 => some (k_wr (k_wr (v1 + r1) - r5), A6)
def gX6_keptBeforeLoss (A : k_H) (x0 x1 : Int) : Option (Int × k_H) := gX6_keptBeforeLoss_b0 A x0 x1
set_option maxRecDepth 100000 in
theorem sgX6_keptBeforeLoss_b0 {sc : k_SC} (A : k_H) (v0 v1 : Int) (r : Int) (A' : k_H) (hw : k_Wf sc A) (hv0 : k_isK v0 6) (h : gX6_keptBeforeLoss_b0 A v0 v1 = some (r, A')) : fX6_keptBeforeLoss_b0 A v0 v1 = some (r, A') ∧ k_Wf sc A' := by
  unfold gX6_keptBeforeLoss_b0 at h
  unfold fX6_keptBeforeLoss_b0
  rw [if_pos (k_wO hw hv0)]
  obtain ⟨r1, A2, hq3, h⟩ := k_pb h
  have hw4 := sgX6_subsidyOfFee hw hv0 hq3
  rw [hw4.1]
  rw [k_bds]
  rw [if_pos (k_wO hw4.2 hv0)]
  obtain ⟨r5, A6, hq7, h⟩ := k_pb h
  have hw8 := sgX6_companyHas hw4.2 hv0 hq7
  rw [hw8.1]
  rw [k_bds]
  obtain ⟨rfl, rfl⟩ := k_pr h
  exact ⟨rfl, hw8.2⟩
theorem sgX6_keptBeforeLoss {sc : k_SC} {A : k_H} {x0 x1 : Int} {r : Int} {A' : k_H} (hw : k_Wf sc A) (hx0 : k_isK x0 6) (h : gX6_keptBeforeLoss A x0 x1 = some (r, A')) : fX6_keptBeforeLoss A x0 x1 = some (r, A') ∧ k_Wf sc A' :=
  sgX6_keptBeforeLoss_b0 _ _ _ _ _ hw hx0 h
/-! X1_build -/
def gX1_build_b0 (A : k_H) (v0 v1 v2 v3 : Int) : Option (Int × k_H) := k_lt (k_wt A v0 4 v1) fun A1 => k_lt (k_wt A1 v0 5 v2) fun A4 => k_bd (gX0_take A4 (v0 + 1) v3) fun r7 A8 => some (0, A8)
def gX1_build (A : k_H) (x0 x1 x2 x3 : Int) : Option (Int × k_H) := gX1_build_b0 A x0 x1 x2 x3
set_option maxRecDepth 100000 in
theorem sgX1_build_b0 {sc : k_SC} (A : k_H) (v0 v1 v2 v3 : Int) (r : Int) (A' : k_H) (hw : k_Wf sc A) (hv0 : k_isK v0 1) (hv3 : k_isK v3 5) (h : gX1_build_b0 A v0 v1 v2 v3 = some (r, A')) : fX1_build_b0 A v0 v1 v2 v3 = some (r, A') ∧ k_Wf sc A' := by
  unfold gX1_build_b0 at h
  unfold fX1_build_b0
  rw [if_pos (k_wO hw hv0)]
  obtain ⟨A1, eA2, h⟩ := k_pl h
  have hw3 := k_wE eA2 (k_wo hw hv0 4 (by decide))
  refine k_ltg eA2 ?_
  obtain ⟨A4, eA5, h⟩ := k_pl h
  have hw6 := k_wE eA5 (k_wo hw3 hv0 5 (by decide))
  refine k_ltg eA5 ?_
  try rw [k_p1_0 hw6 hv0]
  rw [if_pos (k_wO hw6 (k_q1_0 hv0))]
  obtain ⟨r7, A8, hq9, h⟩ := k_pb h
  have hw10 := sgX0_take hw6 (k_q1_0 hv0) hv3 hq9
  rw [hw10.1]
  rw [k_bds]
  obtain ⟨rfl, rfl⟩ := k_pr h
  exact ⟨rfl, hw10.2⟩
theorem sgX1_build {sc : k_SC} {A : k_H} {x0 x1 x2 x3 : Int} {r : Int} {A' : k_H} (hw : k_Wf sc A) (hx0 : k_isK x0 1) (hx3 : k_isK x3 5) (h : gX1_build A x0 x1 x2 x3 = some (r, A')) : fX1_build A x0 x1 x2 x3 = some (r, A') ∧ k_Wf sc A' :=
  sgX1_build_b0 _ _ _ _ _ _ _ hw hx0 hx3 h
/-! X3_canPlug -/
def gX3_canPlug_b0 (A : k_H) (v1 v2 : Int) : Option (Int × k_H) := k_bd (gX3_lay A v1 v2) fun r1 A2 => k_lt (k_wt A2 5 8 1) fun A5 => k_bd (gX3_search A5 0 0) fun r8 A9 => if (k_rd A9 5 8) = 0 then (some (1, A9)) else (some (0, A9))
def gX3_canPlug (A : k_H) (x1 x2 : Int) : Option (Int × k_H) := gX3_canPlug_b0 A x1 x2
set_option maxRecDepth 100000 in
theorem sgX3_canPlug_b0 {sc : k_SC} (A : k_H) (v1 v2 : Int) (r : Int) (A' : k_H) (hw : k_Wf sc A) (hv1 : k_isK v1 0) (hv2 : k_isK v2 0) (h : gX3_canPlug_b0 A v1 v2 = some (r, A')) : fX3_canPlug_b0 A 5 v1 v2 = some (r, A') ∧ k_Wf sc A' := by
  unfold gX3_canPlug_b0 at h
  unfold fX3_canPlug_b0
  rw [if_pos (k_wO hw k_K5)]
  obtain ⟨r1, A2, hq3, h⟩ := k_pb h
  have hw4 := sgX3_lay hw hv1 hv2 hq3
  rw [hw4.1]
  rw [k_bds]
  rw [if_pos (k_wO hw4.2 k_K5)]
  obtain ⟨A5, eA6, h⟩ := k_pl h
  have hw7 := k_wE eA6 (k_wo hw4.2 k_K5 8 (by decide))
  refine k_ltg eA6 ?_
  obtain ⟨r8, A9, hq10, h⟩ := k_pb h
  have hw11 := sgX3_search hw7  hq10
  rw [hw11.1]
  rw [k_bds]
  rw [if_pos (k_wO hw11.2 k_K5)]
  by_cases c12 : (k_rd A9 5 8) = 0
  · rw [if_pos c12] at h
    rw [if_pos c12]
    obtain ⟨rfl, rfl⟩ := k_pr h
    exact ⟨rfl, hw11.2⟩
  · rw [if_neg c12] at h
    rw [if_neg c12]
    obtain ⟨rfl, rfl⟩ := k_pr h
    exact ⟨rfl, hw11.2⟩
theorem sgX3_canPlug {sc : k_SC} {A : k_H} {x1 x2 : Int} {r : Int} {A' : k_H} (hw : k_Wf sc A) (hx1 : k_isK x1 0) (hx2 : k_isK x2 0) (h : gX3_canPlug A x1 x2 = some (r, A')) : fX3_canPlug A 5 x1 x2 = some (r, A') ∧ k_Wf sc A' :=
  sgX3_canPlug_b0 _ _ _ _ _ hw hx1 hx2 h
/-! X3_leastLack -/
def gX3_leastLack_b0 (A : k_H) (v1 v2 : Int) : Option (Int × k_H) := k_bd (gX3_lay A v1 v2) fun r1 A2 => k_lt (k_wt A2 5 8 (k_wr ((k_rd A2 8 0) + 1))) fun A6 => k_bd (gX3_search A6 0 0) fun r9 A10 => some ((k_rd A10 5 8), A10)
def gX3_leastLack (A : k_H) (x1 x2 : Int) : Option (Int × k_H) := gX3_leastLack_b0 A x1 x2
set_option maxRecDepth 100000 in
theorem sgX3_leastLack_b0 {sc : k_SC} (A : k_H) (v1 v2 : Int) (r : Int) (A' : k_H) (hw : k_Wf sc A) (hv1 : k_isK v1 0) (hv2 : k_isK v2 0) (h : gX3_leastLack_b0 A v1 v2 = some (r, A')) : fX3_leastLack_b0 A 5 v1 v2 = some (r, A') ∧ k_Wf sc A' := by
  unfold gX3_leastLack_b0 at h
  unfold fX3_leastLack_b0
  rw [if_pos (k_wO hw k_K5)]
  obtain ⟨r1, A2, hq3, h⟩ := k_pb h
  have hw4 := sgX3_lay hw hv1 hv2 hq3
  rw [hw4.1]
  rw [k_bds]
  rw [if_pos (k_wO hw4.2 k_K5)]
  try rw [k_p3_2 hw4.2]
  have hc5 : (0 : Int) ≤ 0 ∧ (0 : Int) < ((9 : Nat) : Int) := by decide
  rw [if_pos (k_wA hw4.2 (k_R8) hc5)]
  obtain ⟨A6, eA7, h⟩ := k_pl h
  have hw8 := k_wE eA7 (k_wo hw4.2 k_K5 8 (by decide))
  refine k_ltg eA7 ?_
  obtain ⟨r9, A10, hq11, h⟩ := k_pb h
  have hw12 := sgX3_search hw8  hq11
  rw [hw12.1]
  rw [k_bds]
  rw [if_pos (k_wO hw12.2 k_K5)]
  obtain ⟨rfl, rfl⟩ := k_pr h
  exact ⟨rfl, hw12.2⟩
theorem sgX3_leastLack {sc : k_SC} {A : k_H} {x1 x2 : Int} {r : Int} {A' : k_H} (hw : k_Wf sc A) (hx1 : k_isK x1 0) (hx2 : k_isK x2 0) (h : gX3_leastLack A x1 x2 = some (r, A')) : fX3_leastLack A 5 x1 x2 = some (r, A') ∧ k_Wf sc A' :=
  sgX3_leastLack_b0 _ _ _ _ _ hw hx1 hx2 h
/-! X4_build -/
def gX4_build_b0 (A : k_H) (v0 v1 v2 v3 : Int) : Option (Int × k_H) := k_lt (k_wt A v0 4 v1) fun A1 => k_lt (k_wt A1 v0 5 v2) fun A4 => k_bd (gX0_take A4 (v0 + 1) v3) fun r7 A8 => some (0, A8)
def gX4_build (A : k_H) (x0 x1 x2 x3 : Int) : Option (Int × k_H) := gX4_build_b0 A x0 x1 x2 x3
set_option maxRecDepth 100000 in
theorem sgX4_build_b0 {sc : k_SC} (A : k_H) (v0 v1 v2 v3 : Int) (r : Int) (A' : k_H) (hw : k_Wf sc A) (hv0 : k_isK v0 4) (hv3 : k_isK v3 5) (h : gX4_build_b0 A v0 v1 v2 v3 = some (r, A')) : fX4_build_b0 A v0 v1 v2 v3 = some (r, A') ∧ k_Wf sc A' := by
  unfold gX4_build_b0 at h
  unfold fX4_build_b0
  rw [if_pos (k_wO hw hv0)]
  obtain ⟨A1, eA2, h⟩ := k_pl h
  have hw3 := k_wE eA2 (k_wo hw hv0 4 (by decide))
  refine k_ltg eA2 ?_
  obtain ⟨A4, eA5, h⟩ := k_pl h
  have hw6 := k_wE eA5 (k_wo hw3 hv0 5 (by decide))
  refine k_ltg eA5 ?_
  try rw [k_p4_0 hw6 hv0]
  rw [if_pos (k_wO hw6 (k_q4_0 hv0))]
  obtain ⟨r7, A8, hq9, h⟩ := k_pb h
  have hw10 := sgX0_take hw6 (k_q4_0 hv0) hv3 hq9
  rw [hw10.1]
  rw [k_bds]
  obtain ⟨rfl, rfl⟩ := k_pr h
  exact ⟨rfl, hw10.2⟩
theorem sgX4_build {sc : k_SC} {A : k_H} {x0 x1 x2 x3 : Int} {r : Int} {A' : k_H} (hw : k_Wf sc A) (hx0 : k_isK x0 4) (hx3 : k_isK x3 5) (h : gX4_build A x0 x1 x2 x3 = some (r, A')) : fX4_build A x0 x1 x2 x3 = some (r, A') ∧ k_Wf sc A' :=
  sgX4_build_b0 _ _ _ _ _ _ _ hw hx0 hx3 h
/-! X6_schemeGives -/
def gX6_schemeGives_b26 (A : k_H) (v0 s0 : Int) : Option (Int × k_H) := k_bd (gX6_subsidyOfFee A v0) fun r1 A2 => some (k_wr (r1 + s0), A2)
def gX6_schemeGives_b25 (A : k_H) (v0 : Int) : Option (Int × k_H) := gX6_schemeGives_b26 A v0 0
def gX6_schemeGives_b0 (A : k_H) (v0 v1 : Int) : Option (Int × k_H) := k_bd (gX6_keptBeforeLoss A v0 v1) fun r1 A2 => if (k_rd A2 v0 6) = 0 then (gX6_schemeGives_b25 A2 v0) else (if r1 < 0 then (gX6_schemeGives_b26 A2 v0 (k_wr (Int.tdiv (k_wr (1 - r1)) 2))) else (gX6_schemeGives_b25 A2 v0))
def gX6_schemeGives (A : k_H) (x0 x1 : Int) : Option (Int × k_H) := gX6_schemeGives_b0 A x0 x1
set_option maxRecDepth 100000 in
theorem sgX6_schemeGives_b26 {sc : k_SC} (A : k_H) (v0 s0 : Int) (r : Int) (A' : k_H) (hw : k_Wf sc A) (hv0 : k_isK v0 6) (h : gX6_schemeGives_b26 A v0 s0 = some (r, A')) : fX6_schemeGives_b26 A v0 s0 = some (r, A') ∧ k_Wf sc A' := by
  unfold gX6_schemeGives_b26 at h
  unfold fX6_schemeGives_b26
  rw [if_pos (k_wO hw hv0)]
  obtain ⟨r1, A2, hq3, h⟩ := k_pb h
  have hw4 := sgX6_subsidyOfFee hw hv0 hq3
  rw [hw4.1]
  rw [k_bds]
  obtain ⟨rfl, rfl⟩ := k_pr h
  exact ⟨rfl, hw4.2⟩
set_option maxRecDepth 100000 in
theorem sgX6_schemeGives_b25 {sc : k_SC} (A : k_H) (v0 : Int) (r : Int) (A' : k_H) (hw : k_Wf sc A) (hv0 : k_isK v0 6) (h : gX6_schemeGives_b25 A v0 = some (r, A')) : fX6_schemeGives_b25 A v0 = some (r, A') ∧ k_Wf sc A' := by
  unfold gX6_schemeGives_b25 at h
  unfold fX6_schemeGives_b25
  exact sgX6_schemeGives_b26  _ _ _ _ _ hw hv0 h
set_option maxRecDepth 100000 in
theorem sgX6_schemeGives_b0 {sc : k_SC} (A : k_H) (v0 v1 : Int) (r : Int) (A' : k_H) (hw : k_Wf sc A) (hv0 : k_isK v0 6) (h : gX6_schemeGives_b0 A v0 v1 = some (r, A')) : fX6_schemeGives_b0 A v0 v1 = some (r, A') ∧ k_Wf sc A' := by
  unfold gX6_schemeGives_b0 at h
  unfold fX6_schemeGives_b0
  rw [if_pos (k_wO hw hv0)]
  obtain ⟨r1, A2, hq3, h⟩ := k_pb h
  have hw4 := sgX6_keptBeforeLoss hw hv0 hq3
  rw [hw4.1]
  rw [k_bds]
  rw [if_pos (k_wO hw4.2 hv0)]
  by_cases c5 : (k_rd A2 v0 6) = 0
  · rw [if_pos c5] at h
    rw [if_pos c5]
    exact sgX6_schemeGives_b25  _ _ _ _ hw4.2 hv0 h
  · rw [if_neg c5] at h
    rw [if_neg c5]
    by_cases c6 : r1 < 0
    · rw [if_pos c6] at h
      rw [if_pos c6]
      exact sgX6_schemeGives_b26  _ _ _ _ _ hw4.2 hv0 h
    · rw [if_neg c6] at h
      rw [if_neg c6]
      exact sgX6_schemeGives_b25  _ _ _ _ hw4.2 hv0 h
theorem sgX6_schemeGives {sc : k_SC} {A : k_H} {x0 x1 : Int} {r : Int} {A' : k_H} (hw : k_Wf sc A) (hx0 : k_isK x0 6) (h : gX6_schemeGives A x0 x1 = some (r, A')) : fX6_schemeGives A x0 x1 = some (r, A') ∧ k_Wf sc A' :=
  sgX6_schemeGives_b0 _ _ _ _ _ hw hx0 h
/-! X6_hallKeeps -/
def gX6_hallKeeps_b0 (A : k_H) (v0 v1 : Int) : Option (Int × k_H) := k_bd (gX6_schemeGives A v0 v1) fun r1 A2 => k_bd (gX6_companyHas A2 v0 v1) fun r5 A6 => some (k_wr (k_wr (v1 + r1) - r5), A6)
def gX6_hallKeeps (A : k_H) (x0 x1 : Int) : Option (Int × k_H) := gX6_hallKeeps_b0 A x0 x1
set_option maxRecDepth 100000 in
theorem sgX6_hallKeeps_b0 {sc : k_SC} (A : k_H) (v0 v1 : Int) (r : Int) (A' : k_H) (hw : k_Wf sc A) (hv0 : k_isK v0 6) (h : gX6_hallKeeps_b0 A v0 v1 = some (r, A')) : fX6_hallKeeps_b0 A v0 v1 = some (r, A') ∧ k_Wf sc A' := by
  unfold gX6_hallKeeps_b0 at h
  unfold fX6_hallKeeps_b0
  rw [if_pos (k_wO hw hv0)]
  obtain ⟨r1, A2, hq3, h⟩ := k_pb h
  have hw4 := sgX6_schemeGives hw hv0 hq3
  rw [hw4.1]
  rw [k_bds]
  rw [if_pos (k_wO hw4.2 hv0)]
  obtain ⟨r5, A6, hq7, h⟩ := k_pb h
  have hw8 := sgX6_companyHas hw4.2 hv0 hq7
  rw [hw8.1]
  rw [k_bds]
  obtain ⟨rfl, rfl⟩ := k_pr h
  exact ⟨rfl, hw8.2⟩
theorem sgX6_hallKeeps {sc : k_SC} {A : k_H} {x0 x1 : Int} {r : Int} {A' : k_H} (hw : k_Wf sc A) (hx0 : k_isK x0 6) (h : gX6_hallKeeps A x0 x1 = some (r, A')) : fX6_hallKeeps A x0 x1 = some (r, A') ∧ k_Wf sc A' :=
  sgX6_hallKeeps_b0 _ _ _ _ _ hw hx0 h
/-! X4_partOfDoor -/
def gX4_partOfDoor_b0 (A : k_H) (v0 v1 v2 : Int) : Option (Int × k_H) := if 0 ≤ v1 ∧ v1 < ((14 : Nat) : Int) then (if v2 < 1 ∨ 3 < v2 then (some ((k_rd A (v0 + 4) v1), A)) else (if v2 = 1 then (k_bd (gX6_companyHas A (v0 + 5) (k_rd A (v0 + 4) v1)) fun r5 A6 => some (r5, A6)) else (if v2 = 2 then (k_bd (gX6_hallKeeps A (v0 + 5) (k_rd A (v0 + 4) v1)) fun r10 A11 => some (r10, A11)) else (k_bd (gX6_schemeGives A (v0 + 5) (k_rd A (v0 + 4) v1)) fun r14 A15 => some (r14, A15))))) else none
def gX4_partOfDoor (A : k_H) (x0 x1 x2 : Int) : Option (Int × k_H) := gX4_partOfDoor_b0 A x0 x1 x2
set_option maxRecDepth 100000 in
theorem sgX4_partOfDoor_b0 {sc : k_SC} (A : k_H) (v0 v1 v2 : Int) (r : Int) (A' : k_H) (hw : k_Wf sc A) (hv0 : k_isK v0 4) (h : gX4_partOfDoor_b0 A v0 v1 v2 = some (r, A')) : fX4_partOfDoor_b0 A v0 v1 v2 = some (r, A') ∧ k_Wf sc A' := by
  unfold gX4_partOfDoor_b0 at h
  unfold fX4_partOfDoor_b0
  rw [if_pos (k_wO hw hv0)]
  try rw [k_p4_2 hw hv0]
  obtain ⟨hc1, h⟩ := k_pk h
  rw [if_pos (k_wA hw ((k_q4_2 hv0)) hc1)]
  by_cases c3 : v2 < 1 ∨ 3 < v2
  · rw [if_pos c3] at h
    rw [if_pos c3]
    obtain ⟨rfl, rfl⟩ := k_pr h
    exact ⟨rfl, hw⟩
  · rw [if_neg c3] at h
    rw [if_neg c3]
    by_cases c4 : v2 = 1
    · rw [if_pos c4] at h
      rw [if_pos c4]
      try rw [k_p4_3 hw hv0]
      rw [if_pos (k_wO hw (k_q4_3 hv0))]
      obtain ⟨r5, A6, hq7, h⟩ := k_pb h
      have hw8 := sgX6_companyHas hw (k_q4_3 hv0) hq7
      rw [hw8.1]
      rw [k_bds]
      obtain ⟨rfl, rfl⟩ := k_pr h
      exact ⟨rfl, hw8.2⟩
    · rw [if_neg c4] at h
      rw [if_neg c4]
      by_cases c9 : v2 = 2
      · rw [if_pos c9] at h
        rw [if_pos c9]
        try rw [k_p4_3 hw hv0]
        rw [if_pos (k_wO hw (k_q4_3 hv0))]
        obtain ⟨r10, A11, hq12, h⟩ := k_pb h
        have hw13 := sgX6_hallKeeps hw (k_q4_3 hv0) hq12
        rw [hw13.1]
        rw [k_bds]
        obtain ⟨rfl, rfl⟩ := k_pr h
        exact ⟨rfl, hw13.2⟩
      · rw [if_neg c9] at h
        rw [if_neg c9]
        try rw [k_p4_3 hw hv0]
        rw [if_pos (k_wO hw (k_q4_3 hv0))]
        obtain ⟨r14, A15, hq16, h⟩ := k_pb h
        have hw17 := sgX6_schemeGives hw (k_q4_3 hv0) hq16
        rw [hw17.1]
        rw [k_bds]
        obtain ⟨rfl, rfl⟩ := k_pr h
        exact ⟨rfl, hw17.2⟩
theorem sgX4_partOfDoor {sc : k_SC} {A : k_H} {x0 x1 x2 : Int} {r : Int} {A' : k_H} (hw : k_Wf sc A) (hx0 : k_isK x0 4) (h : gX4_partOfDoor A x0 x1 x2 = some (r, A')) : fX4_partOfDoor A x0 x1 x2 = some (r, A') ∧ k_Wf sc A' :=
  sgX4_partOfDoor_b0 _ _ _ _ _ _ hw hx0 h
