/-! X7_refuse -/
def gX7_refuse_b0 (A : k_H) (v1 : Int) : Option (Int × k_H) := k_lt (k_wt A 18 2 v1) fun A1 => k_lt (k_wt A1 18 3 (k_rd A1 18 9)) fun A4 => some (0, A4)
def gX7_refuse (A : k_H) (x1 : Int) : Option (Int × k_H) := gX7_refuse_b0 A x1
set_option maxRecDepth 100000 in
theorem sgX7_refuse_b0 {sc : k_SC} (A : k_H) (v1 : Int) (r : Int) (A' : k_H) (hw : k_Wf sc A) (h : gX7_refuse_b0 A v1 = some (r, A')) : fX7_refuse_b0 A 18 v1 = some (r, A') ∧ k_Wf sc A' := by
  unfold gX7_refuse_b0 at h
  unfold fX7_refuse_b0
  rw [if_pos (k_wO hw k_K18)]
  obtain ⟨A1, eA2, h⟩ := k_pl h
  have hw3 := k_wE eA2 (k_wo hw k_K18 2 (by decide))
  refine k_ltg eA2 ?_
  obtain ⟨A4, eA5, h⟩ := k_pl h
  have hw6 := k_wE eA5 (k_wo hw3 k_K18 3 (by decide))
  refine k_ltg eA5 ?_
  obtain ⟨rfl, rfl⟩ := k_pr h
  exact ⟨rfl, hw6⟩
theorem sgX7_refuse {sc : k_SC} {A : k_H} {x1 : Int} {r : Int} {A' : k_H} (hw : k_Wf sc A) (h : gX7_refuse A x1 = some (r, A')) : fX7_refuse A 18 x1 = some (r, A') ∧ k_Wf sc A' :=
  sgX7_refuse_b0 _ _ _ _ hw h
/-! X7_isBlank -/
def gX7_isBlank_b12 (A : k_H) : Option (Int × k_H) := some (1, A)
def gX7_isBlank_b0 (A : k_H) (v0 : Int) : Option (Int × k_H) := if v0 = 32 then (gX7_isBlank_b12 A) else (if v0 = 10 then (gX7_isBlank_b12 A) else (some (0, A)))
def gX7_isBlank (A : k_H) (x0 : Int) : Option (Int × k_H) := gX7_isBlank_b0 A x0
set_option maxRecDepth 100000 in
theorem sgX7_isBlank_b12 {sc : k_SC} (A : k_H) (r : Int) (A' : k_H) (hw : k_Wf sc A) (h : gX7_isBlank_b12 A = some (r, A')) : fX7_isBlank_b12 A = some (r, A') ∧ k_Wf sc A' := by
  unfold gX7_isBlank_b12 at h
  unfold fX7_isBlank_b12
  obtain ⟨rfl, rfl⟩ := k_pr h
  exact ⟨rfl, hw⟩
set_option maxRecDepth 100000 in
theorem sgX7_isBlank_b0 {sc : k_SC} (A : k_H) (v0 : Int) (r : Int) (A' : k_H) (hw : k_Wf sc A) (h : gX7_isBlank_b0 A v0 = some (r, A')) : fX7_isBlank_b0 A v0 = some (r, A') ∧ k_Wf sc A' := by
  unfold gX7_isBlank_b0 at h
  unfold fX7_isBlank_b0
  by_cases c1 : v0 = 32
  · rw [if_pos c1] at h
    rw [if_pos c1]
    exact sgX7_isBlank_b12  _ _ _ hw h
  · rw [if_neg c1] at h
    rw [if_neg c1]
    by_cases c2 : v0 = 10
    · rw [if_pos c2] at h
      rw [if_pos c2]
      exact sgX7_isBlank_b12  _ _ _ hw h
    · rw [if_neg c2] at h
      rw [if_neg c2]
      obtain ⟨rfl, rfl⟩ := k_pr h
      exact ⟨rfl, hw⟩
theorem sgX7_isBlank {sc : k_SC} {A : k_H} {x0 : Int} {r : Int} {A' : k_H} (hw : k_Wf sc A) (h : gX7_isBlank A x0 = some (r, A')) : fX7_isBlank A x0 = some (r, A') ∧ k_Wf sc A' :=
  sgX7_isBlank_b0 _ _ _ _ hw h
/-! X7_isLetter -/
def gX7_isLetter_b0 (A : k_H) (v0 : Int) : Option (Int × k_H) := if 97 ≤ v0 then (if v0 ≤ 122 then (some (1, A)) else (some (0, A))) else (some (0, A))
def gX7_isLetter (A : k_H) (x0 : Int) : Option (Int × k_H) := gX7_isLetter_b0 A x0
set_option maxRecDepth 100000 in
theorem sgX7_isLetter_b0 {sc : k_SC} (A : k_H) (v0 : Int) (r : Int) (A' : k_H) (hw : k_Wf sc A) (h : gX7_isLetter_b0 A v0 = some (r, A')) : fX7_isLetter_b0 A v0 = some (r, A') ∧ k_Wf sc A' := by
  unfold gX7_isLetter_b0 at h
  unfold fX7_isLetter_b0
  by_cases c1 : 97 ≤ v0
  · rw [if_pos c1] at h
    rw [if_pos c1]
    by_cases c2 : v0 ≤ 122
    · rw [if_pos c2] at h
      rw [if_pos c2]
      obtain ⟨rfl, rfl⟩ := k_pr h
      exact ⟨rfl, hw⟩
    · rw [if_neg c2] at h
      rw [if_neg c2]
      obtain ⟨rfl, rfl⟩ := k_pr h
      exact ⟨rfl, hw⟩
  · rw [if_neg c1] at h
    rw [if_neg c1]
    obtain ⟨rfl, rfl⟩ := k_pr h
    exact ⟨rfl, hw⟩
theorem sgX7_isLetter {sc : k_SC} {A : k_H} {x0 : Int} {r : Int} {A' : k_H} (hw : k_Wf sc A) (h : gX7_isLetter A x0 = some (r, A')) : fX7_isLetter A x0 = some (r, A') ∧ k_Wf sc A' :=
  sgX7_isLetter_b0 _ _ _ _ hw h
/-! X7_isDigit -/
def gX7_isDigit_b0 (A : k_H) (v0 : Int) : Option (Int × k_H) := if 48 ≤ v0 then (if v0 ≤ 57 then (some (1, A)) else (some (0, A))) else (some (0, A))
def gX7_isDigit (A : k_H) (x0 : Int) : Option (Int × k_H) := gX7_isDigit_b0 A x0
set_option maxRecDepth 100000 in
theorem sgX7_isDigit_b0 {sc : k_SC} (A : k_H) (v0 : Int) (r : Int) (A' : k_H) (hw : k_Wf sc A) (h : gX7_isDigit_b0 A v0 = some (r, A')) : fX7_isDigit_b0 A v0 = some (r, A') ∧ k_Wf sc A' := by
  unfold gX7_isDigit_b0 at h
  unfold fX7_isDigit_b0
  by_cases c1 : 48 ≤ v0
  · rw [if_pos c1] at h
    rw [if_pos c1]
    by_cases c2 : v0 ≤ 57
    · rw [if_pos c2] at h
      rw [if_pos c2]
      obtain ⟨rfl, rfl⟩ := k_pr h
      exact ⟨rfl, hw⟩
    · rw [if_neg c2] at h
      rw [if_neg c2]
      obtain ⟨rfl, rfl⟩ := k_pr h
      exact ⟨rfl, hw⟩
  · rw [if_neg c1] at h
    rw [if_neg c1]
    obtain ⟨rfl, rfl⟩ := k_pr h
    exact ⟨rfl, hw⟩
theorem sgX7_isDigit {sc : k_SC} {A : k_H} {x0 : Int} {r : Int} {A' : k_H} (hw : k_Wf sc A) (h : gX7_isDigit A x0 = some (r, A')) : fX7_isDigit A x0 = some (r, A') ∧ k_Wf sc A' :=
  sgX7_isDigit_b0 _ _ _ _ hw h
/-! X8_end -/
def gX8_end_b0 (A : k_H) (v1 : Int) : Option (Int × k_H) := if 0 ≤ v1 then (if (k_rd A 1 1) < v1 then (some (0, A)) else (k_lt (k_wt A 1 1 v1) fun A3 => some (1, A3))) else (some (0, A))
def gX8_end (A : k_H) (x1 : Int) : Option (Int × k_H) := gX8_end_b0 A x1
set_option maxRecDepth 100000 in
theorem sgX8_end_b0 {sc : k_SC} (A : k_H) (v1 : Int) (r : Int) (A' : k_H) (hw : k_Wf sc A) (h : gX8_end_b0 A v1 = some (r, A')) : fX8_end_b0 A 0 v1 = some (r, A') ∧ k_Wf sc A' := by
  unfold gX8_end_b0 at h
  unfold fX8_end_b0
  by_cases c1 : 0 ≤ v1
  · rw [if_pos c1] at h
    rw [if_pos c1]
    rw [if_pos (k_wO hw k_K0)]
    try rw [k_p8_0 hw]
    rw [if_pos (k_wO hw k_K1)]
    by_cases c2 : (k_rd A 1 1) < v1
    · rw [if_pos c2] at h
      rw [if_pos c2]
      obtain ⟨rfl, rfl⟩ := k_pr h
      exact ⟨rfl, hw⟩
    · rw [if_neg c2] at h
      rw [if_neg c2]
      try rw [k_p8_0 hw]
      obtain ⟨A3, eA4, h⟩ := k_pl h
      have hw5 := k_wE eA4 (k_wo hw k_K1 1 (by decide))
      refine k_ltg eA4 ?_
      obtain ⟨rfl, rfl⟩ := k_pr h
      exact ⟨rfl, hw5⟩
  · rw [if_neg c1] at h
    rw [if_neg c1]
    obtain ⟨rfl, rfl⟩ := k_pr h
    exact ⟨rfl, hw⟩
theorem sgX8_end {sc : k_SC} {A : k_H} {x1 : Int} {r : Int} {A' : k_H} (hw : k_Wf sc A) (h : gX8_end A x1 = some (r, A')) : fX8_end A 0 x1 = some (r, A') ∧ k_Wf sc A' :=
  sgX8_end_b0 _ _ _ _ hw h
/-! X8_fault -/
def gX8_fault_b0 (A : k_H) : Option (Int × k_H) := some ((k_rd A 18 2), A)
def gX8_fault (A : k_H) : Option (Int × k_H) := gX8_fault_b0 A
set_option maxRecDepth 100000 in
theorem sgX8_fault_b0 {sc : k_SC} (A : k_H) (r : Int) (A' : k_H) (hw : k_Wf sc A) (h : gX8_fault_b0 A = some (r, A')) : fX8_fault_b0 A 0 = some (r, A') ∧ k_Wf sc A' := by
  unfold gX8_fault_b0 at h
  unfold fX8_fault_b0
  rw [if_pos (k_wO hw k_K0)]
  try rw [k_p8_5 hw]
  rw [if_pos (k_wO hw k_K18)]
  obtain ⟨rfl, rfl⟩ := k_pr h
  exact ⟨rfl, hw⟩
theorem sgX8_fault {sc : k_SC} {A : k_H} {r : Int} {A' : k_H} (hw : k_Wf sc A) (h : gX8_fault A  = some (r, A')) : fX8_fault A 0 = some (r, A') ∧ k_Wf sc A' :=
  sgX8_fault_b0 _ _ _ hw h
/-! X8_isWithin -/
def gX8_isWithin_b0 (A : k_H) (v0 v1 v2 : Int) : Option (Int × k_H) := if v1 ≤ v0 then (if v0 ≤ v2 then (some (1, A)) else (some (0, A))) else (some (0, A))
def gX8_isWithin (A : k_H) (x0 x1 x2 : Int) : Option (Int × k_H) := gX8_isWithin_b0 A x0 x1 x2
set_option maxRecDepth 100000 in
theorem sgX8_isWithin_b0 {sc : k_SC} (A : k_H) (v0 v1 v2 : Int) (r : Int) (A' : k_H) (hw : k_Wf sc A) (h : gX8_isWithin_b0 A v0 v1 v2 = some (r, A')) : fX8_isWithin_b0 A v0 v1 v2 = some (r, A') ∧ k_Wf sc A' := by
  unfold gX8_isWithin_b0 at h
  unfold fX8_isWithin_b0
  by_cases c1 : v1 ≤ v0
  · rw [if_pos c1] at h
    rw [if_pos c1]
    by_cases c2 : v0 ≤ v2
    · rw [if_pos c2] at h
      rw [if_pos c2]
      obtain ⟨rfl, rfl⟩ := k_pr h
      exact ⟨rfl, hw⟩
    · rw [if_neg c2] at h
      rw [if_neg c2]
      obtain ⟨rfl, rfl⟩ := k_pr h
      exact ⟨rfl, hw⟩
  · rw [if_neg c1] at h
    rw [if_neg c1]
    obtain ⟨rfl, rfl⟩ := k_pr h
    exact ⟨rfl, hw⟩
theorem sgX8_isWithin {sc : k_SC} {A : k_H} {x0 x1 x2 : Int} {r : Int} {A' : k_H} (hw : k_Wf sc A) (h : gX8_isWithin A x0 x1 x2 = some (r, A')) : fX8_isWithin A x0 x1 x2 = some (r, A') ∧ k_Wf sc A' :=
  sgX8_isWithin_b0 _ _ _ _ _ _ hw h
/-! X8_isHall -/
def gX8_isHall_b0 (A : k_H) (v1 : Int) : Option (Int × k_H) := if 0 ≤ v1 then (if v1 < (k_rd A 0 6) then (some (1, A)) else (some (0, A))) else (some (0, A))
def gX8_isHall (A : k_H) (x1 : Int) : Option (Int × k_H) := gX8_isHall_b0 A x1
set_option maxRecDepth 100000 in
theorem sgX8_isHall_b0 {sc : k_SC} (A : k_H) (v1 : Int) (r : Int) (A' : k_H) (hw : k_Wf sc A) (h : gX8_isHall_b0 A v1 = some (r, A')) : fX8_isHall_b0 A 0 v1 = some (r, A') ∧ k_Wf sc A' := by
  unfold gX8_isHall_b0 at h
  unfold fX8_isHall_b0
  by_cases c1 : 0 ≤ v1
  · rw [if_pos c1] at h
    rw [if_pos c1]
    rw [if_pos (k_wO hw k_K0)]
    by_cases c2 : v1 < (k_rd A 0 6)
    · rw [if_pos c2] at h
      rw [if_pos c2]
      obtain ⟨rfl, rfl⟩ := k_pr h
      exact ⟨rfl, hw⟩
    · rw [if_neg c2] at h
      rw [if_neg c2]
      obtain ⟨rfl, rfl⟩ := k_pr h
      exact ⟨rfl, hw⟩
  · rw [if_neg c1] at h
    rw [if_neg c1]
    obtain ⟨rfl, rfl⟩ := k_pr h
    exact ⟨rfl, hw⟩
theorem sgX8_isHall {sc : k_SC} {A : k_H} {x1 : Int} {r : Int} {A' : k_H} (hw : k_Wf sc A) (h : gX8_isHall A x1 = some (r, A')) : fX8_isHall A 0 x1 = some (r, A') ∧ k_Wf sc A' :=
  sgX8_isHall_b0 _ _ _ _ hw h
/-! X8_isShow -/
def gX8_isShow_b0 (A : k_H) (v1 : Int) : Option (Int × k_H) := if 0 ≤ v1 then (if v1 < (k_rd A 0 7) then (some (1, A)) else (some (0, A))) else (some (0, A))
def gX8_isShow (A : k_H) (x1 : Int) : Option (Int × k_H) := gX8_isShow_b0 A x1
set_option maxRecDepth 100000 in
theorem sgX8_isShow_b0 {sc : k_SC} (A : k_H) (v1 : Int) (r : Int) (A' : k_H) (hw : k_Wf sc A) (h : gX8_isShow_b0 A v1 = some (r, A')) : fX8_isShow_b0 A 0 v1 = some (r, A') ∧ k_Wf sc A' := by
  unfold gX8_isShow_b0 at h
  unfold fX8_isShow_b0
  by_cases c1 : 0 ≤ v1
  · rw [if_pos c1] at h
    rw [if_pos c1]
    rw [if_pos (k_wO hw k_K0)]
    by_cases c2 : v1 < (k_rd A 0 7)
    · rw [if_pos c2] at h
      rw [if_pos c2]
      obtain ⟨rfl, rfl⟩ := k_pr h
      exact ⟨rfl, hw⟩
    · rw [if_neg c2] at h
      rw [if_neg c2]
      obtain ⟨rfl, rfl⟩ := k_pr h
      exact ⟨rfl, hw⟩
  · rw [if_neg c1] at h
    rw [if_neg c1]
    obtain ⟨rfl, rfl⟩ := k_pr h
    exact ⟨rfl, hw⟩
theorem sgX8_isShow {sc : k_SC} {A : k_H} {x1 : Int} {r : Int} {A' : k_H} (hw : k_Wf sc A) (h : gX8_isShow A x1 = some (r, A')) : fX8_isShow A 0 x1 = some (r, A') ∧ k_Wf sc A' :=
  sgX8_isShow_b0 _ _ _ _ hw h
/-! X8_showAt -/
def gX8_showAt_h2 : Nat → k_H → Int → Int → Int → Option (Int × k_H)
  | 0, _, _, _, _ => none
  | N + 1, A, v1, v2, v3 => if v3 < (k_rd A 0 7) then (if 0 ≤ v3 ∧ v3 < ((6 : Nat) : Int) then (if 0 ≤ v2 ∧ v2 < ((14 : Nat) : Int) then (if (k_rd A ((72 + 8 * v3) + 3) v2) = v1 then (some (v3, A)) else ((gX8_showAt_h2 N) A v1 v2 (k_wr (v3 + 1)))) else none) else none) else (some ((-1), A))
def gX8_showAt_b0 (A : k_H) (v1 v2 : Int) : Option (Int × k_H) := gX8_showAt_h2 k_FU A v1 v2 0
def gX8_showAt (A : k_H) (x1 x2 : Int) : Option (Int × k_H) := gX8_showAt_b0 A x1 x2
set_option maxRecDepth 100000 in
theorem sgX8_showAt_h2 {sc : k_SC} : ∀ (N : Nat) (A : k_H) (v1 v2 v3 : Int) (r : Int) (A' : k_H), k_Wf sc A → gX8_showAt_h2 N A v1 v2 v3 = some (r, A') → fX8_showAt_h2 N A 0 v1 v2 v3 = some (r, A') ∧ k_Wf sc A' := by
  intro N
  induction N with
  | zero => intro A v1 v2 v3 r A' hw  h; exact absurd h (by simp [gX8_showAt_h2])
  | succ N ih =>
    intro A v1 v2 v3 r A' hw  h
    rw [gX8_showAt_h2] at h
    rw [fX8_showAt_h2]
    rw [if_pos (k_wO hw k_K0)]
    by_cases c1 : v3 < (k_rd A 0 7)
    · rw [if_pos c1] at h
      rw [if_pos c1]
      try rw [k_p8_2 hw]
      obtain ⟨hc2, h⟩ := k_pk h
      rw [if_pos (k_wA hw (k_R4) hc2)]
      try rw [k_a24 hw hc2]
      rw [if_pos (k_wO hw (k_b24 hc2))]
      try rw [k_p4_1 hw (k_b24 hc2)]
      obtain ⟨hc3, h⟩ := k_pk h
      rw [if_pos (k_wA hw ((k_q4_1 (k_b24 hc2))) hc3)]
      by_cases c4 : (k_rd A ((72 + 8 * v3) + 3) v2) = v1
      · rw [if_pos c4] at h
        rw [if_pos c4]
        obtain ⟨rfl, rfl⟩ := k_pr h
        exact ⟨rfl, hw⟩
      · rw [if_neg c4] at h
        rw [if_neg c4]
        exact ih _ _ _ _ _ _ hw h
    · rw [if_neg c1] at h
      rw [if_neg c1]
      obtain ⟨rfl, rfl⟩ := k_pr h
      exact ⟨rfl, hw⟩
set_option maxRecDepth 100000 in
theorem sgX8_showAt_b0 {sc : k_SC} (A : k_H) (v1 v2 : Int) (r : Int) (A' : k_H) (hw : k_Wf sc A) (h : gX8_showAt_b0 A v1 v2 = some (r, A')) : fX8_showAt_b0 A 0 v1 v2 = some (r, A') ∧ k_Wf sc A' := by
  unfold gX8_showAt_b0 at h
  unfold fX8_showAt_b0
  exact sgX8_showAt_h2  _ _ _ _ _ _ _ hw h
theorem sgX8_showAt {sc : k_SC} {A : k_H} {x1 x2 : Int} {r : Int} {A' : k_H} (hw : k_Wf sc A) (h : gX8_showAt A x1 x2 = some (r, A')) : fX8_showAt A 0 x1 x2 = some (r, A') ∧ k_Wf sc A' :=
  sgX8_showAt_b0 _ _ _ _ _ hw h
/-! X8_nightsOnTours -/
def gX8_nightsOnTours_b38 (k4g : k_H → Int → Int → Option (Int × k_H)) (k14g : k_H → Int → Int → Int → Option (Int × k_H)) (A : k_H) (v1 v2 v3 : Int) : Option (Int × k_H) := k14g A v1 v2 (k_wr (v3 + 1))
def gX8_nightsOnTours_h14 (k4g : k_H → Int → Int → Option (Int × k_H)) : Nat → k_H → Int → Int → Int → Option (Int × k_H)
  | 0, _, _, _, _ => none
  | N + 1, A, v1, v2, v3 => if v3 < 14 then (if 0 ≤ v2 ∧ v2 < ((6 : Nat) : Int) then (if 0 ≤ v3 ∧ v3 < ((14 : Nat) : Int) then (if (k_rd A ((72 + 8 * v2) + 3) v3) = (-1) then (gX8_nightsOnTours_b38 k4g (gX8_nightsOnTours_h14 k4g N) A v1 v2 v3) else (gX8_nightsOnTours_b38 k4g (gX8_nightsOnTours_h14 k4g N) A (k_wr (v1 + 1)) v2 v3)) else none) else none) else (k4g A v1 (k_wr (v2 + 1)))
def gX8_nightsOnTours_h4 : Nat → k_H → Int → Int → Option (Int × k_H)
  | 0, _, _, _ => none
  | N + 1, A, v1, v2 => if v2 < (k_rd A 0 7) then (gX8_nightsOnTours_h14 (gX8_nightsOnTours_h4 N) k_FU A v1 v2 0) else (some (v1, A))
def gX8_nightsOnTours_b0 (A : k_H) : Option (Int × k_H) := gX8_nightsOnTours_h4 k_FU A 0 0
def gX8_nightsOnTours (A : k_H) : Option (Int × k_H) := gX8_nightsOnTours_b0 A
set_option maxRecDepth 100000 in
theorem sgX8_nightsOnTours_b38 {sc : k_SC} (k4f : k_H → Int → Int → Int → Option (Int × k_H)) (k4g : k_H → Int → Int → Option (Int × k_H)) (hk4 : ∀ (A : k_H) (v1 v2 : Int) (r : Int) (A' : k_H), k_Wf sc A → k4g A v1 v2 = some (r, A') → k4f A 0 v1 v2 = some (r, A') ∧ k_Wf sc A') (k14f : k_H → Int → Int → Int → Int → Option (Int × k_H)) (k14g : k_H → Int → Int → Int → Option (Int × k_H)) (hk14 : ∀ (A : k_H) (v1 v2 v3 : Int) (r : Int) (A' : k_H), k_Wf sc A → k14g A v1 v2 v3 = some (r, A') → k14f A 0 v1 v2 v3 = some (r, A') ∧ k_Wf sc A') (A : k_H) (v1 v2 v3 : Int) (r : Int) (A' : k_H) (hw : k_Wf sc A) (h : gX8_nightsOnTours_b38 k4g k14g A v1 v2 v3 = some (r, A')) : fX8_nightsOnTours_b38 k4f k14f A 0 v1 v2 v3 = some (r, A') ∧ k_Wf sc A' := by
  unfold gX8_nightsOnTours_b38 at h
  unfold fX8_nightsOnTours_b38
  exact hk14 _ _ _ _ _ _ hw h
set_option maxRecDepth 100000 in
theorem sgX8_nightsOnTours_h14 {sc : k_SC} (k4f : k_H → Int → Int → Int → Option (Int × k_H)) (k4g : k_H → Int → Int → Option (Int × k_H)) (hk4 : ∀ (A : k_H) (v1 v2 : Int) (r : Int) (A' : k_H), k_Wf sc A → k4g A v1 v2 = some (r, A') → k4f A 0 v1 v2 = some (r, A') ∧ k_Wf sc A') : ∀ (N : Nat) (A : k_H) (v1 v2 v3 : Int) (r : Int) (A' : k_H), k_Wf sc A → gX8_nightsOnTours_h14 k4g N A v1 v2 v3 = some (r, A') → fX8_nightsOnTours_h14 k4f N A 0 v1 v2 v3 = some (r, A') ∧ k_Wf sc A' := by
  intro N
  induction N with
  | zero => intro A v1 v2 v3 r A' hw  h; exact absurd h (by simp [gX8_nightsOnTours_h14])
  | succ N ih =>
    intro A v1 v2 v3 r A' hw  h
    rw [gX8_nightsOnTours_h14] at h
    rw [fX8_nightsOnTours_h14]
    by_cases c1 : v3 < 14
    · rw [if_pos c1] at h
      rw [if_pos c1]
      rw [if_pos (k_wO hw k_K0)]
      try rw [k_p8_2 hw]
      obtain ⟨hc2, h⟩ := k_pk h
      rw [if_pos (k_wA hw (k_R4) hc2)]
      try rw [k_a24 hw hc2]
      rw [if_pos (k_wO hw (k_b24 hc2))]
      try rw [k_p4_1 hw (k_b24 hc2)]
      obtain ⟨hc3, h⟩ := k_pk h
      rw [if_pos (k_wA hw ((k_q4_1 (k_b24 hc2))) hc3)]
      by_cases c4 : (k_rd A ((72 + 8 * v2) + 3) v3) = (-1)
      · rw [if_pos c4] at h
        rw [if_pos c4]
        exact sgX8_nightsOnTours_b38 k4f k4g hk4 (fX8_nightsOnTours_h14 k4f N) (gX8_nightsOnTours_h14 k4g N) ih _ _ _ _ _ _ hw h
      · rw [if_neg c4] at h
        rw [if_neg c4]
        exact sgX8_nightsOnTours_b38 k4f k4g hk4 (fX8_nightsOnTours_h14 k4f N) (gX8_nightsOnTours_h14 k4g N) ih _ _ _ _ _ _ hw h
    · rw [if_neg c1] at h
      rw [if_neg c1]
      exact hk4 _ _ _ _ _ hw h
set_option maxRecDepth 100000 in
theorem sgX8_nightsOnTours_h4 {sc : k_SC} : ∀ (N : Nat) (A : k_H) (v1 v2 : Int) (r : Int) (A' : k_H), k_Wf sc A → gX8_nightsOnTours_h4 N A v1 v2 = some (r, A') → fX8_nightsOnTours_h4 N A 0 v1 v2 = some (r, A') ∧ k_Wf sc A' := by
  intro N
  induction N with
  | zero => intro A v1 v2 r A' hw  h; exact absurd h (by simp [gX8_nightsOnTours_h4])
  | succ N ih =>
    intro A v1 v2 r A' hw  h
    rw [gX8_nightsOnTours_h4] at h
    rw [fX8_nightsOnTours_h4]
    rw [if_pos (k_wO hw k_K0)]
    by_cases c1 : v2 < (k_rd A 0 7)
    · rw [if_pos c1] at h
      rw [if_pos c1]
      exact sgX8_nightsOnTours_h14 (fX8_nightsOnTours_h4 N) (gX8_nightsOnTours_h4 N) ih _ _ _ _ _ _ _ hw h
    · rw [if_neg c1] at h
      rw [if_neg c1]
      obtain ⟨rfl, rfl⟩ := k_pr h
      exact ⟨rfl, hw⟩
set_option maxRecDepth 100000 in
theorem sgX8_nightsOnTours_b0 {sc : k_SC} (A : k_H) (r : Int) (A' : k_H) (hw : k_Wf sc A) (h : gX8_nightsOnTours_b0 A = some (r, A')) : fX8_nightsOnTours_b0 A 0 = some (r, A') ∧ k_Wf sc A' := by
  unfold gX8_nightsOnTours_b0 at h
  unfold fX8_nightsOnTours_b0
  exact sgX8_nightsOnTours_h4  _ _ _ _ _ _ hw h
theorem sgX8_nightsOnTours {sc : k_SC} {A : k_H} {r : Int} {A' : k_H} (hw : k_Wf sc A) (h : gX8_nightsOnTours A  = some (r, A')) : fX8_nightsOnTours A 0 = some (r, A') ∧ k_Wf sc A' :=
  sgX8_nightsOnTours_b0 _ _ _ hw h
/-! X7_start -/
def gX7_start_b0 (A : k_H) (v1 : Int) : Option (Int × k_H) := k_bd (gX5_copyFrom A 22 v1) fun r1 A2 => k_bd (gX6_clear A2 19) fun r5 A6 => k_lt (k_wt A6 18 1 0) fun A9 => k_lt (k_wt A9 18 2 0) fun A12 => k_lt (k_wt A12 18 3 0) fun A15 => k_lt (k_wt A15 18 5 0) fun A18 => k_lt (k_wt A18 18 6 0) fun A21 => k_lt (k_wt A21 18 7 0) fun A24 => k_lt (k_wt A24 18 8 0) fun A27 => some (0, A27)
def gX7_start (A : k_H) (x1 : Int) : Option (Int × k_H) := gX7_start_b0 A x1
set_option maxRecDepth 100000 in
theorem sgX7_start_b0 {sc : k_SC} (A : k_H) (v1 : Int) (r : Int) (A' : k_H) (hw : k_Wf sc A) (hv1 : k_isK v1 5) (h : gX7_start_b0 A v1 = some (r, A')) : fX7_start_b0 A 18 v1 = some (r, A') ∧ k_Wf sc A' := by
  unfold gX7_start_b0 at h
  unfold fX7_start_b0
  rw [if_pos (k_wO hw k_K18)]
  try rw [k_p7_4 hw]
  rw [if_pos (k_wO hw k_K22)]
  obtain ⟨r1, A2, hq3, h⟩ := k_pb h
  have hw4 := sgX5_copyFrom hw k_K22 hv1 hq3
  rw [hw4.1]
  rw [k_bds]
  rw [if_pos (k_wO hw4.2 k_K18)]
  try rw [k_p7_0 hw4.2]
  rw [if_pos (k_wO hw4.2 k_K19)]
  obtain ⟨r5, A6, hq7, h⟩ := k_pb h
  have hw8 := sgX6_clear hw4.2 k_K19 hq7
  rw [hw8.1]
  rw [k_bds]
  rw [if_pos (k_wO hw8.2 k_K18)]
  obtain ⟨A9, eA10, h⟩ := k_pl h
  have hw11 := k_wE eA10 (k_wo hw8.2 k_K18 1 (by decide))
  refine k_ltg eA10 ?_
  obtain ⟨A12, eA13, h⟩ := k_pl h
  have hw14 := k_wE eA13 (k_wo hw11 k_K18 2 (by decide))
  refine k_ltg eA13 ?_
  obtain ⟨A15, eA16, h⟩ := k_pl h
  have hw17 := k_wE eA16 (k_wo hw14 k_K18 3 (by decide))
  refine k_ltg eA16 ?_
  obtain ⟨A18, eA19, h⟩ := k_pl h
  have hw20 := k_wE eA19 (k_wo hw17 k_K18 5 (by decide))
  refine k_ltg eA19 ?_
  obtain ⟨A21, eA22, h⟩ := k_pl h
  have hw23 := k_wE eA22 (k_wo hw20 k_K18 6 (by decide))
  refine k_ltg eA22 ?_
  obtain ⟨A24, eA25, h⟩ := k_pl h
  have hw26 := k_wE eA25 (k_wo hw23 k_K18 7 (by decide))
  refine k_ltg eA25 ?_
  obtain ⟨A27, eA28, h⟩ := k_pl h
  have hw29 := k_wE eA28 (k_wo hw26 k_K18 8 (by decide))
  refine k_ltg eA28 ?_
  obtain ⟨rfl, rfl⟩ := k_pr h
  exact ⟨rfl, hw29⟩
theorem sgX7_start {sc : k_SC} {A : k_H} {x1 : Int} {r : Int} {A' : k_H} (hw : k_Wf sc A) (hx1 : k_isK x1 5) (h : gX7_start A x1 = some (r, A')) : fX7_start A 18 x1 = some (r, A') ∧ k_Wf sc A' :=
  sgX7_start_b0 _ _ _ _ hw hx1 h
/-! X7_refuseToken -/
def gX7_refuseToken_b13 (A : k_H) (s1 : Int) : Option (Int × k_H) := k_bd (gX7_refuse A s1) fun r1 A2 => if r1 = 0 ∨ r1 = 1 then (some (r1, A2)) else none
def gX7_refuseToken_b0 (A : k_H) : Option (Int × k_H) := if (k_rd A 18 10) = 0 then (gX7_refuseToken_b13 A 1) else (gX7_refuseToken_b13 A 2)
def gX7_refuseToken (A : k_H) : Option (Int × k_H) := gX7_refuseToken_b0 A
set_option maxRecDepth 100000 in
theorem sgX7_refuseToken_b13 {sc : k_SC} (A : k_H) (s1 : Int) (r : Int) (A' : k_H) (hw : k_Wf sc A) (h : gX7_refuseToken_b13 A s1 = some (r, A')) : fX7_refuseToken_b13 A 18 s1 = some (r, A') ∧ k_Wf sc A' := by
  unfold gX7_refuseToken_b13 at h
  unfold fX7_refuseToken_b13
  rw [if_pos (k_wO hw k_K18)]
  obtain ⟨r1, A2, hq3, h⟩ := k_pb h
  have hw4 := sgX7_refuse hw  hq3
  rw [hw4.1]
  rw [k_bds]
  obtain ⟨hc5, h⟩ := k_pk h
  rw [if_pos hc5]
  obtain ⟨rfl, rfl⟩ := k_pr h
  exact ⟨rfl, hw4.2⟩
set_option maxRecDepth 100000 in
theorem sgX7_refuseToken_b0 {sc : k_SC} (A : k_H) (r : Int) (A' : k_H) (hw : k_Wf sc A) (h : gX7_refuseToken_b0 A = some (r, A')) : fX7_refuseToken_b0 A 18 = some (r, A') ∧ k_Wf sc A' := by
  unfold gX7_refuseToken_b0 at h
  unfold fX7_refuseToken_b0
  rw [if_pos (k_wO hw k_K18)]
  by_cases c1 : (k_rd A 18 10) = 0
  · rw [if_pos c1] at h
    rw [if_pos c1]
    exact sgX7_refuseToken_b13  _ _ _ _ hw h
  · rw [if_neg c1] at h
    rw [if_neg c1]
    exact sgX7_refuseToken_b13  _ _ _ _ hw h
theorem sgX7_refuseToken {sc : k_SC} {A : k_H} {r : Int} {A' : k_H} (hw : k_Wf sc A) (h : gX7_refuseToken A  = some (r, A')) : fX7_refuseToken A 18 = some (r, A') ∧ k_Wf sc A' :=
  sgX7_refuseToken_b0 _ _ _ hw h
/-! X7_readRun -/
def gX7_readRun_b145 (A : k_H) : Option (Int × k_H) := k_lt (k_wt A 18 10 0) fun A1 => some (0, A1)
def gX7_readRun_b87 (k4g : k_H → Int → Int → Option (Int × k_H)) (A : k_H) (v1 v2 : Int) : Option (Int × k_H) := k_lt (k_wt A 18 8 (k_wr ((k_rd A 18 8) + 1))) fun A1 => k4g A1 v1 v2
def gX7_readRun_b100 (A : k_H) (v1 v2 : Int) : Option (Int × k_H) := if v1 = k_wr ((k_rd A 18 8) - (k_rd A 18 9)) then (k_lt (k_wt A 18 10 1) fun A10 => some (0, A10)) else (if v1 = 0 then (if k_wr ((k_rd A 18 8) - (k_rd A 18 9)) ≤ 5 then (k_lt (k_wt A 18 10 2) fun A4 => k_lt (k_wt A4 18 11 v2) fun A7 => some (0, A7)) else (gX7_readRun_b145 A)) else (gX7_readRun_b145 A))
def gX7_readRun_b52 (k4g : k_H → Int → Int → Option (Int × k_H)) (A : k_H) (v1 v2 : Int) : Option (Int × k_H) := k_bd (gX5_byteAt A 22 (k_rd A 18 8)) fun r1 A2 => k_bd (gX7_isLetter A2 r1) fun r5 A6 => if r5 = 0 then (gX7_readRun_b87 k4g A6 v1 (k_wr (k_wr (k_wr (v2 * 10) + r1) - 48))) else (gX7_readRun_b87 k4g A6 (k_wr (v1 + 1)) v2)
def gX7_readRun_h4 : Nat → k_H → Int → Int → Option (Int × k_H)
  | 0, _, _, _ => none
  | N + 1, A, v1, v2 => if (k_rd A 18 8) < (k_rd A 22 1) then (k_bd (gX5_byteAt A 22 (k_rd A 18 8)) fun r2 A3 => k_bd (gX7_isLetter A3 r2) fun r6 A7 => if r6 = 0 then (k_bd (gX5_byteAt A7 22 (k_rd A7 18 8)) fun r11 A12 => k_bd (gX7_isDigit A12 r11) fun r15 A16 => if r15 = 0 then (gX7_readRun_b100 A16 v1 v2) else (gX7_readRun_b52 (gX7_readRun_h4 N) A16 v1 v2)) else (gX7_readRun_b52 (gX7_readRun_h4 N) A7 v1 v2)) else (gX7_readRun_b100 A v1 v2)
def gX7_readRun_b0 (A : k_H) : Option (Int × k_H) := gX7_readRun_h4 k_FU A 0 0
def gX7_readRun (A : k_H) : Option (Int × k_H) := gX7_readRun_b0 A
set_option maxRecDepth 100000 in
theorem sgX7_readRun_b145 {sc : k_SC} (A : k_H) (r : Int) (A' : k_H) (hw : k_Wf sc A) (h : gX7_readRun_b145 A = some (r, A')) : fX7_readRun_b145 A 18 = some (r, A') ∧ k_Wf sc A' := by
  unfold gX7_readRun_b145 at h
  unfold fX7_readRun_b145
  rw [if_pos (k_wO hw k_K18)]
  obtain ⟨A1, eA2, h⟩ := k_pl h
  have hw3 := k_wE eA2 (k_wo hw k_K18 10 (by decide))
  refine k_ltg eA2 ?_
  obtain ⟨rfl, rfl⟩ := k_pr h
  exact ⟨rfl, hw3⟩
set_option maxRecDepth 100000 in
theorem sgX7_readRun_b87 {sc : k_SC} (k4f : k_H → Int → Int → Int → Option (Int × k_H)) (k4g : k_H → Int → Int → Option (Int × k_H)) (hk4 : ∀ (A : k_H) (v1 v2 : Int) (r : Int) (A' : k_H), k_Wf sc A → k4g A v1 v2 = some (r, A') → k4f A 18 v1 v2 = some (r, A') ∧ k_Wf sc A') (A : k_H) (v1 v2 : Int) (r : Int) (A' : k_H) (hw : k_Wf sc A) (h : gX7_readRun_b87 k4g A v1 v2 = some (r, A')) : fX7_readRun_b87 k4f A 18 v1 v2 = some (r, A') ∧ k_Wf sc A' := by
  unfold gX7_readRun_b87 at h
  unfold fX7_readRun_b87
  rw [if_pos (k_wO hw k_K18)]
  obtain ⟨A1, eA2, h⟩ := k_pl h
  have hw3 := k_wE eA2 (k_wo hw k_K18 8 (by decide))
  refine k_ltg eA2 ?_
  exact hk4 _ _ _ _ _ hw3 h
set_option maxRecDepth 100000 in
theorem sgX7_readRun_b100 {sc : k_SC} (A : k_H) (v1 v2 : Int) (r : Int) (A' : k_H) (hw : k_Wf sc A) (h : gX7_readRun_b100 A v1 v2 = some (r, A')) : fX7_readRun_b100 A 18 v1 v2 = some (r, A') ∧ k_Wf sc A' := by
  unfold gX7_readRun_b100 at h
  unfold fX7_readRun_b100
  rw [if_pos (k_wO hw k_K18)]
  by_cases c1 : v1 = k_wr ((k_rd A 18 8) - (k_rd A 18 9))
  · rw [if_pos c1] at h
    rw [if_pos c1]
    obtain ⟨A10, eA11, h⟩ := k_pl h
    have hw12 := k_wE eA11 (k_wo hw k_K18 10 (by decide))
    refine k_ltg eA11 ?_
    obtain ⟨rfl, rfl⟩ := k_pr h
    exact ⟨rfl, hw12⟩
  · rw [if_neg c1] at h
    rw [if_neg c1]
    by_cases c2 : v1 = 0
    · rw [if_pos c2] at h
      rw [if_pos c2]
      by_cases c3 : k_wr ((k_rd A 18 8) - (k_rd A 18 9)) ≤ 5
      · rw [if_pos c3] at h
        rw [if_pos c3]
        obtain ⟨A4, eA5, h⟩ := k_pl h
        have hw6 := k_wE eA5 (k_wo hw k_K18 10 (by decide))
        refine k_ltg eA5 ?_
        obtain ⟨A7, eA8, h⟩ := k_pl h
        have hw9 := k_wE eA8 (k_wo hw6 k_K18 11 (by decide))
        refine k_ltg eA8 ?_
        obtain ⟨rfl, rfl⟩ := k_pr h
        exact ⟨rfl, hw9⟩
      · rw [if_neg c3] at h
        rw [if_neg c3]
        exact sgX7_readRun_b145  _ _ _ hw h
    · rw [if_neg c2] at h
      rw [if_neg c2]
      exact sgX7_readRun_b145  _ _ _ hw h
set_option maxRecDepth 100000 in
theorem sgX7_readRun_b52 {sc : k_SC} (k4f : k_H → Int → Int → Int → Option (Int × k_H)) (k4g : k_H → Int → Int → Option (Int × k_H)) (hk4 : ∀ (A : k_H) (v1 v2 : Int) (r : Int) (A' : k_H), k_Wf sc A → k4g A v1 v2 = some (r, A') → k4f A 18 v1 v2 = some (r, A') ∧ k_Wf sc A') (A : k_H) (v1 v2 : Int) (r : Int) (A' : k_H) (hw : k_Wf sc A) (h : gX7_readRun_b52 k4g A v1 v2 = some (r, A')) : fX7_readRun_b52 k4f A 18 v1 v2 = some (r, A') ∧ k_Wf sc A' := by
  unfold gX7_readRun_b52 at h
  unfold fX7_readRun_b52
  rw [if_pos (k_wO hw k_K18)]
  try rw [k_p7_4 hw]
  rw [if_pos (k_wO hw k_K22)]
  obtain ⟨r1, A2, hq3, h⟩ := k_pb h
  have hw4 := sgX5_byteAt hw k_K22 hq3
  rw [hw4.1]
  rw [k_bds]
  obtain ⟨r5, A6, hq7, h⟩ := k_pb h
  have hw8 := sgX7_isLetter hw4.2  hq7
  rw [hw8.1]
  rw [k_bds]
  by_cases c9 : r5 = 0
  · rw [if_pos c9] at h
    rw [if_pos c9]
    exact sgX7_readRun_b87 k4f k4g hk4 _ _ _ _ _ hw8.2 h
  · rw [if_neg c9] at h
    rw [if_neg c9]
    exact sgX7_readRun_b87 k4f k4g hk4 _ _ _ _ _ hw8.2 h
set_option maxRecDepth 100000 in
theorem sgX7_readRun_h4 {sc : k_SC} : ∀ (N : Nat) (A : k_H) (v1 v2 : Int) (r : Int) (A' : k_H), k_Wf sc A → gX7_readRun_h4 N A v1 v2 = some (r, A') → fX7_readRun_h4 N A 18 v1 v2 = some (r, A') ∧ k_Wf sc A' := by
  intro N
  induction N with
  | zero => intro A v1 v2 r A' hw  h; exact absurd h (by simp [gX7_readRun_h4])
  | succ N ih =>
    intro A v1 v2 r A' hw  h
    rw [gX7_readRun_h4] at h
    rw [fX7_readRun_h4]
    rw [if_pos (k_wO hw k_K18)]
    try rw [k_p7_4 hw]
    rw [if_pos (k_wO hw k_K22)]
    by_cases c1 : (k_rd A 18 8) < (k_rd A 22 1)
    · rw [if_pos c1] at h
      rw [if_pos c1]
      try rw [k_p7_4 hw]
      obtain ⟨r2, A3, hq4, h⟩ := k_pb h
      have hw5 := sgX5_byteAt hw k_K22 hq4
      rw [hw5.1]
      rw [k_bds]
      obtain ⟨r6, A7, hq8, h⟩ := k_pb h
      have hw9 := sgX7_isLetter hw5.2  hq8
      rw [hw9.1]
      rw [k_bds]
      by_cases c10 : r6 = 0
      · rw [if_pos c10] at h
        rw [if_pos c10]
        rw [if_pos (k_wO hw9.2 k_K18)]
        try rw [k_p7_4 hw9.2]
        rw [if_pos (k_wO hw9.2 k_K22)]
        obtain ⟨r11, A12, hq13, h⟩ := k_pb h
        have hw14 := sgX5_byteAt hw9.2 k_K22 hq13
        rw [hw14.1]
        rw [k_bds]
        obtain ⟨r15, A16, hq17, h⟩ := k_pb h
        have hw18 := sgX7_isDigit hw14.2  hq17
        rw [hw18.1]
        rw [k_bds]
        by_cases c19 : r15 = 0
        · rw [if_pos c19] at h
          rw [if_pos c19]
          exact sgX7_readRun_b100  _ _ _ _ _ hw18.2 h
        · rw [if_neg c19] at h
          rw [if_neg c19]
          exact sgX7_readRun_b52 (fX7_readRun_h4 N) (gX7_readRun_h4 N) ih _ _ _ _ _ hw18.2 h
      · rw [if_neg c10] at h
        rw [if_neg c10]
        exact sgX7_readRun_b52 (fX7_readRun_h4 N) (gX7_readRun_h4 N) ih _ _ _ _ _ hw9.2 h
    · rw [if_neg c1] at h
      rw [if_neg c1]
      exact sgX7_readRun_b100  _ _ _ _ _ hw h
set_option maxRecDepth 100000 in
theorem sgX7_readRun_b0 {sc : k_SC} (A : k_H) (r : Int) (A' : k_H) (hw : k_Wf sc A) (h : gX7_readRun_b0 A = some (r, A')) : fX7_readRun_b0 A 18 = some (r, A') ∧ k_Wf sc A' := by
  unfold gX7_readRun_b0 at h
  unfold fX7_readRun_b0
  exact sgX7_readRun_h4  _ _ _ _ _ _ hw h
theorem sgX7_readRun {sc : k_SC} {A : k_H} {r : Int} {A' : k_H} (hw : k_Wf sc A) (h : gX7_readRun A  = some (r, A')) : fX7_readRun A 18 = some (r, A') ∧ k_Wf sc A' :=
  sgX7_readRun_b0 _ _ _ hw h
/-! X8_feed -/
def gX8_feed_b0 (A : k_H) (v1 v2 v3 v4 v5 : Int) : Option (Int × k_H) := if 200 < k_wr ((k_rd A 1 1) + 20) then (some ((-1), A)) else (k_bd (gX5_append A 1 v1) fun r2 A3 => k_bd (gX5_append A3 1 v2) fun r6 A7 => k_bd (gX5_append A7 1 v3) fun r10 A11 => k_bd (gX5_append A11 1 v4) fun r14 A15 => k_bd (gX5_append A15 1 v5) fun r18 A19 => some ((k_rd A19 1 1), A19))
def gX8_feed (A : k_H) (x1 x2 x3 x4 x5 : Int) : Option (Int × k_H) := gX8_feed_b0 A x1 x2 x3 x4 x5
set_option maxRecDepth 100000 in
theorem sgX8_feed_b0 {sc : k_SC} (A : k_H) (v1 v2 v3 v4 v5 : Int) (r : Int) (A' : k_H) (hw : k_Wf sc A) (h : gX8_feed_b0 A v1 v2 v3 v4 v5 = some (r, A')) : fX8_feed_b0 A 0 v1 v2 v3 v4 v5 = some (r, A') ∧ k_Wf sc A' := by
  unfold gX8_feed_b0 at h
  unfold fX8_feed_b0
  rw [if_pos (k_wO hw k_K0)]
  try rw [k_p8_0 hw]
  rw [if_pos (k_wO hw k_K1)]
  by_cases c1 : 200 < k_wr ((k_rd A 1 1) + 20)
  · rw [if_pos c1] at h
    rw [if_pos c1]
    obtain ⟨rfl, rfl⟩ := k_pr h
    exact ⟨rfl, hw⟩
  · rw [if_neg c1] at h
    rw [if_neg c1]
    try rw [k_p8_0 hw]
    obtain ⟨r2, A3, hq4, h⟩ := k_pb h
    have hw5 := sgX5_append hw k_K1 hq4
    rw [hw5.1]
    rw [k_bds]
    rw [if_pos (k_wO hw5.2 k_K0)]
    try rw [k_p8_0 hw5.2]
    rw [if_pos (k_wO hw5.2 k_K1)]
    obtain ⟨r6, A7, hq8, h⟩ := k_pb h
    have hw9 := sgX5_append hw5.2 k_K1 hq8
    rw [hw9.1]
    rw [k_bds]
    rw [if_pos (k_wO hw9.2 k_K0)]
    try rw [k_p8_0 hw9.2]
    rw [if_pos (k_wO hw9.2 k_K1)]
    obtain ⟨r10, A11, hq12, h⟩ := k_pb h
    have hw13 := sgX5_append hw9.2 k_K1 hq12
    rw [hw13.1]
    rw [k_bds]
    rw [if_pos (k_wO hw13.2 k_K0)]
    try rw [k_p8_0 hw13.2]
    rw [if_pos (k_wO hw13.2 k_K1)]
    obtain ⟨r14, A15, hq16, h⟩ := k_pb h
    have hw17 := sgX5_append hw13.2 k_K1 hq16
    rw [hw17.1]
    rw [k_bds]
    rw [if_pos (k_wO hw17.2 k_K0)]
    try rw [k_p8_0 hw17.2]
    rw [if_pos (k_wO hw17.2 k_K1)]
    obtain ⟨r18, A19, hq20, h⟩ := k_pb h
    have hw21 := sgX5_append hw17.2 k_K1 hq20
    rw [hw21.1]
    rw [k_bds]
    rw [if_pos (k_wO hw21.2 k_K0)]
    try rw [k_p8_0 hw21.2]
    rw [if_pos (k_wO hw21.2 k_K1)]
    obtain ⟨rfl, rfl⟩ := k_pr h
    exact ⟨rfl, hw21.2⟩
theorem sgX8_feed {sc : k_SC} {A : k_H} {x1 x2 x3 x4 x5 : Int} {r : Int} {A' : k_H} (hw : k_Wf sc A) (h : gX8_feed A x1 x2 x3 x4 x5 = some (r, A')) : fX8_feed A 0 x1 x2 x3 x4 x5 = some (r, A') ∧ k_Wf sc A' :=
  sgX8_feed_b0 _ _ _ _ _ _ _ _ hw h
/-! X8_give -/
def gX8_give_b0 (A : k_H) (v1 v2 v3 : Int) : Option (Int × k_H) := k_bd (gX8_isHall A v1) fun r1 A2 => if r1 = 0 then (some (0, A2)) else (k_bd (gX8_isShow A2 v2) fun r6 A7 => if r6 = 0 then (some (0, A7)) else (k_bd (gX8_isWithin A7 v3 0 10) fun r11 A12 => if r11 = 0 then (some (0, A12)) else (if 0 ≤ v1 ∧ v1 < ((12 : Nat) : Int) then (k_bd (gX1_givenToOthers A12 (24 + 4 * v1) v2) fun r17 A18 => if 10 < k_wr (v3 + r17) then (some (0, A18)) else (if 0 ≤ v2 ∧ v2 < ((6 : Nat) : Int) then (k_lt (k_wt A18 ((24 + 4 * v1) + 3) v2 v3) fun A23 => some (1, A23)) else none)) else none)))
def gX8_give (A : k_H) (x1 x2 x3 : Int) : Option (Int × k_H) := gX8_give_b0 A x1 x2 x3
set_option maxRecDepth 100000 in
theorem sgX8_give_b0 {sc : k_SC} (A : k_H) (v1 v2 v3 : Int) (r : Int) (A' : k_H) (hw : k_Wf sc A) (h : gX8_give_b0 A v1 v2 v3 = some (r, A')) : fX8_give_b0 A 0 v1 v2 v3 = some (r, A') ∧ k_Wf sc A' := by
  unfold gX8_give_b0 at h
  unfold fX8_give_b0
  rw [if_pos (k_wO hw k_K0)]
  obtain ⟨r1, A2, hq3, h⟩ := k_pb h
  have hw4 := sgX8_isHall hw  hq3
  rw [hw4.1]
  rw [k_bds]
  by_cases c5 : r1 = 0
  · rw [if_pos c5] at h
    rw [if_pos c5]
    obtain ⟨rfl, rfl⟩ := k_pr h
    exact ⟨rfl, hw4.2⟩
  · rw [if_neg c5] at h
    rw [if_neg c5]
    rw [if_pos (k_wO hw4.2 k_K0)]
    obtain ⟨r6, A7, hq8, h⟩ := k_pb h
    have hw9 := sgX8_isShow hw4.2  hq8
    rw [hw9.1]
    rw [k_bds]
    by_cases c10 : r6 = 0
    · rw [if_pos c10] at h
      rw [if_pos c10]
      obtain ⟨rfl, rfl⟩ := k_pr h
      exact ⟨rfl, hw9.2⟩
    · rw [if_neg c10] at h
      rw [if_neg c10]
      obtain ⟨r11, A12, hq13, h⟩ := k_pb h
      have hw14 := sgX8_isWithin hw9.2  hq13
      rw [hw14.1]
      rw [k_bds]
      by_cases c15 : r11 = 0
      · rw [if_pos c15] at h
        rw [if_pos c15]
        obtain ⟨rfl, rfl⟩ := k_pr h
        exact ⟨rfl, hw14.2⟩
      · rw [if_neg c15] at h
        rw [if_neg c15]
        rw [if_pos (k_wO hw14.2 k_K0)]
        try rw [k_p8_1 hw14.2]
        obtain ⟨hc16, h⟩ := k_pk h
        rw [if_pos (k_wA hw14.2 (k_R3) hc16)]
        try rw [k_a23 hw14.2 hc16]
        rw [if_pos (k_wO hw14.2 (k_b23 hc16))]
        obtain ⟨r17, A18, hq19, h⟩ := k_pb h
        have hw20 := sgX1_givenToOthers hw14.2 (k_b23 hc16) hq19
        rw [hw20.1]
        rw [k_bds]
        by_cases c21 : 10 < k_wr (v3 + r17)
        · rw [if_pos c21] at h
          rw [if_pos c21]
          obtain ⟨rfl, rfl⟩ := k_pr h
          exact ⟨rfl, hw20.2⟩
        · rw [if_neg c21] at h
          rw [if_neg c21]
          rw [if_pos (k_wO hw20.2 k_K0)]
          try rw [k_p8_1 hw20.2]
          rw [if_pos (k_wA hw20.2 (k_R3) hc16)]
          try rw [k_a23 hw20.2 hc16]
          rw [if_pos (k_wO hw20.2 (k_b23 hc16))]
          try rw [k_p1_1 hw20.2 (k_b23 hc16)]
          obtain ⟨hc22, h⟩ := k_pk h
          rw [if_pos (k_wA hw20.2 ((k_q1_1 (k_b23 hc16))) hc22)]
          obtain ⟨A23, eA24, h⟩ := k_pl h
          have hw25 := k_wE eA24 (k_wa hw20.2 (k_q1_1 (k_b23 hc16)) (by decide))
          refine k_ltg eA24 ?_
          obtain ⟨rfl, rfl⟩ := k_pr h
          exact ⟨rfl, hw25⟩
theorem sgX8_give {sc : k_SC} {A : k_H} {x1 x2 x3 : Int} {r : Int} {A' : k_H} (hw : k_Wf sc A) (h : gX8_give A x1 x2 x3 = some (r, A')) : fX8_give A 0 x1 x2 x3 = some (r, A') ∧ k_Wf sc A' :=
  sgX8_give_b0 _ _ _ _ _ _ hw h
/-! X8_count -/
def gX8_count_b0 (A : k_H) (v1 : Int) : Option (Int × k_H) := if v1 < 0 ∨ 3 < v1 then (some ((-1), A)) else (if v1 = 0 then (some ((k_rd A 0 6), A)) else (if v1 = 1 then (some ((k_rd A 0 7), A)) else (if v1 = 2 then (k_bd (gX8_nightsOnTours A) fun r6 A7 => some (r6, A7)) else (some ((k_rd A 1 1), A)))))
def gX8_count (A : k_H) (x1 : Int) : Option (Int × k_H) := gX8_count_b0 A x1
set_option maxRecDepth 100000 in
theorem sgX8_count_b0 {sc : k_SC} (A : k_H) (v1 : Int) (r : Int) (A' : k_H) (hw : k_Wf sc A) (h : gX8_count_b0 A v1 = some (r, A')) : fX8_count_b0 A 0 v1 = some (r, A') ∧ k_Wf sc A' := by
  unfold gX8_count_b0 at h
  unfold fX8_count_b0
  by_cases c2 : v1 < 0 ∨ 3 < v1
  · rw [if_pos c2] at h
    rw [if_pos c2]
    obtain ⟨rfl, rfl⟩ := k_pr h
    exact ⟨rfl, hw⟩
  · rw [if_neg c2] at h
    rw [if_neg c2]
    by_cases c3 : v1 = 0
    · rw [if_pos c3] at h
      rw [if_pos c3]
      rw [if_pos (k_wO hw k_K0)]
      obtain ⟨rfl, rfl⟩ := k_pr h
      exact ⟨rfl, hw⟩
    · rw [if_neg c3] at h
      rw [if_neg c3]
      by_cases c4 : v1 = 1
      · rw [if_pos c4] at h
        rw [if_pos c4]
        rw [if_pos (k_wO hw k_K0)]
        obtain ⟨rfl, rfl⟩ := k_pr h
        exact ⟨rfl, hw⟩
      · rw [if_neg c4] at h
        rw [if_neg c4]
        by_cases c5 : v1 = 2
        · rw [if_pos c5] at h
          rw [if_pos c5]
          rw [if_pos (k_wO hw k_K0)]
          obtain ⟨r6, A7, hq8, h⟩ := k_pb h
          have hw9 := sgX8_nightsOnTours hw  hq8
          rw [hw9.1]
          rw [k_bds]
          obtain ⟨rfl, rfl⟩ := k_pr h
          exact ⟨rfl, hw9.2⟩
        · rw [if_neg c5] at h
          rw [if_neg c5]
          rw [if_pos (k_wO hw k_K0)]
          try rw [k_p8_0 hw]
          rw [if_pos (k_wO hw k_K1)]
          obtain ⟨rfl, rfl⟩ := k_pr h
          exact ⟨rfl, hw⟩
theorem sgX8_count {sc : k_SC} {A : k_H} {x1 : Int} {r : Int} {A' : k_H} (hw : k_Wf sc A) (h : gX8_count A x1 = some (r, A')) : fX8_count A 0 x1 = some (r, A') ∧ k_Wf sc A' :=
  sgX8_count_b0 _ _ _ _ hw h
/-! X8_isSize -/
def gX8_isSize_b0 (A : k_H) (v0 : Int) : Option (Int × k_H) := k_bd (gX8_isWithin A v0 0 99) fun r1 A2 => if r1 = 0 ∨ r1 = 1 then (some (r1, A2)) else none
def gX8_isSize (A : k_H) (x0 : Int) : Option (Int × k_H) := gX8_isSize_b0 A x0
set_option maxRecDepth 100000 in
theorem sgX8_isSize_b0 {sc : k_SC} (A : k_H) (v0 : Int) (r : Int) (A' : k_H) (hw : k_Wf sc A) (h : gX8_isSize_b0 A v0 = some (r, A')) : fX8_isSize_b0 A v0 = some (r, A') ∧ k_Wf sc A' := by
  unfold gX8_isSize_b0 at h
  unfold fX8_isSize_b0
  obtain ⟨r1, A2, hq3, h⟩ := k_pb h
  have hw4 := sgX8_isWithin hw  hq3
  rw [hw4.1]
  rw [k_bds]
  obtain ⟨hc5, h⟩ := k_pk h
  rw [if_pos hc5]
  obtain ⟨rfl, rfl⟩ := k_pr h
  exact ⟨rfl, hw4.2⟩
theorem sgX8_isSize {sc : k_SC} {A : k_H} {x0 : Int} {r : Int} {A' : k_H} (hw : k_Wf sc A) (h : gX8_isSize A x0 = some (r, A')) : fX8_isSize A x0 = some (r, A') ∧ k_Wf sc A' :=
  sgX8_isSize_b0 _ _ _ _ hw h
/-! X8_isNight -/
def gX8_isNight_b0 (A : k_H) (v0 : Int) : Option (Int × k_H) := k_bd (gX8_isWithin A v0 0 13) fun r1 A2 => if r1 = 0 ∨ r1 = 1 then (some (r1, A2)) else none
def gX8_isNight (A : k_H) (x0 : Int) : Option (Int × k_H) := gX8_isNight_b0 A x0
set_option maxRecDepth 100000 in
theorem sgX8_isNight_b0 {sc : k_SC} (A : k_H) (v0 : Int) (r : Int) (A' : k_H) (hw : k_Wf sc A) (h : gX8_isNight_b0 A v0 = some (r, A')) : fX8_isNight_b0 A v0 = some (r, A') ∧ k_Wf sc A' := by
  unfold gX8_isNight_b0 at h
  unfold fX8_isNight_b0
  obtain ⟨r1, A2, hq3, h⟩ := k_pb h
  have hw4 := sgX8_isWithin hw  hq3
  rw [hw4.1]
  rw [k_bds]
  obtain ⟨hc5, h⟩ := k_pk h
  rw [if_pos hc5]
  obtain ⟨rfl, rfl⟩ := k_pr h
  exact ⟨rfl, hw4.2⟩
theorem sgX8_isNight {sc : k_SC} {A : k_H} {x0 : Int} {r : Int} {A' : k_H} (hw : k_Wf sc A) (h : gX8_isNight A x0 = some (r, A')) : fX8_isNight A x0 = some (r, A') ∧ k_Wf sc A' :=
  sgX8_isNight_b0 _ _ _ _ hw h
/-! X8_closeTakenNights -/
def gX8_closeTakenNights_b26 (k2g : k_H → Int → Int → Option (Int × k_H)) (A : k_H) (v1 v2 : Int) : Option (Int × k_H) := k2g A v1 (k_wr (v2 + 1))
def gX8_closeTakenNights_h2 : Nat → k_H → Int → Int → Option (Int × k_H)
  | 0, _, _, _ => none
  | N + 1, A, v1, v2 => if v2 < 14 then (k_bd (gX8_showAt A v1 v2) fun r2 A3 => if r2 = (-1) then (gX8_closeTakenNights_b26 (gX8_closeTakenNights_h2 N) A3 v1 v2) else (k_bd (gX2_close A3 v2) fun r7 A8 => gX8_closeTakenNights_b26 (gX8_closeTakenNights_h2 N) A8 v1 v2)) else (some (0, A))
def gX8_closeTakenNights_b0 (A : k_H) (v1 : Int) : Option (Int × k_H) := gX8_closeTakenNights_h2 k_FU A v1 0
def gX8_closeTakenNights (A : k_H) (x1 : Int) : Option (Int × k_H) := gX8_closeTakenNights_b0 A x1
set_option maxRecDepth 100000 in
theorem sgX8_closeTakenNights_b26 {sc : k_SC} (k2f : k_H → Int → Int → Int → Option (Int × k_H)) (k2g : k_H → Int → Int → Option (Int × k_H)) (hk2 : ∀ (A : k_H) (v1 v2 : Int) (r : Int) (A' : k_H), k_Wf sc A → k2g A v1 v2 = some (r, A') → k2f A 0 v1 v2 = some (r, A') ∧ k_Wf sc A') (A : k_H) (v1 v2 : Int) (r : Int) (A' : k_H) (hw : k_Wf sc A) (h : gX8_closeTakenNights_b26 k2g A v1 v2 = some (r, A')) : fX8_closeTakenNights_b26 k2f A 0 v1 v2 = some (r, A') ∧ k_Wf sc A' := by
  unfold gX8_closeTakenNights_b26 at h
  unfold fX8_closeTakenNights_b26
  exact hk2 _ _ _ _ _ hw h
set_option maxRecDepth 100000 in
theorem sgX8_closeTakenNights_h2 {sc : k_SC} : ∀ (N : Nat) (A : k_H) (v1 v2 : Int) (r : Int) (A' : k_H), k_Wf sc A → gX8_closeTakenNights_h2 N A v1 v2 = some (r, A') → fX8_closeTakenNights_h2 N A 0 v1 v2 = some (r, A') ∧ k_Wf sc A' := by
  intro N
  induction N with
  | zero => intro A v1 v2 r A' hw  h; exact absurd h (by simp [gX8_closeTakenNights_h2])
  | succ N ih =>
    intro A v1 v2 r A' hw  h
    rw [gX8_closeTakenNights_h2] at h
    rw [fX8_closeTakenNights_h2]
    by_cases c1 : v2 < 14
    · rw [if_pos c1] at h
      rw [if_pos c1]
      rw [if_pos (k_wO hw k_K0)]
      obtain ⟨r2, A3, hq4, h⟩ := k_pb h
      have hw5 := sgX8_showAt hw  hq4
      rw [hw5.1]
      rw [k_bds]
      by_cases c6 : r2 = (-1)
      · rw [if_pos c6] at h
        rw [if_pos c6]
        exact sgX8_closeTakenNights_b26 (fX8_closeTakenNights_h2 N) (gX8_closeTakenNights_h2 N) ih _ _ _ _ _ hw5.2 h
      · rw [if_neg c6] at h
        rw [if_neg c6]
        rw [if_pos (k_wO hw5.2 k_K0)]
        try rw [k_p8_4 hw5.2]
        rw [if_pos (k_wO hw5.2 k_K12)]
        obtain ⟨r7, A8, hq9, h⟩ := k_pb h
        have hw10 := sgX2_close hw5.2  hq9
        rw [hw10.1]
        rw [k_bds]
        exact sgX8_closeTakenNights_b26 (fX8_closeTakenNights_h2 N) (gX8_closeTakenNights_h2 N) ih _ _ _ _ _ hw10.2 h
    · rw [if_neg c1] at h
      rw [if_neg c1]
      obtain ⟨rfl, rfl⟩ := k_pr h
      exact ⟨rfl, hw⟩
set_option maxRecDepth 100000 in
theorem sgX8_closeTakenNights_b0 {sc : k_SC} (A : k_H) (v1 : Int) (r : Int) (A' : k_H) (hw : k_Wf sc A) (h : gX8_closeTakenNights_b0 A v1 = some (r, A')) : fX8_closeTakenNights_b0 A 0 v1 = some (r, A') ∧ k_Wf sc A' := by
  unfold gX8_closeTakenNights_b0 at h
  unfold fX8_closeTakenNights_b0
  exact sgX8_closeTakenNights_h2  _ _ _ _ _ _ hw h
theorem sgX8_closeTakenNights {sc : k_SC} {A : k_H} {x1 : Int} {r : Int} {A' : k_H} (hw : k_Wf sc A) (h : gX8_closeTakenNights A x1 = some (r, A')) : fX8_closeTakenNights A 0 x1 = some (r, A') ∧ k_Wf sc A' :=
  sgX8_closeTakenNights_b0 _ _ _ _ hw h
/-! X8_worthOfTour -/
def gX8_worthOfTour_b47 (k4g : k_H → Int → Int → Int → Option (Int × k_H)) (A : k_H) (v1 v2 v3 : Int) : Option (Int × k_H) := k4g A v1 v2 (k_wr (v3 + 1))
def gX8_worthOfTour_h4 : Nat → k_H → Int → Int → Int → Option (Int × k_H)
  | 0, _, _, _, _ => none
  | N + 1, A, v1, v2, v3 => if v3 < 14 then (if 0 ≤ v1 ∧ v1 < ((6 : Nat) : Int) then (if 0 ≤ v3 ∧ v3 < ((14 : Nat) : Int) then (k_bd (gX8_isHall A (k_rd A ((72 + 8 * v1) + 3) v3)) fun r4 A5 => if r4 = 0 then (gX8_worthOfTour_b47 (gX8_worthOfTour_h4 N) A5 v1 v2 v3) else (if 0 ≤ (k_rd A ((72 + 8 * v1) + 3) v3) ∧ (k_rd A ((72 + 8 * v1) + 3) v3) < ((12 : Nat) : Int) then (if 0 ≤ v1 ∧ v1 < ((6 : Nat) : Int) then (gX8_worthOfTour_b47 (gX8_worthOfTour_h4 N) A5 v1 (k_wr (v2 + (k_rd A5 ((24 + 4 * (k_rd A ((72 + 8 * v1) + 3) v3)) + 3) v1))) v3) else none) else none)) else none) else none) else (some (v2, A))
def gX8_worthOfTour_b0 (A : k_H) (v1 : Int) : Option (Int × k_H) := gX8_worthOfTour_h4 k_FU A v1 0 0
def gX8_worthOfTour (A : k_H) (x1 : Int) : Option (Int × k_H) := gX8_worthOfTour_b0 A x1
set_option maxRecDepth 100000 in
theorem sgX8_worthOfTour_b47 {sc : k_SC} (k4f : k_H → Int → Int → Int → Int → Option (Int × k_H)) (k4g : k_H → Int → Int → Int → Option (Int × k_H)) (hk4 : ∀ (A : k_H) (v1 v2 v3 : Int) (r : Int) (A' : k_H), k_Wf sc A → k4g A v1 v2 v3 = some (r, A') → k4f A 0 v1 v2 v3 = some (r, A') ∧ k_Wf sc A') (A : k_H) (v1 v2 v3 : Int) (r : Int) (A' : k_H) (hw : k_Wf sc A) (h : gX8_worthOfTour_b47 k4g A v1 v2 v3 = some (r, A')) : fX8_worthOfTour_b47 k4f A 0 v1 v2 v3 = some (r, A') ∧ k_Wf sc A' := by
  unfold gX8_worthOfTour_b47 at h
  unfold fX8_worthOfTour_b47
  exact hk4 _ _ _ _ _ _ hw h
set_option maxRecDepth 100000 in
theorem sgX8_worthOfTour_h4 {sc : k_SC} : ∀ (N : Nat) (A : k_H) (v1 v2 v3 : Int) (r : Int) (A' : k_H), k_Wf sc A → gX8_worthOfTour_h4 N A v1 v2 v3 = some (r, A') → fX8_worthOfTour_h4 N A 0 v1 v2 v3 = some (r, A') ∧ k_Wf sc A' := by
  intro N
  induction N with
  | zero => intro A v1 v2 v3 r A' hw  h; exact absurd h (by simp [gX8_worthOfTour_h4])
  | succ N ih =>
    intro A v1 v2 v3 r A' hw  h
    rw [gX8_worthOfTour_h4] at h
    rw [fX8_worthOfTour_h4]
    by_cases c1 : v3 < 14
    · rw [if_pos c1] at h
      rw [if_pos c1]
      rw [if_pos (k_wO hw k_K0)]
      try rw [k_p8_2 hw]
      obtain ⟨hc2, h⟩ := k_pk h
      rw [if_pos (k_wA hw (k_R4) hc2)]
      try rw [k_a24 hw hc2]
      rw [if_pos (k_wO hw (k_b24 hc2))]
      try rw [k_p4_1 hw (k_b24 hc2)]
      obtain ⟨hc3, h⟩ := k_pk h
      rw [if_pos (k_wA hw ((k_q4_1 (k_b24 hc2))) hc3)]
      obtain ⟨r4, A5, hq6, h⟩ := k_pb h
      have hw7 := sgX8_isHall hw  hq6
      rw [hw7.1]
      rw [k_bds]
      by_cases c8 : r4 = 0
      · rw [if_pos c8] at h
        rw [if_pos c8]
        exact sgX8_worthOfTour_b47 (fX8_worthOfTour_h4 N) (gX8_worthOfTour_h4 N) ih _ _ _ _ _ _ hw7.2 h
      · rw [if_neg c8] at h
        rw [if_neg c8]
        rw [if_pos (k_wO hw7.2 k_K0)]
        try rw [k_p8_1 hw7.2]
        obtain ⟨hc9, h⟩ := k_pk h
        rw [if_pos (k_wA hw7.2 (k_R3) hc9)]
        try rw [k_a23 hw7.2 hc9]
        rw [if_pos (k_wO hw7.2 (k_b23 hc9))]
        try rw [k_p1_1 hw7.2 (k_b23 hc9)]
        obtain ⟨hc10, h⟩ := k_pk h
        rw [if_pos (k_wA hw7.2 ((k_q1_1 (k_b23 hc9))) hc10)]
        exact sgX8_worthOfTour_b47 (fX8_worthOfTour_h4 N) (gX8_worthOfTour_h4 N) ih _ _ _ _ _ _ hw7.2 h
    · rw [if_neg c1] at h
      rw [if_neg c1]
      obtain ⟨rfl, rfl⟩ := k_pr h
      exact ⟨rfl, hw⟩
set_option maxRecDepth 100000 in
theorem sgX8_worthOfTour_b0 {sc : k_SC} (A : k_H) (v1 : Int) (r : Int) (A' : k_H) (hw : k_Wf sc A) (h : gX8_worthOfTour_b0 A v1 = some (r, A')) : fX8_worthOfTour_b0 A 0 v1 = some (r, A') ∧ k_Wf sc A' := by
  unfold gX8_worthOfTour_b0 at h
  unfold fX8_worthOfTour_b0
  exact sgX8_worthOfTour_h4  _ _ _ _ _ _ _ hw h
theorem sgX8_worthOfTour {sc : k_SC} {A : k_H} {x1 : Int} {r : Int} {A' : k_H} (hw : k_Wf sc A) (h : gX8_worthOfTour A x1 = some (r, A')) : fX8_worthOfTour A 0 x1 = some (r, A') ∧ k_Wf sc A' :=
  sgX8_worthOfTour_b0 _ _ _ _ hw h
/-! X8_keepsWaysAndRests -/
def gX8_keepsWaysAndRests_b109 (k10g : k_H → Int → Int → Int → Int → Int → Option (Int × k_H)) (A : k_H) (v1 v2 v3 v4 v5 : Int) : Option (Int × k_H) := k10g A v1 v2 v3 v4 (k_wr (v5 + 1))
def gX8_keepsWaysAndRests_b85 (k10g : k_H → Int → Int → Int → Int → Int → Option (Int × k_H)) (A : k_H) (v1 v4 v5 v6 s0 : Int) : Option (Int × k_H) := if v4 ≤ (k_rd A v1 9) then (if s0 = 0 then (some (0, A)) else (gX8_keepsWaysAndRests_b109 k10g A v1 v6 v5 v4 v5)) else (some (0, A))
def gX8_keepsWaysAndRests_b80 (k10g : k_H → Int → Int → Int → Int → Int → Option (Int × k_H)) (A : k_H) (v1 v4 v5 v6 : Int) : Option (Int × k_H) := gX8_keepsWaysAndRests_b85 k10g A v1 v4 v5 v6 1
def gX8_keepsWaysAndRests_h10 : Nat → k_H → Int → Int → Int → Int → Int → Option (Int × k_H)
  | 0, _, _, _, _, _, _ => none
  | N + 1, A, v1, v2, v3, v4, v5 => if v5 < 14 then (if 0 ≤ v5 ∧ v5 < ((14 : Nat) : Int) then (k_bd (gX8_isHall A (k_rd A (v1 + 3) v5)) fun r3 A4 => if r3 = 0 then (gX8_keepsWaysAndRests_b109 (gX8_keepsWaysAndRests_h10 N) A4 v1 v2 v3 0 v5) else (k_bd (gX8_isHall A4 v2) fun r8 A9 => if r8 = 0 then (gX8_keepsWaysAndRests_b80 (gX8_keepsWaysAndRests_h10 N) A9 v1 (k_wr (v4 + 1)) v5 (k_rd A (v1 + 3) v5)) else (if 0 ≤ v2 ∧ v2 < ((12 : Nat) : Int) then (if 0 ≤ (k_rd A (v1 + 3) v5) ∧ (k_rd A (v1 + 3) v5) < ((12 : Nat) : Int) then (k_bd (gX1_milesTo A9 (24 + 4 * v2) (24 + 4 * (k_rd A (v1 + 3) v5))) fun r15 A16 => if r15 ≤ k_wr ((k_rd A16 v1 8) * k_wr (v5 - v3)) then (gX8_keepsWaysAndRests_b80 (gX8_keepsWaysAndRests_h10 N) A16 v1 (k_wr (v4 + 1)) v5 (k_rd A (v1 + 3) v5)) else (gX8_keepsWaysAndRests_b85 (gX8_keepsWaysAndRests_h10 N) A16 v1 (k_wr (v4 + 1)) v5 (k_rd A (v1 + 3) v5) 0)) else none) else none))) else none) else (some (1, A))
def gX8_keepsWaysAndRests_b0 (A : k_H) (v1 : Int) : Option (Int × k_H) := gX8_keepsWaysAndRests_h10 k_FU A v1 (-1) (-1) 0 0
def gX8_keepsWaysAndRests (A : k_H) (x1 : Int) : Option (Int × k_H) := gX8_keepsWaysAndRests_b0 A x1
set_option maxRecDepth 100000 in
theorem sgX8_keepsWaysAndRests_b109 {sc : k_SC} (k10f : k_H → Int → Int → Int → Int → Int → Int → Option (Int × k_H)) (k10g : k_H → Int → Int → Int → Int → Int → Option (Int × k_H)) (hk10 : ∀ (A : k_H) (v1 v2 v3 v4 v5 : Int) (r : Int) (A' : k_H), k_Wf sc A → k_isK v1 4 → k10g A v1 v2 v3 v4 v5 = some (r, A') → k10f A 0 v1 v2 v3 v4 v5 = some (r, A') ∧ k_Wf sc A') (A : k_H) (v1 v2 v3 v4 v5 : Int) (r : Int) (A' : k_H) (hw : k_Wf sc A) (hv1 : k_isK v1 4) (h : gX8_keepsWaysAndRests_b109 k10g A v1 v2 v3 v4 v5 = some (r, A')) : fX8_keepsWaysAndRests_b109 k10f A 0 v1 v2 v3 v4 v5 = some (r, A') ∧ k_Wf sc A' := by
  unfold gX8_keepsWaysAndRests_b109 at h
  unfold fX8_keepsWaysAndRests_b109
  exact hk10 _ _ _ _ _ _ _ _ hw hv1 h
set_option maxRecDepth 100000 in
theorem sgX8_keepsWaysAndRests_b85 {sc : k_SC} (k10f : k_H → Int → Int → Int → Int → Int → Int → Option (Int × k_H)) (k10g : k_H → Int → Int → Int → Int → Int → Option (Int × k_H)) (hk10 : ∀ (A : k_H) (v1 v2 v3 v4 v5 : Int) (r : Int) (A' : k_H), k_Wf sc A → k_isK v1 4 → k10g A v1 v2 v3 v4 v5 = some (r, A') → k10f A 0 v1 v2 v3 v4 v5 = some (r, A') ∧ k_Wf sc A') (A : k_H) (v1 v4 v5 v6 s0 : Int) (r : Int) (A' : k_H) (hw : k_Wf sc A) (hv1 : k_isK v1 4) (h : gX8_keepsWaysAndRests_b85 k10g A v1 v4 v5 v6 s0 = some (r, A')) : fX8_keepsWaysAndRests_b85 k10f A 0 v1 v4 v5 v6 s0 = some (r, A') ∧ k_Wf sc A' := by
  unfold gX8_keepsWaysAndRests_b85 at h
  unfold fX8_keepsWaysAndRests_b85
  rw [if_pos (k_wO hw hv1)]
  by_cases c1 : v4 ≤ (k_rd A v1 9)
  · rw [if_pos c1] at h
    rw [if_pos c1]
    by_cases c2 : s0 = 0
    · rw [if_pos c2] at h
      rw [if_pos c2]
      obtain ⟨rfl, rfl⟩ := k_pr h
      exact ⟨rfl, hw⟩
    · rw [if_neg c2] at h
      rw [if_neg c2]
      exact sgX8_keepsWaysAndRests_b109 k10f k10g hk10 _ _ _ _ _ _ _ _ hw hv1 h
  · rw [if_neg c1] at h
    rw [if_neg c1]
    obtain ⟨rfl, rfl⟩ := k_pr h
    exact ⟨rfl, hw⟩
set_option maxRecDepth 100000 in
theorem sgX8_keepsWaysAndRests_b80 {sc : k_SC} (k10f : k_H → Int → Int → Int → Int → Int → Int → Option (Int × k_H)) (k10g : k_H → Int → Int → Int → Int → Int → Option (Int × k_H)) (hk10 : ∀ (A : k_H) (v1 v2 v3 v4 v5 : Int) (r : Int) (A' : k_H), k_Wf sc A → k_isK v1 4 → k10g A v1 v2 v3 v4 v5 = some (r, A') → k10f A 0 v1 v2 v3 v4 v5 = some (r, A') ∧ k_Wf sc A') (A : k_H) (v1 v4 v5 v6 : Int) (r : Int) (A' : k_H) (hw : k_Wf sc A) (hv1 : k_isK v1 4) (h : gX8_keepsWaysAndRests_b80 k10g A v1 v4 v5 v6 = some (r, A')) : fX8_keepsWaysAndRests_b80 k10f A 0 v1 v4 v5 v6 = some (r, A') ∧ k_Wf sc A' := by
  unfold gX8_keepsWaysAndRests_b80 at h
  unfold fX8_keepsWaysAndRests_b80
  exact sgX8_keepsWaysAndRests_b85 k10f k10g hk10 _ _ _ _ _ _ _ _ hw hv1 h
set_option maxRecDepth 100000 in
theorem sgX8_keepsWaysAndRests_h10 {sc : k_SC} : ∀ (N : Nat) (A : k_H) (v1 v2 v3 v4 v5 : Int) (r : Int) (A' : k_H), k_Wf sc A → k_isK v1 4 → gX8_keepsWaysAndRests_h10 N A v1 v2 v3 v4 v5 = some (r, A') → fX8_keepsWaysAndRests_h10 N A 0 v1 v2 v3 v4 v5 = some (r, A') ∧ k_Wf sc A' := by
  intro N
  induction N with
  | zero => intro A v1 v2 v3 v4 v5 r A' hw hv1 h; exact absurd h (by simp [gX8_keepsWaysAndRests_h10])
  | succ N ih =>
    intro A v1 v2 v3 v4 v5 r A' hw hv1 h
    rw [gX8_keepsWaysAndRests_h10] at h
    rw [fX8_keepsWaysAndRests_h10]
    by_cases c1 : v5 < 14
    · rw [if_pos c1] at h
      rw [if_pos c1]
      rw [if_pos (k_wO hw hv1)]
      try rw [k_p4_1 hw hv1]
      obtain ⟨hc2, h⟩ := k_pk h
      rw [if_pos (k_wA hw ((k_q4_1 hv1)) hc2)]
      rw [if_pos (k_wO hw k_K0)]
      obtain ⟨r3, A4, hq5, h⟩ := k_pb h
      have hw6 := sgX8_isHall hw  hq5
      rw [hw6.1]
      rw [k_bds]
      by_cases c7 : r3 = 0
      · rw [if_pos c7] at h
        rw [if_pos c7]
        exact sgX8_keepsWaysAndRests_b109 (fX8_keepsWaysAndRests_h10 N) (gX8_keepsWaysAndRests_h10 N) ih _ _ _ _ _ _ _ _ hw6.2 hv1 h
      · rw [if_neg c7] at h
        rw [if_neg c7]
        rw [if_pos (k_wO hw6.2 k_K0)]
        obtain ⟨r8, A9, hq10, h⟩ := k_pb h
        have hw11 := sgX8_isHall hw6.2  hq10
        rw [hw11.1]
        rw [k_bds]
        by_cases c12 : r8 = 0
        · rw [if_pos c12] at h
          rw [if_pos c12]
          exact sgX8_keepsWaysAndRests_b80 (fX8_keepsWaysAndRests_h10 N) (gX8_keepsWaysAndRests_h10 N) ih _ _ _ _ _ _ _ hw11.2 hv1 h
        · rw [if_neg c12] at h
          rw [if_neg c12]
          rw [if_pos (k_wO hw11.2 k_K0)]
          try rw [k_p8_1 hw11.2]
          obtain ⟨hc13, h⟩ := k_pk h
          rw [if_pos (k_wA hw11.2 (k_R3) hc13)]
          try rw [k_a23 hw11.2 hc13]
          try rw [k_p8_1 hw11.2]
          obtain ⟨hc14, h⟩ := k_pk h
          rw [if_pos (k_wA hw11.2 (k_R3) hc14)]
          try rw [k_a23 hw11.2 hc14]
          rw [if_pos (k_wO hw11.2 (k_b23 hc13))]
          obtain ⟨r15, A16, hq17, h⟩ := k_pb h
          have hw18 := sgX1_milesTo hw11.2 (k_b23 hc13) (k_b23 hc14) hq17
          rw [hw18.1]
          rw [k_bds]
          rw [if_pos (k_wO hw18.2 hv1)]
          by_cases c19 : r15 ≤ k_wr ((k_rd A16 v1 8) * k_wr (v5 - v3))
          · rw [if_pos c19] at h
            rw [if_pos c19]
            exact sgX8_keepsWaysAndRests_b80 (fX8_keepsWaysAndRests_h10 N) (gX8_keepsWaysAndRests_h10 N) ih _ _ _ _ _ _ _ hw18.2 hv1 h
          · rw [if_neg c19] at h
            rw [if_neg c19]
            exact sgX8_keepsWaysAndRests_b85 (fX8_keepsWaysAndRests_h10 N) (gX8_keepsWaysAndRests_h10 N) ih _ _ _ _ _ _ _ _ hw18.2 hv1 h
    · rw [if_neg c1] at h
      rw [if_neg c1]
      obtain ⟨rfl, rfl⟩ := k_pr h
      exact ⟨rfl, hw⟩
set_option maxRecDepth 100000 in
theorem sgX8_keepsWaysAndRests_b0 {sc : k_SC} (A : k_H) (v1 : Int) (r : Int) (A' : k_H) (hw : k_Wf sc A) (hv1 : k_isK v1 4) (h : gX8_keepsWaysAndRests_b0 A v1 = some (r, A')) : fX8_keepsWaysAndRests_b0 A 0 v1 = some (r, A') ∧ k_Wf sc A' := by
  unfold gX8_keepsWaysAndRests_b0 at h
  unfold fX8_keepsWaysAndRests_b0
  exact sgX8_keepsWaysAndRests_h10  _ _ _ _ _ _ _ _ _ hw hv1 h
theorem sgX8_keepsWaysAndRests {sc : k_SC} {A : k_H} {x1 : Int} {r : Int} {A' : k_H} (hw : k_Wf sc A) (hx1 : k_isK x1 4) (h : gX8_keepsWaysAndRests A x1 = some (r, A')) : fX8_keepsWaysAndRests A 0 x1 = some (r, A') ∧ k_Wf sc A' :=
  sgX8_keepsWaysAndRests_b0 _ _ _ _ hw hx1 h
/-! X7_nextToken -/
def gX7_nextToken_b120 (A : k_H) (s1 : Int) : Option (Int × k_H) := k_lt (k_wt A 18 10 s1) fun A1 => some (0, A1)
def gX7_nextToken_b91 (A : k_H) : Option (Int × k_H) := k_bd (gX7_readRun A) fun r1 A2 => some (0, A2)
def gX7_nextToken_b44 (A : k_H) : Option (Int × k_H) := k_lt (k_wt A 18 9 (k_rd A 18 8)) fun A1 => k_bd (gX5_byteAt A1 22 (k_rd A1 18 8)) fun r4 A5 => if r4 = (-1) then (k_lt (k_wt A5 18 10 4) fun A23 => some (0, A23)) else (k_bd (gX7_isLetter A5 r4) fun r9 A10 => if r9 = 0 then (k_bd (gX7_isDigit A10 r4) fun r14 A15 => if r14 = 0 then (k_lt (k_wt A15 18 8 (k_wr ((k_rd A15 18 8) + 1))) fun A19 => if r4 = 59 then (gX7_nextToken_b120 A19 3) else (gX7_nextToken_b120 A19 0)) else (gX7_nextToken_b91 A15)) else (gX7_nextToken_b91 A10))
def gX7_nextToken_h0 : Nat → k_H → Option (Int × k_H)
  | 0, _ => none
  | N + 1, A => if (k_rd A 18 8) < (k_rd A 22 1) then (k_bd (gX5_byteAt A 22 (k_rd A 18 8)) fun r2 A3 => k_bd (gX7_isBlank A3 r2) fun r6 A7 => if r6 = 0 then (gX7_nextToken_b44 A7) else (k_lt (k_wt A7 18 8 (k_wr ((k_rd A7 18 8) + 1))) fun A11 => (gX7_nextToken_h0 N) A11)) else (gX7_nextToken_b44 A)
def gX7_nextToken (A : k_H) : Option (Int × k_H) := gX7_nextToken_h0 k_FU A
set_option maxRecDepth 100000 in
theorem sgX7_nextToken_b120 {sc : k_SC} (A : k_H) (s1 : Int) (r : Int) (A' : k_H) (hw : k_Wf sc A) (h : gX7_nextToken_b120 A s1 = some (r, A')) : fX7_nextToken_b120 A 18 s1 = some (r, A') ∧ k_Wf sc A' := by
  unfold gX7_nextToken_b120 at h
  unfold fX7_nextToken_b120
  rw [if_pos (k_wO hw k_K18)]
  obtain ⟨A1, eA2, h⟩ := k_pl h
  have hw3 := k_wE eA2 (k_wo hw k_K18 10 (by decide))
  refine k_ltg eA2 ?_
  obtain ⟨rfl, rfl⟩ := k_pr h
  exact ⟨rfl, hw3⟩
set_option maxRecDepth 100000 in
theorem sgX7_nextToken_b91 {sc : k_SC} (A : k_H) (r : Int) (A' : k_H) (hw : k_Wf sc A) (h : gX7_nextToken_b91 A = some (r, A')) : fX7_nextToken_b91 A 18 = some (r, A') ∧ k_Wf sc A' := by
  unfold gX7_nextToken_b91 at h
  unfold fX7_nextToken_b91
  rw [if_pos (k_wO hw k_K18)]
  obtain ⟨r1, A2, hq3, h⟩ := k_pb h
  have hw4 := sgX7_readRun hw  hq3
  rw [hw4.1]
  rw [k_bds]
  obtain ⟨rfl, rfl⟩ := k_pr h
  exact ⟨rfl, hw4.2⟩
set_option maxRecDepth 100000 in
theorem sgX7_nextToken_b44 {sc : k_SC} (A : k_H) (r : Int) (A' : k_H) (hw : k_Wf sc A) (h : gX7_nextToken_b44 A = some (r, A')) : fX7_nextToken_b44 A 18 = some (r, A') ∧ k_Wf sc A' := by
  unfold gX7_nextToken_b44 at h
  unfold fX7_nextToken_b44
  rw [if_pos (k_wO hw k_K18)]
  obtain ⟨A1, eA2, h⟩ := k_pl h
  have hw3 := k_wE eA2 (k_wo hw k_K18 9 (by decide))
  refine k_ltg eA2 ?_
  try rw [k_p7_4 hw3]
  rw [if_pos (k_wO hw3 k_K22)]
  obtain ⟨r4, A5, hq6, h⟩ := k_pb h
  have hw7 := sgX5_byteAt hw3 k_K22 hq6
  rw [hw7.1]
  rw [k_bds]
  by_cases c8 : r4 = (-1)
  · rw [if_pos c8] at h
    rw [if_pos c8]
    rw [if_pos (k_wO hw7.2 k_K18)]
    obtain ⟨A23, eA24, h⟩ := k_pl h
    have hw25 := k_wE eA24 (k_wo hw7.2 k_K18 10 (by decide))
    refine k_ltg eA24 ?_
    obtain ⟨rfl, rfl⟩ := k_pr h
    exact ⟨rfl, hw25⟩
  · rw [if_neg c8] at h
    rw [if_neg c8]
    obtain ⟨r9, A10, hq11, h⟩ := k_pb h
    have hw12 := sgX7_isLetter hw7.2  hq11
    rw [hw12.1]
    rw [k_bds]
    by_cases c13 : r9 = 0
    · rw [if_pos c13] at h
      rw [if_pos c13]
      obtain ⟨r14, A15, hq16, h⟩ := k_pb h
      have hw17 := sgX7_isDigit hw12.2  hq16
      rw [hw17.1]
      rw [k_bds]
      by_cases c18 : r14 = 0
      · rw [if_pos c18] at h
        rw [if_pos c18]
        rw [if_pos (k_wO hw17.2 k_K18)]
        obtain ⟨A19, eA20, h⟩ := k_pl h
        have hw21 := k_wE eA20 (k_wo hw17.2 k_K18 8 (by decide))
        refine k_ltg eA20 ?_
        by_cases c22 : r4 = 59
        · rw [if_pos c22] at h
          rw [if_pos c22]
          exact sgX7_nextToken_b120  _ _ _ _ hw21 h
        · rw [if_neg c22] at h
          rw [if_neg c22]
          exact sgX7_nextToken_b120  _ _ _ _ hw21 h
      · rw [if_neg c18] at h
        rw [if_neg c18]
        exact sgX7_nextToken_b91  _ _ _ hw17.2 h
    · rw [if_neg c13] at h
      rw [if_neg c13]
      exact sgX7_nextToken_b91  _ _ _ hw12.2 h
set_option maxRecDepth 100000 in
theorem sgX7_nextToken_h0 {sc : k_SC} : ∀ (N : Nat) (A : k_H) (r : Int) (A' : k_H), k_Wf sc A → gX7_nextToken_h0 N A = some (r, A') → fX7_nextToken_h0 N A 18 = some (r, A') ∧ k_Wf sc A' := by
  intro N
  induction N with
  | zero => intro A  r A' hw  h; exact absurd h (by simp [gX7_nextToken_h0])
  | succ N ih =>
    intro A  r A' hw  h
    rw [gX7_nextToken_h0] at h
    rw [fX7_nextToken_h0]
    rw [if_pos (k_wO hw k_K18)]
    try rw [k_p7_4 hw]
    rw [if_pos (k_wO hw k_K22)]
    by_cases c1 : (k_rd A 18 8) < (k_rd A 22 1)
    · rw [if_pos c1] at h
      rw [if_pos c1]
      try rw [k_p7_4 hw]
      obtain ⟨r2, A3, hq4, h⟩ := k_pb h
      have hw5 := sgX5_byteAt hw k_K22 hq4
      rw [hw5.1]
      rw [k_bds]
      obtain ⟨r6, A7, hq8, h⟩ := k_pb h
      have hw9 := sgX7_isBlank hw5.2  hq8
      rw [hw9.1]
      rw [k_bds]
      by_cases c10 : r6 = 0
      · rw [if_pos c10] at h
        rw [if_pos c10]
        exact sgX7_nextToken_b44  _ _ _ hw9.2 h
      · rw [if_neg c10] at h
        rw [if_neg c10]
        rw [if_pos (k_wO hw9.2 k_K18)]
        obtain ⟨A11, eA12, h⟩ := k_pl h
        have hw13 := k_wE eA12 (k_wo hw9.2 k_K18 8 (by decide))
        refine k_ltg eA12 ?_
        exact ih _ _ _ hw13 h
    · rw [if_neg c1] at h
      rw [if_neg c1]
      exact sgX7_nextToken_b44  _ _ _ hw h
theorem sgX7_nextToken {sc : k_SC} {A : k_H} {r : Int} {A' : k_H} (hw : k_Wf sc A) (h : gX7_nextToken A  = some (r, A')) : fX7_nextToken A 18 = some (r, A') ∧ k_Wf sc A' :=
  sgX7_nextToken_h0 k_FU _ _ _ hw h
/-! X8_on -/
def gX8_on_b0 (A : k_H) (v1 v2 : Int) : Option (Int × k_H) := k_bd (gX8_isShow A v1) fun r1 A2 => if r1 = 0 then (some ((-1), A2)) else (k_bd (gX8_isNight A2 v2) fun r6 A7 => if r6 = 0 then (some ((-1), A7)) else (if 0 ≤ v1 ∧ v1 < ((6 : Nat) : Int) then (if 0 ≤ v2 ∧ v2 < ((14 : Nat) : Int) then (some ((k_rd A7 ((72 + 8 * v1) + 3) v2), A7)) else none) else none))
def gX8_on (A : k_H) (x1 x2 : Int) : Option (Int × k_H) := gX8_on_b0 A x1 x2
set_option maxRecDepth 100000 in
theorem sgX8_on_b0 {sc : k_SC} (A : k_H) (v1 v2 : Int) (r : Int) (A' : k_H) (hw : k_Wf sc A) (h : gX8_on_b0 A v1 v2 = some (r, A')) : fX8_on_b0 A 0 v1 v2 = some (r, A') ∧ k_Wf sc A' := by
  unfold gX8_on_b0 at h
  unfold fX8_on_b0
  rw [if_pos (k_wO hw k_K0)]
  obtain ⟨r1, A2, hq3, h⟩ := k_pb h
  have hw4 := sgX8_isShow hw  hq3
  rw [hw4.1]
  rw [k_bds]
  by_cases c5 : r1 = 0
  · rw [if_pos c5] at h
    rw [if_pos c5]
    obtain ⟨rfl, rfl⟩ := k_pr h
    exact ⟨rfl, hw4.2⟩
  · rw [if_neg c5] at h
    rw [if_neg c5]
    obtain ⟨r6, A7, hq8, h⟩ := k_pb h
    have hw9 := sgX8_isNight hw4.2  hq8
    rw [hw9.1]
    rw [k_bds]
    by_cases c10 : r6 = 0
    · rw [if_pos c10] at h
      rw [if_pos c10]
      obtain ⟨rfl, rfl⟩ := k_pr h
      exact ⟨rfl, hw9.2⟩
    · rw [if_neg c10] at h
      rw [if_neg c10]
      rw [if_pos (k_wO hw9.2 k_K0)]
      try rw [k_p8_2 hw9.2]
      obtain ⟨hc11, h⟩ := k_pk h
      rw [if_pos (k_wA hw9.2 (k_R4) hc11)]
      try rw [k_a24 hw9.2 hc11]
      rw [if_pos (k_wO hw9.2 (k_b24 hc11))]
      try rw [k_p4_1 hw9.2 (k_b24 hc11)]
      obtain ⟨hc12, h⟩ := k_pk h
      rw [if_pos (k_wA hw9.2 ((k_q4_1 (k_b24 hc11))) hc12)]
      obtain ⟨rfl, rfl⟩ := k_pr h
      exact ⟨rfl, hw9.2⟩
theorem sgX8_on {sc : k_SC} {A : k_H} {x1 x2 : Int} {r : Int} {A' : k_H} (hw : k_Wf sc A) (h : gX8_on A x1 x2 = some (r, A')) : fX8_on A 0 x1 x2 = some (r, A') ∧ k_Wf sc A' :=
  sgX8_on_b0 _ _ _ _ _ hw h
/-! X8_worth -/
def gX8_worth_b0 (A : k_H) (v1 : Int) : Option (Int × k_H) := k_bd (gX8_isShow A v1) fun r1 A2 => if r1 = 0 then (some ((-1), A2)) else (k_bd (gX8_worthOfTour A2 v1) fun r6 A7 => some (r6, A7))
def gX8_worth (A : k_H) (x1 : Int) : Option (Int × k_H) := gX8_worth_b0 A x1
set_option maxRecDepth 100000 in
theorem sgX8_worth_b0 {sc : k_SC} (A : k_H) (v1 : Int) (r : Int) (A' : k_H) (hw : k_Wf sc A) (h : gX8_worth_b0 A v1 = some (r, A')) : fX8_worth_b0 A 0 v1 = some (r, A') ∧ k_Wf sc A' := by
  unfold gX8_worth_b0 at h
  unfold fX8_worth_b0
  rw [if_pos (k_wO hw k_K0)]
  obtain ⟨r1, A2, hq3, h⟩ := k_pb h
  have hw4 := sgX8_isShow hw  hq3
  rw [hw4.1]
  rw [k_bds]
  by_cases c5 : r1 = 0
  · rw [if_pos c5] at h
    rw [if_pos c5]
    obtain ⟨rfl, rfl⟩ := k_pr h
    exact ⟨rfl, hw4.2⟩
  · rw [if_neg c5] at h
    rw [if_neg c5]
    rw [if_pos (k_wO hw4.2 k_K0)]
    obtain ⟨r6, A7, hq8, h⟩ := k_pb h
    have hw9 := sgX8_worthOfTour hw4.2  hq8
    rw [hw9.1]
    rw [k_bds]
    obtain ⟨rfl, rfl⟩ := k_pr h
    exact ⟨rfl, hw9.2⟩
theorem sgX8_worth {sc : k_SC} {A : k_H} {x1 : Int} {r : Int} {A' : k_H} (hw : k_Wf sc A) (h : gX8_worth A x1 = some (r, A')) : fX8_worth A 0 x1 = some (r, A') ∧ k_Wf sc A' :=
  sgX8_worth_b0 _ _ _ _ hw h
/-! X8_door -/
def gX8_door_b0 (A : k_H) (v1 v2 v3 : Int) : Option (Int × k_H) := k_bd (gX8_isShow A v1) fun r1 A2 => if r1 = 0 then (some (0, A2)) else (k_bd (gX8_isNight A2 v2) fun r6 A7 => if r6 = 0 then (some (0, A7)) else (k_bd (gX8_isWithin A7 v3 0 1000000) fun r11 A12 => if r11 = 0 then (some (0, A12)) else (if 0 ≤ v1 ∧ v1 < ((6 : Nat) : Int) then (if 0 ≤ v2 ∧ v2 < ((14 : Nat) : Int) then (if (k_rd A12 ((72 + 8 * v1) + 3) v2) = (-1) then (some (0, A12)) else (if 0 ≤ v2 ∧ v2 < ((14 : Nat) : Int) then (k_lt (k_wt A12 ((72 + 8 * v1) + 4) v2 v3) fun A20 => some (1, A20)) else none)) else none) else none)))
def gX8_door (A : k_H) (x1 x2 x3 : Int) : Option (Int × k_H) := gX8_door_b0 A x1 x2 x3
set_option maxRecDepth 100000 in
theorem sgX8_door_b0 {sc : k_SC} (A : k_H) (v1 v2 v3 : Int) (r : Int) (A' : k_H) (hw : k_Wf sc A) (h : gX8_door_b0 A v1 v2 v3 = some (r, A')) : fX8_door_b0 A 0 v1 v2 v3 = some (r, A') ∧ k_Wf sc A' := by
  unfold gX8_door_b0 at h
  unfold fX8_door_b0
  rw [if_pos (k_wO hw k_K0)]
  obtain ⟨r1, A2, hq3, h⟩ := k_pb h
  have hw4 := sgX8_isShow hw  hq3
  rw [hw4.1]
  rw [k_bds]
  by_cases c5 : r1 = 0
  · rw [if_pos c5] at h
    rw [if_pos c5]
    obtain ⟨rfl, rfl⟩ := k_pr h
    exact ⟨rfl, hw4.2⟩
  · rw [if_neg c5] at h
    rw [if_neg c5]
    obtain ⟨r6, A7, hq8, h⟩ := k_pb h
    have hw9 := sgX8_isNight hw4.2  hq8
    rw [hw9.1]
    rw [k_bds]
    by_cases c10 : r6 = 0
    · rw [if_pos c10] at h
      rw [if_pos c10]
      obtain ⟨rfl, rfl⟩ := k_pr h
      exact ⟨rfl, hw9.2⟩
    · rw [if_neg c10] at h
      rw [if_neg c10]
      obtain ⟨r11, A12, hq13, h⟩ := k_pb h
      have hw14 := sgX8_isWithin hw9.2  hq13
      rw [hw14.1]
      rw [k_bds]
      by_cases c15 : r11 = 0
      · rw [if_pos c15] at h
        rw [if_pos c15]
        obtain ⟨rfl, rfl⟩ := k_pr h
        exact ⟨rfl, hw14.2⟩
      · rw [if_neg c15] at h
        rw [if_neg c15]
        rw [if_pos (k_wO hw14.2 k_K0)]
        try rw [k_p8_2 hw14.2]
        obtain ⟨hc16, h⟩ := k_pk h
        rw [if_pos (k_wA hw14.2 (k_R4) hc16)]
        try rw [k_a24 hw14.2 hc16]
        rw [if_pos (k_wO hw14.2 (k_b24 hc16))]
        try rw [k_p4_1 hw14.2 (k_b24 hc16)]
        obtain ⟨hc17, h⟩ := k_pk h
        rw [if_pos (k_wA hw14.2 ((k_q4_1 (k_b24 hc16))) hc17)]
        by_cases c18 : (k_rd A12 ((72 + 8 * v1) + 3) v2) = (-1)
        · rw [if_pos c18] at h
          rw [if_pos c18]
          obtain ⟨rfl, rfl⟩ := k_pr h
          exact ⟨rfl, hw14.2⟩
        · rw [if_neg c18] at h
          rw [if_neg c18]
          try rw [k_p8_2 hw14.2]
          try rw [k_a24 hw14.2 hc16]
          try rw [k_p4_2 hw14.2 (k_b24 hc16)]
          obtain ⟨hc19, h⟩ := k_pk h
          rw [if_pos (k_wA hw14.2 ((k_q4_2 (k_b24 hc16))) hc19)]
          obtain ⟨A20, eA21, h⟩ := k_pl h
          have hw22 := k_wE eA21 (k_wa hw14.2 (k_q4_2 (k_b24 hc16)) (by decide))
          refine k_ltg eA21 ?_
          obtain ⟨rfl, rfl⟩ := k_pr h
          exact ⟨rfl, hw22⟩
theorem sgX8_door {sc : k_SC} {A : k_H} {x1 x2 x3 : Int} {r : Int} {A' : k_H} (hw : k_Wf sc A) (h : gX8_door A x1 x2 x3 = some (r, A')) : fX8_door A 0 x1 x2 x3 = some (r, A') ∧ k_Wf sc A' :=
  sgX8_door_b0 _ _ _ _ _ _ hw h
/-! X8_isHallBuild -/
def gX8_isHallBuild_b0 (A : k_H) (v1 v2 : Int) : Option (Int × k_H) := k_bd (gX8_isSize A v1) fun r1 A2 => if r1 = 0 then (some (0, A2)) else (k_bd (gX8_isSize A2 v2) fun r6 A7 => if r6 = 0 then (some (0, A7)) else (k_bd (gX5_holdsAmps A7 1 1 4) fun r11 A12 => if r11 = 0 then (some (0, A12)) else (some (1, A12))))
def gX8_isHallBuild (A : k_H) (x1 x2 : Int) : Option (Int × k_H) := gX8_isHallBuild_b0 A x1 x2
set_option maxRecDepth 100000 in
theorem sgX8_isHallBuild_b0 {sc : k_SC} (A : k_H) (v1 v2 : Int) (r : Int) (A' : k_H) (hw : k_Wf sc A) (h : gX8_isHallBuild_b0 A v1 v2 = some (r, A')) : fX8_isHallBuild_b0 A 0 v1 v2 = some (r, A') ∧ k_Wf sc A' := by
  unfold gX8_isHallBuild_b0 at h
  unfold fX8_isHallBuild_b0
  obtain ⟨r1, A2, hq3, h⟩ := k_pb h
  have hw4 := sgX8_isSize hw  hq3
  rw [hw4.1]
  rw [k_bds]
  by_cases c5 : r1 = 0
  · rw [if_pos c5] at h
    rw [if_pos c5]
    obtain ⟨rfl, rfl⟩ := k_pr h
    exact ⟨rfl, hw4.2⟩
  · rw [if_neg c5] at h
    rw [if_neg c5]
    obtain ⟨r6, A7, hq8, h⟩ := k_pb h
    have hw9 := sgX8_isSize hw4.2  hq8
    rw [hw9.1]
    rw [k_bds]
    by_cases c10 : r6 = 0
    · rw [if_pos c10] at h
      rw [if_pos c10]
      obtain ⟨rfl, rfl⟩ := k_pr h
      exact ⟨rfl, hw9.2⟩
    · rw [if_neg c10] at h
      rw [if_neg c10]
      rw [if_pos (k_wO hw9.2 k_K0)]
      try rw [k_p8_0 hw9.2]
      rw [if_pos (k_wO hw9.2 k_K1)]
      obtain ⟨r11, A12, hq13, h⟩ := k_pb h
      have hw14 := sgX5_holdsAmps hw9.2 k_K1 hq13
      rw [hw14.1]
      rw [k_bds]
      by_cases c15 : r11 = 0
      · rw [if_pos c15] at h
        rw [if_pos c15]
        obtain ⟨rfl, rfl⟩ := k_pr h
        exact ⟨rfl, hw14.2⟩
      · rw [if_neg c15] at h
        rw [if_neg c15]
        obtain ⟨rfl, rfl⟩ := k_pr h
        exact ⟨rfl, hw14.2⟩
theorem sgX8_isHallBuild {sc : k_SC} {A : k_H} {x1 x2 : Int} {r : Int} {A' : k_H} (hw : k_Wf sc A) (h : gX8_isHallBuild A x1 x2 = some (r, A')) : fX8_isHallBuild A 0 x1 x2 = some (r, A') ∧ k_Wf sc A' :=
  sgX8_isHallBuild_b0 _ _ _ _ _ hw h
/-! X8_canMove -/
def gX8_canMove_b0 (A : k_H) (v1 v2 v3 : Int) : Option (Int × k_H) := if 0 ≤ v3 ∧ v3 < ((14 : Nat) : Int) then (if (k_rd A (v1 + 3) v3) = (-1) then (k_bd (gX8_showAt A v2 v3) fun r3 A4 => if r3 = (-1) then (k_lt (k_wt A4 (v1 + 3) v3 v2) fun A8 => k_bd (gX8_keepsWaysAndRests A8 v1) fun r11 A12 => k_lt (k_wt A12 (v1 + 3) v3 (-1)) fun A15 => if r11 = 0 ∨ r11 = 1 then (some (r11, A15)) else none) else (some (0, A4))) else (some (0, A))) else none
def gX8_canMove (A : k_H) (x1 x2 x3 : Int) : Option (Int × k_H) := gX8_canMove_b0 A x1 x2 x3
set_option maxRecDepth 100000 in
theorem sgX8_canMove_b0 {sc : k_SC} (A : k_H) (v1 v2 v3 : Int) (r : Int) (A' : k_H) (hw : k_Wf sc A) (hv1 : k_isK v1 4) (h : gX8_canMove_b0 A v1 v2 v3 = some (r, A')) : fX8_canMove_b0 A 0 v1 v2 v3 = some (r, A') ∧ k_Wf sc A' := by
  unfold gX8_canMove_b0 at h
  unfold fX8_canMove_b0
  rw [if_pos (k_wO hw hv1)]
  try rw [k_p4_1 hw hv1]
  obtain ⟨hc1, h⟩ := k_pk h
  rw [if_pos (k_wA hw ((k_q4_1 hv1)) hc1)]
  by_cases c2 : (k_rd A (v1 + 3) v3) = (-1)
  · rw [if_pos c2] at h
    rw [if_pos c2]
    rw [if_pos (k_wO hw k_K0)]
    obtain ⟨r3, A4, hq5, h⟩ := k_pb h
    have hw6 := sgX8_showAt hw  hq5
    rw [hw6.1]
    rw [k_bds]
    by_cases c7 : r3 = (-1)
    · rw [if_pos c7] at h
      rw [if_pos c7]
      rw [if_pos (k_wO hw6.2 hv1)]
      try rw [k_p4_1 hw6.2 hv1]
      rw [if_pos (k_wA hw6.2 ((k_q4_1 hv1)) hc1)]
      obtain ⟨A8, eA9, h⟩ := k_pl h
      have hw10 := k_wE eA9 (k_wa hw6.2 (k_q4_1 hv1) (by decide))
      refine k_ltg eA9 ?_
      rw [if_pos (k_wO hw10 k_K0)]
      obtain ⟨r11, A12, hq13, h⟩ := k_pb h
      have hw14 := sgX8_keepsWaysAndRests hw10 hv1 hq13
      rw [hw14.1]
      rw [k_bds]
      rw [if_pos (k_wO hw14.2 hv1)]
      try rw [k_p4_1 hw14.2 hv1]
      rw [if_pos (k_wA hw14.2 ((k_q4_1 hv1)) hc1)]
      obtain ⟨A15, eA16, h⟩ := k_pl h
      have hw17 := k_wE eA16 (k_wa hw14.2 (k_q4_1 hv1) (by decide))
      refine k_ltg eA16 ?_
      obtain ⟨hc18, h⟩ := k_pk h
      rw [if_pos hc18]
      obtain ⟨rfl, rfl⟩ := k_pr h
      exact ⟨rfl, hw17⟩
    · rw [if_neg c7] at h
      rw [if_neg c7]
      obtain ⟨rfl, rfl⟩ := k_pr h
      exact ⟨rfl, hw6.2⟩
  · rw [if_neg c2] at h
    rw [if_neg c2]
    obtain ⟨rfl, rfl⟩ := k_pr h
    exact ⟨rfl, hw⟩
theorem sgX8_canMove {sc : k_SC} {A : k_H} {x1 x2 x3 : Int} {r : Int} {A' : k_H} (hw : k_Wf sc A) (hx1 : k_isK x1 4) (h : gX8_canMove A x1 x2 x3 = some (r, A')) : fX8_canMove A 0 x1 x2 x3 = some (r, A') ∧ k_Wf sc A' :=
  sgX8_canMove_b0 _ _ _ _ _ _ hw hx1 h
/-! X7_readNumber -/
def gX7_readNumber_b37 (A : k_H) : Option (Int × k_H) := some (1, A)
def gX7_readNumber_b0 (A : k_H) (v1 v2 : Int) : Option (Int × k_H) := k_bd (gX7_nextToken A) fun r1 A2 => if (k_rd A2 18 10) = 2 then (k_bd (gX8_isWithin A2 (k_rd A2 18 11) v1 v2) fun r6 A7 => if r6 = 0 then (k_bd (gX7_refuse A7 3) fun r11 A12 => if r11 = 0 then (some (0, A12)) else (gX7_readNumber_b37 A12)) else (gX7_readNumber_b37 A7)) else (k_bd (gX7_refuseToken A2) fun r16 A17 => if r16 = 0 ∨ r16 = 1 then (some (r16, A17)) else none)
def gX7_readNumber (A : k_H) (x1 x2 : Int) : Option (Int × k_H) := gX7_readNumber_b0 A x1 x2
set_option maxRecDepth 100000 in
theorem sgX7_readNumber_b37 {sc : k_SC} (A : k_H) (r : Int) (A' : k_H) (hw : k_Wf sc A) (h : gX7_readNumber_b37 A = some (r, A')) : fX7_readNumber_b37 A = some (r, A') ∧ k_Wf sc A' := by
  unfold gX7_readNumber_b37 at h
  unfold fX7_readNumber_b37
  obtain ⟨rfl, rfl⟩ := k_pr h
  exact ⟨rfl, hw⟩
set_option maxRecDepth 100000 in
theorem sgX7_readNumber_b0 {sc : k_SC} (A : k_H) (v1 v2 : Int) (r : Int) (A' : k_H) (hw : k_Wf sc A) (h : gX7_readNumber_b0 A v1 v2 = some (r, A')) : fX7_readNumber_b0 A 18 v1 v2 = some (r, A') ∧ k_Wf sc A' := by
  unfold gX7_readNumber_b0 at h
  unfold fX7_readNumber_b0
  rw [if_pos (k_wO hw k_K18)]
  obtain ⟨r1, A2, hq3, h⟩ := k_pb h
  have hw4 := sgX7_nextToken hw  hq3
  rw [hw4.1]
  rw [k_bds]
  rw [if_pos (k_wO hw4.2 k_K18)]
  by_cases c5 : (k_rd A2 18 10) = 2
  · rw [if_pos c5] at h
    rw [if_pos c5]
    obtain ⟨r6, A7, hq8, h⟩ := k_pb h
    have hw9 := sgX8_isWithin hw4.2  hq8
    rw [hw9.1]
    rw [k_bds]
    by_cases c10 : r6 = 0
    · rw [if_pos c10] at h
      rw [if_pos c10]
      rw [if_pos (k_wO hw9.2 k_K18)]
      obtain ⟨r11, A12, hq13, h⟩ := k_pb h
      have hw14 := sgX7_refuse hw9.2  hq13
      rw [hw14.1]
      rw [k_bds]
      by_cases c15 : r11 = 0
      · rw [if_pos c15] at h
        rw [if_pos c15]
        obtain ⟨rfl, rfl⟩ := k_pr h
        exact ⟨rfl, hw14.2⟩
      · rw [if_neg c15] at h
        rw [if_neg c15]
        exact sgX7_readNumber_b37  _ _ _ hw14.2 h
    · rw [if_neg c10] at h
      rw [if_neg c10]
      exact sgX7_readNumber_b37  _ _ _ hw9.2 h
  · rw [if_neg c5] at h
    rw [if_neg c5]
    obtain ⟨r16, A17, hq18, h⟩ := k_pb h
    have hw19 := sgX7_refuseToken hw4.2  hq18
    rw [hw19.1]
    rw [k_bds]
    obtain ⟨hc20, h⟩ := k_pk h
    rw [if_pos hc20]
    obtain ⟨rfl, rfl⟩ := k_pr h
    exact ⟨rfl, hw19.2⟩
theorem sgX7_readNumber {sc : k_SC} {A : k_H} {x1 x2 : Int} {r : Int} {A' : k_H} (hw : k_Wf sc A) (h : gX7_readNumber A x1 x2 = some (r, A')) : fX7_readNumber A 18 x1 x2 = some (r, A') ∧ k_Wf sc A' :=
  sgX7_readNumber_b0 _ _ _ _ _ hw h
/-! X7_readStop -/
def gX7_readStop_b19 (A : k_H) : Option (Int × k_H) := some (1, A)
def gX7_readStop_b0 (A : k_H) : Option (Int × k_H) := k_bd (gX7_nextToken A) fun r1 A2 => if (k_rd A2 18 10) = 3 then (gX7_readStop_b19 A2) else (k_bd (gX7_refuseToken A2) fun r6 A7 => if r6 = 0 then (some (0, A7)) else (gX7_readStop_b19 A7))
def gX7_readStop (A : k_H) : Option (Int × k_H) := gX7_readStop_b0 A
set_option maxRecDepth 100000 in
theorem sgX7_readStop_b19 {sc : k_SC} (A : k_H) (r : Int) (A' : k_H) (hw : k_Wf sc A) (h : gX7_readStop_b19 A = some (r, A')) : fX7_readStop_b19 A = some (r, A') ∧ k_Wf sc A' := by
  unfold gX7_readStop_b19 at h
  unfold fX7_readStop_b19
  obtain ⟨rfl, rfl⟩ := k_pr h
  exact ⟨rfl, hw⟩
set_option maxRecDepth 100000 in
theorem sgX7_readStop_b0 {sc : k_SC} (A : k_H) (r : Int) (A' : k_H) (hw : k_Wf sc A) (h : gX7_readStop_b0 A = some (r, A')) : fX7_readStop_b0 A 18 = some (r, A') ∧ k_Wf sc A' := by
  unfold gX7_readStop_b0 at h
  unfold fX7_readStop_b0
  rw [if_pos (k_wO hw k_K18)]
  obtain ⟨r1, A2, hq3, h⟩ := k_pb h
  have hw4 := sgX7_nextToken hw  hq3
  rw [hw4.1]
  rw [k_bds]
  rw [if_pos (k_wO hw4.2 k_K18)]
  by_cases c5 : (k_rd A2 18 10) = 3
  · rw [if_pos c5] at h
    rw [if_pos c5]
    exact sgX7_readStop_b19  _ _ _ hw4.2 h
  · rw [if_neg c5] at h
    rw [if_neg c5]
    obtain ⟨r6, A7, hq8, h⟩ := k_pb h
    have hw9 := sgX7_refuseToken hw4.2  hq8
    rw [hw9.1]
    rw [k_bds]
    by_cases c10 : r6 = 0
    · rw [if_pos c10] at h
      rw [if_pos c10]
      obtain ⟨rfl, rfl⟩ := k_pr h
      exact ⟨rfl, hw9.2⟩
    · rw [if_neg c10] at h
      rw [if_neg c10]
      exact sgX7_readStop_b19  _ _ _ hw9.2 h
theorem sgX7_readStop {sc : k_SC} {A : k_H} {r : Int} {A' : k_H} (hw : k_Wf sc A) (h : gX7_readStop A  = some (r, A')) : fX7_readStop A 18 = some (r, A') ∧ k_Wf sc A' :=
  sgX7_readStop_b0 _ _ _ hw h
/-! X8_hall -/
def gX8_hall_b109 (A : k_H) (v6 : Int) : Option (Int × k_H) := k_lt (k_wt A 1 1 0) fun A1 => some (v6, A1)
def gX8_hall_b44 (A : k_H) (v1 v2 v3 v4 s0 : Int) : Option (Int × k_H) := if s0 = 0 then (gX8_hall_b109 A (-1)) else (if 0 ≤ (k_rd A 0 6) ∧ (k_rd A 0 6) < ((12 : Nat) : Int) then (k_lt (k_wt A (24 + 4 * (k_rd A 0 6)) 2 v1) fun A3 => k_lt (k_wt A3 (24 + 4 * (k_rd A 0 6)) 3 v2) fun A6 => k_bd (gX1_build A6 (24 + 4 * (k_rd A 0 6)) v3 v4 1) fun r9 A10 => k_lt (k_wt A10 0 6 (k_wr ((k_rd A10 0 6) + 1))) fun A13 => gX8_hall_b109 A13 (k_rd A 0 6)) else none)
def gX8_hall_b43 (A : k_H) (v1 v2 v3 v4 : Int) : Option (Int × k_H) := gX8_hall_b44 A v1 v2 v3 v4 0
def gX8_hall_b0 (A : k_H) (v1 v2 v3 v4 : Int) : Option (Int × k_H) := if (k_rd A 0 6) < 12 then (k_bd (gX8_isWithin A v1 0 99) fun r2 A3 => if r2 = 0 then (gX8_hall_b43 A3 v1 v2 v3 v4) else (k_bd (gX8_isWithin A3 v2 0 99) fun r7 A8 => if r7 = 0 then (gX8_hall_b43 A8 v1 v2 v3 v4) else (k_bd (gX8_isHallBuild A8 v3 v4) fun r12 A13 => if r12 = 0 then (gX8_hall_b43 A13 v1 v2 v3 v4) else (gX8_hall_b44 A13 v1 v2 v3 v4 1)))) else (gX8_hall_b43 A v1 v2 v3 v4)
def gX8_hall (A : k_H) (x1 x2 x3 x4 : Int) : Option (Int × k_H) := gX8_hall_b0 A x1 x2 x3 x4
set_option maxRecDepth 100000 in
theorem sgX8_hall_b109 {sc : k_SC} (A : k_H) (v6 : Int) (r : Int) (A' : k_H) (hw : k_Wf sc A) (h : gX8_hall_b109 A v6 = some (r, A')) : fX8_hall_b109 A 0 v6 = some (r, A') ∧ k_Wf sc A' := by
  unfold gX8_hall_b109 at h
  unfold fX8_hall_b109
  rw [if_pos (k_wO hw k_K0)]
  try rw [k_p8_0 hw]
  rw [if_pos (k_wO hw k_K1)]
  obtain ⟨A1, eA2, h⟩ := k_pl h
  have hw3 := k_wE eA2 (k_wo hw k_K1 1 (by decide))
  refine k_ltg eA2 ?_
  obtain ⟨rfl, rfl⟩ := k_pr h
  exact ⟨rfl, hw3⟩
set_option maxRecDepth 100000 in
theorem sgX8_hall_b44 {sc : k_SC} (A : k_H) (v1 v2 v3 v4 s0 : Int) (r : Int) (A' : k_H) (hw : k_Wf sc A) (h : gX8_hall_b44 A v1 v2 v3 v4 s0 = some (r, A')) : fX8_hall_b44 A 0 v1 v2 v3 v4 s0 = some (r, A') ∧ k_Wf sc A' := by
  unfold gX8_hall_b44 at h
  unfold fX8_hall_b44
  by_cases c1 : s0 = 0
  · rw [if_pos c1] at h
    rw [if_pos c1]
    exact sgX8_hall_b109  _ _ _ _ hw h
  · rw [if_neg c1] at h
    rw [if_neg c1]
    rw [if_pos (k_wO hw k_K0)]
    try rw [k_p8_1 hw]
    obtain ⟨hc2, h⟩ := k_pk h
    rw [if_pos (k_wA hw (k_R3) hc2)]
    try rw [k_a23 hw hc2]
    rw [if_pos (k_wO hw (k_b23 hc2))]
    obtain ⟨A3, eA4, h⟩ := k_pl h
    have hw5 := k_wE eA4 (k_wo hw (k_b23 hc2) 2 (by decide))
    refine k_ltg eA4 ?_
    try rw [k_p8_1 hw5]
    rw [if_pos (k_wA hw5 (k_R3) hc2)]
    try rw [k_a23 hw5 hc2]
    rw [if_pos (k_wO hw5 (k_b23 hc2))]
    obtain ⟨A6, eA7, h⟩ := k_pl h
    have hw8 := k_wE eA7 (k_wo hw5 (k_b23 hc2) 3 (by decide))
    refine k_ltg eA7 ?_
    try rw [k_p8_1 hw8]
    rw [if_pos (k_wA hw8 (k_R3) hc2)]
    try rw [k_a23 hw8 hc2]
    try rw [k_p8_0 hw8]
    rw [if_pos (k_wO hw8 (k_b23 hc2))]
    obtain ⟨r9, A10, hq11, h⟩ := k_pb h
    have hw12 := sgX1_build hw8 (k_b23 hc2) k_K1 hq11
    rw [hw12.1]
    rw [k_bds]
    rw [if_pos (k_wO hw12.2 k_K0)]
    obtain ⟨A13, eA14, h⟩ := k_pl h
    have hw15 := k_wE eA14 (k_wo hw12.2 k_K0 6 (by decide))
    refine k_ltg eA14 ?_
    exact sgX8_hall_b109  _ _ _ _ hw15 h
set_option maxRecDepth 100000 in
theorem sgX8_hall_b43 {sc : k_SC} (A : k_H) (v1 v2 v3 v4 : Int) (r : Int) (A' : k_H) (hw : k_Wf sc A) (h : gX8_hall_b43 A v1 v2 v3 v4 = some (r, A')) : fX8_hall_b43 A 0 v1 v2 v3 v4 = some (r, A') ∧ k_Wf sc A' := by
  unfold gX8_hall_b43 at h
  unfold fX8_hall_b43
  exact sgX8_hall_b44  _ _ _ _ _ _ _ _ hw h
set_option maxRecDepth 100000 in
theorem sgX8_hall_b0 {sc : k_SC} (A : k_H) (v1 v2 v3 v4 : Int) (r : Int) (A' : k_H) (hw : k_Wf sc A) (h : gX8_hall_b0 A v1 v2 v3 v4 = some (r, A')) : fX8_hall_b0 A 0 v1 v2 v3 v4 = some (r, A') ∧ k_Wf sc A' := by
  unfold gX8_hall_b0 at h
  unfold fX8_hall_b0
  rw [if_pos (k_wO hw k_K0)]
  by_cases c1 : (k_rd A 0 6) < 12
  · rw [if_pos c1] at h
    rw [if_pos c1]
    obtain ⟨r2, A3, hq4, h⟩ := k_pb h
    have hw5 := sgX8_isWithin hw  hq4
    rw [hw5.1]
    rw [k_bds]
    by_cases c6 : r2 = 0
    · rw [if_pos c6] at h
      rw [if_pos c6]
      exact sgX8_hall_b43  _ _ _ _ _ _ _ hw5.2 h
    · rw [if_neg c6] at h
      rw [if_neg c6]
      obtain ⟨r7, A8, hq9, h⟩ := k_pb h
      have hw10 := sgX8_isWithin hw5.2  hq9
      rw [hw10.1]
      rw [k_bds]
      by_cases c11 : r7 = 0
      · rw [if_pos c11] at h
        rw [if_pos c11]
        exact sgX8_hall_b43  _ _ _ _ _ _ _ hw10.2 h
      · rw [if_neg c11] at h
        rw [if_neg c11]
        rw [if_pos (k_wO hw10.2 k_K0)]
        obtain ⟨r12, A13, hq14, h⟩ := k_pb h
        have hw15 := sgX8_isHallBuild hw10.2  hq14
        rw [hw15.1]
        rw [k_bds]
        by_cases c16 : r12 = 0
        · rw [if_pos c16] at h
          rw [if_pos c16]
          exact sgX8_hall_b43  _ _ _ _ _ _ _ hw15.2 h
        · rw [if_neg c16] at h
          rw [if_neg c16]
          exact sgX8_hall_b44  _ _ _ _ _ _ _ _ hw15.2 h
  · rw [if_neg c1] at h
    rw [if_neg c1]
    exact sgX8_hall_b43  _ _ _ _ _ _ _ hw h
theorem sgX8_hall {sc : k_SC} {A : k_H} {x1 x2 x3 x4 : Int} {r : Int} {A' : k_H} (hw : k_Wf sc A) (h : gX8_hall A x1 x2 x3 x4 = some (r, A')) : fX8_hall A 0 x1 x2 x3 x4 = some (r, A') ∧ k_Wf sc A' :=
  sgX8_hall_b0 _ _ _ _ _ _ _ hw h
/-! X8_show -/
def gX8_show_b144 (A : k_H) (v8 : Int) : Option (Int × k_H) := k_lt (k_wt A 1 1 0) fun A1 => some (v8, A1)
def gX8_show_b85 (A : k_H) (v1 v2 v3 v4 v5 v6 s0 : Int) : Option (Int × k_H) := if s0 = 0 then (gX8_show_b144 A (-1)) else (if 0 ≤ (k_rd A 0 7) ∧ (k_rd A 0 7) < ((6 : Nat) : Int) then (k_bd (gX4_build A (72 + 8 * (k_rd A 0 7)) v1 v2 1) fun r3 A4 => k_bd (gX4_plan A4 (72 + 8 * (k_rd A 0 7)) v3 v4 v5 v6) fun r7 A8 => k_lt (k_wt A8 0 7 (k_wr ((k_rd A8 0 7) + 1))) fun A11 => gX8_show_b144 A11 (k_rd A 0 7)) else none)
def gX8_show_b84 (A : k_H) (v1 v2 v3 v4 v5 v6 : Int) : Option (Int × k_H) := gX8_show_b85 A v1 v2 v3 v4 v5 v6 0
def gX8_show_b0 (A : k_H) (v1 v2 v3 v4 v5 v6 : Int) : Option (Int × k_H) := if (k_rd A 0 7) < 6 then (k_bd (gX8_isSize A v1) fun r2 A3 => if r2 = 0 then (gX8_show_b84 A3 v1 v2 v3 v4 v5 v6) else (k_bd (gX8_isSize A3 v2) fun r7 A8 => if r7 = 0 then (gX8_show_b84 A8 v1 v2 v3 v4 v5 v6) else (k_bd (gX8_isNight A8 v3) fun r12 A13 => if r12 = 0 then (gX8_show_b84 A13 v1 v2 v3 v4 v5 v6) else (k_bd (gX8_isNight A13 v4) fun r17 A18 => if r17 = 0 then (gX8_show_b84 A18 v1 v2 v3 v4 v5 v6) else (if v3 ≤ v4 then (k_bd (gX8_isWithin A18 v5 1 200) fun r23 A24 => if r23 = 0 then (gX8_show_b84 A24 v1 v2 v3 v4 v5 v6) else (k_bd (gX8_isWithin A24 v6 1 14) fun r28 A29 => if r28 = 0 then (gX8_show_b84 A29 v1 v2 v3 v4 v5 v6) else (k_bd (gX5_holdsAmps A29 1 0 8) fun r33 A34 => if r33 = 0 then (gX8_show_b84 A34 v1 v2 v3 v4 v5 v6) else (gX8_show_b85 A34 v1 v2 v3 v4 v5 v6 1)))) else (gX8_show_b84 A18 v1 v2 v3 v4 v5 v6)))))) else (gX8_show_b84 A v1 v2 v3 v4 v5 v6)
def gX8_show (A : k_H) (x1 x2 x3 x4 x5 x6 : Int) : Option (Int × k_H) := gX8_show_b0 A x1 x2 x3 x4 x5 x6
set_option maxRecDepth 100000 in
theorem sgX8_show_b144 {sc : k_SC} (A : k_H) (v8 : Int) (r : Int) (A' : k_H) (hw : k_Wf sc A) (h : gX8_show_b144 A v8 = some (r, A')) : fX8_show_b144 A 0 v8 = some (r, A') ∧ k_Wf sc A' := by
  unfold gX8_show_b144 at h
  unfold fX8_show_b144
  rw [if_pos (k_wO hw k_K0)]
  try rw [k_p8_0 hw]
  rw [if_pos (k_wO hw k_K1)]
  obtain ⟨A1, eA2, h⟩ := k_pl h
  have hw3 := k_wE eA2 (k_wo hw k_K1 1 (by decide))
  refine k_ltg eA2 ?_
  obtain ⟨rfl, rfl⟩ := k_pr h
  exact ⟨rfl, hw3⟩
set_option maxRecDepth 100000 in
theorem sgX8_show_b85 {sc : k_SC} (A : k_H) (v1 v2 v3 v4 v5 v6 s0 : Int) (r : Int) (A' : k_H) (hw : k_Wf sc A) (h : gX8_show_b85 A v1 v2 v3 v4 v5 v6 s0 = some (r, A')) : fX8_show_b85 A 0 v1 v2 v3 v4 v5 v6 s0 = some (r, A') ∧ k_Wf sc A' := by
  unfold gX8_show_b85 at h
  unfold fX8_show_b85
  by_cases c1 : s0 = 0
  · rw [if_pos c1] at h
    rw [if_pos c1]
    exact sgX8_show_b144  _ _ _ _ hw h
  · rw [if_neg c1] at h
    rw [if_neg c1]
    rw [if_pos (k_wO hw k_K0)]
    try rw [k_p8_2 hw]
    obtain ⟨hc2, h⟩ := k_pk h
    rw [if_pos (k_wA hw (k_R4) hc2)]
    try rw [k_a24 hw hc2]
    try rw [k_p8_0 hw]
    rw [if_pos (k_wO hw (k_b24 hc2))]
    obtain ⟨r3, A4, hq5, h⟩ := k_pb h
    have hw6 := sgX4_build hw (k_b24 hc2) k_K1 hq5
    rw [hw6.1]
    rw [k_bds]
    rw [if_pos (k_wO hw6.2 k_K0)]
    try rw [k_p8_2 hw6.2]
    rw [if_pos (k_wA hw6.2 (k_R4) hc2)]
    try rw [k_a24 hw6.2 hc2]
    rw [if_pos (k_wO hw6.2 (k_b24 hc2))]
    obtain ⟨r7, A8, hq9, h⟩ := k_pb h
    have hw10 := sgX4_plan hw6.2 (k_b24 hc2) hq9
    rw [hw10.1]
    rw [k_bds]
    rw [if_pos (k_wO hw10.2 k_K0)]
    obtain ⟨A11, eA12, h⟩ := k_pl h
    have hw13 := k_wE eA12 (k_wo hw10.2 k_K0 7 (by decide))
    refine k_ltg eA12 ?_
    exact sgX8_show_b144  _ _ _ _ hw13 h
set_option maxRecDepth 100000 in
theorem sgX8_show_b84 {sc : k_SC} (A : k_H) (v1 v2 v3 v4 v5 v6 : Int) (r : Int) (A' : k_H) (hw : k_Wf sc A) (h : gX8_show_b84 A v1 v2 v3 v4 v5 v6 = some (r, A')) : fX8_show_b84 A 0 v1 v2 v3 v4 v5 v6 = some (r, A') ∧ k_Wf sc A' := by
  unfold gX8_show_b84 at h
  unfold fX8_show_b84
  exact sgX8_show_b85  _ _ _ _ _ _ _ _ _ _ hw h
set_option maxRecDepth 100000 in
theorem sgX8_show_b0 {sc : k_SC} (A : k_H) (v1 v2 v3 v4 v5 v6 : Int) (r : Int) (A' : k_H) (hw : k_Wf sc A) (h : gX8_show_b0 A v1 v2 v3 v4 v5 v6 = some (r, A')) : fX8_show_b0 A 0 v1 v2 v3 v4 v5 v6 = some (r, A') ∧ k_Wf sc A' := by
  unfold gX8_show_b0 at h
  unfold fX8_show_b0
  rw [if_pos (k_wO hw k_K0)]
  by_cases c1 : (k_rd A 0 7) < 6
  · rw [if_pos c1] at h
    rw [if_pos c1]
    obtain ⟨r2, A3, hq4, h⟩ := k_pb h
    have hw5 := sgX8_isSize hw  hq4
    rw [hw5.1]
    rw [k_bds]
    by_cases c6 : r2 = 0
    · rw [if_pos c6] at h
      rw [if_pos c6]
      exact sgX8_show_b84  _ _ _ _ _ _ _ _ _ hw5.2 h
    · rw [if_neg c6] at h
      rw [if_neg c6]
      obtain ⟨r7, A8, hq9, h⟩ := k_pb h
      have hw10 := sgX8_isSize hw5.2  hq9
      rw [hw10.1]
      rw [k_bds]
      by_cases c11 : r7 = 0
      · rw [if_pos c11] at h
        rw [if_pos c11]
        exact sgX8_show_b84  _ _ _ _ _ _ _ _ _ hw10.2 h
      · rw [if_neg c11] at h
        rw [if_neg c11]
        obtain ⟨r12, A13, hq14, h⟩ := k_pb h
        have hw15 := sgX8_isNight hw10.2  hq14
        rw [hw15.1]
        rw [k_bds]
        by_cases c16 : r12 = 0
        · rw [if_pos c16] at h
          rw [if_pos c16]
          exact sgX8_show_b84  _ _ _ _ _ _ _ _ _ hw15.2 h
        · rw [if_neg c16] at h
          rw [if_neg c16]
          obtain ⟨r17, A18, hq19, h⟩ := k_pb h
          have hw20 := sgX8_isNight hw15.2  hq19
          rw [hw20.1]
          rw [k_bds]
          by_cases c21 : r17 = 0
          · rw [if_pos c21] at h
            rw [if_pos c21]
            exact sgX8_show_b84  _ _ _ _ _ _ _ _ _ hw20.2 h
          · rw [if_neg c21] at h
            rw [if_neg c21]
            by_cases c22 : v3 ≤ v4
            · rw [if_pos c22] at h
              rw [if_pos c22]
              obtain ⟨r23, A24, hq25, h⟩ := k_pb h
              have hw26 := sgX8_isWithin hw20.2  hq25
              rw [hw26.1]
              rw [k_bds]
              by_cases c27 : r23 = 0
              · rw [if_pos c27] at h
                rw [if_pos c27]
                exact sgX8_show_b84  _ _ _ _ _ _ _ _ _ hw26.2 h
              · rw [if_neg c27] at h
                rw [if_neg c27]
                obtain ⟨r28, A29, hq30, h⟩ := k_pb h
                have hw31 := sgX8_isWithin hw26.2  hq30
                rw [hw31.1]
                rw [k_bds]
                by_cases c32 : r28 = 0
                · rw [if_pos c32] at h
                  rw [if_pos c32]
                  exact sgX8_show_b84  _ _ _ _ _ _ _ _ _ hw31.2 h
                · rw [if_neg c32] at h
                  rw [if_neg c32]
                  rw [if_pos (k_wO hw31.2 k_K0)]
                  try rw [k_p8_0 hw31.2]
                  rw [if_pos (k_wO hw31.2 k_K1)]
                  obtain ⟨r33, A34, hq35, h⟩ := k_pb h
                  have hw36 := sgX5_holdsAmps hw31.2 k_K1 hq35
                  rw [hw36.1]
                  rw [k_bds]
                  by_cases c37 : r33 = 0
                  · rw [if_pos c37] at h
                    rw [if_pos c37]
                    exact sgX8_show_b84  _ _ _ _ _ _ _ _ _ hw36.2 h
                  · rw [if_neg c37] at h
                    rw [if_neg c37]
                    exact sgX8_show_b85  _ _ _ _ _ _ _ _ _ _ hw36.2 h
            · rw [if_neg c22] at h
              rw [if_neg c22]
              exact sgX8_show_b84  _ _ _ _ _ _ _ _ _ hw20.2 h
  · rw [if_neg c1] at h
    rw [if_neg c1]
    exact sgX8_show_b84  _ _ _ _ _ _ _ _ _ hw h
theorem sgX8_show {sc : k_SC} {A : k_H} {x1 x2 x3 x4 x5 x6 : Int} {r : Int} {A' : k_H} (hw : k_Wf sc A) (h : gX8_show A x1 x2 x3 x4 x5 x6 = some (r, A')) : fX8_show A 0 x1 x2 x3 x4 x5 x6 = some (r, A') ∧ k_Wf sc A' :=
  sgX8_show_b0 _ _ _ _ _ _ _ _ _ hw h
/-! X8_rewire -/
def gX8_rewire_b44 (A : k_H) (v4 : Int) : Option (Int × k_H) := k_lt (k_wt A 1 1 0) fun A1 => if v4 = 0 ∨ v4 = 1 then (some (v4, A1)) else none
def gX8_rewire_b22 (A : k_H) (v1 v2 v3 s0 : Int) : Option (Int × k_H) := if s0 = 0 then (gX8_rewire_b44 A s0) else (if 0 ≤ v1 ∧ v1 < ((12 : Nat) : Int) then (k_bd (gX1_build A (24 + 4 * v1) v2 v3 1) fun r3 A4 => gX8_rewire_b44 A4 s0) else none)
def gX8_rewire_b21 (A : k_H) (v1 v2 v3 : Int) : Option (Int × k_H) := gX8_rewire_b22 A v1 v2 v3 0
def gX8_rewire_b0 (A : k_H) (v1 v2 v3 : Int) : Option (Int × k_H) := k_bd (gX8_isHall A v1) fun r1 A2 => if r1 = 0 then (gX8_rewire_b21 A2 v1 v2 v3) else (k_bd (gX8_isHallBuild A2 v2 v3) fun r6 A7 => if r6 = 0 then (gX8_rewire_b21 A7 v1 v2 v3) else (gX8_rewire_b22 A7 v1 v2 v3 1))
def gX8_rewire (A : k_H) (x1 x2 x3 : Int) : Option (Int × k_H) := gX8_rewire_b0 A x1 x2 x3
set_option maxRecDepth 100000 in
theorem sgX8_rewire_b44 {sc : k_SC} (A : k_H) (v4 : Int) (r : Int) (A' : k_H) (hw : k_Wf sc A) (h : gX8_rewire_b44 A v4 = some (r, A')) : fX8_rewire_b44 A 0 v4 = some (r, A') ∧ k_Wf sc A' := by
  unfold gX8_rewire_b44 at h
  unfold fX8_rewire_b44
  rw [if_pos (k_wO hw k_K0)]
  try rw [k_p8_0 hw]
  rw [if_pos (k_wO hw k_K1)]
  obtain ⟨A1, eA2, h⟩ := k_pl h
  have hw3 := k_wE eA2 (k_wo hw k_K1 1 (by decide))
  refine k_ltg eA2 ?_
  obtain ⟨hc4, h⟩ := k_pk h
  rw [if_pos hc4]
  obtain ⟨rfl, rfl⟩ := k_pr h
  exact ⟨rfl, hw3⟩
set_option maxRecDepth 100000 in
theorem sgX8_rewire_b22 {sc : k_SC} (A : k_H) (v1 v2 v3 s0 : Int) (r : Int) (A' : k_H) (hw : k_Wf sc A) (h : gX8_rewire_b22 A v1 v2 v3 s0 = some (r, A')) : fX8_rewire_b22 A 0 v1 v2 v3 s0 = some (r, A') ∧ k_Wf sc A' := by
  unfold gX8_rewire_b22 at h
  unfold fX8_rewire_b22
  by_cases c1 : s0 = 0
  · rw [if_pos c1] at h
    rw [if_pos c1]
    exact sgX8_rewire_b44  _ _ _ _ hw h
  · rw [if_neg c1] at h
    rw [if_neg c1]
    rw [if_pos (k_wO hw k_K0)]
    try rw [k_p8_1 hw]
    obtain ⟨hc2, h⟩ := k_pk h
    rw [if_pos (k_wA hw (k_R3) hc2)]
    try rw [k_a23 hw hc2]
    try rw [k_p8_0 hw]
    rw [if_pos (k_wO hw (k_b23 hc2))]
    obtain ⟨r3, A4, hq5, h⟩ := k_pb h
    have hw6 := sgX1_build hw (k_b23 hc2) k_K1 hq5
    rw [hw6.1]
    rw [k_bds]
    exact sgX8_rewire_b44  _ _ _ _ hw6.2 h
set_option maxRecDepth 100000 in
theorem sgX8_rewire_b21 {sc : k_SC} (A : k_H) (v1 v2 v3 : Int) (r : Int) (A' : k_H) (hw : k_Wf sc A) (h : gX8_rewire_b21 A v1 v2 v3 = some (r, A')) : fX8_rewire_b21 A 0 v1 v2 v3 = some (r, A') ∧ k_Wf sc A' := by
  unfold gX8_rewire_b21 at h
  unfold fX8_rewire_b21
  exact sgX8_rewire_b22  _ _ _ _ _ _ _ hw h
set_option maxRecDepth 100000 in
theorem sgX8_rewire_b0 {sc : k_SC} (A : k_H) (v1 v2 v3 : Int) (r : Int) (A' : k_H) (hw : k_Wf sc A) (h : gX8_rewire_b0 A v1 v2 v3 = some (r, A')) : fX8_rewire_b0 A 0 v1 v2 v3 = some (r, A') ∧ k_Wf sc A' := by
  unfold gX8_rewire_b0 at h
  unfold fX8_rewire_b0
  rw [if_pos (k_wO hw k_K0)]
  obtain ⟨r1, A2, hq3, h⟩ := k_pb h
  have hw4 := sgX8_isHall hw  hq3
  rw [hw4.1]
  rw [k_bds]
  by_cases c5 : r1 = 0
  · rw [if_pos c5] at h
    rw [if_pos c5]
    exact sgX8_rewire_b21  _ _ _ _ _ _ hw4.2 h
  · rw [if_neg c5] at h
    rw [if_neg c5]
    rw [if_pos (k_wO hw4.2 k_K0)]
    obtain ⟨r6, A7, hq8, h⟩ := k_pb h
    have hw9 := sgX8_isHallBuild hw4.2  hq8
    rw [hw9.1]
    rw [k_bds]
    by_cases c10 : r6 = 0
    · rw [if_pos c10] at h
      rw [if_pos c10]
      exact sgX8_rewire_b21  _ _ _ _ _ _ hw9.2 h
    · rw [if_neg c10] at h
      rw [if_neg c10]
      exact sgX8_rewire_b22  _ _ _ _ _ _ _ hw9.2 h
theorem sgX8_rewire {sc : k_SC} {A : k_H} {x1 x2 x3 : Int} {r : Int} {A' : k_H} (hw : k_Wf sc A) (h : gX8_rewire A x1 x2 x3 = some (r, A')) : fX8_rewire A 0 x1 x2 x3 = some (r, A') ∧ k_Wf sc A' :=
  sgX8_rewire_b0 _ _ _ _ _ _ hw h
/-! X8_plugged -/
def gX8_plugged_b0 (A : k_H) (v1 v2 v3 : Int) : Option (Int × k_H) := k_bd (gX8_isShow A v1) fun r1 A2 => if r1 = 0 then (some ((-1), A2)) else (k_bd (gX8_isHall A2 v2) fun r6 A7 => if r6 = 0 then (some ((-1), A7)) else (if 0 ≤ v3 then (if 0 ≤ v1 ∧ v1 < ((6 : Nat) : Int) then (if (k_rd A7 ((72 + 8 * v1) + 1) 1) ≤ v3 then (some ((-1), A7)) else (if 0 ≤ v2 ∧ v2 < ((12 : Nat) : Int) then (k_bd (gX3_canPlug A7 ((72 + 8 * v1) + 1) ((24 + 4 * v2) + 1)) fun r15 A16 => if r15 = 0 then (some ((-1), A16)) else (k_bd (gX3_circuitOf A16 v3) fun r20 A21 => some (r20, A21))) else none)) else none) else (some ((-1), A7))))
def gX8_plugged (A : k_H) (x1 x2 x3 : Int) : Option (Int × k_H) := gX8_plugged_b0 A x1 x2 x3
set_option maxRecDepth 100000 in
theorem sgX8_plugged_b0 {sc : k_SC} (A : k_H) (v1 v2 v3 : Int) (r : Int) (A' : k_H) (hw : k_Wf sc A) (h : gX8_plugged_b0 A v1 v2 v3 = some (r, A')) : fX8_plugged_b0 A 0 v1 v2 v3 = some (r, A') ∧ k_Wf sc A' := by
  unfold gX8_plugged_b0 at h
  unfold fX8_plugged_b0
  rw [if_pos (k_wO hw k_K0)]
  obtain ⟨r1, A2, hq3, h⟩ := k_pb h
  have hw4 := sgX8_isShow hw  hq3
  rw [hw4.1]
  rw [k_bds]
  by_cases c5 : r1 = 0
  · rw [if_pos c5] at h
    rw [if_pos c5]
    obtain ⟨rfl, rfl⟩ := k_pr h
    exact ⟨rfl, hw4.2⟩
  · rw [if_neg c5] at h
    rw [if_neg c5]
    rw [if_pos (k_wO hw4.2 k_K0)]
    obtain ⟨r6, A7, hq8, h⟩ := k_pb h
    have hw9 := sgX8_isHall hw4.2  hq8
    rw [hw9.1]
    rw [k_bds]
    by_cases c10 : r6 = 0
    · rw [if_pos c10] at h
      rw [if_pos c10]
      obtain ⟨rfl, rfl⟩ := k_pr h
      exact ⟨rfl, hw9.2⟩
    · rw [if_neg c10] at h
      rw [if_neg c10]
      by_cases c11 : 0 ≤ v3
      · rw [if_pos c11] at h
        rw [if_pos c11]
        rw [if_pos (k_wO hw9.2 k_K0)]
        try rw [k_p8_2 hw9.2]
        obtain ⟨hc12, h⟩ := k_pk h
        rw [if_pos (k_wA hw9.2 (k_R4) hc12)]
        try rw [k_a24 hw9.2 hc12]
        rw [if_pos (k_wO hw9.2 (k_b24 hc12))]
        try rw [k_p4_0 hw9.2 (k_b24 hc12)]
        rw [if_pos (k_wO hw9.2 (k_q4_0 (k_b24 hc12)))]
        by_cases c13 : (k_rd A7 ((72 + 8 * v1) + 1) 1) ≤ v3
        · rw [if_pos c13] at h
          rw [if_pos c13]
          obtain ⟨rfl, rfl⟩ := k_pr h
          exact ⟨rfl, hw9.2⟩
        · rw [if_neg c13] at h
          rw [if_neg c13]
          try rw [k_p8_3 hw9.2]
          try rw [k_p8_2 hw9.2]
          try rw [k_a24 hw9.2 hc12]
          try rw [k_p4_0 hw9.2 (k_b24 hc12)]
          try rw [k_p8_1 hw9.2]
          obtain ⟨hc14, h⟩ := k_pk h
          rw [if_pos (k_wA hw9.2 (k_R3) hc14)]
          try rw [k_a23 hw9.2 hc14]
          rw [if_pos (k_wO hw9.2 (k_b23 hc14))]
          try rw [k_p1_0 hw9.2 (k_b23 hc14)]
          rw [if_pos (k_wO hw9.2 k_K5)]
          obtain ⟨r15, A16, hq17, h⟩ := k_pb h
          have hw18 := sgX3_canPlug hw9.2 (k_q4_0 (k_b24 hc12)) (k_q1_0 (k_b23 hc14)) hq17
          rw [hw18.1]
          rw [k_bds]
          by_cases c19 : r15 = 0
          · rw [if_pos c19] at h
            rw [if_pos c19]
            obtain ⟨rfl, rfl⟩ := k_pr h
            exact ⟨rfl, hw18.2⟩
          · rw [if_neg c19] at h
            rw [if_neg c19]
            rw [if_pos (k_wO hw18.2 k_K0)]
            try rw [k_p8_3 hw18.2]
            rw [if_pos (k_wO hw18.2 k_K5)]
            obtain ⟨r20, A21, hq22, h⟩ := k_pb h
            have hw23 := sgX3_circuitOf hw18.2  hq22
            rw [hw23.1]
            rw [k_bds]
            obtain ⟨rfl, rfl⟩ := k_pr h
            exact ⟨rfl, hw23.2⟩
      · rw [if_neg c11] at h
        rw [if_neg c11]
        obtain ⟨rfl, rfl⟩ := k_pr h
        exact ⟨rfl, hw9.2⟩
theorem sgX8_plugged {sc : k_SC} {A : k_H} {x1 x2 x3 : Int} {r : Int} {A' : k_H} (hw : k_Wf sc A) (h : gX8_plugged A x1 x2 x3 = some (r, A')) : fX8_plugged A 0 x1 x2 x3 = some (r, A') ∧ k_Wf sc A' :=
  sgX8_plugged_b0 _ _ _ _ _ _ hw h
/-! X8_lacks -/
def gX8_lacks_b0 (A : k_H) (v1 v2 : Int) : Option (Int × k_H) := k_bd (gX8_isShow A v1) fun r1 A2 => if r1 = 0 then (some ((-1), A2)) else (k_bd (gX8_isHall A2 v2) fun r6 A7 => if r6 = 0 then (some ((-1), A7)) else (if 0 ≤ v1 ∧ v1 < ((6 : Nat) : Int) then (if 0 ≤ v2 ∧ v2 < ((12 : Nat) : Int) then (k_bd (gX3_leastLack A7 ((72 + 8 * v1) + 1) ((24 + 4 * v2) + 1)) fun r13 A14 => some (r13, A14)) else none) else none))
def gX8_lacks (A : k_H) (x1 x2 : Int) : Option (Int × k_H) := gX8_lacks_b0 A x1 x2
set_option maxRecDepth 100000 in
theorem sgX8_lacks_b0 {sc : k_SC} (A : k_H) (v1 v2 : Int) (r : Int) (A' : k_H) (hw : k_Wf sc A) (h : gX8_lacks_b0 A v1 v2 = some (r, A')) : fX8_lacks_b0 A 0 v1 v2 = some (r, A') ∧ k_Wf sc A' := by
  unfold gX8_lacks_b0 at h
  unfold fX8_lacks_b0
  rw [if_pos (k_wO hw k_K0)]
  obtain ⟨r1, A2, hq3, h⟩ := k_pb h
  have hw4 := sgX8_isShow hw  hq3
  rw [hw4.1]
  rw [k_bds]
  by_cases c5 : r1 = 0
  · rw [if_pos c5] at h
    rw [if_pos c5]
    obtain ⟨rfl, rfl⟩ := k_pr h
    exact ⟨rfl, hw4.2⟩
  · rw [if_neg c5] at h
    rw [if_neg c5]
    rw [if_pos (k_wO hw4.2 k_K0)]
    obtain ⟨r6, A7, hq8, h⟩ := k_pb h
    have hw9 := sgX8_isHall hw4.2  hq8
    rw [hw9.1]
    rw [k_bds]
    by_cases c10 : r6 = 0
    · rw [if_pos c10] at h
      rw [if_pos c10]
      obtain ⟨rfl, rfl⟩ := k_pr h
      exact ⟨rfl, hw9.2⟩
    · rw [if_neg c10] at h
      rw [if_neg c10]
      rw [if_pos (k_wO hw9.2 k_K0)]
      try rw [k_p8_3 hw9.2]
      try rw [k_p8_2 hw9.2]
      obtain ⟨hc11, h⟩ := k_pk h
      rw [if_pos (k_wA hw9.2 (k_R4) hc11)]
      try rw [k_a24 hw9.2 hc11]
      rw [if_pos (k_wO hw9.2 (k_b24 hc11))]
      try rw [k_p4_0 hw9.2 (k_b24 hc11)]
      try rw [k_p8_1 hw9.2]
      obtain ⟨hc12, h⟩ := k_pk h
      rw [if_pos (k_wA hw9.2 (k_R3) hc12)]
      try rw [k_a23 hw9.2 hc12]
      rw [if_pos (k_wO hw9.2 (k_b23 hc12))]
      try rw [k_p1_0 hw9.2 (k_b23 hc12)]
      rw [if_pos (k_wO hw9.2 k_K5)]
      obtain ⟨r13, A14, hq15, h⟩ := k_pb h
      have hw16 := sgX3_leastLack hw9.2 (k_q4_0 (k_b24 hc11)) (k_q1_0 (k_b23 hc12)) hq15
      rw [hw16.1]
      rw [k_bds]
      obtain ⟨rfl, rfl⟩ := k_pr h
      exact ⟨rfl, hw16.2⟩
theorem sgX8_lacks {sc : k_SC} {A : k_H} {x1 x2 : Int} {r : Int} {A' : k_H} (hw : k_Wf sc A) (h : gX8_lacks A x1 x2 = some (r, A')) : fX8_lacks A 0 x1 x2 = some (r, A') ∧ k_Wf sc A' :=
  sgX8_lacks_b0 _ _ _ _ _ hw h
/-! X8_snow -/
def gX8_snow_h63 : Nat → k_H → Int → Int → Int → Option (Int × k_H)
  | 0, _, _, _, _ => none
  | N + 1, A, v1, v3, v4 => if 0 ≤ v3 ∧ v3 < ((6 : Nat) : Int) then (if v4 ≤ (k_rd A (72 + 8 * v3) 7) then (k_bd (gX8_canMove A (72 + 8 * v3) v1 v4) fun r3 A4 => if r3 = 0 then ((gX8_snow_h63 N) A4 v1 v3 (k_wr (v4 + 1))) else (if 0 ≤ v4 ∧ v4 < ((14 : Nat) : Int) then (k_lt (k_wt A4 ((72 + 8 * v3) + 3) v4 v1) fun A9 => some (v4, A9)) else none)) else (some ((-2), A))) else none
def gX8_snow_b0 (A : k_H) (v1 v2 : Int) : Option (Int × k_H) := k_bd (gX8_isHall A v1) fun r1 A2 => if r1 = 0 then (some ((-1), A2)) else (k_bd (gX8_isNight A2 v2) fun r6 A7 => if r6 = 0 then (some ((-1), A7)) else (k_bd (gX8_showAt A7 v1 v2) fun r11 A12 => k_bd (gX8_isShow A12 r11) fun r15 A16 => if r15 = 0 then (some ((-1), A16)) else (if 0 ≤ r11 ∧ r11 < ((6 : Nat) : Int) then (if 0 ≤ v2 ∧ v2 < ((14 : Nat) : Int) then (k_lt (k_wt A16 ((72 + 8 * r11) + 3) v2 (-1)) fun A22 => if 0 ≤ v2 ∧ v2 < ((14 : Nat) : Int) then (k_lt (k_wt A22 ((72 + 8 * r11) + 4) v2 (-1)) fun A26 => gX8_snow_h63 k_FU A26 v1 r11 (k_wr (v2 + 1))) else none) else none) else none)))
def gX8_snow (A : k_H) (x1 x2 : Int) : Option (Int × k_H) := gX8_snow_b0 A x1 x2
set_option maxRecDepth 100000 in
theorem sgX8_snow_h63 {sc : k_SC} : ∀ (N : Nat) (A : k_H) (v1 v3 v4 : Int) (r : Int) (A' : k_H), k_Wf sc A → gX8_snow_h63 N A v1 v3 v4 = some (r, A') → fX8_snow_h63 N A 0 v1 v3 v4 = some (r, A') ∧ k_Wf sc A' := by
  intro N
  induction N with
  | zero => intro A v1 v3 v4 r A' hw  h; exact absurd h (by simp [gX8_snow_h63])
  | succ N ih =>
    intro A v1 v3 v4 r A' hw  h
    rw [gX8_snow_h63] at h
    rw [fX8_snow_h63]
    rw [if_pos (k_wO hw k_K0)]
    try rw [k_p8_2 hw]
    obtain ⟨hc1, h⟩ := k_pk h
    rw [if_pos (k_wA hw (k_R4) hc1)]
    try rw [k_a24 hw hc1]
    rw [if_pos (k_wO hw (k_b24 hc1))]
    by_cases c2 : v4 ≤ (k_rd A (72 + 8 * v3) 7)
    · rw [if_pos c2] at h
      rw [if_pos c2]
      try rw [k_p8_2 hw]
      try rw [k_a24 hw hc1]
      obtain ⟨r3, A4, hq5, h⟩ := k_pb h
      have hw6 := sgX8_canMove hw (k_b24 hc1) hq5
      rw [hw6.1]
      rw [k_bds]
      by_cases c7 : r3 = 0
      · rw [if_pos c7] at h
        rw [if_pos c7]
        exact ih _ _ _ _ _ _ hw6.2 h
      · rw [if_neg c7] at h
        rw [if_neg c7]
        rw [if_pos (k_wO hw6.2 k_K0)]
        try rw [k_p8_2 hw6.2]
        rw [if_pos (k_wA hw6.2 (k_R4) hc1)]
        try rw [k_a24 hw6.2 hc1]
        rw [if_pos (k_wO hw6.2 (k_b24 hc1))]
        try rw [k_p4_1 hw6.2 (k_b24 hc1)]
        obtain ⟨hc8, h⟩ := k_pk h
        rw [if_pos (k_wA hw6.2 ((k_q4_1 (k_b24 hc1))) hc8)]
        obtain ⟨A9, eA10, h⟩ := k_pl h
        have hw11 := k_wE eA10 (k_wa hw6.2 (k_q4_1 (k_b24 hc1)) (by decide))
        refine k_ltg eA10 ?_
        obtain ⟨rfl, rfl⟩ := k_pr h
        exact ⟨rfl, hw11⟩
    · rw [if_neg c2] at h
      rw [if_neg c2]
      obtain ⟨rfl, rfl⟩ := k_pr h
      exact ⟨rfl, hw⟩
set_option maxRecDepth 100000 in
theorem sgX8_snow_b0 {sc : k_SC} (A : k_H) (v1 v2 : Int) (r : Int) (A' : k_H) (hw : k_Wf sc A) (h : gX8_snow_b0 A v1 v2 = some (r, A')) : fX8_snow_b0 A 0 v1 v2 = some (r, A') ∧ k_Wf sc A' := by
  unfold gX8_snow_b0 at h
  unfold fX8_snow_b0
  rw [if_pos (k_wO hw k_K0)]
  obtain ⟨r1, A2, hq3, h⟩ := k_pb h
  have hw4 := sgX8_isHall hw  hq3
  rw [hw4.1]
  rw [k_bds]
  by_cases c5 : r1 = 0
  · rw [if_pos c5] at h
    rw [if_pos c5]
    obtain ⟨rfl, rfl⟩ := k_pr h
    exact ⟨rfl, hw4.2⟩
  · rw [if_neg c5] at h
    rw [if_neg c5]
    obtain ⟨r6, A7, hq8, h⟩ := k_pb h
    have hw9 := sgX8_isNight hw4.2  hq8
    rw [hw9.1]
    rw [k_bds]
    by_cases c10 : r6 = 0
    · rw [if_pos c10] at h
      rw [if_pos c10]
      obtain ⟨rfl, rfl⟩ := k_pr h
      exact ⟨rfl, hw9.2⟩
    · rw [if_neg c10] at h
      rw [if_neg c10]
      rw [if_pos (k_wO hw9.2 k_K0)]
      obtain ⟨r11, A12, hq13, h⟩ := k_pb h
      have hw14 := sgX8_showAt hw9.2  hq13
      rw [hw14.1]
      rw [k_bds]
      rw [if_pos (k_wO hw14.2 k_K0)]
      obtain ⟨r15, A16, hq17, h⟩ := k_pb h
      have hw18 := sgX8_isShow hw14.2  hq17
      rw [hw18.1]
      rw [k_bds]
      by_cases c19 : r15 = 0
      · rw [if_pos c19] at h
        rw [if_pos c19]
        obtain ⟨rfl, rfl⟩ := k_pr h
        exact ⟨rfl, hw18.2⟩
      · rw [if_neg c19] at h
        rw [if_neg c19]
        rw [if_pos (k_wO hw18.2 k_K0)]
        try rw [k_p8_2 hw18.2]
        obtain ⟨hc20, h⟩ := k_pk h
        rw [if_pos (k_wA hw18.2 (k_R4) hc20)]
        try rw [k_a24 hw18.2 hc20]
        rw [if_pos (k_wO hw18.2 (k_b24 hc20))]
        try rw [k_p4_1 hw18.2 (k_b24 hc20)]
        obtain ⟨hc21, h⟩ := k_pk h
        rw [if_pos (k_wA hw18.2 ((k_q4_1 (k_b24 hc20))) hc21)]
        obtain ⟨A22, eA23, h⟩ := k_pl h
        have hw24 := k_wE eA23 (k_wa hw18.2 (k_q4_1 (k_b24 hc20)) (by decide))
        refine k_ltg eA23 ?_
        try rw [k_p8_2 hw24]
        rw [if_pos (k_wA hw24 (k_R4) hc20)]
        try rw [k_a24 hw24 hc20]
        rw [if_pos (k_wO hw24 (k_b24 hc20))]
        try rw [k_p4_2 hw24 (k_b24 hc20)]
        obtain ⟨hc25, h⟩ := k_pk h
        rw [if_pos (k_wA hw24 ((k_q4_2 (k_b24 hc20))) hc25)]
        obtain ⟨A26, eA27, h⟩ := k_pl h
        have hw28 := k_wE eA27 (k_wa hw24 (k_q4_2 (k_b24 hc20)) (by decide))
        refine k_ltg eA27 ?_
        exact sgX8_snow_h63  _ _ _ _ _ _ _ hw28 h
theorem sgX8_snow {sc : k_SC} {A : k_H} {x1 x2 : Int} {r : Int} {A' : k_H} (hw : k_Wf sc A) (h : gX8_snow A x1 x2 = some (r, A')) : fX8_snow A 0 x1 x2 = some (r, A') ∧ k_Wf sc A' :=
  sgX8_snow_b0 _ _ _ _ _ hw h
/-! X8_fitOf -/
def gX8_fitOf_b0 (A : k_H) (v1 v2 : Int) : Option (Int × k_H) := if (k_rd A v2 4) < (k_rd A v1 4) then (some (0, A)) else (if (k_rd A v2 5) < (k_rd A v1 5) then (some ((-1), A)) else (k_bd (gX3_canPlug A (v1 + 1) (v2 + 1)) fun r3 A4 => if r3 = 0 then (some ((-2), A4)) else (some (1, A4))))
def gX8_fitOf (A : k_H) (x1 x2 : Int) : Option (Int × k_H) := gX8_fitOf_b0 A x1 x2
set_option maxRecDepth 100000 in
theorem sgX8_fitOf_b0 {sc : k_SC} (A : k_H) (v1 v2 : Int) (r : Int) (A' : k_H) (hw : k_Wf sc A) (hv1 : k_isK v1 4) (hv2 : k_isK v2 1) (h : gX8_fitOf_b0 A v1 v2 = some (r, A')) : fX8_fitOf_b0 A 0 v1 v2 = some (r, A') ∧ k_Wf sc A' := by
  unfold gX8_fitOf_b0 at h
  unfold fX8_fitOf_b0
  rw [if_pos (k_wO hw hv2)]
  rw [if_pos (k_wO hw hv1)]
  by_cases c1 : (k_rd A v2 4) < (k_rd A v1 4)
  · rw [if_pos c1] at h
    rw [if_pos c1]
    obtain ⟨rfl, rfl⟩ := k_pr h
    exact ⟨rfl, hw⟩
  · rw [if_neg c1] at h
    rw [if_neg c1]
    by_cases c2 : (k_rd A v2 5) < (k_rd A v1 5)
    · rw [if_pos c2] at h
      rw [if_pos c2]
      obtain ⟨rfl, rfl⟩ := k_pr h
      exact ⟨rfl, hw⟩
    · rw [if_neg c2] at h
      rw [if_neg c2]
      rw [if_pos (k_wO hw k_K0)]
      try rw [k_p8_3 hw]
      try rw [k_p4_0 hw hv1]
      try rw [k_p1_0 hw hv2]
      rw [if_pos (k_wO hw k_K5)]
      obtain ⟨r3, A4, hq5, h⟩ := k_pb h
      have hw6 := sgX3_canPlug hw (k_q4_0 hv1) (k_q1_0 hv2) hq5
      rw [hw6.1]
      rw [k_bds]
      by_cases c7 : r3 = 0
      · rw [if_pos c7] at h
        rw [if_pos c7]
        obtain ⟨rfl, rfl⟩ := k_pr h
        exact ⟨rfl, hw6.2⟩
      · rw [if_neg c7] at h
        rw [if_neg c7]
        obtain ⟨rfl, rfl⟩ := k_pr h
        exact ⟨rfl, hw6.2⟩
theorem sgX8_fitOf {sc : k_SC} {A : k_H} {x1 x2 : Int} {r : Int} {A' : k_H} (hw : k_Wf sc A) (hx1 : k_isK x1 4) (hx2 : k_isK x2 1) (h : gX8_fitOf A x1 x2 = some (r, A')) : fX8_fitOf A 0 x1 x2 = some (r, A') ∧ k_Wf sc A' :=
  sgX8_fitOf_b0 _ _ _ _ _ hw hx1 hx2 h
/-! X7_readFee -/
def gX7_readFee_b0 (A : k_H) : Option (Int × k_H) := if (k_rd A 18 5) = 0 then (k_lt (k_wt A 18 5 1) fun A2 => k_bd (gX7_readNumber A2 0 99999) fun r5 A6 => if r5 = 0 then (some (0, A6)) else (k_lt (k_wt A6 19 3 (k_rd A6 18 11)) fun A10 => k_bd (gX7_readStop A10) fun r13 A14 => if r13 = 0 ∨ r13 = 1 then (some (r13, A14)) else none)) else (k_bd (gX7_refuse A 4) fun r18 A19 => if r18 = 0 ∨ r18 = 1 then (some (r18, A19)) else none)
def gX7_readFee (A : k_H) : Option (Int × k_H) := gX7_readFee_b0 A
set_option maxRecDepth 100000 in
theorem sgX7_readFee_b0 {sc : k_SC} (A : k_H) (r : Int) (A' : k_H) (hw : k_Wf sc A) (h : gX7_readFee_b0 A = some (r, A')) : fX7_readFee_b0 A 18 = some (r, A') ∧ k_Wf sc A' := by
  unfold gX7_readFee_b0 at h
  unfold fX7_readFee_b0
  rw [if_pos (k_wO hw k_K18)]
  by_cases c1 : (k_rd A 18 5) = 0
  · rw [if_pos c1] at h
    rw [if_pos c1]
    obtain ⟨A2, eA3, h⟩ := k_pl h
    have hw4 := k_wE eA3 (k_wo hw k_K18 5 (by decide))
    refine k_ltg eA3 ?_
    obtain ⟨r5, A6, hq7, h⟩ := k_pb h
    have hw8 := sgX7_readNumber hw4  hq7
    rw [hw8.1]
    rw [k_bds]
    by_cases c9 : r5 = 0
    · rw [if_pos c9] at h
      rw [if_pos c9]
      obtain ⟨rfl, rfl⟩ := k_pr h
      exact ⟨rfl, hw8.2⟩
    · rw [if_neg c9] at h
      rw [if_neg c9]
      rw [if_pos (k_wO hw8.2 k_K18)]
      try rw [k_p7_0 hw8.2]
      rw [if_pos (k_wO hw8.2 k_K19)]
      obtain ⟨A10, eA11, h⟩ := k_pl h
      have hw12 := k_wE eA11 (k_wo hw8.2 k_K19 3 (by decide))
      refine k_ltg eA11 ?_
      obtain ⟨r13, A14, hq15, h⟩ := k_pb h
      have hw16 := sgX7_readStop hw12  hq15
      rw [hw16.1]
      rw [k_bds]
      obtain ⟨hc17, h⟩ := k_pk h
      rw [if_pos hc17]
      obtain ⟨rfl, rfl⟩ := k_pr h
      exact ⟨rfl, hw16.2⟩
  · rw [if_neg c1] at h
    rw [if_neg c1]
    obtain ⟨r18, A19, hq20, h⟩ := k_pb h
    have hw21 := sgX7_refuse hw  hq20
    rw [hw21.1]
    rw [k_bds]
    obtain ⟨hc22, h⟩ := k_pk h
    rw [if_pos hc22]
    obtain ⟨rfl, rfl⟩ := k_pr h
    exact ⟨rfl, hw21.2⟩
theorem sgX7_readFee {sc : k_SC} {A : k_H} {r : Int} {A' : k_H} (hw : k_Wf sc A) (h : gX7_readFee A  = some (r, A')) : fX7_readFee A 18 = some (r, A') ∧ k_Wf sc A' :=
  sgX7_readFee_b0 _ _ _ hw h
/-! X7_isWord -/
def gX7_isWord_h28 : Nat → k_H → Int → Int → Option (Int × k_H)
  | 0, _, _, _ => none
  | N + 1, A, v1, v2 => k_bd (gJ0_length_8abf5 A v1) fun r1 A2 => if v2 < r1 then (k_bd (gX5_byteAt A2 22 (k_wr ((k_rd A2 18 9) + v2))) fun r6 A7 => k_bd (gJ0_charAt_5068e A7 v1 v2) fun r10 A11 => if r6 = r10 then ((gX7_isWord_h28 N) A11 v1 (k_wr (v2 + 1))) else (some (0, A11))) else (some (1, A2))
def gX7_isWord_b0 (A : k_H) (v1 : Int) : Option (Int × k_H) := if (k_rd A 18 10) = 1 then (k_bd (gJ0_length_8abf5 A v1) fun r2 A3 => if k_wr ((k_rd A 18 8) - (k_rd A 18 9)) = r2 then (gX7_isWord_h28 k_FU A3 v1 0) else (some (0, A3))) else (some (0, A))
def gX7_isWord (A : k_H) (x1 : Int) : Option (Int × k_H) := gX7_isWord_b0 A x1
set_option maxRecDepth 100000 in
theorem sgX7_isWord_h28 {sc : k_SC} : ∀ (N : Nat) (A : k_H) (v1 v2 : Int) (r : Int) (A' : k_H), k_Wf sc A → k_isS v1 → gX7_isWord_h28 N A v1 v2 = some (r, A') → fX7_isWord_h28 N A 18 v1 v2 = some (r, A') ∧ k_Wf sc A' := by
  intro N
  induction N with
  | zero => intro A v1 v2 r A' hw hv1 h; exact absurd h (by simp [gX7_isWord_h28])
  | succ N ih =>
    intro A v1 v2 r A' hw hv1 h
    rw [gX7_isWord_h28] at h
    rw [fX7_isWord_h28]
    rw [if_pos hv1]
    obtain ⟨r1, A2, hq3, h⟩ := k_pb h
    have hw4 := sgJ0_length_8abf5 hw hv1 hq3
    rw [hw4.1]
    rw [k_bds]
    by_cases c5 : v2 < r1
    · rw [if_pos c5] at h
      rw [if_pos c5]
      rw [if_pos (k_wO hw4.2 k_K18)]
      try rw [k_p7_4 hw4.2]
      rw [if_pos (k_wO hw4.2 k_K22)]
      obtain ⟨r6, A7, hq8, h⟩ := k_pb h
      have hw9 := sgX5_byteAt hw4.2 k_K22 hq8
      rw [hw9.1]
      rw [k_bds]
      rw [if_pos hv1]
      obtain ⟨r10, A11, hq12, h⟩ := k_pb h
      have hw13 := sgJ0_charAt_5068e hw9.2 hv1 hq12
      rw [hw13.1]
      rw [k_bds]
      by_cases c14 : r6 = r10
      · rw [if_pos c14] at h
        rw [if_pos c14]
        exact ih _ _ _ _ _ hw13.2 hv1 h
      · rw [if_neg c14] at h
        rw [if_neg c14]
        obtain ⟨rfl, rfl⟩ := k_pr h
        exact ⟨rfl, hw13.2⟩
    · rw [if_neg c5] at h
      rw [if_neg c5]
      obtain ⟨rfl, rfl⟩ := k_pr h
      exact ⟨rfl, hw4.2⟩
set_option maxRecDepth 100000 in
theorem sgX7_isWord_b0 {sc : k_SC} (A : k_H) (v1 : Int) (r : Int) (A' : k_H) (hw : k_Wf sc A) (hv1 : k_isS v1) (h : gX7_isWord_b0 A v1 = some (r, A')) : fX7_isWord_b0 A 18 v1 = some (r, A') ∧ k_Wf sc A' := by
  unfold gX7_isWord_b0 at h
  unfold fX7_isWord_b0
  rw [if_pos (k_wO hw k_K18)]
  by_cases c1 : (k_rd A 18 10) = 1
  · rw [if_pos c1] at h
    rw [if_pos c1]
    rw [if_pos hv1]
    obtain ⟨r2, A3, hq4, h⟩ := k_pb h
    have hw5 := sgJ0_length_8abf5 hw hv1 hq4
    rw [hw5.1]
    rw [k_bds]
    by_cases c6 : k_wr ((k_rd A 18 8) - (k_rd A 18 9)) = r2
    · rw [if_pos c6] at h
      rw [if_pos c6]
      exact sgX7_isWord_h28  _ _ _ _ _ _ hw5.2 hv1 h
    · rw [if_neg c6] at h
      rw [if_neg c6]
      obtain ⟨rfl, rfl⟩ := k_pr h
      exact ⟨rfl, hw5.2⟩
  · rw [if_neg c1] at h
    rw [if_neg c1]
    obtain ⟨rfl, rfl⟩ := k_pr h
    exact ⟨rfl, hw⟩
theorem sgX7_isWord {sc : k_SC} {A : k_H} {x1 : Int} {r : Int} {A' : k_H} (hw : k_Wf sc A) (hx1 : k_isS x1) (h : gX7_isWord A x1 = some (r, A')) : fX7_isWord A 18 x1 = some (r, A') ∧ k_Wf sc A' :=
  sgX7_isWord_b0 _ _ _ _ hw hx1 h
/-! X8_fits -/
def gX8_fits_b0 (A : k_H) (v1 v2 : Int) : Option (Int × k_H) := k_bd (gX8_isShow A v1) fun r1 A2 => if r1 = 0 then (some ((-3), A2)) else (k_bd (gX8_isHall A2 v2) fun r6 A7 => if r6 = 0 then (some ((-3), A7)) else (if 0 ≤ v1 ∧ v1 < ((6 : Nat) : Int) then (if 0 ≤ v2 ∧ v2 < ((12 : Nat) : Int) then (k_bd (gX8_fitOf A7 (72 + 8 * v1) (24 + 4 * v2)) fun r13 A14 => some (r13, A14)) else none) else none))
def gX8_fits (A : k_H) (x1 x2 : Int) : Option (Int × k_H) := gX8_fits_b0 A x1 x2
set_option maxRecDepth 100000 in
theorem sgX8_fits_b0 {sc : k_SC} (A : k_H) (v1 v2 : Int) (r : Int) (A' : k_H) (hw : k_Wf sc A) (h : gX8_fits_b0 A v1 v2 = some (r, A')) : fX8_fits_b0 A 0 v1 v2 = some (r, A') ∧ k_Wf sc A' := by
  unfold gX8_fits_b0 at h
  unfold fX8_fits_b0
  rw [if_pos (k_wO hw k_K0)]
  obtain ⟨r1, A2, hq3, h⟩ := k_pb h
  have hw4 := sgX8_isShow hw  hq3
  rw [hw4.1]
  rw [k_bds]
  by_cases c5 : r1 = 0
  · rw [if_pos c5] at h
    rw [if_pos c5]
    obtain ⟨rfl, rfl⟩ := k_pr h
    exact ⟨rfl, hw4.2⟩
  · rw [if_neg c5] at h
    rw [if_neg c5]
    rw [if_pos (k_wO hw4.2 k_K0)]
    obtain ⟨r6, A7, hq8, h⟩ := k_pb h
    have hw9 := sgX8_isHall hw4.2  hq8
    rw [hw9.1]
    rw [k_bds]
    by_cases c10 : r6 = 0
    · rw [if_pos c10] at h
      rw [if_pos c10]
      obtain ⟨rfl, rfl⟩ := k_pr h
      exact ⟨rfl, hw9.2⟩
    · rw [if_neg c10] at h
      rw [if_neg c10]
      rw [if_pos (k_wO hw9.2 k_K0)]
      try rw [k_p8_2 hw9.2]
      obtain ⟨hc11, h⟩ := k_pk h
      rw [if_pos (k_wA hw9.2 (k_R4) hc11)]
      try rw [k_a24 hw9.2 hc11]
      try rw [k_p8_1 hw9.2]
      obtain ⟨hc12, h⟩ := k_pk h
      rw [if_pos (k_wA hw9.2 (k_R3) hc12)]
      try rw [k_a23 hw9.2 hc12]
      obtain ⟨r13, A14, hq15, h⟩ := k_pb h
      have hw16 := sgX8_fitOf hw9.2 (k_b24 hc11) (k_b23 hc12) hq15
      rw [hw16.1]
      rw [k_bds]
      obtain ⟨rfl, rfl⟩ := k_pr h
      exact ⟨rfl, hw16.2⟩
theorem sgX8_fits {sc : k_SC} {A : k_H} {x1 x2 : Int} {r : Int} {A' : k_H} (hw : k_Wf sc A) (h : gX8_fits A x1 x2 = some (r, A')) : fX8_fits A 0 x1 x2 = some (r, A') ∧ k_Wf sc A' :=
  sgX8_fits_b0 _ _ _ _ _ hw h
/-! X7_readLoss -/
def gX7_readLoss_b59 (A : k_H) : Option (Int × k_H) := k_bd (gX7_readStop A) fun r1 A2 => if r1 = 0 ∨ r1 = 1 then (some (r1, A2)) else none
def gX7_readLoss_b0 (A : k_H) : Option (Int × k_H) := if (k_rd A 18 7) = 0 then (k_lt (k_wt A 18 7 1) fun A2 => k_bd (gX7_nextToken A2) fun r5 A6 => k_bd (gX7_isWord A6 (-16)) fun r9 A10 => if r9 = 0 ∨ r9 = 1 then (k_lt (k_wt A10 19 6 r9) fun A14 => if (k_rd A14 19 6) = 0 then (k_bd (gX7_isWord A14 (-17)) fun r18 A19 => if r18 = 0 then (k_bd (gX7_refuseToken A19) fun r23 A24 => if r23 = 0 ∨ r23 = 1 then (some (r23, A24)) else none) else (gX7_readLoss_b59 A19)) else (gX7_readLoss_b59 A14)) else none) else (k_bd (gX7_refuse A 4) fun r28 A29 => if r28 = 0 ∨ r28 = 1 then (some (r28, A29)) else none)
def gX7_readLoss (A : k_H) : Option (Int × k_H) := gX7_readLoss_b0 A
set_option maxRecDepth 100000 in
theorem sgX7_readLoss_b59 {sc : k_SC} (A : k_H) (r : Int) (A' : k_H) (hw : k_Wf sc A) (h : gX7_readLoss_b59 A = some (r, A')) : fX7_readLoss_b59 A 18 = some (r, A') ∧ k_Wf sc A' := by
  unfold gX7_readLoss_b59 at h
  unfold fX7_readLoss_b59
  rw [if_pos (k_wO hw k_K18)]
  obtain ⟨r1, A2, hq3, h⟩ := k_pb h
  have hw4 := sgX7_readStop hw  hq3
  rw [hw4.1]
  rw [k_bds]
  obtain ⟨hc5, h⟩ := k_pk h
  rw [if_pos hc5]
  obtain ⟨rfl, rfl⟩ := k_pr h
  exact ⟨rfl, hw4.2⟩
set_option maxRecDepth 100000 in
theorem sgX7_readLoss_b0 {sc : k_SC} (A : k_H) (r : Int) (A' : k_H) (hw : k_Wf sc A) (h : gX7_readLoss_b0 A = some (r, A')) : fX7_readLoss_b0 A 18 = some (r, A') ∧ k_Wf sc A' := by
  unfold gX7_readLoss_b0 at h
  unfold fX7_readLoss_b0
  rw [if_pos (k_wO hw k_K18)]
  by_cases c1 : (k_rd A 18 7) = 0
  · rw [if_pos c1] at h
    rw [if_pos c1]
    obtain ⟨A2, eA3, h⟩ := k_pl h
    have hw4 := k_wE eA3 (k_wo hw k_K18 7 (by decide))
    refine k_ltg eA3 ?_
    obtain ⟨r5, A6, hq7, h⟩ := k_pb h
    have hw8 := sgX7_nextToken hw4  hq7
    rw [hw8.1]
    rw [k_bds]
    rw [if_pos (k_wO hw8.2 k_K18)]
    try rw [k_p7_0 hw8.2]
    obtain ⟨r9, A10, hq11, h⟩ := k_pb h
    have hw12 := sgX7_isWord hw8.2 (by decide) hq11
    rw [hw12.1]
    rw [k_bds]
    rw [if_pos (k_wO hw12.2 k_K19)]
    obtain ⟨hc13, h⟩ := k_pk h
    rw [if_pos hc13]
    obtain ⟨A14, eA15, h⟩ := k_pl h
    have hw16 := k_wE eA15 (k_wo hw12.2 k_K19 6 (by decide))
    refine k_ltg eA15 ?_
    rw [if_pos (k_wO hw16 k_K18)]
    try rw [k_p7_0 hw16]
    rw [if_pos (k_wO hw16 k_K19)]
    by_cases c17 : (k_rd A14 19 6) = 0
    · rw [if_pos c17] at h
      rw [if_pos c17]
      obtain ⟨r18, A19, hq20, h⟩ := k_pb h
      have hw21 := sgX7_isWord hw16 (by decide) hq20
      rw [hw21.1]
      rw [k_bds]
      by_cases c22 : r18 = 0
      · rw [if_pos c22] at h
        rw [if_pos c22]
        rw [if_pos (k_wO hw21.2 k_K18)]
        obtain ⟨r23, A24, hq25, h⟩ := k_pb h
        have hw26 := sgX7_refuseToken hw21.2  hq25
        rw [hw26.1]
        rw [k_bds]
        obtain ⟨hc27, h⟩ := k_pk h
        rw [if_pos hc27]
        obtain ⟨rfl, rfl⟩ := k_pr h
        exact ⟨rfl, hw26.2⟩
      · rw [if_neg c22] at h
        rw [if_neg c22]
        exact sgX7_readLoss_b59  _ _ _ hw21.2 h
    · rw [if_neg c17] at h
      rw [if_neg c17]
      exact sgX7_readLoss_b59  _ _ _ hw16 h
  · rw [if_neg c1] at h
    rw [if_neg c1]
    obtain ⟨r28, A29, hq30, h⟩ := k_pb h
    have hw31 := sgX7_refuse hw  hq30
    rw [hw31.1]
    rw [k_bds]
    obtain ⟨hc32, h⟩ := k_pk h
    rw [if_pos hc32]
    obtain ⟨rfl, rfl⟩ := k_pr h
    exact ⟨rfl, hw31.2⟩
theorem sgX7_readLoss {sc : k_SC} {A : k_H} {r : Int} {A' : k_H} (hw : k_Wf sc A) (h : gX7_readLoss A  = some (r, A')) : fX7_readLoss A 18 = some (r, A') ∧ k_Wf sc A' :=
  sgX7_readLoss_b0 _ _ _ hw h
/-! X7_readWord -/
def gX7_readWord_b19 (A : k_H) : Option (Int × k_H) := some (1, A)
def gX7_readWord_b0 (A : k_H) (v1 : Int) : Option (Int × k_H) := k_bd (gX7_nextToken A) fun r1 A2 => k_bd (gX7_isWord A2 v1) fun r5 A6 => if r5 = 0 then (k_bd (gX7_refuseToken A6) fun r10 A11 => if r10 = 0 then (some (0, A11)) else (gX7_readWord_b19 A11)) else (gX7_readWord_b19 A6)
def gX7_readWord (A : k_H) (x1 : Int) : Option (Int × k_H) := gX7_readWord_b0 A x1
set_option maxRecDepth 100000 in
theorem sgX7_readWord_b19 {sc : k_SC} (A : k_H) (r : Int) (A' : k_H) (hw : k_Wf sc A) (h : gX7_readWord_b19 A = some (r, A')) : fX7_readWord_b19 A = some (r, A') ∧ k_Wf sc A' := by
  unfold gX7_readWord_b19 at h
  unfold fX7_readWord_b19
  obtain ⟨rfl, rfl⟩ := k_pr h
  exact ⟨rfl, hw⟩
set_option maxRecDepth 100000 in
theorem sgX7_readWord_b0 {sc : k_SC} (A : k_H) (v1 : Int) (r : Int) (A' : k_H) (hw : k_Wf sc A) (hv1 : k_isS v1) (h : gX7_readWord_b0 A v1 = some (r, A')) : fX7_readWord_b0 A 18 v1 = some (r, A') ∧ k_Wf sc A' := by
  unfold gX7_readWord_b0 at h
  unfold fX7_readWord_b0
  rw [if_pos (k_wO hw k_K18)]
  obtain ⟨r1, A2, hq3, h⟩ := k_pb h
  have hw4 := sgX7_nextToken hw  hq3
  rw [hw4.1]
  rw [k_bds]
  rw [if_pos (k_wO hw4.2 k_K18)]
  obtain ⟨r5, A6, hq7, h⟩ := k_pb h
  have hw8 := sgX7_isWord hw4.2 hv1 hq7
  rw [hw8.1]
  rw [k_bds]
  by_cases c9 : r5 = 0
  · rw [if_pos c9] at h
    rw [if_pos c9]
    rw [if_pos (k_wO hw8.2 k_K18)]
    obtain ⟨r10, A11, hq12, h⟩ := k_pb h
    have hw13 := sgX7_refuseToken hw8.2  hq12
    rw [hw13.1]
    rw [k_bds]
    by_cases c14 : r10 = 0
    · rw [if_pos c14] at h
      rw [if_pos c14]
      obtain ⟨rfl, rfl⟩ := k_pr h
      exact ⟨rfl, hw13.2⟩
    · rw [if_neg c14] at h
      rw [if_neg c14]
      exact sgX7_readWord_b19  _ _ _ hw13.2 h
  · rw [if_neg c9] at h
    rw [if_neg c9]
    exact sgX7_readWord_b19  _ _ _ hw8.2 h
theorem sgX7_readWord {sc : k_SC} {A : k_H} {x1 : Int} {r : Int} {A' : k_H} (hw : k_Wf sc A) (hx1 : k_isS x1) (h : gX7_readWord A x1 = some (r, A')) : fX7_readWord A 18 x1 = some (r, A') ∧ k_Wf sc A' :=
  sgX7_readWord_b0 _ _ _ _ hw hx1 h
/-! X8_book -/
def gX8_book_b114 (k34g : k_H → Int → Int → Option (Int × k_H)) (A : k_H) (v1 v2 : Int) : Option (Int × k_H) := k34g A v1 (k_wr (v2 + 1))
def gX8_book_h34 : Nat → k_H → Int → Int → Option (Int × k_H)
  | 0, _, _, _ => none
  | N + 1, A, v1, v2 => if v2 < (k_rd A 0 6) then (if 0 ≤ v2 ∧ v2 < ((12 : Nat) : Int) then (if 0 ≤ v1 ∧ v1 < ((6 : Nat) : Int) then (if 0 < (k_rd A ((24 + 4 * v2) + 3) v1) then (k_bd (gX2_asksMore A) fun r14 A15 => if r14 = 0 then (gX8_book_b114 (gX8_book_h34 N) A15 v1 v2) else (if 0 ≤ v1 ∧ v1 < ((6 : Nat) : Int) then (k_bd (gX8_fitOf A15 (72 + 8 * v1) (24 + 4 * v2)) fun r20 A21 => if r20 = 1 then (k_bd (gX2_ask A21 v2 (k_rd A21 ((24 + 4 * v2) + 3) v1)) fun r25 A26 => k_bd (gX8_closeTakenNights A26 v2) fun r29 A30 => gX8_book_b114 (gX8_book_h34 N) A30 v1 v2) else (gX8_book_b114 (gX8_book_h34 N) A21 v1 v2)) else none)) else (gX8_book_b114 (gX8_book_h34 N) A v1 v2)) else none) else none) else (if 0 ≤ v1 ∧ v1 < ((6 : Nat) : Int) then (k_bd (gX2_bookBest A (72 + 8 * v1)) fun r3 A4 => k_bd (gX8_worthOfTour A4 v1) fun r7 A8 => some (r7, A8)) else none)
def gX8_book_b0 (A : k_H) (v1 : Int) : Option (Int × k_H) := k_bd (gX8_isShow A v1) fun r1 A2 => if r1 = 0 then (some ((-1), A2)) else (if 0 ≤ v1 ∧ v1 < ((6 : Nat) : Int) then (k_bd (gX4_forgetTour A2 (72 + 8 * v1)) fun r7 A8 => k_bd (gX2_start A8 (72 + 8 * v1)) fun r11 A12 => gX8_book_h34 k_FU A12 v1 0) else none)
def gX8_book (A : k_H) (x1 : Int) : Option (Int × k_H) := gX8_book_b0 A x1
set_option maxRecDepth 100000 in
theorem sgX8_book_b114 {sc : k_SC} (k34f : k_H → Int → Int → Int → Option (Int × k_H)) (k34g : k_H → Int → Int → Option (Int × k_H)) (hk34 : ∀ (A : k_H) (v1 v2 : Int) (r : Int) (A' : k_H), k_Wf sc A → k34g A v1 v2 = some (r, A') → k34f A 0 v1 v2 = some (r, A') ∧ k_Wf sc A') (A : k_H) (v1 v2 : Int) (r : Int) (A' : k_H) (hw : k_Wf sc A) (h : gX8_book_b114 k34g A v1 v2 = some (r, A')) : fX8_book_b114 k34f A 0 v1 v2 = some (r, A') ∧ k_Wf sc A' := by
  unfold gX8_book_b114 at h
  unfold fX8_book_b114
  exact hk34 _ _ _ _ _ hw h
set_option maxRecDepth 100000 in
theorem sgX8_book_h34 {sc : k_SC} : ∀ (N : Nat) (A : k_H) (v1 v2 : Int) (r : Int) (A' : k_H), k_Wf sc A → gX8_book_h34 N A v1 v2 = some (r, A') → fX8_book_h34 N A 0 v1 v2 = some (r, A') ∧ k_Wf sc A' := by
  intro N
  induction N with
  | zero => intro A v1 v2 r A' hw  h; exact absurd h (by simp [gX8_book_h34])
  | succ N ih =>
    intro A v1 v2 r A' hw  h
    rw [gX8_book_h34] at h
    rw [fX8_book_h34]
    rw [if_pos (k_wO hw k_K0)]
    by_cases c1 : v2 < (k_rd A 0 6)
    · rw [if_pos c1] at h
      rw [if_pos c1]
      try rw [k_p8_1 hw]
      obtain ⟨hc11, h⟩ := k_pk h
      rw [if_pos (k_wA hw (k_R3) hc11)]
      try rw [k_a23 hw hc11]
      rw [if_pos (k_wO hw (k_b23 hc11))]
      try rw [k_p1_1 hw (k_b23 hc11)]
      obtain ⟨hc12, h⟩ := k_pk h
      rw [if_pos (k_wA hw ((k_q1_1 (k_b23 hc11))) hc12)]
      by_cases c13 : 0 < (k_rd A ((24 + 4 * v2) + 3) v1)
      · rw [if_pos c13] at h
        rw [if_pos c13]
        try rw [k_p8_4 hw]
        rw [if_pos (k_wO hw k_K12)]
        obtain ⟨r14, A15, hq16, h⟩ := k_pb h
        have hw17 := sgX2_asksMore hw  hq16
        rw [hw17.1]
        rw [k_bds]
        by_cases c18 : r14 = 0
        · rw [if_pos c18] at h
          rw [if_pos c18]
          exact sgX8_book_b114 (fX8_book_h34 N) (gX8_book_h34 N) ih _ _ _ _ _ hw17.2 h
        · rw [if_neg c18] at h
          rw [if_neg c18]
          rw [if_pos (k_wO hw17.2 k_K0)]
          try rw [k_p8_2 hw17.2]
          obtain ⟨hc19, h⟩ := k_pk h
          rw [if_pos (k_wA hw17.2 (k_R4) hc19)]
          try rw [k_a24 hw17.2 hc19]
          try rw [k_p8_1 hw17.2]
          rw [if_pos (k_wA hw17.2 (k_R3) hc11)]
          try rw [k_a23 hw17.2 hc11]
          obtain ⟨r20, A21, hq22, h⟩ := k_pb h
          have hw23 := sgX8_fitOf hw17.2 (k_b24 hc19) (k_b23 hc11) hq22
          rw [hw23.1]
          rw [k_bds]
          by_cases c24 : r20 = 1
          · rw [if_pos c24] at h
            rw [if_pos c24]
            rw [if_pos (k_wO hw23.2 k_K0)]
            try rw [k_p8_4 hw23.2]
            try rw [k_p8_1 hw23.2]
            try rw [k_p8_1 hw23.2]
            rw [if_pos (k_wA hw23.2 (k_R3) hc11)]
            try rw [k_a23 hw23.2 hc11]
            rw [if_pos (k_wO hw23.2 (k_b23 hc11))]
            try rw [k_p1_1 hw23.2 (k_b23 hc11)]
            rw [if_pos (k_wA hw23.2 ((k_q1_1 (k_b23 hc11))) hc12)]
            rw [if_pos (k_wO hw23.2 k_K12)]
            obtain ⟨r25, A26, hq27, h⟩ := k_pb h
            have hw28 := sgX2_ask hw23.2  hq27
            rw [hw28.1]
            rw [k_bds]
            rw [if_pos (k_wO hw28.2 k_K0)]
            obtain ⟨r29, A30, hq31, h⟩ := k_pb h
            have hw32 := sgX8_closeTakenNights hw28.2  hq31
            rw [hw32.1]
            rw [k_bds]
            exact sgX8_book_b114 (fX8_book_h34 N) (gX8_book_h34 N) ih _ _ _ _ _ hw32.2 h
          · rw [if_neg c24] at h
            rw [if_neg c24]
            exact sgX8_book_b114 (fX8_book_h34 N) (gX8_book_h34 N) ih _ _ _ _ _ hw23.2 h
      · rw [if_neg c13] at h
        rw [if_neg c13]
        exact sgX8_book_b114 (fX8_book_h34 N) (gX8_book_h34 N) ih _ _ _ _ _ hw h
    · rw [if_neg c1] at h
      rw [if_neg c1]
      try rw [k_p8_4 hw]
      try rw [k_p8_2 hw]
      obtain ⟨hc2, h⟩ := k_pk h
      rw [if_pos (k_wA hw (k_R4) hc2)]
      try rw [k_a24 hw hc2]
      rw [if_pos (k_wO hw k_K12)]
      obtain ⟨r3, A4, hq5, h⟩ := k_pb h
      have hw6 := sgX2_bookBest hw (k_b24 hc2) hq5
      rw [hw6.1]
      rw [k_bds]
      rw [if_pos (k_wO hw6.2 k_K0)]
      obtain ⟨r7, A8, hq9, h⟩ := k_pb h
      have hw10 := sgX8_worthOfTour hw6.2  hq9
      rw [hw10.1]
      rw [k_bds]
      obtain ⟨rfl, rfl⟩ := k_pr h
      exact ⟨rfl, hw10.2⟩
set_option maxRecDepth 100000 in
theorem sgX8_book_b0 {sc : k_SC} (A : k_H) (v1 : Int) (r : Int) (A' : k_H) (hw : k_Wf sc A) (h : gX8_book_b0 A v1 = some (r, A')) : fX8_book_b0 A 0 v1 = some (r, A') ∧ k_Wf sc A' := by
  unfold gX8_book_b0 at h
  unfold fX8_book_b0
  rw [if_pos (k_wO hw k_K0)]
  obtain ⟨r1, A2, hq3, h⟩ := k_pb h
  have hw4 := sgX8_isShow hw  hq3
  rw [hw4.1]
  rw [k_bds]
  by_cases c5 : r1 = 0
  · rw [if_pos c5] at h
    rw [if_pos c5]
    obtain ⟨rfl, rfl⟩ := k_pr h
    exact ⟨rfl, hw4.2⟩
  · rw [if_neg c5] at h
    rw [if_neg c5]
    rw [if_pos (k_wO hw4.2 k_K0)]
    try rw [k_p8_2 hw4.2]
    obtain ⟨hc6, h⟩ := k_pk h
    rw [if_pos (k_wA hw4.2 (k_R4) hc6)]
    try rw [k_a24 hw4.2 hc6]
    rw [if_pos (k_wO hw4.2 (k_b24 hc6))]
    obtain ⟨r7, A8, hq9, h⟩ := k_pb h
    have hw10 := sgX4_forgetTour hw4.2 (k_b24 hc6) hq9
    rw [hw10.1]
    rw [k_bds]
    rw [if_pos (k_wO hw10.2 k_K0)]
    try rw [k_p8_4 hw10.2]
    try rw [k_p8_2 hw10.2]
    rw [if_pos (k_wA hw10.2 (k_R4) hc6)]
    try rw [k_a24 hw10.2 hc6]
    rw [if_pos (k_wO hw10.2 k_K12)]
    obtain ⟨r11, A12, hq13, h⟩ := k_pb h
    have hw14 := sgX2_start hw10.2 (k_b24 hc6) hq13
    rw [hw14.1]
    rw [k_bds]
    exact sgX8_book_h34  _ _ _ _ _ _ hw14.2 h
theorem sgX8_book {sc : k_SC} {A : k_H} {x1 : Int} {r : Int} {A' : k_H} (hw : k_Wf sc A) (h : gX8_book A x1 = some (r, A')) : fX8_book A 0 x1 = some (r, A') ∧ k_Wf sc A' :=
  sgX8_book_b0 _ _ _ _ hw h
/-! X8_sum -/
def gX8_sum_b73 (k15g : k_H → Int → Int → Int → Option (Int × k_H)) (k26g : k_H → Int → Int → Int → Int → Option (Int × k_H)) (A : k_H) (v1 v2 v3 v4 : Int) : Option (Int × k_H) := k26g A v1 v2 v3 (k_wr (v4 + 1))
def gX8_sum_b71 (k15g : k_H → Int → Int → Int → Option (Int × k_H)) (k26g : k_H → Int → Int → Int → Int → Option (Int × k_H)) (A : k_H) (v1 v3 v4 s0 s1 : Int) : Option (Int × k_H) := gX8_sum_b73 k15g k26g A v1 (k_wr (s0 + s1)) v3 v4
def gX8_sum_h26 (k15g : k_H → Int → Int → Int → Option (Int × k_H)) : Nat → k_H → Int → Int → Int → Int → Option (Int × k_H)
  | 0, _, _, _, _, _ => none
  | N + 1, A, v1, v2, v3, v4 => if v4 < 14 then (if 0 ≤ v3 ∧ v3 < ((6 : Nat) : Int) then (if 0 ≤ v4 ∧ v4 < ((14 : Nat) : Int) then (if (k_rd A ((72 + 8 * v3) + 4) v4) = (-1) then (gX8_sum_b73 k15g (gX8_sum_h26 k15g N) A v1 v2 v3 v4) else (if v1 = 4 then (gX8_sum_b71 k15g (gX8_sum_h26 k15g N) A v1 v3 v4 v2 1) else (k_bd (gX4_partOfDoor A (72 + 8 * v3) v4 v1) fun r6 A7 => gX8_sum_b71 k15g (gX8_sum_h26 k15g N) A7 v1 v3 v4 v2 r6))) else none) else none) else (k15g A v1 v2 (k_wr (v3 + 1)))
def gX8_sum_h15 : Nat → k_H → Int → Int → Int → Option (Int × k_H)
  | 0, _, _, _, _ => none
  | N + 1, A, v1, v2, v3 => if v3 < (k_rd A 0 7) then (gX8_sum_h26 (gX8_sum_h15 N) k_FU A v1 v2 v3 0) else (some (v2, A))
def gX8_sum_b0 (A : k_H) (v1 : Int) : Option (Int × k_H) := k_bd (gX8_isWithin A v1 0 4) fun r1 A2 => if r1 = 0 then (some ((-1), A2)) else (gX8_sum_h15 k_FU A2 v1 0 0)
def gX8_sum (A : k_H) (x1 : Int) : Option (Int × k_H) := gX8_sum_b0 A x1
set_option maxRecDepth 100000 in
theorem sgX8_sum_b73 {sc : k_SC} (k15f : k_H → Int → Int → Int → Int → Option (Int × k_H)) (k15g : k_H → Int → Int → Int → Option (Int × k_H)) (hk15 : ∀ (A : k_H) (v1 v2 v3 : Int) (r : Int) (A' : k_H), k_Wf sc A → k15g A v1 v2 v3 = some (r, A') → k15f A 0 v1 v2 v3 = some (r, A') ∧ k_Wf sc A') (k26f : k_H → Int → Int → Int → Int → Int → Option (Int × k_H)) (k26g : k_H → Int → Int → Int → Int → Option (Int × k_H)) (hk26 : ∀ (A : k_H) (v1 v2 v3 v4 : Int) (r : Int) (A' : k_H), k_Wf sc A → k26g A v1 v2 v3 v4 = some (r, A') → k26f A 0 v1 v2 v3 v4 = some (r, A') ∧ k_Wf sc A') (A : k_H) (v1 v2 v3 v4 : Int) (r : Int) (A' : k_H) (hw : k_Wf sc A) (h : gX8_sum_b73 k15g k26g A v1 v2 v3 v4 = some (r, A')) : fX8_sum_b73 k15f k26f A 0 v1 v2 v3 v4 = some (r, A') ∧ k_Wf sc A' := by
  unfold gX8_sum_b73 at h
  unfold fX8_sum_b73
  exact hk26 _ _ _ _ _ _ _ hw h
set_option maxRecDepth 100000 in
theorem sgX8_sum_b71 {sc : k_SC} (k15f : k_H → Int → Int → Int → Int → Option (Int × k_H)) (k15g : k_H → Int → Int → Int → Option (Int × k_H)) (hk15 : ∀ (A : k_H) (v1 v2 v3 : Int) (r : Int) (A' : k_H), k_Wf sc A → k15g A v1 v2 v3 = some (r, A') → k15f A 0 v1 v2 v3 = some (r, A') ∧ k_Wf sc A') (k26f : k_H → Int → Int → Int → Int → Int → Option (Int × k_H)) (k26g : k_H → Int → Int → Int → Int → Option (Int × k_H)) (hk26 : ∀ (A : k_H) (v1 v2 v3 v4 : Int) (r : Int) (A' : k_H), k_Wf sc A → k26g A v1 v2 v3 v4 = some (r, A') → k26f A 0 v1 v2 v3 v4 = some (r, A') ∧ k_Wf sc A') (A : k_H) (v1 v3 v4 s0 s1 : Int) (r : Int) (A' : k_H) (hw : k_Wf sc A) (h : gX8_sum_b71 k15g k26g A v1 v3 v4 s0 s1 = some (r, A')) : fX8_sum_b71 k15f k26f A 0 v1 v3 v4 s0 s1 = some (r, A') ∧ k_Wf sc A' := by
  unfold gX8_sum_b71 at h
  unfold fX8_sum_b71
  exact sgX8_sum_b73 k15f k15g hk15 k26f k26g hk26 _ _ _ _ _ _ _ hw h
set_option maxRecDepth 100000 in
theorem sgX8_sum_h26 {sc : k_SC} (k15f : k_H → Int → Int → Int → Int → Option (Int × k_H)) (k15g : k_H → Int → Int → Int → Option (Int × k_H)) (hk15 : ∀ (A : k_H) (v1 v2 v3 : Int) (r : Int) (A' : k_H), k_Wf sc A → k15g A v1 v2 v3 = some (r, A') → k15f A 0 v1 v2 v3 = some (r, A') ∧ k_Wf sc A') : ∀ (N : Nat) (A : k_H) (v1 v2 v3 v4 : Int) (r : Int) (A' : k_H), k_Wf sc A → gX8_sum_h26 k15g N A v1 v2 v3 v4 = some (r, A') → fX8_sum_h26 k15f N A 0 v1 v2 v3 v4 = some (r, A') ∧ k_Wf sc A' := by
  intro N
  induction N with
  | zero => intro A v1 v2 v3 v4 r A' hw  h; exact absurd h (by simp [gX8_sum_h26])
  | succ N ih =>
    intro A v1 v2 v3 v4 r A' hw  h
    rw [gX8_sum_h26] at h
    rw [fX8_sum_h26]
    by_cases c1 : v4 < 14
    · rw [if_pos c1] at h
      rw [if_pos c1]
      rw [if_pos (k_wO hw k_K0)]
      try rw [k_p8_2 hw]
      obtain ⟨hc2, h⟩ := k_pk h
      rw [if_pos (k_wA hw (k_R4) hc2)]
      try rw [k_a24 hw hc2]
      rw [if_pos (k_wO hw (k_b24 hc2))]
      try rw [k_p4_2 hw (k_b24 hc2)]
      obtain ⟨hc3, h⟩ := k_pk h
      rw [if_pos (k_wA hw ((k_q4_2 (k_b24 hc2))) hc3)]
      by_cases c4 : (k_rd A ((72 + 8 * v3) + 4) v4) = (-1)
      · rw [if_pos c4] at h
        rw [if_pos c4]
        exact sgX8_sum_b73 k15f k15g hk15 (fX8_sum_h26 k15f N) (gX8_sum_h26 k15g N) ih _ _ _ _ _ _ _ hw h
      · rw [if_neg c4] at h
        rw [if_neg c4]
        by_cases c5 : v1 = 4
        · rw [if_pos c5] at h
          rw [if_pos c5]
          exact sgX8_sum_b71 k15f k15g hk15 (fX8_sum_h26 k15f N) (gX8_sum_h26 k15g N) ih _ _ _ _ _ _ _ _ hw h
        · rw [if_neg c5] at h
          rw [if_neg c5]
          try rw [k_p8_2 hw]
          try rw [k_a24 hw hc2]
          obtain ⟨r6, A7, hq8, h⟩ := k_pb h
          have hw9 := sgX4_partOfDoor hw (k_b24 hc2) hq8
          rw [hw9.1]
          rw [k_bds]
          exact sgX8_sum_b71 k15f k15g hk15 (fX8_sum_h26 k15f N) (gX8_sum_h26 k15g N) ih _ _ _ _ _ _ _ _ hw9.2 h
    · rw [if_neg c1] at h
      rw [if_neg c1]
      exact hk15 _ _ _ _ _ _ hw h
set_option maxRecDepth 100000 in
theorem sgX8_sum_h15 {sc : k_SC} : ∀ (N : Nat) (A : k_H) (v1 v2 v3 : Int) (r : Int) (A' : k_H), k_Wf sc A → gX8_sum_h15 N A v1 v2 v3 = some (r, A') → fX8_sum_h15 N A 0 v1 v2 v3 = some (r, A') ∧ k_Wf sc A' := by
  intro N
  induction N with
  | zero => intro A v1 v2 v3 r A' hw  h; exact absurd h (by simp [gX8_sum_h15])
  | succ N ih =>
    intro A v1 v2 v3 r A' hw  h
    rw [gX8_sum_h15] at h
    rw [fX8_sum_h15]
    rw [if_pos (k_wO hw k_K0)]
    by_cases c1 : v3 < (k_rd A 0 7)
    · rw [if_pos c1] at h
      rw [if_pos c1]
      exact sgX8_sum_h26 (fX8_sum_h15 N) (gX8_sum_h15 N) ih _ _ _ _ _ _ _ _ hw h
    · rw [if_neg c1] at h
      rw [if_neg c1]
      obtain ⟨rfl, rfl⟩ := k_pr h
      exact ⟨rfl, hw⟩
set_option maxRecDepth 100000 in
theorem sgX8_sum_b0 {sc : k_SC} (A : k_H) (v1 : Int) (r : Int) (A' : k_H) (hw : k_Wf sc A) (h : gX8_sum_b0 A v1 = some (r, A')) : fX8_sum_b0 A 0 v1 = some (r, A') ∧ k_Wf sc A' := by
  unfold gX8_sum_b0 at h
  unfold fX8_sum_b0
  obtain ⟨r1, A2, hq3, h⟩ := k_pb h
  have hw4 := sgX8_isWithin hw  hq3
  rw [hw4.1]
  rw [k_bds]
  by_cases c5 : r1 = 0
  · rw [if_pos c5] at h
    rw [if_pos c5]
    obtain ⟨rfl, rfl⟩ := k_pr h
    exact ⟨rfl, hw4.2⟩
  · rw [if_neg c5] at h
    rw [if_neg c5]
    exact sgX8_sum_h15  _ _ _ _ _ _ _ hw4.2 h
theorem sgX8_sum {sc : k_SC} {A : k_H} {x1 : Int} {r : Int} {A' : k_H} (hw : k_Wf sc A) (h : gX8_sum A x1 = some (r, A')) : fX8_sum A 0 x1 = some (r, A') ∧ k_Wf sc A' :=
  sgX8_sum_b0 _ _ _ _ hw h
/-! X7_readShare -/
def gX7_readShare_b65 (A : k_H) (v1 s0 : Int) : Option (Int × k_H) := k_bd (gX7_readWord A (-12)) fun r1 A2 => if r1 = 0 then (some (0, A2)) else (k_bd (gX7_readNumber A2 s0 99999) fun r6 A7 => if r6 = 0 then (some (0, A7)) else (if 0 ≤ v1 ∧ v1 < ((3 : Nat) : Int) then (k_lt (k_wt A7 21 v1 (k_rd A7 18 11)) fun A12 => k_lt (k_wt A12 19 2 (k_wr (v1 + 1))) fun A15 => k_bd (gX7_readStop A15) fun r18 A19 => if r18 = 0 ∨ r18 = 1 then (some (r18, A19)) else none) else none))
def gX7_readShare_b0 (A : k_H) : Option (Int × k_H) := if 3 ≤ (k_rd A 19 2) then (k_bd (gX7_refuse A 4) fun r13 A14 => if r13 = 0 ∨ r13 = 1 then (some (r13, A14)) else none) else (k_bd (gX7_readNumber A 0 100) fun r2 A3 => if r2 = 0 then (some (0, A3)) else (if 0 ≤ (k_rd A 19 2) ∧ (k_rd A 19 2) < ((3 : Nat) : Int) then (k_lt (k_wt A3 20 (k_rd A 19 2) (k_rd A3 18 11)) fun A8 => if 0 < (k_rd A 19 2) then (if 0 ≤ k_wr ((k_rd A 19 2) - 1) ∧ k_wr ((k_rd A 19 2) - 1) < ((3 : Nat) : Int) then (gX7_readShare_b65 A8 (k_rd A 19 2) (k_wr ((k_rd A8 21 (k_wr ((k_rd A 19 2) - 1))) + 1))) else none) else (gX7_readShare_b65 A8 (k_rd A 19 2) 0)) else none))
def gX7_readShare (A : k_H) : Option (Int × k_H) := gX7_readShare_b0 A
set_option maxRecDepth 100000 in
theorem sgX7_readShare_b65 {sc : k_SC} (A : k_H) (v1 s0 : Int) (r : Int) (A' : k_H) (hw : k_Wf sc A) (h : gX7_readShare_b65 A v1 s0 = some (r, A')) : fX7_readShare_b65 A 18 v1 s0 = some (r, A') ∧ k_Wf sc A' := by
  unfold gX7_readShare_b65 at h
  unfold fX7_readShare_b65
  rw [if_pos (k_wO hw k_K18)]
  obtain ⟨r1, A2, hq3, h⟩ := k_pb h
  have hw4 := sgX7_readWord hw (by decide) hq3
  rw [hw4.1]
  rw [k_bds]
  by_cases c5 : r1 = 0
  · rw [if_pos c5] at h
    rw [if_pos c5]
    obtain ⟨rfl, rfl⟩ := k_pr h
    exact ⟨rfl, hw4.2⟩
  · rw [if_neg c5] at h
    rw [if_neg c5]
    rw [if_pos (k_wO hw4.2 k_K18)]
    obtain ⟨r6, A7, hq8, h⟩ := k_pb h
    have hw9 := sgX7_readNumber hw4.2  hq8
    rw [hw9.1]
    rw [k_bds]
    by_cases c10 : r6 = 0
    · rw [if_pos c10] at h
      rw [if_pos c10]
      obtain ⟨rfl, rfl⟩ := k_pr h
      exact ⟨rfl, hw9.2⟩
    · rw [if_neg c10] at h
      rw [if_neg c10]
      rw [if_pos (k_wO hw9.2 k_K18)]
      try rw [k_p7_0 hw9.2]
      rw [if_pos (k_wO hw9.2 k_K19)]
      try rw [show k_rd A7 19 1 = 21 from k_p6_1 hw9.2 k_K19]
      obtain ⟨hc11, h⟩ := k_pk h
      rw [if_pos (k_wA hw9.2 (k_R21) hc11)]
      obtain ⟨A12, eA13, h⟩ := k_pl h
      have hw14 := k_wE eA13 (k_wa hw9.2 k_R21 (by decide))
      refine k_ltg eA13 ?_
      try rw [k_p7_0 hw14]
      rw [if_pos (k_wO hw14 k_K19)]
      obtain ⟨A15, eA16, h⟩ := k_pl h
      have hw17 := k_wE eA16 (k_wo hw14 k_K19 2 (by decide))
      refine k_ltg eA16 ?_
      obtain ⟨r18, A19, hq20, h⟩ := k_pb h
      have hw21 := sgX7_readStop hw17  hq20
      rw [hw21.1]
      rw [k_bds]
      obtain ⟨hc22, h⟩ := k_pk h
      rw [if_pos hc22]
      obtain ⟨rfl, rfl⟩ := k_pr h
      exact ⟨rfl, hw21.2⟩
set_option maxRecDepth 100000 in
theorem sgX7_readShare_b0 {sc : k_SC} (A : k_H) (r : Int) (A' : k_H) (hw : k_Wf sc A) (h : gX7_readShare_b0 A = some (r, A')) : fX7_readShare_b0 A 18 = some (r, A') ∧ k_Wf sc A' := by
  unfold gX7_readShare_b0 at h
  unfold fX7_readShare_b0
  rw [if_pos (k_wO hw k_K18)]
  try rw [k_p7_0 hw]
  rw [if_pos (k_wO hw k_K19)]
  by_cases c1 : 3 ≤ (k_rd A 19 2)
  · rw [if_pos c1] at h
    rw [if_pos c1]
    obtain ⟨r13, A14, hq15, h⟩ := k_pb h
    have hw16 := sgX7_refuse hw  hq15
    rw [hw16.1]
    rw [k_bds]
    obtain ⟨hc17, h⟩ := k_pk h
    rw [if_pos hc17]
    obtain ⟨rfl, rfl⟩ := k_pr h
    exact ⟨rfl, hw16.2⟩
  · rw [if_neg c1] at h
    rw [if_neg c1]
    obtain ⟨r2, A3, hq4, h⟩ := k_pb h
    have hw5 := sgX7_readNumber hw  hq4
    rw [hw5.1]
    rw [k_bds]
    by_cases c6 : r2 = 0
    · rw [if_pos c6] at h
      rw [if_pos c6]
      obtain ⟨rfl, rfl⟩ := k_pr h
      exact ⟨rfl, hw5.2⟩
    · rw [if_neg c6] at h
      rw [if_neg c6]
      rw [if_pos (k_wO hw5.2 k_K18)]
      try rw [k_p7_0 hw5.2]
      rw [if_pos (k_wO hw5.2 k_K19)]
      try rw [show k_rd A3 19 0 = 20 from k_p6_0 hw5.2 k_K19]
      obtain ⟨hc7, h⟩ := k_pk h
      rw [if_pos (k_wA hw5.2 (k_R20) hc7)]
      obtain ⟨A8, eA9, h⟩ := k_pl h
      have hw10 := k_wE eA9 (k_wa hw5.2 k_R20 (by decide))
      refine k_ltg eA9 ?_
      by_cases c11 : 0 < (k_rd A 19 2)
      · rw [if_pos c11] at h
        rw [if_pos c11]
        try rw [k_p7_0 hw10]
        rw [if_pos (k_wO hw10 k_K19)]
        try rw [show k_rd A8 19 1 = 21 from k_p6_1 hw10 k_K19]
        obtain ⟨hc12, h⟩ := k_pk h
        rw [if_pos (k_wA hw10 (k_R21) hc12)]
        exact sgX7_readShare_b65  _ _ _ _ _ hw10 h
      · rw [if_neg c11] at h
        rw [if_neg c11]
        exact sgX7_readShare_b65  _ _ _ _ _ hw10 h
theorem sgX7_readShare {sc : k_SC} {A : k_H} {r : Int} {A' : k_H} (hw : k_Wf sc A) (h : gX7_readShare A  = some (r, A')) : fX7_readShare A 18 = some (r, A') ∧ k_Wf sc A' :=
  sgX7_readShare_b0 _ _ _ hw h
/-! X7_readSubsidy -/
def gX7_readSubsidy_b0 (A : k_H) : Option (Int × k_H) := if (k_rd A 18 6) = 0 then (k_lt (k_wt A 18 6 1) fun A2 => k_bd (gX7_readNumber A2 0 100) fun r5 A6 => if r5 = 0 then (some (0, A6)) else (k_lt (k_wt A6 19 4 (k_rd A6 18 11)) fun A10 => k_bd (gX7_readWord A10 (-14)) fun r13 A14 => if r13 = 0 then (some (0, A14)) else (k_bd (gX7_readNumber A14 0 99999) fun r18 A19 => if r18 = 0 then (some (0, A19)) else (k_lt (k_wt A19 19 5 (k_rd A19 18 11)) fun A23 => k_bd (gX7_readStop A23) fun r26 A27 => if r26 = 0 ∨ r26 = 1 then (some (r26, A27)) else none)))) else (k_bd (gX7_refuse A 4) fun r31 A32 => if r31 = 0 ∨ r31 = 1 then (some (r31, A32)) else none)
def gX7_readSubsidy (A : k_H) : Option (Int × k_H) := gX7_readSubsidy_b0 A
set_option maxRecDepth 100000 in
theorem sgX7_readSubsidy_b0 {sc : k_SC} (A : k_H) (r : Int) (A' : k_H) (hw : k_Wf sc A) (h : gX7_readSubsidy_b0 A = some (r, A')) : fX7_readSubsidy_b0 A 18 = some (r, A') ∧ k_Wf sc A' := by
  unfold gX7_readSubsidy_b0 at h
  unfold fX7_readSubsidy_b0
  rw [if_pos (k_wO hw k_K18)]
  by_cases c1 : (k_rd A 18 6) = 0
  · rw [if_pos c1] at h
    rw [if_pos c1]
    obtain ⟨A2, eA3, h⟩ := k_pl h
    have hw4 := k_wE eA3 (k_wo hw k_K18 6 (by decide))
    refine k_ltg eA3 ?_
    obtain ⟨r5, A6, hq7, h⟩ := k_pb h
    have hw8 := sgX7_readNumber hw4  hq7
    rw [hw8.1]
    rw [k_bds]
    by_cases c9 : r5 = 0
    · rw [if_pos c9] at h
      rw [if_pos c9]
      obtain ⟨rfl, rfl⟩ := k_pr h
      exact ⟨rfl, hw8.2⟩
    · rw [if_neg c9] at h
      rw [if_neg c9]
      rw [if_pos (k_wO hw8.2 k_K18)]
      try rw [k_p7_0 hw8.2]
      rw [if_pos (k_wO hw8.2 k_K19)]
      obtain ⟨A10, eA11, h⟩ := k_pl h
      have hw12 := k_wE eA11 (k_wo hw8.2 k_K19 4 (by decide))
      refine k_ltg eA11 ?_
      obtain ⟨r13, A14, hq15, h⟩ := k_pb h
      have hw16 := sgX7_readWord hw12 (by decide) hq15
      rw [hw16.1]
      rw [k_bds]
      by_cases c17 : r13 = 0
      · rw [if_pos c17] at h
        rw [if_pos c17]
        obtain ⟨rfl, rfl⟩ := k_pr h
        exact ⟨rfl, hw16.2⟩
      · rw [if_neg c17] at h
        rw [if_neg c17]
        rw [if_pos (k_wO hw16.2 k_K18)]
        obtain ⟨r18, A19, hq20, h⟩ := k_pb h
        have hw21 := sgX7_readNumber hw16.2  hq20
        rw [hw21.1]
        rw [k_bds]
        by_cases c22 : r18 = 0
        · rw [if_pos c22] at h
          rw [if_pos c22]
          obtain ⟨rfl, rfl⟩ := k_pr h
          exact ⟨rfl, hw21.2⟩
        · rw [if_neg c22] at h
          rw [if_neg c22]
          rw [if_pos (k_wO hw21.2 k_K18)]
          try rw [k_p7_0 hw21.2]
          rw [if_pos (k_wO hw21.2 k_K19)]
          obtain ⟨A23, eA24, h⟩ := k_pl h
          have hw25 := k_wE eA24 (k_wo hw21.2 k_K19 5 (by decide))
          refine k_ltg eA24 ?_
          obtain ⟨r26, A27, hq28, h⟩ := k_pb h
          have hw29 := sgX7_readStop hw25  hq28
          rw [hw29.1]
          rw [k_bds]
          obtain ⟨hc30, h⟩ := k_pk h
          rw [if_pos hc30]
          obtain ⟨rfl, rfl⟩ := k_pr h
          exact ⟨rfl, hw29.2⟩
  · rw [if_neg c1] at h
    rw [if_neg c1]
    obtain ⟨r31, A32, hq33, h⟩ := k_pb h
    have hw34 := sgX7_refuse hw  hq33
    rw [hw34.1]
    rw [k_bds]
    obtain ⟨hc35, h⟩ := k_pk h
    rw [if_pos hc35]
    obtain ⟨rfl, rfl⟩ := k_pr h
    exact ⟨rfl, hw34.2⟩
theorem sgX7_readSubsidy {sc : k_SC} {A : k_H} {r : Int} {A' : k_H} (hw : k_Wf sc A) (h : gX7_readSubsidy A  = some (r, A')) : fX7_readSubsidy A 18 = some (r, A') ∧ k_Wf sc A' :=
  sgX7_readSubsidy_b0 _ _ _ hw h
/-! X7_readTerm -/
def gX7_readTerm_b0 (A : k_H) : Option (Int × k_H) := k_bd (gX7_isWord A (-10)) fun r1 A2 => if r1 = 0 then (k_bd (gX7_isWord A2 (-11)) fun r6 A7 => if r6 = 0 then (k_bd (gX7_isWord A7 (-13)) fun r11 A12 => if r11 = 0 then (k_bd (gX7_isWord A12 (-15)) fun r16 A17 => if r16 = 0 then (k_bd (gX7_refuseToken A17) fun r21 A22 => if r21 = 0 ∨ r21 = 1 then (some (r21, A22)) else none) else (k_bd (gX7_readLoss A17) fun r26 A27 => if r26 = 0 ∨ r26 = 1 then (some (r26, A27)) else none)) else (k_bd (gX7_readSubsidy A12) fun r31 A32 => if r31 = 0 ∨ r31 = 1 then (some (r31, A32)) else none)) else (k_bd (gX7_readShare A7) fun r36 A37 => if r36 = 0 ∨ r36 = 1 then (some (r36, A37)) else none)) else (k_bd (gX7_readFee A2) fun r41 A42 => if r41 = 0 ∨ r41 = 1 then (some (r41, A42)) else none)
def gX7_readTerm (A : k_H) : Option (Int × k_H) := gX7_readTerm_b0 A
set_option maxRecDepth 100000 in
theorem sgX7_readTerm_b0 {sc : k_SC} (A : k_H) (r : Int) (A' : k_H) (hw : k_Wf sc A) (h : gX7_readTerm_b0 A = some (r, A')) : fX7_readTerm_b0 A 18 = some (r, A') ∧ k_Wf sc A' := by
  unfold gX7_readTerm_b0 at h
  unfold fX7_readTerm_b0
  rw [if_pos (k_wO hw k_K18)]
  obtain ⟨r1, A2, hq3, h⟩ := k_pb h
  have hw4 := sgX7_isWord hw (by decide) hq3
  rw [hw4.1]
  rw [k_bds]
  by_cases c5 : r1 = 0
  · rw [if_pos c5] at h
    rw [if_pos c5]
    rw [if_pos (k_wO hw4.2 k_K18)]
    obtain ⟨r6, A7, hq8, h⟩ := k_pb h
    have hw9 := sgX7_isWord hw4.2 (by decide) hq8
    rw [hw9.1]
    rw [k_bds]
    by_cases c10 : r6 = 0
    · rw [if_pos c10] at h
      rw [if_pos c10]
      rw [if_pos (k_wO hw9.2 k_K18)]
      obtain ⟨r11, A12, hq13, h⟩ := k_pb h
      have hw14 := sgX7_isWord hw9.2 (by decide) hq13
      rw [hw14.1]
      rw [k_bds]
      by_cases c15 : r11 = 0
      · rw [if_pos c15] at h
        rw [if_pos c15]
        rw [if_pos (k_wO hw14.2 k_K18)]
        obtain ⟨r16, A17, hq18, h⟩ := k_pb h
        have hw19 := sgX7_isWord hw14.2 (by decide) hq18
        rw [hw19.1]
        rw [k_bds]
        by_cases c20 : r16 = 0
        · rw [if_pos c20] at h
          rw [if_pos c20]
          rw [if_pos (k_wO hw19.2 k_K18)]
          obtain ⟨r21, A22, hq23, h⟩ := k_pb h
          have hw24 := sgX7_refuseToken hw19.2  hq23
          rw [hw24.1]
          rw [k_bds]
          obtain ⟨hc25, h⟩ := k_pk h
          rw [if_pos hc25]
          obtain ⟨rfl, rfl⟩ := k_pr h
          exact ⟨rfl, hw24.2⟩
        · rw [if_neg c20] at h
          rw [if_neg c20]
          rw [if_pos (k_wO hw19.2 k_K18)]
          obtain ⟨r26, A27, hq28, h⟩ := k_pb h
          have hw29 := sgX7_readLoss hw19.2  hq28
          rw [hw29.1]
          rw [k_bds]
          obtain ⟨hc30, h⟩ := k_pk h
          rw [if_pos hc30]
          obtain ⟨rfl, rfl⟩ := k_pr h
          exact ⟨rfl, hw29.2⟩
      · rw [if_neg c15] at h
        rw [if_neg c15]
        rw [if_pos (k_wO hw14.2 k_K18)]
        obtain ⟨r31, A32, hq33, h⟩ := k_pb h
        have hw34 := sgX7_readSubsidy hw14.2  hq33
        rw [hw34.1]
        rw [k_bds]
        obtain ⟨hc35, h⟩ := k_pk h
        rw [if_pos hc35]
        obtain ⟨rfl, rfl⟩ := k_pr h
        exact ⟨rfl, hw34.2⟩
    · rw [if_neg c10] at h
      rw [if_neg c10]
      rw [if_pos (k_wO hw9.2 k_K18)]
      obtain ⟨r36, A37, hq38, h⟩ := k_pb h
      have hw39 := sgX7_readShare hw9.2  hq38
      rw [hw39.1]
      rw [k_bds]
      obtain ⟨hc40, h⟩ := k_pk h
      rw [if_pos hc40]
      obtain ⟨rfl, rfl⟩ := k_pr h
      exact ⟨rfl, hw39.2⟩
  · rw [if_neg c5] at h
    rw [if_neg c5]
    rw [if_pos (k_wO hw4.2 k_K18)]
    obtain ⟨r41, A42, hq43, h⟩ := k_pb h
    have hw44 := sgX7_readFee hw4.2  hq43
    rw [hw44.1]
    rw [k_bds]
    obtain ⟨hc45, h⟩ := k_pk h
    rw [if_pos hc45]
    obtain ⟨rfl, rfl⟩ := k_pr h
    exact ⟨rfl, hw44.2⟩
theorem sgX7_readTerm {sc : k_SC} {A : k_H} {r : Int} {A' : k_H} (hw : k_Wf sc A) (h : gX7_readTerm A  = some (r, A')) : fX7_readTerm A 18 = some (r, A') ∧ k_Wf sc A' :=
  sgX7_readTerm_b0 _ _ _ hw h
/-! X7_readText -/
def gX7_readText_h7 : Nat → k_H → Int → Option (Int × k_H)
  | 0, _, _ => none
  | N + 1, A, v2 => if v2 ≤ 200 then (k_bd (gX7_nextToken A) fun r2 A3 => if (k_rd A3 18 10) = 4 then (some (1, A3)) else (k_bd (gX7_readTerm A3) fun r7 A8 => if r7 = 0 then (some (0, A8)) else (k_lt (k_wt A8 18 1 (k_wr ((k_rd A8 18 1) + 1))) fun A12 => (gX7_readText_h7 N) A12 (k_wr (v2 + 1))))) else (some (1, A))
def gX7_readText_b0 (A : k_H) (v1 : Int) : Option (Int × k_H) := k_bd (gX7_start A v1) fun r1 A2 => gX7_readText_h7 k_FU A2 0
def gX7_readText (A : k_H) (x1 : Int) : Option (Int × k_H) := gX7_readText_b0 A x1
set_option maxRecDepth 100000 in
theorem sgX7_readText_h7 {sc : k_SC} : ∀ (N : Nat) (A : k_H) (v2 : Int) (r : Int) (A' : k_H), k_Wf sc A → gX7_readText_h7 N A v2 = some (r, A') → fX7_readText_h7 N A 18 v2 = some (r, A') ∧ k_Wf sc A' := by
  intro N
  induction N with
  | zero => intro A v2 r A' hw  h; exact absurd h (by simp [gX7_readText_h7])
  | succ N ih =>
    intro A v2 r A' hw  h
    rw [gX7_readText_h7] at h
    rw [fX7_readText_h7]
    by_cases c1 : v2 ≤ 200
    · rw [if_pos c1] at h
      rw [if_pos c1]
      rw [if_pos (k_wO hw k_K18)]
      obtain ⟨r2, A3, hq4, h⟩ := k_pb h
      have hw5 := sgX7_nextToken hw  hq4
      rw [hw5.1]
      rw [k_bds]
      rw [if_pos (k_wO hw5.2 k_K18)]
      by_cases c6 : (k_rd A3 18 10) = 4
      · rw [if_pos c6] at h
        rw [if_pos c6]
        obtain ⟨rfl, rfl⟩ := k_pr h
        exact ⟨rfl, hw5.2⟩
      · rw [if_neg c6] at h
        rw [if_neg c6]
        obtain ⟨r7, A8, hq9, h⟩ := k_pb h
        have hw10 := sgX7_readTerm hw5.2  hq9
        rw [hw10.1]
        rw [k_bds]
        by_cases c11 : r7 = 0
        · rw [if_pos c11] at h
          rw [if_pos c11]
          obtain ⟨rfl, rfl⟩ := k_pr h
          exact ⟨rfl, hw10.2⟩
        · rw [if_neg c11] at h
          rw [if_neg c11]
          rw [if_pos (k_wO hw10.2 k_K18)]
          obtain ⟨A12, eA13, h⟩ := k_pl h
          have hw14 := k_wE eA13 (k_wo hw10.2 k_K18 1 (by decide))
          refine k_ltg eA13 ?_
          exact ih _ _ _ _ hw14 h
    · rw [if_neg c1] at h
      rw [if_neg c1]
      obtain ⟨rfl, rfl⟩ := k_pr h
      exact ⟨rfl, hw⟩
set_option maxRecDepth 100000 in
theorem sgX7_readText_b0 {sc : k_SC} (A : k_H) (v1 : Int) (r : Int) (A' : k_H) (hw : k_Wf sc A) (hv1 : k_isK v1 5) (h : gX7_readText_b0 A v1 = some (r, A')) : fX7_readText_b0 A 18 v1 = some (r, A') ∧ k_Wf sc A' := by
  unfold gX7_readText_b0 at h
  unfold fX7_readText_b0
  rw [if_pos (k_wO hw k_K18)]
  obtain ⟨r1, A2, hq3, h⟩ := k_pb h
  have hw4 := sgX7_start hw hv1 hq3
  rw [hw4.1]
  rw [k_bds]
  exact sgX7_readText_h7  _ _ _ _ _ hw4.2 h
theorem sgX7_readText {sc : k_SC} {A : k_H} {x1 : Int} {r : Int} {A' : k_H} (hw : k_Wf sc A) (hx1 : k_isK x1 5) (h : gX7_readText A x1 = some (r, A')) : fX7_readText A 18 x1 = some (r, A') ∧ k_Wf sc A' :=
  sgX7_readText_b0 _ _ _ _ hw hx1 h
/-! X8_terms -/
def gX8_terms_b66 (A : k_H) (v2 : Int) : Option (Int × k_H) := k_lt (k_wt A 1 1 0) fun A1 => some (v2, A1)
def gX8_terms_b0 (A : k_H) (v1 : Int) : Option (Int × k_H) := k_bd (gX8_isShow A v1) fun r1 A2 => if r1 = 0 then (gX8_terms_b66 A2 (-300)) else (k_bd (gX7_readText A2 1) fun r6 A7 => if r6 = 0 then (gX8_terms_b66 A7 (k_wr ((-1) - (k_rd A7 18 3)))) else (if 0 ≤ v1 ∧ v1 < ((6 : Nat) : Int) then (k_bd (gX6_copyFrom A7 ((72 + 8 * v1) + 5) 19) fun r12 A13 => gX8_terms_b66 A13 (k_rd A13 18 1)) else none))
def gX8_terms (A : k_H) (x1 : Int) : Option (Int × k_H) := gX8_terms_b0 A x1
set_option maxRecDepth 100000 in
theorem sgX8_terms_b66 {sc : k_SC} (A : k_H) (v2 : Int) (r : Int) (A' : k_H) (hw : k_Wf sc A) (h : gX8_terms_b66 A v2 = some (r, A')) : fX8_terms_b66 A 0 v2 = some (r, A') ∧ k_Wf sc A' := by
  unfold gX8_terms_b66 at h
  unfold fX8_terms_b66
  rw [if_pos (k_wO hw k_K0)]
  try rw [k_p8_0 hw]
  rw [if_pos (k_wO hw k_K1)]
  obtain ⟨A1, eA2, h⟩ := k_pl h
  have hw3 := k_wE eA2 (k_wo hw k_K1 1 (by decide))
  refine k_ltg eA2 ?_
  obtain ⟨rfl, rfl⟩ := k_pr h
  exact ⟨rfl, hw3⟩
set_option maxRecDepth 100000 in
theorem sgX8_terms_b0 {sc : k_SC} (A : k_H) (v1 : Int) (r : Int) (A' : k_H) (hw : k_Wf sc A) (h : gX8_terms_b0 A v1 = some (r, A')) : fX8_terms_b0 A 0 v1 = some (r, A') ∧ k_Wf sc A' := by
  unfold gX8_terms_b0 at h
  unfold fX8_terms_b0
  rw [if_pos (k_wO hw k_K0)]
  obtain ⟨r1, A2, hq3, h⟩ := k_pb h
  have hw4 := sgX8_isShow hw  hq3
  rw [hw4.1]
  rw [k_bds]
  by_cases c5 : r1 = 0
  · rw [if_pos c5] at h
    rw [if_pos c5]
    exact sgX8_terms_b66  _ _ _ _ hw4.2 h
  · rw [if_neg c5] at h
    rw [if_neg c5]
    rw [if_pos (k_wO hw4.2 k_K0)]
    try rw [k_p8_5 hw4.2]
    try rw [k_p8_0 hw4.2]
    rw [if_pos (k_wO hw4.2 k_K18)]
    obtain ⟨r6, A7, hq8, h⟩ := k_pb h
    have hw9 := sgX7_readText hw4.2 k_K1 hq8
    rw [hw9.1]
    rw [k_bds]
    by_cases c10 : r6 = 0
    · rw [if_pos c10] at h
      rw [if_pos c10]
      rw [if_pos (k_wO hw9.2 k_K0)]
      try rw [k_p8_5 hw9.2]
      rw [if_pos (k_wO hw9.2 k_K18)]
      exact sgX8_terms_b66  _ _ _ _ hw9.2 h
    · rw [if_neg c10] at h
      rw [if_neg c10]
      rw [if_pos (k_wO hw9.2 k_K0)]
      try rw [k_p8_2 hw9.2]
      obtain ⟨hc11, h⟩ := k_pk h
      rw [if_pos (k_wA hw9.2 (k_R4) hc11)]
      try rw [k_a24 hw9.2 hc11]
      rw [if_pos (k_wO hw9.2 (k_b24 hc11))]
      try rw [k_p4_3 hw9.2 (k_b24 hc11)]
      try rw [k_p8_5 hw9.2]
      rw [if_pos (k_wO hw9.2 k_K18)]
      try rw [k_p7_0 hw9.2]
      rw [if_pos (k_wO hw9.2 (k_q4_3 (k_b24 hc11)))]
      obtain ⟨r12, A13, hq14, h⟩ := k_pb h
      have hw15 := sgX6_copyFrom hw9.2 (k_q4_3 (k_b24 hc11)) k_K19 hq14
      rw [hw15.1]
      rw [k_bds]
      rw [if_pos (k_wO hw15.2 k_K0)]
      try rw [k_p8_5 hw15.2]
      rw [if_pos (k_wO hw15.2 k_K18)]
      exact sgX8_terms_b66  _ _ _ _ hw15.2 h
theorem sgX8_terms {sc : k_SC} {A : k_H} {x1 : Int} {r : Int} {A' : k_H} (hw : k_Wf sc A) (h : gX8_terms A x1 = some (r, A')) : fX8_terms A 0 x1 = some (r, A') ∧ k_Wf sc A' :=
  sgX8_terms_b0 _ _ _ _ hw h
