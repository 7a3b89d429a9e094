/-! X9_thrown -/
def gX9_thrown_b0 (A : k_H) : Option (Int × k_H) := some ((k_rd A 120 0), A)
def gX9_thrown (A : k_H) : Option (Int × k_H) := gX9_thrown_b0 A
set_option maxRecDepth 100000 in
theorem sgX9_thrown_b0 {sc : k_SC} (A : k_H) (r : Int) (A' : k_H) (hw : k_Wf sc A) (h : gX9_thrown_b0 A = some (r, A')) : fX9_thrown_b0 A 120 = some (r, A') ∧ k_Wf sc A' := by
  unfold gX9_thrown_b0 at h
  unfold fX9_thrown_b0
  rw [if_pos (k_wO hw k_K120)]
  obtain ⟨rfl, rfl⟩ := k_pr h
  exact ⟨rfl, hw⟩
theorem sgX9_thrown {sc : k_SC} {A : k_H} {r : Int} {A' : k_H} (hw : k_Wf sc A) (h : gX9_thrown A  = some (r, A')) : fX9_thrown A 120 = some (r, A') ∧ k_Wf sc A' :=
  sgX9_thrown_b0 _ _ _ hw h
/-! X9_throwsIf -/
def gX9_throwsIf_b10 (A : k_H) (v1 s1 : Int) : Option (Int × k_H) := k_lt (k_wt A 120 0 s1) fun A1 => if v1 = 0 ∨ v1 = 1 then (some (v1, A1)) else none
def gX9_throwsIf_b0 (A : k_H) (v1 : Int) : Option (Int × k_H) := if v1 = 0 then (gX9_throwsIf_b10 A v1 0) else (gX9_throwsIf_b10 A v1 1)
def gX9_throwsIf (A : k_H) (x1 : Int) : Option (Int × k_H) := gX9_throwsIf_b0 A x1
set_option maxRecDepth 100000 in
theorem sgX9_throwsIf_b10 {sc : k_SC} (A : k_H) (v1 s1 : Int) (r : Int) (A' : k_H) (hw : k_Wf sc A) (h : gX9_throwsIf_b10 A v1 s1 = some (r, A')) : fX9_throwsIf_b10 A v1 120 s1 = some (r, A') ∧ k_Wf sc A' := by
  unfold gX9_throwsIf_b10 at h
  unfold fX9_throwsIf_b10
  rw [if_pos (k_wO hw k_K120)]
  obtain ⟨A1, eA2, h⟩ := k_pl h
  have hw3 := k_wE eA2 (k_wo hw k_K120 0 (by decide))
  refine k_ltg eA2 ?_
  obtain ⟨hc4, h⟩ := k_pk h
  rw [if_pos hc4]
  obtain ⟨rfl, rfl⟩ := k_pr h
  exact ⟨rfl, hw3⟩
set_option maxRecDepth 100000 in
theorem sgX9_throwsIf_b0 {sc : k_SC} (A : k_H) (v1 : Int) (r : Int) (A' : k_H) (hw : k_Wf sc A) (h : gX9_throwsIf_b0 A v1 = some (r, A')) : fX9_throwsIf_b0 A 120 v1 = some (r, A') ∧ k_Wf sc A' := by
  unfold gX9_throwsIf_b0 at h
  unfold fX9_throwsIf_b0
  by_cases c1 : v1 = 0
  · rw [if_pos c1] at h
    rw [if_pos c1]
    exact sgX9_throwsIf_b10  _ _ _ _ _ hw h
  · rw [if_neg c1] at h
    rw [if_neg c1]
    exact sgX9_throwsIf_b10  _ _ _ _ _ hw h
theorem sgX9_throwsIf {sc : k_SC} {A : k_H} {x1 : Int} {r : Int} {A' : k_H} (hw : k_Wf sc A) (h : gX9_throwsIf A x1 = some (r, A')) : fX9_throwsIf A 120 x1 = some (r, A') ∧ k_Wf sc A' :=
  sgX9_throwsIf_b0 _ _ _ _ hw h
/-! X9_four -/
def gX9_four_h3 : Nat → k_H → Int → Int → Option (Int × k_H)
  | 0, _, _, _ => none
  | N + 1, A, v1, v2 => if 0 ≤ v2 then (if 0 ≤ (k_rd A 120 2) ∧ (k_rd A 120 2) < ((200 : Nat) : Int) then (k_lt (k_wt A 121 (k_rd A 120 2) (k_b8 (k_b8 (k_shr v1 v2)))) fun A3 => k_lt (k_wt A3 120 2 (k_wr ((k_rd A3 120 2) + 1))) fun A6 => (gX9_four_h3 N) A6 v1 (k_wr (v2 + (-8)))) else none) else (some (0, A))
def gX9_four_b0 (A : k_H) (v1 : Int) : Option (Int × k_H) := gX9_four_h3 k_FU A v1 24
def gX9_four (A : k_H) (x1 : Int) : Option (Int × k_H) := gX9_four_b0 A x1
set_option maxRecDepth 100000 in
theorem sgX9_four_h3 {sc : k_SC} : ∀ (N : Nat) (A : k_H) (v1 v2 : Int) (r : Int) (A' : k_H), k_Wf sc A → gX9_four_h3 N A v1 v2 = some (r, A') → fX9_four_h3 N A 120 v1 v2 = some (r, A') ∧ k_Wf sc A' := by
  intro N
  induction N with
  | zero => intro A v1 v2 r A' hw  h; exact absurd h (by simp [gX9_four_h3])
  | succ N ih =>
    intro A v1 v2 r A' hw  h
    rw [gX9_four_h3] at h
    rw [fX9_four_h3]
    by_cases c1 : 0 ≤ v2
    · rw [if_pos c1] at h
      rw [if_pos c1]
      rw [if_pos (k_wO hw k_K120)]
      try rw [k_p9_1 hw]
      obtain ⟨hc2, h⟩ := k_pk h
      rw [if_pos (k_wA hw (k_R121) hc2)]
      obtain ⟨A3, eA4, h⟩ := k_pl h
      have hw5 := k_wE eA4 (k_wa hw k_R121 (by decide))
      refine k_ltg eA4 ?_
      obtain ⟨A6, eA7, h⟩ := k_pl h
      have hw8 := k_wE eA7 (k_wo hw5 k_K120 2 (by decide))
      refine k_ltg eA7 ?_
      exact ih _ _ _ _ _ hw8 h
    · rw [if_neg c1] at h
      rw [if_neg c1]
      obtain ⟨rfl, rfl⟩ := k_pr h
      exact ⟨rfl, hw⟩
set_option maxRecDepth 100000 in
theorem sgX9_four_b0 {sc : k_SC} (A : k_H) (v1 : Int) (r : Int) (A' : k_H) (hw : k_Wf sc A) (h : gX9_four_b0 A v1 = some (r, A')) : fX9_four_b0 A 120 v1 = some (r, A') ∧ k_Wf sc A' := by
  unfold gX9_four_b0 at h
  unfold fX9_four_b0
  exact sgX9_four_h3  _ _ _ _ _ _ hw h
theorem sgX9_four {sc : k_SC} {A : k_H} {x1 : Int} {r : Int} {A' : k_H} (hw : k_Wf sc A) (h : gX9_four A x1 = some (r, A')) : fX9_four A 120 x1 = some (r, A') ∧ k_Wf sc A' :=
  sgX9_four_b0 _ _ _ _ hw h
/-! X9_end -/
def gX9_end_b0 (A : k_H) (v1 : Int) : Option (Int × k_H) := k_lt (k_wt A 120 0 0) fun A1 => if 0 ≤ v1 then (if (k_rd A1 120 2) < v1 then (some (0, A1)) else (k_lt (k_wt A1 120 2 v1) fun A6 => some (1, A6))) else (some (0, A1))
def gX9_end (A : k_H) (x1 : Int) : Option (Int × k_H) := gX9_end_b0 A x1
set_option maxRecDepth 100000 in
theorem sgX9_end_b0 {sc : k_SC} (A : k_H) (v1 : Int) (r : Int) (A' : k_H) (hw : k_Wf sc A) (h : gX9_end_b0 A v1 = some (r, A')) : fX9_end_b0 A 120 v1 = some (r, A') ∧ k_Wf sc A' := by
  unfold gX9_end_b0 at h
  unfold fX9_end_b0
  rw [if_pos (k_wO hw k_K120)]
  obtain ⟨A1, eA2, h⟩ := k_pl h
  have hw3 := k_wE eA2 (k_wo hw k_K120 0 (by decide))
  refine k_ltg eA2 ?_
  by_cases c4 : 0 ≤ v1
  · rw [if_pos c4] at h
    rw [if_pos c4]
    by_cases c5 : (k_rd A1 120 2) < v1
    · rw [if_pos c5] at h
      rw [if_pos c5]
      obtain ⟨rfl, rfl⟩ := k_pr h
      exact ⟨rfl, hw3⟩
    · rw [if_neg c5] at h
      rw [if_neg c5]
      obtain ⟨A6, eA7, h⟩ := k_pl h
      have hw8 := k_wE eA7 (k_wo hw3 k_K120 2 (by decide))
      refine k_ltg eA7 ?_
      obtain ⟨rfl, rfl⟩ := k_pr h
      exact ⟨rfl, hw8⟩
  · rw [if_neg c4] at h
    rw [if_neg c4]
    obtain ⟨rfl, rfl⟩ := k_pr h
    exact ⟨rfl, hw3⟩
theorem sgX9_end {sc : k_SC} {A : k_H} {x1 : Int} {r : Int} {A' : k_H} (hw : k_Wf sc A) (h : gX9_end A x1 = some (r, A')) : fX9_end A 120 x1 = some (r, A') ∧ k_Wf sc A' :=
  sgX9_end_b0 _ _ _ _ hw h
/-! X9_taken -/
def gX9_taken_b0 (A : k_H) : Option (Int × k_H) := k_lt (k_wt A 120 3 (k_rd A 120 2)) fun A1 => k_lt (k_wt A1 120 2 0) fun A4 => k_lt (k_wt A4 120 4 0) fun A7 => some (0, A7)
def gX9_taken (A : k_H) : Option (Int × k_H) := gX9_taken_b0 A
set_option maxRecDepth 100000 in
theorem sgX9_taken_b0 {sc : k_SC} (A : k_H) (r : Int) (A' : k_H) (hw : k_Wf sc A) (h : gX9_taken_b0 A = some (r, A')) : fX9_taken_b0 A 120 = some (r, A') ∧ k_Wf sc A' := by
  unfold gX9_taken_b0 at h
  unfold fX9_taken_b0
  rw [if_pos (k_wO hw k_K120)]
  obtain ⟨A1, eA2, h⟩ := k_pl h
  have hw3 := k_wE eA2 (k_wo hw k_K120 3 (by decide))
  refine k_ltg eA2 ?_
  obtain ⟨A4, eA5, h⟩ := k_pl h
  have hw6 := k_wE eA5 (k_wo hw3 k_K120 2 (by decide))
  refine k_ltg eA5 ?_
  obtain ⟨A7, eA8, h⟩ := k_pl h
  have hw9 := k_wE eA8 (k_wo hw6 k_K120 4 (by decide))
  refine k_ltg eA8 ?_
  obtain ⟨rfl, rfl⟩ := k_pr h
  exact ⟨rfl, hw9⟩
theorem sgX9_taken {sc : k_SC} {A : k_H} {r : Int} {A' : k_H} (hw : k_Wf sc A) (h : gX9_taken A  = some (r, A')) : fX9_taken A 120 = some (r, A') ∧ k_Wf sc A' :=
  sgX9_taken_b0 _ _ _ hw h
/-! X9_isIn -/
def gX9_isIn_b0 (A : k_H) (v0 v1 v2 : Int) : Option (Int × k_H) := if v1 ≤ v0 then (if v0 ≤ v2 then (some (1, A)) else (some (0, A))) else (some (0, A))
def gX9_isIn (A : k_H) (x0 x1 x2 : Int) : Option (Int × k_H) := gX9_isIn_b0 A x0 x1 x2
set_option maxRecDepth 100000 in
theorem sgX9_isIn_b0 {sc : k_SC} (A : k_H) (v0 v1 v2 : Int) (r : Int) (A' : k_H) (hw : k_Wf sc A) (h : gX9_isIn_b0 A v0 v1 v2 = some (r, A')) : fX9_isIn_b0 A v0 v1 v2 = some (r, A') ∧ k_Wf sc A' := by
  unfold gX9_isIn_b0 at h
  unfold fX9_isIn_b0
  by_cases c1 : v1 ≤ v0
  · rw [if_pos c1] at h
    rw [if_pos c1]
    by_cases c2 : v0 ≤ v2
    · rw [if_pos c2] at h
      rw [if_pos c2]
      obtain ⟨rfl, rfl⟩ := k_pr h
      exact ⟨rfl, hw⟩
    · rw [if_neg c2] at h
      rw [if_neg c2]
      obtain ⟨rfl, rfl⟩ := k_pr h
      exact ⟨rfl, hw⟩
  · rw [if_neg c1] at h
    rw [if_neg c1]
    obtain ⟨rfl, rfl⟩ := k_pr h
    exact ⟨rfl, hw⟩
theorem sgX9_isIn {sc : k_SC} {A : k_H} {x0 x1 x2 : Int} {r : Int} {A' : k_H} (hw : k_Wf sc A) (h : gX9_isIn A x0 x1 x2 = some (r, A')) : fX9_isIn A x0 x1 x2 = some (r, A') ∧ k_Wf sc A' :=
  sgX9_isIn_b0 _ _ _ _ _ _ hw h
/-! X9_isHall -/
def gX9_isHall_b0 (A : k_H) (v1 : Int) : Option (Int × k_H) := if 0 ≤ v1 then (if v1 < (k_rd A 120 20) then (some (1, A)) else (some (0, A))) else (some (0, A))
def gX9_isHall (A : k_H) (x1 : Int) : Option (Int × k_H) := gX9_isHall_b0 A x1
set_option maxRecDepth 100000 in
theorem sgX9_isHall_b0 {sc : k_SC} (A : k_H) (v1 : Int) (r : Int) (A' : k_H) (hw : k_Wf sc A) (h : gX9_isHall_b0 A v1 = some (r, A')) : fX9_isHall_b0 A 120 v1 = some (r, A') ∧ k_Wf sc A' := by
  unfold gX9_isHall_b0 at h
  unfold fX9_isHall_b0
  by_cases c1 : 0 ≤ v1
  · rw [if_pos c1] at h
    rw [if_pos c1]
    rw [if_pos (k_wO hw k_K120)]
    by_cases c2 : v1 < (k_rd A 120 20)
    · rw [if_pos c2] at h
      rw [if_pos c2]
      obtain ⟨rfl, rfl⟩ := k_pr h
      exact ⟨rfl, hw⟩
    · rw [if_neg c2] at h
      rw [if_neg c2]
      obtain ⟨rfl, rfl⟩ := k_pr h
      exact ⟨rfl, hw⟩
  · rw [if_neg c1] at h
    rw [if_neg c1]
    obtain ⟨rfl, rfl⟩ := k_pr h
    exact ⟨rfl, hw⟩
theorem sgX9_isHall {sc : k_SC} {A : k_H} {x1 : Int} {r : Int} {A' : k_H} (hw : k_Wf sc A) (h : gX9_isHall A x1 = some (r, A')) : fX9_isHall A 120 x1 = some (r, A') ∧ k_Wf sc A' :=
  sgX9_isHall_b0 _ _ _ _ hw h
/-! X9_isShow -/
def gX9_isShow_b0 (A : k_H) (v1 : Int) : Option (Int × k_H) := if 0 ≤ v1 then (if v1 < (k_rd A 120 21) then (some (1, A)) else (some (0, A))) else (some (0, A))
def gX9_isShow (A : k_H) (x1 : Int) : Option (Int × k_H) := gX9_isShow_b0 A x1
set_option maxRecDepth 100000 in
theorem sgX9_isShow_b0 {sc : k_SC} (A : k_H) (v1 : Int) (r : Int) (A' : k_H) (hw : k_Wf sc A) (h : gX9_isShow_b0 A v1 = some (r, A')) : fX9_isShow_b0 A 120 v1 = some (r, A') ∧ k_Wf sc A' := by
  unfold gX9_isShow_b0 at h
  unfold fX9_isShow_b0
  by_cases c1 : 0 ≤ v1
  · rw [if_pos c1] at h
    rw [if_pos c1]
    rw [if_pos (k_wO hw k_K120)]
    by_cases c2 : v1 < (k_rd A 120 21)
    · rw [if_pos c2] at h
      rw [if_pos c2]
      obtain ⟨rfl, rfl⟩ := k_pr h
      exact ⟨rfl, hw⟩
    · rw [if_neg c2] at h
      rw [if_neg c2]
      obtain ⟨rfl, rfl⟩ := k_pr h
      exact ⟨rfl, hw⟩
  · rw [if_neg c1] at h
    rw [if_neg c1]
    obtain ⟨rfl, rfl⟩ := k_pr h
    exact ⟨rfl, hw⟩
theorem sgX9_isShow {sc : k_SC} {A : k_H} {x1 : Int} {r : Int} {A' : k_H} (hw : k_Wf sc A) (h : gX9_isShow A x1 = some (r, A')) : fX9_isShow A 120 x1 = some (r, A') ∧ k_Wf sc A' :=
  sgX9_isShow_b0 _ _ _ _ hw h
/-! X9_areAmps -/
def gX9_areAmps_h20 : Nat → k_H → Int → Option (Int × k_H)
  | 0, _, _ => none
  | N + 1, A, v3 => if v3 < (k_rd A 120 3) then (if 0 ≤ v3 ∧ v3 < ((200 : Nat) : Int) then (if (k_rd A 121 v3) = 0 then (some (0, A)) else ((gX9_areAmps_h20 N) A (k_wr (v3 + 1)))) else none) else (some (1, A))
def gX9_areAmps_b0 (A : k_H) (v1 v2 : Int) : Option (Int × k_H) := if v1 ≤ (k_rd A 120 3) then (if v2 < (k_rd A 120 3) then (some (0, A)) else (gX9_areAmps_h20 k_FU A 0)) else (some (0, A))
def gX9_areAmps (A : k_H) (x1 x2 : Int) : Option (Int × k_H) := gX9_areAmps_b0 A x1 x2
set_option maxRecDepth 100000 in
theorem sgX9_areAmps_h20 {sc : k_SC} : ∀ (N : Nat) (A : k_H) (v3 : Int) (r : Int) (A' : k_H), k_Wf sc A → gX9_areAmps_h20 N A v3 = some (r, A') → fX9_areAmps_h20 N A 120 v3 = some (r, A') ∧ k_Wf sc A' := by
  intro N
  induction N with
  | zero => intro A v3 r A' hw  h; exact absurd h (by simp [gX9_areAmps_h20])
  | succ N ih =>
    intro A v3 r A' hw  h
    rw [gX9_areAmps_h20] at h
    rw [fX9_areAmps_h20]
    rw [if_pos (k_wO hw k_K120)]
    by_cases c1 : v3 < (k_rd A 120 3)
    · rw [if_pos c1] at h
      rw [if_pos c1]
      try rw [k_p9_1 hw]
      obtain ⟨hc2, h⟩ := k_pk h
      rw [if_pos (k_wA hw (k_R121) hc2)]
      by_cases c3 : (k_rd A 121 v3) = 0
      · rw [if_pos c3] at h
        rw [if_pos c3]
        obtain ⟨rfl, rfl⟩ := k_pr h
        exact ⟨rfl, hw⟩
      · rw [if_neg c3] at h
        rw [if_neg c3]
        exact ih _ _ _ _ hw h
    · rw [if_neg c1] at h
      rw [if_neg c1]
      obtain ⟨rfl, rfl⟩ := k_pr h
      exact ⟨rfl, hw⟩
set_option maxRecDepth 100000 in
theorem sgX9_areAmps_b0 {sc : k_SC} (A : k_H) (v1 v2 : Int) (r : Int) (A' : k_H) (hw : k_Wf sc A) (h : gX9_areAmps_b0 A v1 v2 = some (r, A')) : fX9_areAmps_b0 A 120 v1 v2 = some (r, A') ∧ k_Wf sc A' := by
  unfold gX9_areAmps_b0 at h
  unfold fX9_areAmps_b0
  rw [if_pos (k_wO hw k_K120)]
  by_cases c1 : v1 ≤ (k_rd A 120 3)
  · rw [if_pos c1] at h
    rw [if_pos c1]
    by_cases c2 : v2 < (k_rd A 120 3)
    · rw [if_pos c2] at h
      rw [if_pos c2]
      obtain ⟨rfl, rfl⟩ := k_pr h
      exact ⟨rfl, hw⟩
    · rw [if_neg c2] at h
      rw [if_neg c2]
      exact sgX9_areAmps_h20  _ _ _ _ _ hw h
  · rw [if_neg c1] at h
    rw [if_neg c1]
    obtain ⟨rfl, rfl⟩ := k_pr h
    exact ⟨rfl, hw⟩
theorem sgX9_areAmps {sc : k_SC} {A : k_H} {x1 x2 : Int} {r : Int} {A' : k_H} (hw : k_Wf sc A) (h : gX9_areAmps A x1 x2 = some (r, A')) : fX9_areAmps A 120 x1 x2 = some (r, A') ∧ k_Wf sc A' :=
  sgX9_areAmps_b0 _ _ _ _ _ hw h
/-! X9_wire -/
def gX9_wire_h27 : Nat → k_H → Int → Int → Option (Int × k_H)
  | 0, _, _, _ => none
  | N + 1, A, v1, v4 => if v4 < (k_rd A 120 3) then (if 0 ≤ v4 ∧ v4 < ((200 : Nat) : Int) then (if 0 ≤ k_wr (k_wr (4 * v1) + v4) ∧ k_wr (k_wr (4 * v1) + v4) < ((48 : Nat) : Int) then (k_lt (k_wt A 127 (k_wr (k_wr (4 * v1) + v4)) (k_and (k_rd A 121 v4) 255)) fun A4 => (gX9_wire_h27 N) A4 v1 (k_wr (v4 + 1))) else none) else none) else (some (0, A))
def gX9_wire_b0 (A : k_H) (v1 v2 v3 : Int) : Option (Int × k_H) := if 0 ≤ v1 ∧ v1 < ((12 : Nat) : Int) then (k_lt (k_wt A 124 v1 v2) fun A2 => if 0 ≤ v1 ∧ v1 < ((12 : Nat) : Int) then (k_lt (k_wt A2 125 v1 v3) fun A6 => if 0 ≤ v1 ∧ v1 < ((12 : Nat) : Int) then (k_lt (k_wt A6 126 v1 (k_rd A6 120 3)) fun A10 => gX9_wire_h27 k_FU A10 v1 0) else none) else none) else none
def gX9_wire (A : k_H) (x1 x2 x3 : Int) : Option (Int × k_H) := gX9_wire_b0 A x1 x2 x3
set_option maxRecDepth 100000 in
theorem sgX9_wire_h27 {sc : k_SC} : ∀ (N : Nat) (A : k_H) (v1 v4 : Int) (r : Int) (A' : k_H), k_Wf sc A → gX9_wire_h27 N A v1 v4 = some (r, A') → fX9_wire_h27 N A 120 v1 v4 = some (r, A') ∧ k_Wf sc A' := by
  intro N
  induction N with
  | zero => intro A v1 v4 r A' hw  h; exact absurd h (by simp [gX9_wire_h27])
  | succ N ih =>
    intro A v1 v4 r A' hw  h
    rw [gX9_wire_h27] at h
    rw [fX9_wire_h27]
    rw [if_pos (k_wO hw k_K120)]
    by_cases c1 : v4 < (k_rd A 120 3)
    · rw [if_pos c1] at h
      rw [if_pos c1]
      try rw [k_p9_10 hw]
      try rw [k_p9_1 hw]
      obtain ⟨hc2, h⟩ := k_pk h
      rw [if_pos (k_wA hw (k_R121) hc2)]
      obtain ⟨hc3, h⟩ := k_pk h
      rw [if_pos (k_wA hw (k_R127) hc3)]
      obtain ⟨A4, eA5, h⟩ := k_pl h
      have hw6 := k_wE eA5 (k_wa hw k_R127 (by decide))
      refine k_ltg eA5 ?_
      exact ih _ _ _ _ _ hw6 h
    · rw [if_neg c1] at h
      rw [if_neg c1]
      obtain ⟨rfl, rfl⟩ := k_pr h
      exact ⟨rfl, hw⟩
set_option maxRecDepth 100000 in
theorem sgX9_wire_b0 {sc : k_SC} (A : k_H) (v1 v2 v3 : Int) (r : Int) (A' : k_H) (hw : k_Wf sc A) (h : gX9_wire_b0 A v1 v2 v3 = some (r, A')) : fX9_wire_b0 A 120 v1 v2 v3 = some (r, A') ∧ k_Wf sc A' := by
  unfold gX9_wire_b0 at h
  unfold fX9_wire_b0
  rw [if_pos (k_wO hw k_K120)]
  try rw [k_p9_7 hw]
  obtain ⟨hc1, h⟩ := k_pk h
  rw [if_pos (k_wA hw (k_R124) hc1)]
  obtain ⟨A2, eA3, h⟩ := k_pl h
  have hw4 := k_wE eA3 (k_wa hw k_R124 (by decide))
  refine k_ltg eA3 ?_
  try rw [k_p9_8 hw4]
  obtain ⟨hc5, h⟩ := k_pk h
  rw [if_pos (k_wA hw4 (k_R125) hc5)]
  obtain ⟨A6, eA7, h⟩ := k_pl h
  have hw8 := k_wE eA7 (k_wa hw4 k_R125 (by decide))
  refine k_ltg eA7 ?_
  try rw [k_p9_9 hw8]
  obtain ⟨hc9, h⟩ := k_pk h
  rw [if_pos (k_wA hw8 (k_R126) hc9)]
  obtain ⟨A10, eA11, h⟩ := k_pl h
  have hw12 := k_wE eA11 (k_wa hw8 k_R126 (by decide))
  refine k_ltg eA11 ?_
  exact sgX9_wire_h27  _ _ _ _ _ _ hw12 h
theorem sgX9_wire {sc : k_SC} {A : k_H} {x1 x2 x3 : Int} {r : Int} {A' : k_H} (hw : k_Wf sc A) (h : gX9_wire A x1 x2 x3 = some (r, A')) : fX9_wire A 120 x1 x2 x3 = some (r, A') ∧ k_Wf sc A' :=
  sgX9_wire_b0 _ _ _ _ _ _ hw h
/-! X9_plug -/
def gX9_plug_b164 (k46g : k_H → Int → Int → Int → Option (Int × k_H)) (A : k_H) (v1 v2 v3 v4 : Int) : Option (Int × k_H) := if 0 ≤ v3 ∧ v3 < ((8 : Nat) : Int) then (if 0 ≤ v2 ∧ v2 < ((12 : Nat) : Int) then (if (k_rd A 137 v3) < (k_rd A 126 v2) then (if 0 ≤ (k_rd A 137 v3) ∧ (k_rd A 137 v3) < ((4 : Nat) : Int) then (k_lt (k_wt A 138 (k_rd A 137 v3) (k_wr ((k_rd A 138 (k_rd A 137 v3)) + v4))) fun A9 => k46g A9 v1 v2 (k_wr (v3 + 1))) else none) else (k_lt (k_wt A 137 v3 (-1)) fun A4 => if k_wr (v3 + (-1)) < 0 then (some (0, A4)) else (k46g A4 v1 v2 (k_wr (v3 + (-1)))))) else none) else none
def gX9_plug_h104 (k46g : k_H → Int → Int → Int → Option (Int × k_H)) : Nat → k_H → Int → Int → Int → Int → Option (Int × k_H)
  | 0, _, _, _, _, _ => none
  | N + 1, A, v1, v2, v3, v4 => if 0 ≤ v3 ∧ v3 < ((8 : Nat) : Int) then (if 0 ≤ v2 ∧ v2 < ((12 : Nat) : Int) then (if (k_rd A 137 v3) < (k_rd A 126 v2) then (if 0 ≤ (k_rd A 137 v3) ∧ (k_rd A 137 v3) < ((4 : Nat) : Int) then (if 0 ≤ k_wr (k_wr (4 * v2) + (k_rd A 137 v3)) ∧ k_wr (k_wr (4 * v2) + (k_rd A 137 v3)) < ((48 : Nat) : Int) then (if (k_rd A 127 (k_wr (k_wr (4 * v2) + (k_rd A 137 v3)))) < k_wr ((k_rd A 138 (k_rd A 137 v3)) + v4) then (k_lt (k_wt A 137 v3 (k_wr ((k_rd A 137 v3) + 1))) fun A7 => (gX9_plug_h104 k46g N) A7 v1 v2 v3 v4) else (gX9_plug_b164 k46g A v1 v2 v3 v4)) else none) else none) else (gX9_plug_b164 k46g A v1 v2 v3 v4)) else none) else none
def gX9_plug_b94 (k46g : k_H → Int → Int → Int → Option (Int × k_H)) (A : k_H) (v1 v2 v3 v4 : Int) : Option (Int × k_H) := if 0 ≤ v3 ∧ v3 < ((8 : Nat) : Int) then (k_lt (k_wt A 137 v3 (k_wr ((k_rd A 137 v3) + 1))) fun A2 => gX9_plug_h104 k46g k_FU A2 v1 v2 v3 v4) else none
def gX9_plug_h46 : Nat → k_H → Int → Int → Int → Option (Int × k_H)
  | 0, _, _, _, _ => none
  | N + 1, A, v1, v2, v3 => if 0 ≤ v1 ∧ v1 < ((6 : Nat) : Int) then (if v3 < (k_rd A 130 v1) then (if 0 ≤ k_wr (k_wr (8 * v1) + v3) ∧ k_wr (k_wr (8 * v1) + v3) < ((48 : Nat) : Int) then (if 0 ≤ v3 ∧ v3 < ((8 : Nat) : Int) then (if 0 ≤ (k_rd A 137 v3) then (if 0 ≤ (k_rd A 137 v3) ∧ (k_rd A 137 v3) < ((4 : Nat) : Int) then (k_lt (k_wt A 138 (k_rd A 137 v3) (k_wr ((k_rd A 138 (k_rd A 137 v3)) - (k_rd A 131 (k_wr (k_wr (8 * v1) + v3)))))) fun A7 => gX9_plug_b94 (gX9_plug_h46 N) A7 v1 v2 v3 (k_rd A 131 (k_wr (k_wr (8 * v1) + v3)))) else none) else (gX9_plug_b94 (gX9_plug_h46 N) A v1 v2 v3 (k_rd A 131 (k_wr (k_wr (8 * v1) + v3))))) else none) else none) else (some (1, A))) else none
def gX9_plug_h25 : Nat → k_H → Int → Int → Int → Int → Option (Int × k_H)
  | 0, _, _, _, _, _ => none
  | N + 1, A, v1, v2, v3, v4 => if v4 < 8 then (if 0 ≤ v4 ∧ v4 < ((8 : Nat) : Int) then (k_lt (k_wt A 137 v4 (-1)) fun A3 => (gX9_plug_h25 N) A3 v1 v2 v3 (k_wr (v4 + 1))) else none) else (gX9_plug_h46 k_FU A v1 v2 v3)
def gX9_plug_h2 : Nat → k_H → Int → Int → Int → Option (Int × k_H)
  | 0, _, _, _, _ => none
  | N + 1, A, v1, v2, v3 => if v3 < 4 then (if 0 ≤ v3 ∧ v3 < ((4 : Nat) : Int) then (k_lt (k_wt A 138 v3 0) fun A3 => (gX9_plug_h2 N) A3 v1 v2 (k_wr (v3 + 1))) else none) else (gX9_plug_h25 k_FU A v1 v2 0 0)
def gX9_plug_b0 (A : k_H) (v1 v2 : Int) : Option (Int × k_H) := gX9_plug_h2 k_FU A v1 v2 0
def gX9_plug (A : k_H) (x1 x2 : Int) : Option (Int × k_H) := gX9_plug_b0 A x1 x2
set_option maxRecDepth 100000 in
theorem sgX9_plug_b164 {sc : k_SC} (k46f : k_H → Int → Int → Int → Int → Option (Int × k_H)) (k46g : k_H → Int → Int → Int → Option (Int × k_H)) (hk46 : ∀ (A : k_H) (v1 v2 v3 : Int) (r : Int) (A' : k_H), k_Wf sc A → k46g A v1 v2 v3 = some (r, A') → k46f A 120 v1 v2 v3 = some (r, A') ∧ k_Wf sc A') (A : k_H) (v1 v2 v3 v4 : Int) (r : Int) (A' : k_H) (hw : k_Wf sc A) (h : gX9_plug_b164 k46g A v1 v2 v3 v4 = some (r, A')) : fX9_plug_b164 k46f A 120 v1 v2 v3 v4 = some (r, A') ∧ k_Wf sc A' := by
  unfold gX9_plug_b164 at h
  unfold fX9_plug_b164
  rw [if_pos (k_wO hw k_K120)]
  try rw [k_p9_22 hw]
  obtain ⟨hc1, h⟩ := k_pk h
  rw [if_pos (k_wA hw (k_R137) hc1)]
  try rw [k_p9_9 hw]
  obtain ⟨hc2, h⟩ := k_pk h
  rw [if_pos (k_wA hw (k_R126) hc2)]
  by_cases c3 : (k_rd A 137 v3) < (k_rd A 126 v2)
  · rw [if_pos c3] at h
    rw [if_pos c3]
    try rw [k_p9_23 hw]
    try rw [k_p9_22 hw]
    obtain ⟨hc8, h⟩ := k_pk h
    rw [if_pos (k_wA hw (k_R138) hc8)]
    obtain ⟨A9, eA10, h⟩ := k_pl h
    have hw11 := k_wE eA10 (k_wa hw k_R138 (by decide))
    refine k_ltg eA10 ?_
    exact hk46 _ _ _ _ _ _ hw11 h
  · rw [if_neg c3] at h
    rw [if_neg c3]
    try rw [k_p9_22 hw]
    obtain ⟨A4, eA5, h⟩ := k_pl h
    have hw6 := k_wE eA5 (k_wa hw k_R137 (by decide))
    refine k_ltg eA5 ?_
    by_cases c7 : k_wr (v3 + (-1)) < 0
    · rw [if_pos c7] at h
      rw [if_pos c7]
      obtain ⟨rfl, rfl⟩ := k_pr h
      exact ⟨rfl, hw6⟩
    · rw [if_neg c7] at h
      rw [if_neg c7]
      exact hk46 _ _ _ _ _ _ hw6 h
set_option maxRecDepth 100000 in
theorem sgX9_plug_h104 {sc : k_SC} (k46f : k_H → Int → Int → Int → Int → Option (Int × k_H)) (k46g : k_H → Int → Int → Int → Option (Int × k_H)) (hk46 : ∀ (A : k_H) (v1 v2 v3 : Int) (r : Int) (A' : k_H), k_Wf sc A → k46g A v1 v2 v3 = some (r, A') → k46f A 120 v1 v2 v3 = some (r, A') ∧ k_Wf sc A') : ∀ (N : Nat) (A : k_H) (v1 v2 v3 v4 : Int) (r : Int) (A' : k_H), k_Wf sc A → gX9_plug_h104 k46g N A v1 v2 v3 v4 = some (r, A') → fX9_plug_h104 k46f N A 120 v1 v2 v3 v4 = some (r, A') ∧ k_Wf sc A' := by
  intro N
  induction N with
  | zero => intro A v1 v2 v3 v4 r A' hw  h; exact absurd h (by simp [gX9_plug_h104])
  | succ N ih =>
    intro A v1 v2 v3 v4 r A' hw  h
    rw [gX9_plug_h104] at h
    rw [fX9_plug_h104]
    rw [if_pos (k_wO hw k_K120)]
    try rw [k_p9_22 hw]
    obtain ⟨hc1, h⟩ := k_pk h
    rw [if_pos (k_wA hw (k_R137) hc1)]
    try rw [k_p9_9 hw]
    obtain ⟨hc2, h⟩ := k_pk h
    rw [if_pos (k_wA hw (k_R126) hc2)]
    by_cases c3 : (k_rd A 137 v3) < (k_rd A 126 v2)
    · rw [if_pos c3] at h
      rw [if_pos c3]
      try rw [k_p9_23 hw]
      try rw [k_p9_22 hw]
      obtain ⟨hc4, h⟩ := k_pk h
      rw [if_pos (k_wA hw (k_R138) hc4)]
      try rw [k_p9_10 hw]
      try rw [k_p9_22 hw]
      obtain ⟨hc5, h⟩ := k_pk h
      rw [if_pos (k_wA hw (k_R127) hc5)]
      by_cases c6 : (k_rd A 127 (k_wr (k_wr (4 * v2) + (k_rd A 137 v3)))) < k_wr ((k_rd A 138 (k_rd A 137 v3)) + v4)
      · rw [if_pos c6] at h
        rw [if_pos c6]
        try rw [k_p9_22 hw]
        obtain ⟨A7, eA8, h⟩ := k_pl h
        have hw9 := k_wE eA8 (k_wa hw k_R137 (by decide))
        refine k_ltg eA8 ?_
        exact ih _ _ _ _ _ _ _ hw9 h
      · rw [if_neg c6] at h
        rw [if_neg c6]
        exact sgX9_plug_b164 k46f k46g hk46 _ _ _ _ _ _ _ hw h
    · rw [if_neg c3] at h
      rw [if_neg c3]
      exact sgX9_plug_b164 k46f k46g hk46 _ _ _ _ _ _ _ hw h
set_option maxRecDepth 100000 in
theorem sgX9_plug_b94 {sc : k_SC} (k46f : k_H → Int → Int → Int → Int → Option (Int × k_H)) (k46g : k_H → Int → Int → Int → Option (Int × k_H)) (hk46 : ∀ (A : k_H) (v1 v2 v3 : Int) (r : Int) (A' : k_H), k_Wf sc A → k46g A v1 v2 v3 = some (r, A') → k46f A 120 v1 v2 v3 = some (r, A') ∧ k_Wf sc A') (A : k_H) (v1 v2 v3 v4 : Int) (r : Int) (A' : k_H) (hw : k_Wf sc A) (h : gX9_plug_b94 k46g A v1 v2 v3 v4 = some (r, A')) : fX9_plug_b94 k46f A 120 v1 v2 v3 v4 = some (r, A') ∧ k_Wf sc A' := by
  unfold gX9_plug_b94 at h
  unfold fX9_plug_b94
  rw [if_pos (k_wO hw k_K120)]
  try rw [k_p9_22 hw]
  obtain ⟨hc1, h⟩ := k_pk h
  rw [if_pos (k_wA hw (k_R137) hc1)]
  obtain ⟨A2, eA3, h⟩ := k_pl h
  have hw4 := k_wE eA3 (k_wa hw k_R137 (by decide))
  refine k_ltg eA3 ?_
  exact sgX9_plug_h104 k46f k46g hk46 _ _ _ _ _ _ _ _ hw4 h
set_option maxRecDepth 100000 in
theorem sgX9_plug_h46 {sc : k_SC} : ∀ (N : Nat) (A : k_H) (v1 v2 v3 : Int) (r : Int) (A' : k_H), k_Wf sc A → gX9_plug_h46 N A v1 v2 v3 = some (r, A') → fX9_plug_h46 N A 120 v1 v2 v3 = some (r, A') ∧ k_Wf sc A' := by
  intro N
  induction N with
  | zero => intro A v1 v2 v3 r A' hw  h; exact absurd h (by simp [gX9_plug_h46])
  | succ N ih =>
    intro A v1 v2 v3 r A' hw  h
    rw [gX9_plug_h46] at h
    rw [fX9_plug_h46]
    rw [if_pos (k_wO hw k_K120)]
    try rw [k_p9_13 hw]
    obtain ⟨hc1, h⟩ := k_pk h
    rw [if_pos (k_wA hw (k_R130) hc1)]
    by_cases c2 : v3 < (k_rd A 130 v1)
    · rw [if_pos c2] at h
      rw [if_pos c2]
      try rw [k_p9_14 hw]
      obtain ⟨hc3, h⟩ := k_pk h
      rw [if_pos (k_wA hw (k_R131) hc3)]
      try rw [k_p9_22 hw]
      obtain ⟨hc4, h⟩ := k_pk h
      rw [if_pos (k_wA hw (k_R137) hc4)]
      by_cases c5 : 0 ≤ (k_rd A 137 v3)
      · rw [if_pos c5] at h
        rw [if_pos c5]
        try rw [k_p9_23 hw]
        try rw [k_p9_22 hw]
        obtain ⟨hc6, h⟩ := k_pk h
        rw [if_pos (k_wA hw (k_R138) hc6)]
        obtain ⟨A7, eA8, h⟩ := k_pl h
        have hw9 := k_wE eA8 (k_wa hw k_R138 (by decide))
        refine k_ltg eA8 ?_
        exact sgX9_plug_b94 (fX9_plug_h46 N) (gX9_plug_h46 N) ih _ _ _ _ _ _ _ hw9 h
      · rw [if_neg c5] at h
        rw [if_neg c5]
        exact sgX9_plug_b94 (fX9_plug_h46 N) (gX9_plug_h46 N) ih _ _ _ _ _ _ _ hw h
    · rw [if_neg c2] at h
      rw [if_neg c2]
      obtain ⟨rfl, rfl⟩ := k_pr h
      exact ⟨rfl, hw⟩
set_option maxRecDepth 100000 in
theorem sgX9_plug_h25 {sc : k_SC} : ∀ (N : Nat) (A : k_H) (v1 v2 v3 v4 : Int) (r : Int) (A' : k_H), k_Wf sc A → gX9_plug_h25 N A v1 v2 v3 v4 = some (r, A') → fX9_plug_h25 N A 120 v1 v2 v3 v4 = some (r, A') ∧ k_Wf sc A' := by
  intro N
  induction N with
  | zero => intro A v1 v2 v3 v4 r A' hw  h; exact absurd h (by simp [gX9_plug_h25])
  | succ N ih =>
    intro A v1 v2 v3 v4 r A' hw  h
    rw [gX9_plug_h25] at h
    rw [fX9_plug_h25]
    by_cases c1 : v4 < 8
    · rw [if_pos c1] at h
      rw [if_pos c1]
      rw [if_pos (k_wO hw k_K120)]
      try rw [k_p9_22 hw]
      obtain ⟨hc2, h⟩ := k_pk h
      rw [if_pos (k_wA hw (k_R137) hc2)]
      obtain ⟨A3, eA4, h⟩ := k_pl h
      have hw5 := k_wE eA4 (k_wa hw k_R137 (by decide))
      refine k_ltg eA4 ?_
      exact ih _ _ _ _ _ _ _ hw5 h
    · rw [if_neg c1] at h
      rw [if_neg c1]
      exact sgX9_plug_h46  _ _ _ _ _ _ _ hw h
set_option maxRecDepth 100000 in
theorem sgX9_plug_h2 {sc : k_SC} : ∀ (N : Nat) (A : k_H) (v1 v2 v3 : Int) (r : Int) (A' : k_H), k_Wf sc A → gX9_plug_h2 N A v1 v2 v3 = some (r, A') → fX9_plug_h2 N A 120 v1 v2 v3 = some (r, A') ∧ k_Wf sc A' := by
  intro N
  induction N with
  | zero => intro A v1 v2 v3 r A' hw  h; exact absurd h (by simp [gX9_plug_h2])
  | succ N ih =>
    intro A v1 v2 v3 r A' hw  h
    rw [gX9_plug_h2] at h
    rw [fX9_plug_h2]
    by_cases c1 : v3 < 4
    · rw [if_pos c1] at h
      rw [if_pos c1]
      rw [if_pos (k_wO hw k_K120)]
      try rw [k_p9_23 hw]
      obtain ⟨hc2, h⟩ := k_pk h
      rw [if_pos (k_wA hw (k_R138) hc2)]
      obtain ⟨A3, eA4, h⟩ := k_pl h
      have hw5 := k_wE eA4 (k_wa hw k_R138 (by decide))
      refine k_ltg eA4 ?_
      exact ih _ _ _ _ _ _ hw5 h
    · rw [if_neg c1] at h
      rw [if_neg c1]
      exact sgX9_plug_h25  _ _ _ _ _ _ _ _ hw h
set_option maxRecDepth 100000 in
theorem sgX9_plug_b0 {sc : k_SC} (A : k_H) (v1 v2 : Int) (r : Int) (A' : k_H) (hw : k_Wf sc A) (h : gX9_plug_b0 A v1 v2 = some (r, A')) : fX9_plug_b0 A 120 v1 v2 = some (r, A') ∧ k_Wf sc A' := by
  unfold gX9_plug_b0 at h
  unfold fX9_plug_b0
  exact sgX9_plug_h2  _ _ _ _ _ _ _ hw h
theorem sgX9_plug {sc : k_SC} {A : k_H} {x1 x2 : Int} {r : Int} {A' : k_H} (hw : k_Wf sc A) (h : gX9_plug A x1 x2 = some (r, A')) : fX9_plug A 120 x1 x2 = some (r, A') ∧ k_Wf sc A' :=
  sgX9_plug_b0 _ _ _ _ _ hw h
/-! X9_milesOf -/
def gX9_milesOf_b52 (A : k_H) (s0 s1 : Int) : Option (Int × k_H) := some (k_wr (s0 + s1), A)
def gX9_milesOf_b39 (A : k_H) (v4 s0 : Int) : Option (Int × k_H) := if v4 < 0 then (gX9_milesOf_b52 A s0 (k_wr (-v4))) else (gX9_milesOf_b52 A s0 v4)
def gX9_milesOf_b0 (A : k_H) (v1 v2 : Int) : Option (Int × k_H) := if 0 ≤ v1 ∧ v1 < ((12 : Nat) : Int) then (if 0 ≤ v2 ∧ v2 < ((12 : Nat) : Int) then (if 0 ≤ v1 ∧ v1 < ((12 : Nat) : Int) then (if 0 ≤ v2 ∧ v2 < ((12 : Nat) : Int) then (if k_wr ((k_rd A 122 v1) - (k_rd A 122 v2)) < 0 then (gX9_milesOf_b39 A (k_wr ((k_rd A 123 v1) - (k_rd A 123 v2))) (k_wr (-(k_wr ((k_rd A 122 v1) - (k_rd A 122 v2)))))) else (gX9_milesOf_b39 A (k_wr ((k_rd A 123 v1) - (k_rd A 123 v2))) (k_wr ((k_rd A 122 v1) - (k_rd A 122 v2))))) else none) else none) else none) else none
def gX9_milesOf (A : k_H) (x1 x2 : Int) : Option (Int × k_H) := gX9_milesOf_b0 A x1 x2
set_option maxRecDepth 100000 in
theorem sgX9_milesOf_b52 {sc : k_SC} (A : k_H) (s0 s1 : Int) (r : Int) (A' : k_H) (hw : k_Wf sc A) (h : gX9_milesOf_b52 A s0 s1 = some (r, A')) : fX9_milesOf_b52 A s0 s1 = some (r, A') ∧ k_Wf sc A' := by
  unfold gX9_milesOf_b52 at h
  unfold fX9_milesOf_b52
  obtain ⟨rfl, rfl⟩ := k_pr h
  exact ⟨rfl, hw⟩
set_option maxRecDepth 100000 in
theorem sgX9_milesOf_b39 {sc : k_SC} (A : k_H) (v4 s0 : Int) (r : Int) (A' : k_H) (hw : k_Wf sc A) (h : gX9_milesOf_b39 A v4 s0 = some (r, A')) : fX9_milesOf_b39 A v4 s0 = some (r, A') ∧ k_Wf sc A' := by
  unfold gX9_milesOf_b39 at h
  unfold fX9_milesOf_b39
  by_cases c1 : v4 < 0
  · rw [if_pos c1] at h
    rw [if_pos c1]
    exact sgX9_milesOf_b52  _ _ _ _ _ hw h
  · rw [if_neg c1] at h
    rw [if_neg c1]
    exact sgX9_milesOf_b52  _ _ _ _ _ hw h
set_option maxRecDepth 100000 in
theorem sgX9_milesOf_b0 {sc : k_SC} (A : k_H) (v1 v2 : Int) (r : Int) (A' : k_H) (hw : k_Wf sc A) (h : gX9_milesOf_b0 A v1 v2 = some (r, A')) : fX9_milesOf_b0 A 120 v1 v2 = some (r, A') ∧ k_Wf sc A' := by
  unfold gX9_milesOf_b0 at h
  unfold fX9_milesOf_b0
  rw [if_pos (k_wO hw k_K120)]
  try rw [k_p9_5 hw]
  obtain ⟨hc1, h⟩ := k_pk h
  rw [if_pos (k_wA hw (k_R122) hc1)]
  try rw [k_p9_5 hw]
  obtain ⟨hc2, h⟩ := k_pk h
  rw [if_pos (k_wA hw (k_R122) hc2)]
  try rw [k_p9_6 hw]
  obtain ⟨hc3, h⟩ := k_pk h
  rw [if_pos (k_wA hw (k_R123) hc3)]
  try rw [k_p9_6 hw]
  obtain ⟨hc4, h⟩ := k_pk h
  rw [if_pos (k_wA hw (k_R123) hc4)]
  by_cases c5 : k_wr ((k_rd A 122 v1) - (k_rd A 122 v2)) < 0
  · rw [if_pos c5] at h
    rw [if_pos c5]
    exact sgX9_milesOf_b39  _ _ _ _ _ hw h
  · rw [if_neg c5] at h
    rw [if_neg c5]
    exact sgX9_milesOf_b39  _ _ _ _ _ hw h
theorem sgX9_milesOf {sc : k_SC} {A : k_H} {x1 x2 : Int} {r : Int} {A' : k_H} (hw : k_Wf sc A) (h : gX9_milesOf A x1 x2 = some (r, A')) : fX9_milesOf A 120 x1 x2 = some (r, A') ∧ k_Wf sc A' :=
  sgX9_milesOf_b0 _ _ _ _ _ hw h
/-! X9_isFree -/
def gX9_isFree_b36 (k3g : k_H → Int → Int → Int → Int → Option (Int × k_H)) (A : k_H) (v1 v2 v3 v4 : Int) : Option (Int × k_H) := k3g A v1 v2 v3 (k_wr (v4 + 1))
def gX9_isFree_h3 : Nat → k_H → Int → Int → Int → Int → Option (Int × k_H)
  | 0, _, _, _, _, _ => none
  | N + 1, A, v1, v2, v3, v4 => if v4 < (k_rd A 120 21) then (if v4 = v1 then (gX9_isFree_b36 (gX9_isFree_h3 N) A v1 v2 v3 v4) else (if 0 ≤ k_wr (k_wr (14 * v4) + v3) ∧ k_wr (k_wr (14 * v4) + v3) < ((84 : Nat) : Int) then (if (k_rd A 139 (k_wr (k_wr (14 * v4) + v3))) = v2 then (some (0, A)) else (gX9_isFree_b36 (gX9_isFree_h3 N) A v1 v2 v3 v4)) else none)) else (some (1, A))
def gX9_isFree_b0 (A : k_H) (v1 v2 v3 : Int) : Option (Int × k_H) := gX9_isFree_h3 k_FU A v1 v2 v3 0
def gX9_isFree (A : k_H) (x1 x2 x3 : Int) : Option (Int × k_H) := gX9_isFree_b0 A x1 x2 x3
set_option maxRecDepth 100000 in
theorem sgX9_isFree_b36 {sc : k_SC} (k3f : k_H → Int → Int → Int → Int → Int → Option (Int × k_H)) (k3g : k_H → Int → Int → Int → Int → Option (Int × k_H)) (hk3 : ∀ (A : k_H) (v1 v2 v3 v4 : Int) (r : Int) (A' : k_H), k_Wf sc A → k3g A v1 v2 v3 v4 = some (r, A') → k3f A 120 v1 v2 v3 v4 = some (r, A') ∧ k_Wf sc A') (A : k_H) (v1 v2 v3 v4 : Int) (r : Int) (A' : k_H) (hw : k_Wf sc A) (h : gX9_isFree_b36 k3g A v1 v2 v3 v4 = some (r, A')) : fX9_isFree_b36 k3f A 120 v1 v2 v3 v4 = some (r, A') ∧ k_Wf sc A' := by
  unfold gX9_isFree_b36 at h
  unfold fX9_isFree_b36
  exact hk3 _ _ _ _ _ _ _ hw h
set_option maxRecDepth 100000 in
theorem sgX9_isFree_h3 {sc : k_SC} : ∀ (N : Nat) (A : k_H) (v1 v2 v3 v4 : Int) (r : Int) (A' : k_H), k_Wf sc A → gX9_isFree_h3 N A v1 v2 v3 v4 = some (r, A') → fX9_isFree_h3 N A 120 v1 v2 v3 v4 = some (r, A') ∧ k_Wf sc A' := by
  intro N
  induction N with
  | zero => intro A v1 v2 v3 v4 r A' hw  h; exact absurd h (by simp [gX9_isFree_h3])
  | succ N ih =>
    intro A v1 v2 v3 v4 r A' hw  h
    rw [gX9_isFree_h3] at h
    rw [fX9_isFree_h3]
    rw [if_pos (k_wO hw k_K120)]
    by_cases c1 : v4 < (k_rd A 120 21)
    · rw [if_pos c1] at h
      rw [if_pos c1]
      by_cases c2 : v4 = v1
      · rw [if_pos c2] at h
        rw [if_pos c2]
        exact sgX9_isFree_b36 (fX9_isFree_h3 N) (gX9_isFree_h3 N) ih _ _ _ _ _ _ _ hw h
      · rw [if_neg c2] at h
        rw [if_neg c2]
        try rw [k_p9_24 hw]
        obtain ⟨hc3, h⟩ := k_pk h
        rw [if_pos (k_wA hw (k_R139) hc3)]
        by_cases c4 : (k_rd A 139 (k_wr (k_wr (14 * v4) + v3))) = v2
        · rw [if_pos c4] at h
          rw [if_pos c4]
          obtain ⟨rfl, rfl⟩ := k_pr h
          exact ⟨rfl, hw⟩
        · rw [if_neg c4] at h
          rw [if_neg c4]
          exact sgX9_isFree_b36 (fX9_isFree_h3 N) (gX9_isFree_h3 N) ih _ _ _ _ _ _ _ hw h
    · rw [if_neg c1] at h
      rw [if_neg c1]
      obtain ⟨rfl, rfl⟩ := k_pr h
      exact ⟨rfl, hw⟩
set_option maxRecDepth 100000 in
theorem sgX9_isFree_b0 {sc : k_SC} (A : k_H) (v1 v2 v3 : Int) (r : Int) (A' : k_H) (hw : k_Wf sc A) (h : gX9_isFree_b0 A v1 v2 v3 = some (r, A')) : fX9_isFree_b0 A 120 v1 v2 v3 = some (r, A') ∧ k_Wf sc A' := by
  unfold gX9_isFree_b0 at h
  unfold fX9_isFree_b0
  exact sgX9_isFree_h3  _ _ _ _ _ _ _ _ hw h
theorem sgX9_isFree {sc : k_SC} {A : k_H} {x1 x2 x3 : Int} {r : Int} {A' : k_H} (hw : k_Wf sc A) (h : gX9_isFree A x1 x2 x3 = some (r, A')) : fX9_isFree A 120 x1 x2 x3 = some (r, A') ∧ k_Wf sc A' :=
  sgX9_isFree_b0 _ _ _ _ _ _ hw h
/-! X9_wasThere -/
def gX9_wasThere_b87 (A : k_H) (v3 s0 : Int) : Option (Int × k_H) := if 0 ≤ k_wr (Int.tdiv v3 64) ∧ k_wr (Int.tdiv v3 64) < ((22050 : Nat) : Int) then (k_lt (k_wt A 149 (k_wr (Int.tdiv v3 64)) (k_lorr (k_rd A 149 (k_wr (Int.tdiv v3 64))) (k_lshl 1 (k_wr (Int.tmod v3 64))))) fun A2 => if s0 = 0 ∨ s0 = 1 then (some (s0, A2)) else none) else none
def gX9_wasThere_b21 (A : k_H) (v1 s0 : Int) : Option (Int × k_H) := if 0 ≤ v1 ∧ v1 < ((15 : Nat) : Int) then (if 0 ≤ v1 ∧ v1 < ((15 : Nat) : Int) then (if 0 ≤ v1 ∧ v1 < ((15 : Nat) : Int) then (if 0 ≤ k_wr (Int.tdiv (k_wr (k_wr (k_wr (k_wr (k_wr (k_wr (k_wr (k_wr (k_wr (v1 * 64) + (k_rd A 143 v1)) * 7) + (k_rd A 144 v1)) + 1) * 15) + s0) * 15) + (k_rd A 146 v1))) 64) ∧ k_wr (Int.tdiv (k_wr (k_wr (k_wr (k_wr (k_wr (k_wr (k_wr (k_wr (k_wr (v1 * 64) + (k_rd A 143 v1)) * 7) + (k_rd A 144 v1)) + 1) * 15) + s0) * 15) + (k_rd A 146 v1))) 64) < ((22050 : Nat) : Int) then (if (if 1 < (k_landd (k_lshr (k_rd A 149 (k_wr (Int.tdiv (k_wr (k_wr (k_wr (k_wr (k_wr (k_wr (k_wr (k_wr (k_wr (v1 * 64) + (k_rd A 143 v1)) * 7) + (k_rd A 144 v1)) + 1) * 15) + s0) * 15) + (k_rd A 146 v1))) 64))) (k_wr (Int.tmod (k_wr (k_wr (k_wr (k_wr (k_wr (k_wr (k_wr (k_wr (k_wr (v1 * 64) + (k_rd A 143 v1)) * 7) + (k_rd A 144 v1)) + 1) * 15) + s0) * 15) + (k_rd A 146 v1))) 64))) 1) then 1 else if (k_landd (k_lshr (k_rd A 149 (k_wr (Int.tdiv (k_wr (k_wr (k_wr (k_wr (k_wr (k_wr (k_wr (k_wr (k_wr (v1 * 64) + (k_rd A 143 v1)) * 7) + (k_rd A 144 v1)) + 1) * 15) + s0) * 15) + (k_rd A 146 v1))) 64))) (k_wr (Int.tmod (k_wr (k_wr (k_wr (k_wr (k_wr (k_wr (k_wr (k_wr (k_wr (v1 * 64) + (k_rd A 143 v1)) * 7) + (k_rd A 144 v1)) + 1) * 15) + s0) * 15) + (k_rd A 146 v1))) 64))) 1) = 1 then 0 else -1) = 0 then (gX9_wasThere_b87 A (k_wr (k_wr (k_wr (k_wr (k_wr (k_wr (k_wr (k_wr (k_wr (v1 * 64) + (k_rd A 143 v1)) * 7) + (k_rd A 144 v1)) + 1) * 15) + s0) * 15) + (k_rd A 146 v1))) 1) else (gX9_wasThere_b87 A (k_wr (k_wr (k_wr (k_wr (k_wr (k_wr (k_wr (k_wr (k_wr (v1 * 64) + (k_rd A 143 v1)) * 7) + (k_rd A 144 v1)) + 1) * 15) + s0) * 15) + (k_rd A 146 v1))) 0)) else none) else none) else none) else none
def gX9_wasThere_b0 (A : k_H) (v1 : Int) : Option (Int × k_H) := if 0 ≤ v1 ∧ v1 < ((15 : Nat) : Int) then (if (k_rd A 144 v1) < 0 then (gX9_wasThere_b21 A v1 0) else (if 0 ≤ v1 ∧ v1 < ((15 : Nat) : Int) then (gX9_wasThere_b21 A v1 (k_wr (v1 - (k_rd A 145 v1)))) else none)) else none
def gX9_wasThere (A : k_H) (x1 : Int) : Option (Int × k_H) := gX9_wasThere_b0 A x1
set_option maxRecDepth 100000 in
theorem sgX9_wasThere_b87 {sc : k_SC} (A : k_H) (v3 s0 : Int) (r : Int) (A' : k_H) (hw : k_Wf sc A) (h : gX9_wasThere_b87 A v3 s0 = some (r, A')) : fX9_wasThere_b87 A 120 v3 s0 = some (r, A') ∧ k_Wf sc A' := by
  unfold gX9_wasThere_b87 at h
  unfold fX9_wasThere_b87
  rw [if_pos (k_wO hw k_K120)]
  try rw [k_p9_34 hw]
  try rw [k_p9_34 hw]
  obtain ⟨hc1, h⟩ := k_pk h
  rw [if_pos (k_wA hw (k_R149) hc1)]
  obtain ⟨A2, eA3, h⟩ := k_pl h
  have hw4 := k_wE eA3 (k_wa hw k_R149 (by decide))
  refine k_ltg eA3 ?_
  obtain ⟨hc5, h⟩ := k_pk h
  rw [if_pos hc5]
  obtain ⟨rfl, rfl⟩ := k_pr h
  exact ⟨rfl, hw4⟩
set_option maxRecDepth 100000 in
theorem sgX9_wasThere_b21 {sc : k_SC} (A : k_H) (v1 s0 : Int) (r : Int) (A' : k_H) (hw : k_Wf sc A) (h : gX9_wasThere_b21 A v1 s0 = some (r, A')) : fX9_wasThere_b21 A 120 v1 s0 = some (r, A') ∧ k_Wf sc A' := by
  unfold gX9_wasThere_b21 at h
  unfold fX9_wasThere_b21
  rw [if_pos (k_wO hw k_K120)]
  try rw [k_p9_28 hw]
  obtain ⟨hc1, h⟩ := k_pk h
  rw [if_pos (k_wA hw (k_R143) hc1)]
  try rw [k_p9_29 hw]
  obtain ⟨hc2, h⟩ := k_pk h
  rw [if_pos (k_wA hw (k_R144) hc2)]
  try rw [k_p9_31 hw]
  obtain ⟨hc3, h⟩ := k_pk h
  rw [if_pos (k_wA hw (k_R146) hc3)]
  try rw [k_p9_34 hw]
  obtain ⟨hc4, h⟩ := k_pk h
  rw [if_pos (k_wA hw (k_R149) hc4)]
  by_cases c5 : (if 1 < (k_landd (k_lshr (k_rd A 149 (k_wr (Int.tdiv (k_wr (k_wr (k_wr (k_wr (k_wr (k_wr (k_wr (k_wr (k_wr (v1 * 64) + (k_rd A 143 v1)) * 7) + (k_rd A 144 v1)) + 1) * 15) + s0) * 15) + (k_rd A 146 v1))) 64))) (k_wr (Int.tmod (k_wr (k_wr (k_wr (k_wr (k_wr (k_wr (k_wr (k_wr (k_wr (v1 * 64) + (k_rd A 143 v1)) * 7) + (k_rd A 144 v1)) + 1) * 15) + s0) * 15) + (k_rd A 146 v1))) 64))) 1) then 1 else if (k_landd (k_lshr (k_rd A 149 (k_wr (Int.tdiv (k_wr (k_wr (k_wr (k_wr (k_wr (k_wr (k_wr (k_wr (k_wr (v1 * 64) + (k_rd A 143 v1)) * 7) + (k_rd A 144 v1)) + 1) * 15) + s0) * 15) + (k_rd A 146 v1))) 64))) (k_wr (Int.tmod (k_wr (k_wr (k_wr (k_wr (k_wr (k_wr (k_wr (k_wr (k_wr (v1 * 64) + (k_rd A 143 v1)) * 7) + (k_rd A 144 v1)) + 1) * 15) + s0) * 15) + (k_rd A 146 v1))) 64))) 1) = 1 then 0 else -1) = 0
  · rw [if_pos c5] at h
    rw [if_pos c5]
    exact sgX9_wasThere_b87  _ _ _ _ _ hw h
  · rw [if_neg c5] at h
    rw [if_neg c5]
    exact sgX9_wasThere_b87  _ _ _ _ _ hw h
set_option maxRecDepth 100000 in
theorem sgX9_wasThere_b0 {sc : k_SC} (A : k_H) (v1 : Int) (r : Int) (A' : k_H) (hw : k_Wf sc A) (h : gX9_wasThere_b0 A v1 = some (r, A')) : fX9_wasThere_b0 A 120 v1 = some (r, A') ∧ k_Wf sc A' := by
  unfold gX9_wasThere_b0 at h
  unfold fX9_wasThere_b0
  rw [if_pos (k_wO hw k_K120)]
  try rw [k_p9_29 hw]
  obtain ⟨hc1, h⟩ := k_pk h
  rw [if_pos (k_wA hw (k_R144) hc1)]
  by_cases c2 : (k_rd A 144 v1) < 0
  · rw [if_pos c2] at h
    rw [if_pos c2]
    exact sgX9_wasThere_b21  _ _ _ _ _ hw h
  · rw [if_neg c2] at h
    rw [if_neg c2]
    try rw [k_p9_30 hw]
    obtain ⟨hc3, h⟩ := k_pk h
    rw [if_pos (k_wA hw (k_R145) hc3)]
    exact sgX9_wasThere_b21  _ _ _ _ _ hw h
theorem sgX9_wasThere {sc : k_SC} {A : k_H} {x1 : Int} {r : Int} {A' : k_H} (hw : k_Wf sc A) (h : gX9_wasThere A x1 = some (r, A')) : fX9_wasThere A 120 x1 = some (r, A') ∧ k_Wf sc A' :=
  sgX9_wasThere_b0 _ _ _ _ hw h
/-! X9_stand -/
def gX9_stand_b0 (A : k_H) (v1 v2 v3 v4 v5 v6 : Int) : Option (Int × k_H) := if 0 ≤ v1 ∧ v1 < ((15 : Nat) : Int) then (k_lt (k_wt A 143 v1 v2) fun A2 => if 0 ≤ v1 ∧ v1 < ((15 : Nat) : Int) then (k_lt (k_wt A2 144 v1 v3) fun A6 => if 0 ≤ v1 ∧ v1 < ((15 : Nat) : Int) then (k_lt (k_wt A6 145 v1 v4) fun A10 => if 0 ≤ v1 ∧ v1 < ((15 : Nat) : Int) then (k_lt (k_wt A10 146 v1 v5) fun A14 => if 0 ≤ v1 ∧ v1 < ((15 : Nat) : Int) then (k_lt (k_wt A14 147 v1 v6) fun A18 => some (0, A18)) else none) else none) else none) else none) else none
def gX9_stand (A : k_H) (x1 x2 x3 x4 x5 x6 : Int) : Option (Int × k_H) := gX9_stand_b0 A x1 x2 x3 x4 x5 x6
set_option maxRecDepth 100000 in
theorem sgX9_stand_b0 {sc : k_SC} (A : k_H) (v1 v2 v3 v4 v5 v6 : Int) (r : Int) (A' : k_H) (hw : k_Wf sc A) (h : gX9_stand_b0 A v1 v2 v3 v4 v5 v6 = some (r, A')) : fX9_stand_b0 A 120 v1 v2 v3 v4 v5 v6 = some (r, A') ∧ k_Wf sc A' := by
  unfold gX9_stand_b0 at h
  unfold fX9_stand_b0
  rw [if_pos (k_wO hw k_K120)]
  try rw [k_p9_28 hw]
  obtain ⟨hc1, h⟩ := k_pk h
  rw [if_pos (k_wA hw (k_R143) hc1)]
  obtain ⟨A2, eA3, h⟩ := k_pl h
  have hw4 := k_wE eA3 (k_wa hw k_R143 (by decide))
  refine k_ltg eA3 ?_
  try rw [k_p9_29 hw4]
  obtain ⟨hc5, h⟩ := k_pk h
  rw [if_pos (k_wA hw4 (k_R144) hc5)]
  obtain ⟨A6, eA7, h⟩ := k_pl h
  have hw8 := k_wE eA7 (k_wa hw4 k_R144 (by decide))
  refine k_ltg eA7 ?_
  try rw [k_p9_30 hw8]
  obtain ⟨hc9, h⟩ := k_pk h
  rw [if_pos (k_wA hw8 (k_R145) hc9)]
  obtain ⟨A10, eA11, h⟩ := k_pl h
  have hw12 := k_wE eA11 (k_wa hw8 k_R145 (by decide))
  refine k_ltg eA11 ?_
  try rw [k_p9_31 hw12]
  obtain ⟨hc13, h⟩ := k_pk h
  rw [if_pos (k_wA hw12 (k_R146) hc13)]
  obtain ⟨A14, eA15, h⟩ := k_pl h
  have hw16 := k_wE eA15 (k_wa hw12 k_R146 (by decide))
  refine k_ltg eA15 ?_
  try rw [k_p9_32 hw16]
  obtain ⟨hc17, h⟩ := k_pk h
  rw [if_pos (k_wA hw16 (k_R147) hc17)]
  obtain ⟨A18, eA19, h⟩ := k_pl h
  have hw20 := k_wE eA19 (k_wa hw16 k_R147 (by decide))
  refine k_ltg eA19 ?_
  obtain ⟨rfl, rfl⟩ := k_pr h
  exact ⟨rfl, hw20⟩
theorem sgX9_stand {sc : k_SC} {A : k_H} {x1 x2 x3 x4 x5 x6 : Int} {r : Int} {A' : k_H} (hw : k_Wf sc A) (h : gX9_stand A x1 x2 x3 x4 x5 x6 = some (r, A')) : fX9_stand A 120 x1 x2 x3 x4 x5 x6 = some (r, A') ∧ k_Wf sc A' :=
  sgX9_stand_b0 _ _ _ _ _ _ _ _ _ hw h
/-! X9_rest -/
def gX9_rest_b50 (k6g : k_H → Int → Int → Int → Int → Int → Option (Int × k_H)) (A : k_H) (v1 v2 v3 v5 s0 s1 : Int) : Option (Int × k_H) := k6g A v1 v2 v3 (k_wr (s0 + s1)) (k_wr (v5 + 1))
def gX9_rest_h6 : Nat → k_H → Int → Int → Int → Int → Int → Option (Int × k_H)
  | 0, _, _, _, _, _, _ => none
  | N + 1, A, v1, v2, v3, v4, v5 => if v5 < v3 then (if 0 ≤ v2 ∧ v2 < ((15 : Nat) : Int) then (if (k_and (k_shr (k_rd A 143 v2) v5) 1) = 1 then (gX9_rest_b50 (gX9_rest_h6 N) A v1 v2 v3 v5 v4 0) else (if 0 ≤ v5 ∧ v5 < ((6 : Nat) : Int) then (if 0 ≤ k_wr (k_wr (6 * (k_rd A 141 v5)) + v1) ∧ k_wr (k_wr (6 * (k_rd A 141 v5)) + v1) < ((72 : Nat) : Int) then (gX9_rest_b50 (gX9_rest_h6 N) A v1 v2 v3 v5 v4 (k_rd A 136 (k_wr (k_wr (6 * (k_rd A 141 v5)) + v1)))) else none) else none)) else none) else (some (v4, A))
def gX9_rest_b0 (A : k_H) (v1 v2 v3 : Int) : Option (Int × k_H) := gX9_rest_h6 k_FU A v1 v2 v3 0 0
def gX9_rest (A : k_H) (x1 x2 x3 : Int) : Option (Int × k_H) := gX9_rest_b0 A x1 x2 x3
set_option maxRecDepth 100000 in
theorem sgX9_rest_b50 {sc : k_SC} (k6f : k_H → Int → Int → Int → Int → Int → Int → Option (Int × k_H)) (k6g : k_H → Int → Int → Int → Int → Int → Option (Int × k_H)) (hk6 : ∀ (A : k_H) (v1 v2 v3 v4 v5 : Int) (r : Int) (A' : k_H), k_Wf sc A → k6g A v1 v2 v3 v4 v5 = some (r, A') → k6f A 120 v1 v2 v3 v4 v5 = some (r, A') ∧ k_Wf sc A') (A : k_H) (v1 v2 v3 v5 s0 s1 : Int) (r : Int) (A' : k_H) (hw : k_Wf sc A) (h : gX9_rest_b50 k6g A v1 v2 v3 v5 s0 s1 = some (r, A')) : fX9_rest_b50 k6f A 120 v1 v2 v3 v5 s0 s1 = some (r, A') ∧ k_Wf sc A' := by
  unfold gX9_rest_b50 at h
  unfold fX9_rest_b50
  exact hk6 _ _ _ _ _ _ _ _ hw h
set_option maxRecDepth 100000 in
theorem sgX9_rest_h6 {sc : k_SC} : ∀ (N : Nat) (A : k_H) (v1 v2 v3 v4 v5 : Int) (r : Int) (A' : k_H), k_Wf sc A → gX9_rest_h6 N A v1 v2 v3 v4 v5 = some (r, A') → fX9_rest_h6 N A 120 v1 v2 v3 v4 v5 = some (r, A') ∧ k_Wf sc A' := by
  intro N
  induction N with
  | zero => intro A v1 v2 v3 v4 v5 r A' hw  h; exact absurd h (by simp [gX9_rest_h6])
  | succ N ih =>
    intro A v1 v2 v3 v4 v5 r A' hw  h
    rw [gX9_rest_h6] at h
    rw [fX9_rest_h6]
    by_cases c1 : v5 < v3
    · rw [if_pos c1] at h
      rw [if_pos c1]
      rw [if_pos (k_wO hw k_K120)]
      try rw [k_p9_28 hw]
      obtain ⟨hc2, h⟩ := k_pk h
      rw [if_pos (k_wA hw (k_R143) hc2)]
      by_cases c3 : (k_and (k_shr (k_rd A 143 v2) v5) 1) = 1
      · rw [if_pos c3] at h
        rw [if_pos c3]
        exact sgX9_rest_b50 (fX9_rest_h6 N) (gX9_rest_h6 N) ih _ _ _ _ _ _ _ _ _ hw h
      · rw [if_neg c3] at h
        rw [if_neg c3]
        try rw [k_p9_19 hw]
        try rw [k_p9_26 hw]
        obtain ⟨hc4, h⟩ := k_pk h
        rw [if_pos (k_wA hw (k_R141) hc4)]
        obtain ⟨hc5, h⟩ := k_pk h
        rw [if_pos (k_wA hw (k_R136) hc5)]
        exact sgX9_rest_b50 (fX9_rest_h6 N) (gX9_rest_h6 N) ih _ _ _ _ _ _ _ _ _ hw h
    · rw [if_neg c1] at h
      rw [if_neg c1]
      obtain ⟨rfl, rfl⟩ := k_pr h
      exact ⟨rfl, hw⟩
set_option maxRecDepth 100000 in
theorem sgX9_rest_b0 {sc : k_SC} (A : k_H) (v1 v2 v3 : Int) (r : Int) (A' : k_H) (hw : k_Wf sc A) (h : gX9_rest_b0 A v1 v2 v3 = some (r, A')) : fX9_rest_b0 A 120 v1 v2 v3 = some (r, A') ∧ k_Wf sc A' := by
  unfold gX9_rest_b0 at h
  unfold fX9_rest_b0
  exact sgX9_rest_h6  _ _ _ _ _ _ _ _ _ hw h
theorem sgX9_rest {sc : k_SC} {A : k_H} {x1 x2 x3 : Int} {r : Int} {A' : k_H} (hw : k_Wf sc A) (h : gX9_rest A x1 x2 x3 = some (r, A')) : fX9_rest A 120 x1 x2 x3 = some (r, A') ∧ k_Wf sc A' :=
  sgX9_rest_b0 _ _ _ _ _ _ hw h
/-! X9_peek -/
def gX9_peek_b0 (A : k_H) : Option (Int × k_H) := if (k_rd A 120 4) < (k_rd A 120 3) then (if 0 ≤ (k_rd A 120 4) ∧ (k_rd A 120 4) < ((200 : Nat) : Int) then (some ((k_and (k_rd A 121 (k_rd A 120 4)) 255), A)) else none) else (some ((-1), A))
def gX9_peek (A : k_H) : Option (Int × k_H) := gX9_peek_b0 A
set_option maxRecDepth 100000 in
theorem sgX9_peek_b0 {sc : k_SC} (A : k_H) (r : Int) (A' : k_H) (hw : k_Wf sc A) (h : gX9_peek_b0 A = some (r, A')) : fX9_peek_b0 A 120 = some (r, A') ∧ k_Wf sc A' := by
  unfold gX9_peek_b0 at h
  unfold fX9_peek_b0
  rw [if_pos (k_wO hw k_K120)]
  by_cases c1 : (k_rd A 120 4) < (k_rd A 120 3)
  · rw [if_pos c1] at h
    rw [if_pos c1]
    try rw [k_p9_1 hw]
    obtain ⟨hc2, h⟩ := k_pk h
    rw [if_pos (k_wA hw (k_R121) hc2)]
    obtain ⟨rfl, rfl⟩ := k_pr h
    exact ⟨rfl, hw⟩
  · rw [if_neg c1] at h
    rw [if_neg c1]
    obtain ⟨rfl, rfl⟩ := k_pr h
    exact ⟨rfl, hw⟩
theorem sgX9_peek {sc : k_SC} {A : k_H} {r : Int} {A' : k_H} (hw : k_Wf sc A) (h : gX9_peek A  = some (r, A')) : fX9_peek A 120 = some (r, A') ∧ k_Wf sc A' :=
  sgX9_peek_b0 _ _ _ hw h
/-! X9_isSmall -/
def gX9_isSmall_b0 (A : k_H) (v0 : Int) : Option (Int × k_H) := if 97 ≤ v0 then (if v0 ≤ 122 then (some (1, A)) else (some (0, A))) else (some (0, A))
def gX9_isSmall (A : k_H) (x0 : Int) : Option (Int × k_H) := gX9_isSmall_b0 A x0
set_option maxRecDepth 100000 in
theorem sgX9_isSmall_b0 {sc : k_SC} (A : k_H) (v0 : Int) (r : Int) (A' : k_H) (hw : k_Wf sc A) (h : gX9_isSmall_b0 A v0 = some (r, A')) : fX9_isSmall_b0 A v0 = some (r, A') ∧ k_Wf sc A' := by
  unfold gX9_isSmall_b0 at h
  unfold fX9_isSmall_b0
  by_cases c1 : 97 ≤ v0
  · rw [if_pos c1] at h
    rw [if_pos c1]
    by_cases c2 : v0 ≤ 122
    · rw [if_pos c2] at h
      rw [if_pos c2]
      obtain ⟨rfl, rfl⟩ := k_pr h
      exact ⟨rfl, hw⟩
    · rw [if_neg c2] at h
      rw [if_neg c2]
      obtain ⟨rfl, rfl⟩ := k_pr h
      exact ⟨rfl, hw⟩
  · rw [if_neg c1] at h
    rw [if_neg c1]
    obtain ⟨rfl, rfl⟩ := k_pr h
    exact ⟨rfl, hw⟩
theorem sgX9_isSmall {sc : k_SC} {A : k_H} {x0 : Int} {r : Int} {A' : k_H} (hw : k_Wf sc A) (h : gX9_isSmall A x0 = some (r, A')) : fX9_isSmall A x0 = some (r, A') ∧ k_Wf sc A' :=
  sgX9_isSmall_b0 _ _ _ _ hw h
/-! X9_isDigit -/
def gX9_isDigit_b0 (A : k_H) (v0 : Int) : Option (Int × k_H) := if 48 ≤ v0 then (if v0 ≤ 57 then (some (1, A)) else (some (0, A))) else (some (0, A))
def gX9_isDigit (A : k_H) (x0 : Int) : Option (Int × k_H) := gX9_isDigit_b0 A x0
set_option maxRecDepth 100000 in
theorem sgX9_isDigit_b0 {sc : k_SC} (A : k_H) (v0 : Int) (r : Int) (A' : k_H) (hw : k_Wf sc A) (h : gX9_isDigit_b0 A v0 = some (r, A')) : fX9_isDigit_b0 A v0 = some (r, A') ∧ k_Wf sc A' := by
  unfold gX9_isDigit_b0 at h
  unfold fX9_isDigit_b0
  by_cases c1 : 48 ≤ v0
  · rw [if_pos c1] at h
    rw [if_pos c1]
    by_cases c2 : v0 ≤ 57
    · rw [if_pos c2] at h
      rw [if_pos c2]
      obtain ⟨rfl, rfl⟩ := k_pr h
      exact ⟨rfl, hw⟩
    · rw [if_neg c2] at h
      rw [if_neg c2]
      obtain ⟨rfl, rfl⟩ := k_pr h
      exact ⟨rfl, hw⟩
  · rw [if_neg c1] at h
    rw [if_neg c1]
    obtain ⟨rfl, rfl⟩ := k_pr h
    exact ⟨rfl, hw⟩
theorem sgX9_isDigit {sc : k_SC} {A : k_H} {x0 : Int} {r : Int} {A' : k_H} (hw : k_Wf sc A) (h : gX9_isDigit A x0 = some (r, A')) : fX9_isDigit A x0 = some (r, A') ∧ k_Wf sc A' :=
  sgX9_isDigit_b0 _ _ _ _ hw h
/-! X9_wrong -/
def gX9_wrong_b0 (A : k_H) (v1 v2 : Int) : Option (Int × k_H) := k_lt (k_wt A 120 39 v1) fun A1 => k_lt (k_wt A1 120 40 v2) fun A4 => some (0, A4)
def gX9_wrong (A : k_H) (x1 x2 : Int) : Option (Int × k_H) := gX9_wrong_b0 A x1 x2
set_option maxRecDepth 100000 in
theorem sgX9_wrong_b0 {sc : k_SC} (A : k_H) (v1 v2 : Int) (r : Int) (A' : k_H) (hw : k_Wf sc A) (h : gX9_wrong_b0 A v1 v2 = some (r, A')) : fX9_wrong_b0 A 120 v1 v2 = some (r, A') ∧ k_Wf sc A' := by
  unfold gX9_wrong_b0 at h
  unfold fX9_wrong_b0
  rw [if_pos (k_wO hw k_K120)]
  obtain ⟨A1, eA2, h⟩ := k_pl h
  have hw3 := k_wE eA2 (k_wo hw k_K120 39 (by decide))
  refine k_ltg eA2 ?_
  obtain ⟨A4, eA5, h⟩ := k_pl h
  have hw6 := k_wE eA5 (k_wo hw3 k_K120 40 (by decide))
  refine k_ltg eA5 ?_
  obtain ⟨rfl, rfl⟩ := k_pr h
  exact ⟨rfl, hw6⟩
theorem sgX9_wrong {sc : k_SC} {A : k_H} {x1 x2 : Int} {r : Int} {A' : k_H} (hw : k_Wf sc A) (h : gX9_wrong A x1 x2 = some (r, A')) : fX9_wrong A 120 x1 x2 = some (r, A') ∧ k_Wf sc A' :=
  sgX9_wrong_b0 _ _ _ _ _ hw h
/-! X9_isWord -/
def gX9_isWord_b0 (A : k_H) (v1 : Int) : Option (Int × k_H) := if (k_rd A 120 36) = 1 then (if (if v1 < (k_rd A 120 42) then 1 else if (k_rd A 120 42) = v1 then 0 else -1) = 0 then (some (1, A)) else (some (0, A))) else (some (0, A))
def gX9_isWord (A : k_H) (x1 : Int) : Option (Int × k_H) := gX9_isWord_b0 A x1
set_option maxRecDepth 100000 in
theorem sgX9_isWord_b0 {sc : k_SC} (A : k_H) (v1 : Int) (r : Int) (A' : k_H) (hw : k_Wf sc A) (h : gX9_isWord_b0 A v1 = some (r, A')) : fX9_isWord_b0 A 120 v1 = some (r, A') ∧ k_Wf sc A' := by
  unfold gX9_isWord_b0 at h
  unfold fX9_isWord_b0
  rw [if_pos (k_wO hw k_K120)]
  by_cases c1 : (k_rd A 120 36) = 1
  · rw [if_pos c1] at h
    rw [if_pos c1]
    by_cases c2 : (if v1 < (k_rd A 120 42) then 1 else if (k_rd A 120 42) = v1 then 0 else -1) = 0
    · rw [if_pos c2] at h
      rw [if_pos c2]
      obtain ⟨rfl, rfl⟩ := k_pr h
      exact ⟨rfl, hw⟩
    · rw [if_neg c2] at h
      rw [if_neg c2]
      obtain ⟨rfl, rfl⟩ := k_pr h
      exact ⟨rfl, hw⟩
  · rw [if_neg c1] at h
    rw [if_neg c1]
    obtain ⟨rfl, rfl⟩ := k_pr h
    exact ⟨rfl, hw⟩
theorem sgX9_isWord {sc : k_SC} {A : k_H} {x1 : Int} {r : Int} {A' : k_H} (hw : k_Wf sc A) (h : gX9_isWord A x1 = some (r, A')) : fX9_isWord A 120 x1 = some (r, A') ∧ k_Wf sc A' :=
  sgX9_isWord_b0 _ _ _ _ hw h
/-! X9_fault -/
def gX9_fault_b0 (A : k_H) : Option (Int × k_H) := k_lt (k_wt A 120 0 0) fun A1 => some ((k_rd A1 120 39), A1)
def gX9_fault (A : k_H) : Option (Int × k_H) := gX9_fault_b0 A
set_option maxRecDepth 100000 in
theorem sgX9_fault_b0 {sc : k_SC} (A : k_H) (r : Int) (A' : k_H) (hw : k_Wf sc A) (h : gX9_fault_b0 A = some (r, A')) : fX9_fault_b0 A 120 = some (r, A') ∧ k_Wf sc A' := by
  unfold gX9_fault_b0 at h
  unfold fX9_fault_b0
  rw [if_pos (k_wO hw k_K120)]
  obtain ⟨A1, eA2, h⟩ := k_pl h
  have hw3 := k_wE eA2 (k_wo hw k_K120 0 (by decide))
  refine k_ltg eA2 ?_
  obtain ⟨rfl, rfl⟩ := k_pr h
  exact ⟨rfl, hw3⟩
theorem sgX9_fault {sc : k_SC} {A : k_H} {r : Int} {A' : k_H} (hw : k_Wf sc A) (h : gX9_fault A  = some (r, A')) : fX9_fault A 120 = some (r, A') ∧ k_Wf sc A' :=
  sgX9_fault_b0 _ _ _ hw h
/-! X9_company -/
def gX9_company_b127 (k18g : k_H → Int → Int → Int → Int → Option (Int × k_H)) (A : k_H) (v2 v3 v5 s0 s1 : Int) : Option (Int × k_H) := k18g A v2 v3 (k_wr (s0 + s1)) (k_wr (v5 + 1))
def gX9_company_b97 (k18g : k_H → Int → Int → Int → Int → Option (Int × k_H)) (A : k_H) (v2 v3 v4 v5 s0 : Int) : Option (Int × k_H) := if 0 < s0 then (if 0 ≤ k_wr (k_wr (v3 + 2) + v5) ∧ k_wr (k_wr (v3 + 2) + v5) < ((84 : Nat) : Int) then (gX9_company_b127 k18g A v2 v3 v5 v4 (k_wr (Int.tdiv (k_wr (s0 * (k_rd A 150 (k_wr (k_wr (v3 + 2) + v5))))) 100))) else none) else (gX9_company_b127 k18g A v2 v3 v5 v4 0)
def gX9_company_b77 (k18g : k_H → Int → Int → Int → Int → Option (Int × k_H)) (A : k_H) (v2 v3 v4 v5 v6 s0 : Int) : Option (Int × k_H) := if v2 < s0 then (gX9_company_b97 k18g A v2 v3 v4 v5 (k_wr (v2 - v6))) else (gX9_company_b97 k18g A v2 v3 v4 v5 (k_wr (s0 - v6)))
def gX9_company_h18 : Nat → k_H → Int → Int → Int → Int → Option (Int × k_H)
  | 0, _, _, _, _, _ => none
  | N + 1, A, v2, v3, v4, v5 => if 0 ≤ k_wr (v3 + 1) ∧ k_wr (v3 + 1) < ((84 : Nat) : Int) then (if v5 < (k_rd A 150 (k_wr (v3 + 1))) then (if 0 ≤ k_wr (k_wr (v3 + 5) + v5) ∧ k_wr (k_wr (v3 + 5) + v5) < ((84 : Nat) : Int) then (if k_wr (v5 + 1) < (k_rd A 150 (k_wr (v3 + 1))) then (if 0 ≤ k_wr (k_wr (k_wr (v3 + 5) + v5) + 1) ∧ k_wr (k_wr (k_wr (v3 + 5) + v5) + 1) < ((84 : Nat) : Int) then (gX9_company_b77 (gX9_company_h18 N) A v2 v3 v4 v5 (k_rd A 150 (k_wr (k_wr (v3 + 5) + v5))) (k_rd A 150 (k_wr (k_wr (k_wr (v3 + 5) + v5) + 1)))) else none) else (gX9_company_b77 (gX9_company_h18 N) A v2 v3 v4 v5 (k_rd A 150 (k_wr (k_wr (v3 + 5) + v5))) 1000000)) else none) else (some (v4, A))) else none
def gX9_company_b0 (A : k_H) (v1 v2 : Int) : Option (Int × k_H) := if 0 ≤ k_wr (k_wr (12 * v1) + 0) ∧ k_wr (k_wr (12 * v1) + 0) < ((84 : Nat) : Int) then (gX9_company_h18 k_FU A v2 (k_wr (12 * v1)) (k_rd A 150 (k_wr (k_wr (12 * v1) + 0))) 0) else none
def gX9_company (A : k_H) (x1 x2 : Int) : Option (Int × k_H) := gX9_company_b0 A x1 x2
set_option maxRecDepth 100000 in
theorem sgX9_company_b127 {sc : k_SC} (k18f : k_H → Int → Int → Int → Int → Int → Option (Int × k_H)) (k18g : k_H → Int → Int → Int → Int → Option (Int × k_H)) (hk18 : ∀ (A : k_H) (v2 v3 v4 v5 : Int) (r : Int) (A' : k_H), k_Wf sc A → k18g A v2 v3 v4 v5 = some (r, A') → k18f A 120 v2 v3 v4 v5 = some (r, A') ∧ k_Wf sc A') (A : k_H) (v2 v3 v5 s0 s1 : Int) (r : Int) (A' : k_H) (hw : k_Wf sc A) (h : gX9_company_b127 k18g A v2 v3 v5 s0 s1 = some (r, A')) : fX9_company_b127 k18f A 120 v2 v3 v5 s0 s1 = some (r, A') ∧ k_Wf sc A' := by
  unfold gX9_company_b127 at h
  unfold fX9_company_b127
  exact hk18 _ _ _ _ _ _ _ hw h
set_option maxRecDepth 100000 in
theorem sgX9_company_b97 {sc : k_SC} (k18f : k_H → Int → Int → Int → Int → Int → Option (Int × k_H)) (k18g : k_H → Int → Int → Int → Int → Option (Int × k_H)) (hk18 : ∀ (A : k_H) (v2 v3 v4 v5 : Int) (r : Int) (A' : k_H), k_Wf sc A → k18g A v2 v3 v4 v5 = some (r, A') → k18f A 120 v2 v3 v4 v5 = some (r, A') ∧ k_Wf sc A') (A : k_H) (v2 v3 v4 v5 s0 : Int) (r : Int) (A' : k_H) (hw : k_Wf sc A) (h : gX9_company_b97 k18g A v2 v3 v4 v5 s0 = some (r, A')) : fX9_company_b97 k18f A 120 v2 v3 v4 v5 s0 = some (r, A') ∧ k_Wf sc A' := by
  unfold gX9_company_b97 at h
  unfold fX9_company_b97
  by_cases c1 : 0 < s0
  · rw [if_pos c1] at h
    rw [if_pos c1]
    rw [if_pos (k_wO hw k_K120)]
    try rw [k_p9_35 hw]
    obtain ⟨hc2, h⟩ := k_pk h
    rw [if_pos (k_wA hw (k_R150) hc2)]
    exact sgX9_company_b127 k18f k18g hk18 _ _ _ _ _ _ _ _ hw h
  · rw [if_neg c1] at h
    rw [if_neg c1]
    exact sgX9_company_b127 k18f k18g hk18 _ _ _ _ _ _ _ _ hw h
set_option maxRecDepth 100000 in
theorem sgX9_company_b77 {sc : k_SC} (k18f : k_H → Int → Int → Int → Int → Int → Option (Int × k_H)) (k18g : k_H → Int → Int → Int → Int → Option (Int × k_H)) (hk18 : ∀ (A : k_H) (v2 v3 v4 v5 : Int) (r : Int) (A' : k_H), k_Wf sc A → k18g A v2 v3 v4 v5 = some (r, A') → k18f A 120 v2 v3 v4 v5 = some (r, A') ∧ k_Wf sc A') (A : k_H) (v2 v3 v4 v5 v6 s0 : Int) (r : Int) (A' : k_H) (hw : k_Wf sc A) (h : gX9_company_b77 k18g A v2 v3 v4 v5 v6 s0 = some (r, A')) : fX9_company_b77 k18f A 120 v2 v3 v4 v5 v6 s0 = some (r, A') ∧ k_Wf sc A' := by
  unfold gX9_company_b77 at h
  unfold fX9_company_b77
  by_cases c1 : v2 < s0
  · rw [if_pos c1] at h
    rw [if_pos c1]
    exact sgX9_company_b97 k18f k18g hk18 _ _ _ _ _ _ _ _ hw h
  · rw [if_neg c1] at h
    rw [if_neg c1]
    exact sgX9_company_b97 k18f k18g hk18 _ _ _ _ _ _ _ _ hw h
set_option maxRecDepth 100000 in
theorem sgX9_company_h18 {sc : k_SC} : ∀ (N : Nat) (A : k_H) (v2 v3 v4 v5 : Int) (r : Int) (A' : k_H), k_Wf sc A → gX9_company_h18 N A v2 v3 v4 v5 = some (r, A') → fX9_company_h18 N A 120 v2 v3 v4 v5 = some (r, A') ∧ k_Wf sc A' := by
  intro N
  induction N with
  | zero => intro A v2 v3 v4 v5 r A' hw  h; exact absurd h (by simp [gX9_company_h18])
  | succ N ih =>
    intro A v2 v3 v4 v5 r A' hw  h
    rw [gX9_company_h18] at h
    rw [fX9_company_h18]
    rw [if_pos (k_wO hw k_K120)]
    try rw [k_p9_35 hw]
    obtain ⟨hc1, h⟩ := k_pk h
    rw [if_pos (k_wA hw (k_R150) hc1)]
    by_cases c2 : v5 < (k_rd A 150 (k_wr (v3 + 1)))
    · rw [if_pos c2] at h
      rw [if_pos c2]
      try rw [k_p9_35 hw]
      obtain ⟨hc3, h⟩ := k_pk h
      rw [if_pos (k_wA hw (k_R150) hc3)]
      try rw [k_p9_35 hw]
      by_cases c4 : k_wr (v5 + 1) < (k_rd A 150 (k_wr (v3 + 1)))
      · rw [if_pos c4] at h
        rw [if_pos c4]
        try rw [k_p9_35 hw]
        obtain ⟨hc5, h⟩ := k_pk h
        rw [if_pos (k_wA hw (k_R150) hc5)]
        exact sgX9_company_b77 (fX9_company_h18 N) (gX9_company_h18 N) ih _ _ _ _ _ _ _ _ _ hw h
      · rw [if_neg c4] at h
        rw [if_neg c4]
        exact sgX9_company_b77 (fX9_company_h18 N) (gX9_company_h18 N) ih _ _ _ _ _ _ _ _ _ hw h
    · rw [if_neg c2] at h
      rw [if_neg c2]
      obtain ⟨rfl, rfl⟩ := k_pr h
      exact ⟨rfl, hw⟩
set_option maxRecDepth 100000 in
theorem sgX9_company_b0 {sc : k_SC} (A : k_H) (v1 v2 : Int) (r : Int) (A' : k_H) (hw : k_Wf sc A) (h : gX9_company_b0 A v1 v2 = some (r, A')) : fX9_company_b0 A 120 v1 v2 = some (r, A') ∧ k_Wf sc A' := by
  unfold gX9_company_b0 at h
  unfold fX9_company_b0
  rw [if_pos (k_wO hw k_K120)]
  try rw [k_p9_35 hw]
  obtain ⟨hc1, h⟩ := k_pk h
  rw [if_pos (k_wA hw (k_R150) hc1)]
  exact sgX9_company_h18  _ _ _ _ _ _ _ _ hw h
theorem sgX9_company {sc : k_SC} {A : k_H} {x1 x2 : Int} {r : Int} {A' : k_H} (hw : k_Wf sc A) (h : gX9_company A x1 x2 = some (r, A')) : fX9_company A 120 x1 x2 = some (r, A') ∧ k_Wf sc A' :=
  sgX9_company_b0 _ _ _ _ _ hw h
/-! X9_count -/
def gX9_count_b91 (k52g : k_H → Int → Int → Option (Int × k_H)) (k63g : k_H → Int → Int → Int → Option (Int × k_H)) (A : k_H) (v3 v4 s0 s1 : Int) : Option (Int × k_H) := k63g A (k_wr (s0 + s1)) v3 (k_wr (v4 + 1))
def gX9_count_h63 (k52g : k_H → Int → Int → Option (Int × k_H)) : Nat → k_H → Int → Int → Int → Option (Int × k_H)
  | 0, _, _, _, _ => none
  | N + 1, A, v2, v3, v4 => if v4 < 14 then (if 0 ≤ k_wr (k_wr (14 * v3) + v4) ∧ k_wr (k_wr (14 * v3) + v4) < ((84 : Nat) : Int) then (if 0 ≤ (k_rd A 139 (k_wr (k_wr (14 * v3) + v4))) then (gX9_count_b91 k52g (gX9_count_h63 k52g N) A v3 v4 v2 1) else (gX9_count_b91 k52g (gX9_count_h63 k52g N) A v3 v4 v2 0)) else none) else (k52g A v2 (k_wr (v3 + 1)))
def gX9_count_h52 : Nat → k_H → Int → Int → Option (Int × k_H)
  | 0, _, _, _ => none
  | N + 1, A, v2, v3 => if v3 < (k_rd A 120 21) then (gX9_count_h63 (gX9_count_h52 N) k_FU A v2 v3 0) else (some (v2, A))
def gX9_count_b0 (A : k_H) (v1 : Int) : Option (Int × k_H) := k_lt (k_wt A 120 0 0) fun A1 => if v1 < 0 ∨ 3 < v1 then (some ((-1), A1)) else (if v1 = 0 then (some ((k_rd A1 120 20), A1)) else (if v1 = 1 then (some ((k_rd A1 120 21), A1)) else (if v1 = 2 then (gX9_count_h52 k_FU A1 0 0) else (some ((k_rd A1 120 2), A1)))))
def gX9_count (A : k_H) (x1 : Int) : Option (Int × k_H) := gX9_count_b0 A x1
set_option maxRecDepth 100000 in
theorem sgX9_count_b91 {sc : k_SC} (k52f : k_H → Int → Int → Int → Option (Int × k_H)) (k52g : k_H → Int → Int → Option (Int × k_H)) (hk52 : ∀ (A : k_H) (v2 v3 : Int) (r : Int) (A' : k_H), k_Wf sc A → k52g A v2 v3 = some (r, A') → k52f A 120 v2 v3 = some (r, A') ∧ k_Wf sc A') (k63f : k_H → Int → Int → Int → Int → Option (Int × k_H)) (k63g : k_H → Int → Int → Int → Option (Int × k_H)) (hk63 : ∀ (A : k_H) (v2 v3 v4 : Int) (r : Int) (A' : k_H), k_Wf sc A → k63g A v2 v3 v4 = some (r, A') → k63f A 120 v2 v3 v4 = some (r, A') ∧ k_Wf sc A') (A : k_H) (v3 v4 s0 s1 : Int) (r : Int) (A' : k_H) (hw : k_Wf sc A) (h : gX9_count_b91 k52g k63g A v3 v4 s0 s1 = some (r, A')) : fX9_count_b91 k52f k63f A 120 v3 v4 s0 s1 = some (r, A') ∧ k_Wf sc A' := by
  unfold gX9_count_b91 at h
  unfold fX9_count_b91
  exact hk63 _ _ _ _ _ _ hw h
set_option maxRecDepth 100000 in
theorem sgX9_count_h63 {sc : k_SC} (k52f : k_H → Int → Int → Int → Option (Int × k_H)) (k52g : k_H → Int → Int → Option (Int × k_H)) (hk52 : ∀ (A : k_H) (v2 v3 : Int) (r : Int) (A' : k_H), k_Wf sc A → k52g A v2 v3 = some (r, A') → k52f A 120 v2 v3 = some (r, A') ∧ k_Wf sc A') : ∀ (N : Nat) (A : k_H) (v2 v3 v4 : Int) (r : Int) (A' : k_H), k_Wf sc A → gX9_count_h63 k52g N A v2 v3 v4 = some (r, A') → fX9_count_h63 k52f N A 120 v2 v3 v4 = some (r, A') ∧ k_Wf sc A' := by
  intro N
  induction N with
  | zero => intro A v2 v3 v4 r A' hw  h; exact absurd h (by simp [gX9_count_h63])
  | succ N ih =>
    intro A v2 v3 v4 r A' hw  h
    rw [gX9_count_h63] at h
    rw [fX9_count_h63]
    by_cases c1 : v4 < 14
    · rw [if_pos c1] at h
      rw [if_pos c1]
      rw [if_pos (k_wO hw k_K120)]
      try rw [k_p9_24 hw]
      obtain ⟨hc2, h⟩ := k_pk h
      rw [if_pos (k_wA hw (k_R139) hc2)]
      by_cases c3 : 0 ≤ (k_rd A 139 (k_wr (k_wr (14 * v3) + v4)))
      · rw [if_pos c3] at h
        rw [if_pos c3]
        exact sgX9_count_b91 k52f k52g hk52 (fX9_count_h63 k52f N) (gX9_count_h63 k52g N) ih _ _ _ _ _ _ _ hw h
      · rw [if_neg c3] at h
        rw [if_neg c3]
        exact sgX9_count_b91 k52f k52g hk52 (fX9_count_h63 k52f N) (gX9_count_h63 k52g N) ih _ _ _ _ _ _ _ hw h
    · rw [if_neg c1] at h
      rw [if_neg c1]
      exact hk52 _ _ _ _ _ hw h
set_option maxRecDepth 100000 in
theorem sgX9_count_h52 {sc : k_SC} : ∀ (N : Nat) (A : k_H) (v2 v3 : Int) (r : Int) (A' : k_H), k_Wf sc A → gX9_count_h52 N A v2 v3 = some (r, A') → fX9_count_h52 N A 120 v2 v3 = some (r, A') ∧ k_Wf sc A' := by
  intro N
  induction N with
  | zero => intro A v2 v3 r A' hw  h; exact absurd h (by simp [gX9_count_h52])
  | succ N ih =>
    intro A v2 v3 r A' hw  h
    rw [gX9_count_h52] at h
    rw [fX9_count_h52]
    rw [if_pos (k_wO hw k_K120)]
    by_cases c1 : v3 < (k_rd A 120 21)
    · rw [if_pos c1] at h
      rw [if_pos c1]
      exact sgX9_count_h63 (fX9_count_h52 N) (gX9_count_h52 N) ih _ _ _ _ _ _ _ hw h
    · rw [if_neg c1] at h
      rw [if_neg c1]
      obtain ⟨rfl, rfl⟩ := k_pr h
      exact ⟨rfl, hw⟩
set_option maxRecDepth 100000 in
theorem sgX9_count_b0 {sc : k_SC} (A : k_H) (v1 : Int) (r : Int) (A' : k_H) (hw : k_Wf sc A) (h : gX9_count_b0 A v1 = some (r, A')) : fX9_count_b0 A 120 v1 = some (r, A') ∧ k_Wf sc A' := by
  unfold gX9_count_b0 at h
  unfold fX9_count_b0
  rw [if_pos (k_wO hw k_K120)]
  obtain ⟨A1, eA2, h⟩ := k_pl h
  have hw3 := k_wE eA2 (k_wo hw k_K120 0 (by decide))
  refine k_ltg eA2 ?_
  by_cases c5 : v1 < 0 ∨ 3 < v1
  · rw [if_pos c5] at h
    rw [if_pos c5]
    obtain ⟨rfl, rfl⟩ := k_pr h
    exact ⟨rfl, hw3⟩
  · rw [if_neg c5] at h
    rw [if_neg c5]
    by_cases c6 : v1 = 0
    · rw [if_pos c6] at h
      rw [if_pos c6]
      obtain ⟨rfl, rfl⟩ := k_pr h
      exact ⟨rfl, hw3⟩
    · rw [if_neg c6] at h
      rw [if_neg c6]
      by_cases c7 : v1 = 1
      · rw [if_pos c7] at h
        rw [if_pos c7]
        obtain ⟨rfl, rfl⟩ := k_pr h
        exact ⟨rfl, hw3⟩
      · rw [if_neg c7] at h
        rw [if_neg c7]
        by_cases c8 : v1 = 2
        · rw [if_pos c8] at h
          rw [if_pos c8]
          exact sgX9_count_h52  _ _ _ _ _ _ hw3 h
        · rw [if_neg c8] at h
          rw [if_neg c8]
          obtain ⟨rfl, rfl⟩ := k_pr h
          exact ⟨rfl, hw3⟩
theorem sgX9_count {sc : k_SC} {A : k_H} {x1 : Int} {r : Int} {A' : k_H} (hw : k_Wf sc A) (h : gX9_count A x1 = some (r, A')) : fX9_count A 120 x1 = some (r, A') ∧ k_Wf sc A' :=
  sgX9_count_b0 _ _ _ _ hw h
/-! X9_feed -/
def gX9_feed_b0 (A : k_H) (v1 v2 v3 v4 v5 : Int) : Option (Int × k_H) := k_lt (k_wt A 120 0 0) fun A1 => if 200 < k_wr ((k_rd A1 120 2) + 20) then (some ((-1), A1)) else (k_bd (gX9_four A1 v1) fun r5 A6 => k_bd (gX9_four A6 v2) fun r9 A10 => k_bd (gX9_four A10 v3) fun r13 A14 => k_bd (gX9_four A14 v4) fun r17 A18 => k_bd (gX9_four A18 v5) fun r21 A22 => some ((k_rd A22 120 2), A22))
def gX9_feed (A : k_H) (x1 x2 x3 x4 x5 : Int) : Option (Int × k_H) := gX9_feed_b0 A x1 x2 x3 x4 x5
set_option maxRecDepth 100000 in
theorem sgX9_feed_b0 {sc : k_SC} (A : k_H) (v1 v2 v3 v4 v5 : Int) (r : Int) (A' : k_H) (hw : k_Wf sc A) (h : gX9_feed_b0 A v1 v2 v3 v4 v5 = some (r, A')) : fX9_feed_b0 A 120 v1 v2 v3 v4 v5 = some (r, A') ∧ k_Wf sc A' := by
  unfold gX9_feed_b0 at h
  unfold fX9_feed_b0
  rw [if_pos (k_wO hw k_K120)]
  obtain ⟨A1, eA2, h⟩ := k_pl h
  have hw3 := k_wE eA2 (k_wo hw k_K120 0 (by decide))
  refine k_ltg eA2 ?_
  by_cases c4 : 200 < k_wr ((k_rd A1 120 2) + 20)
  · rw [if_pos c4] at h
    rw [if_pos c4]
    obtain ⟨rfl, rfl⟩ := k_pr h
    exact ⟨rfl, hw3⟩
  · rw [if_neg c4] at h
    rw [if_neg c4]
    obtain ⟨r5, A6, hq7, h⟩ := k_pb h
    have hw8 := sgX9_four hw3  hq7
    rw [hw8.1]
    rw [k_bds]
    rw [if_pos (k_wO hw8.2 k_K120)]
    obtain ⟨r9, A10, hq11, h⟩ := k_pb h
    have hw12 := sgX9_four hw8.2  hq11
    rw [hw12.1]
    rw [k_bds]
    rw [if_pos (k_wO hw12.2 k_K120)]
    obtain ⟨r13, A14, hq15, h⟩ := k_pb h
    have hw16 := sgX9_four hw12.2  hq15
    rw [hw16.1]
    rw [k_bds]
    rw [if_pos (k_wO hw16.2 k_K120)]
    obtain ⟨r17, A18, hq19, h⟩ := k_pb h
    have hw20 := sgX9_four hw16.2  hq19
    rw [hw20.1]
    rw [k_bds]
    rw [if_pos (k_wO hw20.2 k_K120)]
    obtain ⟨r21, A22, hq23, h⟩ := k_pb h
    have hw24 := sgX9_four hw20.2  hq23
    rw [hw24.1]
    rw [k_bds]
    rw [if_pos (k_wO hw24.2 k_K120)]
    obtain ⟨rfl, rfl⟩ := k_pr h
    exact ⟨rfl, hw24.2⟩
theorem sgX9_feed {sc : k_SC} {A : k_H} {x1 x2 x3 x4 x5 : Int} {r : Int} {A' : k_H} (hw : k_Wf sc A) (h : gX9_feed A x1 x2 x3 x4 x5 = some (r, A')) : fX9_feed A 120 x1 x2 x3 x4 x5 = some (r, A') ∧ k_Wf sc A' :=
  sgX9_feed_b0 _ _ _ _ _ _ _ _ hw h
/-! X9_hall -/
def gX9_hall_b0 (A : k_H) (v1 v2 v3 v4 : Int) : Option (Int × k_H) := k_lt (k_wt A 120 0 0) fun A1 => k_bd (gX9_taken A1) fun r4 A5 => if (k_rd A5 120 20) = 12 then (some ((-1), A5)) else (k_bd (gX9_isIn A5 v1 0 99) fun r9 A10 => if r9 = 0 then (some ((-1), A10)) else (k_bd (gX9_isIn A10 v2 0 99) fun r14 A15 => if r14 = 0 then (some ((-1), A15)) else (k_bd (gX9_isIn A15 v3 0 99) fun r19 A20 => if r19 = 0 then (some ((-1), A20)) else (k_bd (gX9_isIn A20 v4 0 99) fun r24 A25 => if r24 = 0 then (some ((-1), A25)) else (k_bd (gX9_areAmps A25 1 4) fun r29 A30 => if r29 = 0 then (some ((-1), A30)) else (if 0 ≤ (k_rd A30 120 20) ∧ (k_rd A30 120 20) < ((12 : Nat) : Int) then (k_lt (k_wt A30 122 (k_rd A30 120 20) v1) fun A35 => if 0 ≤ (k_rd A35 120 20) ∧ (k_rd A35 120 20) < ((12 : Nat) : Int) then (k_lt (k_wt A35 123 (k_rd A35 120 20) v2) fun A39 => k_bd (gX9_wire A39 (k_rd A39 120 20) v3 v4) fun r42 A43 => k_lt (k_wt A43 120 20 (k_wr ((k_rd A43 120 20) + 1))) fun A46 => some (k_wr ((k_rd A46 120 20) - 1), A46)) else none) else none))))))
def gX9_hall (A : k_H) (x1 x2 x3 x4 : Int) : Option (Int × k_H) := gX9_hall_b0 A x1 x2 x3 x4
set_option maxRecDepth 100000 in
theorem sgX9_hall_b0 {sc : k_SC} (A : k_H) (v1 v2 v3 v4 : Int) (r : Int) (A' : k_H) (hw : k_Wf sc A) (h : gX9_hall_b0 A v1 v2 v3 v4 = some (r, A')) : fX9_hall_b0 A 120 v1 v2 v3 v4 = some (r, A') ∧ k_Wf sc A' := by
  unfold gX9_hall_b0 at h
  unfold fX9_hall_b0
  rw [if_pos (k_wO hw k_K120)]
  obtain ⟨A1, eA2, h⟩ := k_pl h
  have hw3 := k_wE eA2 (k_wo hw k_K120 0 (by decide))
  refine k_ltg eA2 ?_
  obtain ⟨r4, A5, hq6, h⟩ := k_pb h
  have hw7 := sgX9_taken hw3  hq6
  rw [hw7.1]
  rw [k_bds]
  rw [if_pos (k_wO hw7.2 k_K120)]
  by_cases c8 : (k_rd A5 120 20) = 12
  · rw [if_pos c8] at h
    rw [if_pos c8]
    obtain ⟨rfl, rfl⟩ := k_pr h
    exact ⟨rfl, hw7.2⟩
  · rw [if_neg c8] at h
    rw [if_neg c8]
    obtain ⟨r9, A10, hq11, h⟩ := k_pb h
    have hw12 := sgX9_isIn hw7.2  hq11
    rw [hw12.1]
    rw [k_bds]
    by_cases c13 : r9 = 0
    · rw [if_pos c13] at h
      rw [if_pos c13]
      obtain ⟨rfl, rfl⟩ := k_pr h
      exact ⟨rfl, hw12.2⟩
    · rw [if_neg c13] at h
      rw [if_neg c13]
      obtain ⟨r14, A15, hq16, h⟩ := k_pb h
      have hw17 := sgX9_isIn hw12.2  hq16
      rw [hw17.1]
      rw [k_bds]
      by_cases c18 : r14 = 0
      · rw [if_pos c18] at h
        rw [if_pos c18]
        obtain ⟨rfl, rfl⟩ := k_pr h
        exact ⟨rfl, hw17.2⟩
      · rw [if_neg c18] at h
        rw [if_neg c18]
        obtain ⟨r19, A20, hq21, h⟩ := k_pb h
        have hw22 := sgX9_isIn hw17.2  hq21
        rw [hw22.1]
        rw [k_bds]
        by_cases c23 : r19 = 0
        · rw [if_pos c23] at h
          rw [if_pos c23]
          obtain ⟨rfl, rfl⟩ := k_pr h
          exact ⟨rfl, hw22.2⟩
        · rw [if_neg c23] at h
          rw [if_neg c23]
          obtain ⟨r24, A25, hq26, h⟩ := k_pb h
          have hw27 := sgX9_isIn hw22.2  hq26
          rw [hw27.1]
          rw [k_bds]
          by_cases c28 : r24 = 0
          · rw [if_pos c28] at h
            rw [if_pos c28]
            obtain ⟨rfl, rfl⟩ := k_pr h
            exact ⟨rfl, hw27.2⟩
          · rw [if_neg c28] at h
            rw [if_neg c28]
            rw [if_pos (k_wO hw27.2 k_K120)]
            obtain ⟨r29, A30, hq31, h⟩ := k_pb h
            have hw32 := sgX9_areAmps hw27.2  hq31
            rw [hw32.1]
            rw [k_bds]
            by_cases c33 : r29 = 0
            · rw [if_pos c33] at h
              rw [if_pos c33]
              obtain ⟨rfl, rfl⟩ := k_pr h
              exact ⟨rfl, hw32.2⟩
            · rw [if_neg c33] at h
              rw [if_neg c33]
              rw [if_pos (k_wO hw32.2 k_K120)]
              try rw [k_p9_5 hw32.2]
              obtain ⟨hc34, h⟩ := k_pk h
              rw [if_pos (k_wA hw32.2 (k_R122) hc34)]
              obtain ⟨A35, eA36, h⟩ := k_pl h
              have hw37 := k_wE eA36 (k_wa hw32.2 k_R122 (by decide))
              refine k_ltg eA36 ?_
              try rw [k_p9_6 hw37]
              obtain ⟨hc38, h⟩ := k_pk h
              rw [if_pos (k_wA hw37 (k_R123) hc38)]
              obtain ⟨A39, eA40, h⟩ := k_pl h
              have hw41 := k_wE eA40 (k_wa hw37 k_R123 (by decide))
              refine k_ltg eA40 ?_
              obtain ⟨r42, A43, hq44, h⟩ := k_pb h
              have hw45 := sgX9_wire hw41  hq44
              rw [hw45.1]
              rw [k_bds]
              rw [if_pos (k_wO hw45.2 k_K120)]
              obtain ⟨A46, eA47, h⟩ := k_pl h
              have hw48 := k_wE eA47 (k_wo hw45.2 k_K120 20 (by decide))
              refine k_ltg eA47 ?_
              obtain ⟨rfl, rfl⟩ := k_pr h
              exact ⟨rfl, hw48⟩
theorem sgX9_hall {sc : k_SC} {A : k_H} {x1 x2 x3 x4 : Int} {r : Int} {A' : k_H} (hw : k_Wf sc A) (h : gX9_hall A x1 x2 x3 x4 = some (r, A')) : fX9_hall A 120 x1 x2 x3 x4 = some (r, A') ∧ k_Wf sc A' :=
  sgX9_hall_b0 _ _ _ _ _ _ _ hw h
/-! X9_rewire -/
def gX9_rewire_b0 (A : k_H) (v1 v2 v3 : Int) : Option (Int × k_H) := k_lt (k_wt A 120 0 0) fun A1 => k_bd (gX9_taken A1) fun r4 A5 => k_bd (gX9_isHall A5 v1) fun r8 A9 => if r8 = 0 then (some (0, A9)) else (k_bd (gX9_isIn A9 v2 0 99) fun r13 A14 => if r13 = 0 then (some (0, A14)) else (k_bd (gX9_isIn A14 v3 0 99) fun r18 A19 => if r18 = 0 then (some (0, A19)) else (k_bd (gX9_areAmps A19 1 4) fun r23 A24 => if r23 = 0 then (some (0, A24)) else (k_bd (gX9_wire A24 v1 v2 v3) fun r28 A29 => some (1, A29)))))
def gX9_rewire (A : k_H) (x1 x2 x3 : Int) : Option (Int × k_H) := gX9_rewire_b0 A x1 x2 x3
set_option maxRecDepth 100000 in
theorem sgX9_rewire_b0 {sc : k_SC} (A : k_H) (v1 v2 v3 : Int) (r : Int) (A' : k_H) (hw : k_Wf sc A) (h : gX9_rewire_b0 A v1 v2 v3 = some (r, A')) : fX9_rewire_b0 A 120 v1 v2 v3 = some (r, A') ∧ k_Wf sc A' := by
  unfold gX9_rewire_b0 at h
  unfold fX9_rewire_b0
  rw [if_pos (k_wO hw k_K120)]
  obtain ⟨A1, eA2, h⟩ := k_pl h
  have hw3 := k_wE eA2 (k_wo hw k_K120 0 (by decide))
  refine k_ltg eA2 ?_
  obtain ⟨r4, A5, hq6, h⟩ := k_pb h
  have hw7 := sgX9_taken hw3  hq6
  rw [hw7.1]
  rw [k_bds]
  rw [if_pos (k_wO hw7.2 k_K120)]
  obtain ⟨r8, A9, hq10, h⟩ := k_pb h
  have hw11 := sgX9_isHall hw7.2  hq10
  rw [hw11.1]
  rw [k_bds]
  by_cases c12 : r8 = 0
  · rw [if_pos c12] at h
    rw [if_pos c12]
    obtain ⟨rfl, rfl⟩ := k_pr h
    exact ⟨rfl, hw11.2⟩
  · rw [if_neg c12] at h
    rw [if_neg c12]
    obtain ⟨r13, A14, hq15, h⟩ := k_pb h
    have hw16 := sgX9_isIn hw11.2  hq15
    rw [hw16.1]
    rw [k_bds]
    by_cases c17 : r13 = 0
    · rw [if_pos c17] at h
      rw [if_pos c17]
      obtain ⟨rfl, rfl⟩ := k_pr h
      exact ⟨rfl, hw16.2⟩
    · rw [if_neg c17] at h
      rw [if_neg c17]
      obtain ⟨r18, A19, hq20, h⟩ := k_pb h
      have hw21 := sgX9_isIn hw16.2  hq20
      rw [hw21.1]
      rw [k_bds]
      by_cases c22 : r18 = 0
      · rw [if_pos c22] at h
        rw [if_pos c22]
        obtain ⟨rfl, rfl⟩ := k_pr h
        exact ⟨rfl, hw21.2⟩
      · rw [if_neg c22] at h
        rw [if_neg c22]
        rw [if_pos (k_wO hw21.2 k_K120)]
        obtain ⟨r23, A24, hq25, h⟩ := k_pb h
        have hw26 := sgX9_areAmps hw21.2  hq25
        rw [hw26.1]
        rw [k_bds]
        by_cases c27 : r23 = 0
        · rw [if_pos c27] at h
          rw [if_pos c27]
          obtain ⟨rfl, rfl⟩ := k_pr h
          exact ⟨rfl, hw26.2⟩
        · rw [if_neg c27] at h
          rw [if_neg c27]
          rw [if_pos (k_wO hw26.2 k_K120)]
          obtain ⟨r28, A29, hq30, h⟩ := k_pb h
          have hw31 := sgX9_wire hw26.2  hq30
          rw [hw31.1]
          rw [k_bds]
          obtain ⟨rfl, rfl⟩ := k_pr h
          exact ⟨rfl, hw31.2⟩
theorem sgX9_rewire {sc : k_SC} {A : k_H} {x1 x2 x3 : Int} {r : Int} {A' : k_H} (hw : k_Wf sc A) (h : gX9_rewire A x1 x2 x3 = some (r, A')) : fX9_rewire A 120 x1 x2 x3 = some (r, A') ∧ k_Wf sc A' :=
  sgX9_rewire_b0 _ _ _ _ _ _ hw h
/-! X9_show -/
def gX9_show_h207 : Nat → k_H → Int → Int → Option (Int × k_H)
  | 0, _, _, _ => none
  | N + 1, A, v7, v8 => if v8 < 14 then (if 0 ≤ k_wr (k_wr (14 * v7) + v8) ∧ k_wr (k_wr (14 * v7) + v8) < ((84 : Nat) : Int) then (k_lt (k_wt A 139 (k_wr (k_wr (14 * v7) + v8)) (-1)) fun A6 => if 0 ≤ k_wr (k_wr (14 * v7) + v8) ∧ k_wr (k_wr (14 * v7) + v8) < ((84 : Nat) : Int) then (k_lt (k_wt A6 140 (k_wr (k_wr (14 * v7) + v8)) (-1)) fun A10 => (gX9_show_h207 N) A10 v7 (k_wr (v8 + 1))) else none) else none) else (k_lt (k_wt A 120 21 (k_wr ((k_rd A 120 21) + 1))) fun A2 => some (v7, A2))
def gX9_show_h165 : Nat → k_H → Int → Int → Option (Int × k_H)
  | 0, _, _, _ => none
  | N + 1, A, v7, v8 => if v8 < (k_rd A 120 3) then (if 0 ≤ v8 ∧ v8 < ((200 : Nat) : Int) then (if 0 ≤ k_wr (k_wr (8 * v7) + v8) ∧ k_wr (k_wr (8 * v7) + v8) < ((48 : Nat) : Int) then (k_lt (k_wt A 131 (k_wr (k_wr (8 * v7) + v8)) (k_and (k_rd A 121 v8) 255)) fun A4 => (gX9_show_h165 N) A4 v7 (k_wr (v8 + 1))) else none) else none) else (gX9_show_h207 k_FU A v7 0)
def gX9_show_b0 (A : k_H) (v1 v2 v3 v4 v5 v6 : Int) : Option (Int × k_H) := k_lt (k_wt A 120 0 0) fun A1 => k_bd (gX9_taken A1) fun r4 A5 => if (k_rd A5 120 21) = 6 then (some ((-1), A5)) else (k_bd (gX9_isIn A5 v1 0 99) fun r9 A10 => if r9 = 0 then (some ((-1), A10)) else (k_bd (gX9_isIn A10 v2 0 99) fun r14 A15 => if r14 = 0 then (some ((-1), A15)) else (k_bd (gX9_isIn A15 v4 0 13) fun r19 A20 => if r19 = 0 then (some ((-1), A20)) else (k_bd (gX9_isIn A20 v3 0 v4) fun r24 A25 => if r24 = 0 then (some ((-1), A25)) else (k_bd (gX9_isIn A25 v5 1 200) fun r29 A30 => if r29 = 0 then (some ((-1), A30)) else (k_bd (gX9_isIn A30 v6 1 14) fun r34 A35 => if r34 = 0 then (some ((-1), A35)) else (k_bd (gX9_areAmps A35 0 8) fun r39 A40 => if r39 = 0 then (some ((-1), A40)) else (if 0 ≤ (k_rd A40 120 21) ∧ (k_rd A40 120 21) < ((6 : Nat) : Int) then (k_lt (k_wt A40 128 (k_rd A40 120 21) v1) fun A45 => if 0 ≤ (k_rd A40 120 21) ∧ (k_rd A40 120 21) < ((6 : Nat) : Int) then (k_lt (k_wt A45 129 (k_rd A40 120 21) v2) fun A49 => if 0 ≤ (k_rd A40 120 21) ∧ (k_rd A40 120 21) < ((6 : Nat) : Int) then (k_lt (k_wt A49 132 (k_rd A40 120 21) v3) fun A53 => if 0 ≤ (k_rd A40 120 21) ∧ (k_rd A40 120 21) < ((6 : Nat) : Int) then (k_lt (k_wt A53 133 (k_rd A40 120 21) v4) fun A57 => if 0 ≤ (k_rd A40 120 21) ∧ (k_rd A40 120 21) < ((6 : Nat) : Int) then (k_lt (k_wt A57 134 (k_rd A40 120 21) v5) fun A61 => if 0 ≤ (k_rd A40 120 21) ∧ (k_rd A40 120 21) < ((6 : Nat) : Int) then (k_lt (k_wt A61 135 (k_rd A40 120 21) v6) fun A65 => if 0 ≤ (k_rd A40 120 21) ∧ (k_rd A40 120 21) < ((6 : Nat) : Int) then (k_lt (k_wt A65 130 (k_rd A40 120 21) (k_rd A65 120 3)) fun A69 => gX9_show_h165 k_FU A69 (k_rd A40 120 21) 0) else none) else none) else none) else none) else none) else none) else none))))))))
def gX9_show (A : k_H) (x1 x2 x3 x4 x5 x6 : Int) : Option (Int × k_H) := gX9_show_b0 A x1 x2 x3 x4 x5 x6
set_option maxRecDepth 100000 in
theorem sgX9_show_h207 {sc : k_SC} : ∀ (N : Nat) (A : k_H) (v7 v8 : Int) (r : Int) (A' : k_H), k_Wf sc A → gX9_show_h207 N A v7 v8 = some (r, A') → fX9_show_h207 N A 120 v7 v8 = some (r, A') ∧ k_Wf sc A' := by
  intro N
  induction N with
  | zero => intro A v7 v8 r A' hw  h; exact absurd h (by simp [gX9_show_h207])
  | succ N ih =>
    intro A v7 v8 r A' hw  h
    rw [gX9_show_h207] at h
    rw [fX9_show_h207]
    by_cases c1 : v8 < 14
    · rw [if_pos c1] at h
      rw [if_pos c1]
      rw [if_pos (k_wO hw k_K120)]
      try rw [k_p9_24 hw]
      obtain ⟨hc5, h⟩ := k_pk h
      rw [if_pos (k_wA hw (k_R139) hc5)]
      obtain ⟨A6, eA7, h⟩ := k_pl h
      have hw8 := k_wE eA7 (k_wa hw k_R139 (by decide))
      refine k_ltg eA7 ?_
      try rw [k_p9_25 hw8]
      obtain ⟨hc9, h⟩ := k_pk h
      rw [if_pos (k_wA hw8 (k_R140) hc9)]
      obtain ⟨A10, eA11, h⟩ := k_pl h
      have hw12 := k_wE eA11 (k_wa hw8 k_R140 (by decide))
      refine k_ltg eA11 ?_
      exact ih _ _ _ _ _ hw12 h
    · rw [if_neg c1] at h
      rw [if_neg c1]
      rw [if_pos (k_wO hw k_K120)]
      obtain ⟨A2, eA3, h⟩ := k_pl h
      have hw4 := k_wE eA3 (k_wo hw k_K120 21 (by decide))
      refine k_ltg eA3 ?_
      obtain ⟨rfl, rfl⟩ := k_pr h
      exact ⟨rfl, hw4⟩
set_option maxRecDepth 100000 in
theorem sgX9_show_h165 {sc : k_SC} : ∀ (N : Nat) (A : k_H) (v7 v8 : Int) (r : Int) (A' : k_H), k_Wf sc A → gX9_show_h165 N A v7 v8 = some (r, A') → fX9_show_h165 N A 120 v7 v8 = some (r, A') ∧ k_Wf sc A' := by
  intro N
  induction N with
  | zero => intro A v7 v8 r A' hw  h; exact absurd h (by simp [gX9_show_h165])
  | succ N ih =>
    intro A v7 v8 r A' hw  h
    rw [gX9_show_h165] at h
    rw [fX9_show_h165]
    rw [if_pos (k_wO hw k_K120)]
    by_cases c1 : v8 < (k_rd A 120 3)
    · rw [if_pos c1] at h
      rw [if_pos c1]
      try rw [k_p9_14 hw]
      try rw [k_p9_1 hw]
      obtain ⟨hc2, h⟩ := k_pk h
      rw [if_pos (k_wA hw (k_R121) hc2)]
      obtain ⟨hc3, h⟩ := k_pk h
      rw [if_pos (k_wA hw (k_R131) hc3)]
      obtain ⟨A4, eA5, h⟩ := k_pl h
      have hw6 := k_wE eA5 (k_wa hw k_R131 (by decide))
      refine k_ltg eA5 ?_
      exact ih _ _ _ _ _ hw6 h
    · rw [if_neg c1] at h
      rw [if_neg c1]
      exact sgX9_show_h207  _ _ _ _ _ _ hw h
set_option maxRecDepth 100000 in
theorem sgX9_show_b0 {sc : k_SC} (A : k_H) (v1 v2 v3 v4 v5 v6 : Int) (r : Int) (A' : k_H) (hw : k_Wf sc A) (h : gX9_show_b0 A v1 v2 v3 v4 v5 v6 = some (r, A')) : fX9_show_b0 A 120 v1 v2 v3 v4 v5 v6 = some (r, A') ∧ k_Wf sc A' := by
  unfold gX9_show_b0 at h
  unfold fX9_show_b0
  rw [if_pos (k_wO hw k_K120)]
  obtain ⟨A1, eA2, h⟩ := k_pl h
  have hw3 := k_wE eA2 (k_wo hw k_K120 0 (by decide))
  refine k_ltg eA2 ?_
  obtain ⟨r4, A5, hq6, h⟩ := k_pb h
  have hw7 := sgX9_taken hw3  hq6
  rw [hw7.1]
  rw [k_bds]
  rw [if_pos (k_wO hw7.2 k_K120)]
  by_cases c8 : (k_rd A5 120 21) = 6
  · rw [if_pos c8] at h
    rw [if_pos c8]
    obtain ⟨rfl, rfl⟩ := k_pr h
    exact ⟨rfl, hw7.2⟩
  · rw [if_neg c8] at h
    rw [if_neg c8]
    obtain ⟨r9, A10, hq11, h⟩ := k_pb h
    have hw12 := sgX9_isIn hw7.2  hq11
    rw [hw12.1]
    rw [k_bds]
    by_cases c13 : r9 = 0
    · rw [if_pos c13] at h
      rw [if_pos c13]
      obtain ⟨rfl, rfl⟩ := k_pr h
      exact ⟨rfl, hw12.2⟩
    · rw [if_neg c13] at h
      rw [if_neg c13]
      obtain ⟨r14, A15, hq16, h⟩ := k_pb h
      have hw17 := sgX9_isIn hw12.2  hq16
      rw [hw17.1]
      rw [k_bds]
      by_cases c18 : r14 = 0
      · rw [if_pos c18] at h
        rw [if_pos c18]
        obtain ⟨rfl, rfl⟩ := k_pr h
        exact ⟨rfl, hw17.2⟩
      · rw [if_neg c18] at h
        rw [if_neg c18]
        obtain ⟨r19, A20, hq21, h⟩ := k_pb h
        have hw22 := sgX9_isIn hw17.2  hq21
        rw [hw22.1]
        rw [k_bds]
        by_cases c23 : r19 = 0
        · rw [if_pos c23] at h
          rw [if_pos c23]
          obtain ⟨rfl, rfl⟩ := k_pr h
          exact ⟨rfl, hw22.2⟩
        · rw [if_neg c23] at h
          rw [if_neg c23]
          obtain ⟨r24, A25, hq26, h⟩ := k_pb h
          have hw27 := sgX9_isIn hw22.2  hq26
          rw [hw27.1]
          rw [k_bds]
          by_cases c28 : r24 = 0
          · rw [if_pos c28] at h
            rw [if_pos c28]
            obtain ⟨rfl, rfl⟩ := k_pr h
            exact ⟨rfl, hw27.2⟩
          · rw [if_neg c28] at h
            rw [if_neg c28]
            obtain ⟨r29, A30, hq31, h⟩ := k_pb h
            have hw32 := sgX9_isIn hw27.2  hq31
            rw [hw32.1]
            rw [k_bds]
            by_cases c33 : r29 = 0
            · rw [if_pos c33] at h
              rw [if_pos c33]
              obtain ⟨rfl, rfl⟩ := k_pr h
              exact ⟨rfl, hw32.2⟩
            · rw [if_neg c33] at h
              rw [if_neg c33]
              obtain ⟨r34, A35, hq36, h⟩ := k_pb h
              have hw37 := sgX9_isIn hw32.2  hq36
              rw [hw37.1]
              rw [k_bds]
              by_cases c38 : r34 = 0
              · rw [if_pos c38] at h
                rw [if_pos c38]
                obtain ⟨rfl, rfl⟩ := k_pr h
                exact ⟨rfl, hw37.2⟩
              · rw [if_neg c38] at h
                rw [if_neg c38]
                rw [if_pos (k_wO hw37.2 k_K120)]
                obtain ⟨r39, A40, hq41, h⟩ := k_pb h
                have hw42 := sgX9_areAmps hw37.2  hq41
                rw [hw42.1]
                rw [k_bds]
                by_cases c43 : r39 = 0
                · rw [if_pos c43] at h
                  rw [if_pos c43]
                  obtain ⟨rfl, rfl⟩ := k_pr h
                  exact ⟨rfl, hw42.2⟩
                · rw [if_neg c43] at h
                  rw [if_neg c43]
                  rw [if_pos (k_wO hw42.2 k_K120)]
                  try rw [k_p9_11 hw42.2]
                  obtain ⟨hc44, h⟩ := k_pk h
                  rw [if_pos (k_wA hw42.2 (k_R128) hc44)]
                  obtain ⟨A45, eA46, h⟩ := k_pl h
                  have hw47 := k_wE eA46 (k_wa hw42.2 k_R128 (by decide))
                  refine k_ltg eA46 ?_
                  try rw [k_p9_12 hw47]
                  obtain ⟨hc48, h⟩ := k_pk h
                  rw [if_pos (k_wA hw47 (k_R129) hc48)]
                  obtain ⟨A49, eA50, h⟩ := k_pl h
                  have hw51 := k_wE eA50 (k_wa hw47 k_R129 (by decide))
                  refine k_ltg eA50 ?_
                  try rw [k_p9_15 hw51]
                  obtain ⟨hc52, h⟩ := k_pk h
                  rw [if_pos (k_wA hw51 (k_R132) hc52)]
                  obtain ⟨A53, eA54, h⟩ := k_pl h
                  have hw55 := k_wE eA54 (k_wa hw51 k_R132 (by decide))
                  refine k_ltg eA54 ?_
                  try rw [k_p9_16 hw55]
                  obtain ⟨hc56, h⟩ := k_pk h
                  rw [if_pos (k_wA hw55 (k_R133) hc56)]
                  obtain ⟨A57, eA58, h⟩ := k_pl h
                  have hw59 := k_wE eA58 (k_wa hw55 k_R133 (by decide))
                  refine k_ltg eA58 ?_
                  try rw [k_p9_17 hw59]
                  obtain ⟨hc60, h⟩ := k_pk h
                  rw [if_pos (k_wA hw59 (k_R134) hc60)]
                  obtain ⟨A61, eA62, h⟩ := k_pl h
                  have hw63 := k_wE eA62 (k_wa hw59 k_R134 (by decide))
                  refine k_ltg eA62 ?_
                  try rw [k_p9_18 hw63]
                  obtain ⟨hc64, h⟩ := k_pk h
                  rw [if_pos (k_wA hw63 (k_R135) hc64)]
                  obtain ⟨A65, eA66, h⟩ := k_pl h
                  have hw67 := k_wE eA66 (k_wa hw63 k_R135 (by decide))
                  refine k_ltg eA66 ?_
                  try rw [k_p9_13 hw67]
                  obtain ⟨hc68, h⟩ := k_pk h
                  rw [if_pos (k_wA hw67 (k_R130) hc68)]
                  obtain ⟨A69, eA70, h⟩ := k_pl h
                  have hw71 := k_wE eA70 (k_wa hw67 k_R130 (by decide))
                  refine k_ltg eA70 ?_
                  exact sgX9_show_h165  _ _ _ _ _ _ hw71 h
theorem sgX9_show {sc : k_SC} {A : k_H} {x1 x2 x3 x4 x5 x6 : Int} {r : Int} {A' : k_H} (hw : k_Wf sc A) (h : gX9_show A x1 x2 x3 x4 x5 x6 = some (r, A')) : fX9_show A 120 x1 x2 x3 x4 x5 x6 = some (r, A') ∧ k_Wf sc A' :=
  sgX9_show_b0 _ _ _ _ _ _ _ _ _ hw h
/-! X9_give -/
def gX9_give_b72 (k39g : k_H → Int → Int → Int → Int → Int → Option (Int × k_H)) (A : k_H) (v1 v2 v3 v5 s0 s1 : Int) : Option (Int × k_H) := k39g A v1 v2 v3 (k_wr (s0 + s1)) (k_wr (v5 + 1))
def gX9_give_h39 : Nat → k_H → Int → Int → Int → Int → Int → Option (Int × k_H)
  | 0, _, _, _, _, _, _ => none
  | N + 1, A, v1, v2, v3, v4, v5 => if v5 < (k_rd A 120 21) then (if v5 = v2 then (gX9_give_b72 (gX9_give_h39 N) A v1 v2 v3 v5 v4 0) else (if 0 ≤ k_wr (k_wr (6 * v1) + v5) ∧ k_wr (k_wr (6 * v1) + v5) < ((72 : Nat) : Int) then (gX9_give_b72 (gX9_give_h39 N) A v1 v2 v3 v5 v4 (k_rd A 136 (k_wr (k_wr (6 * v1) + v5)))) else none)) else (if 10 < k_wr (v4 + v3) then (some (0, A)) else (if 0 ≤ k_wr (k_wr (6 * v1) + v2) ∧ k_wr (k_wr (6 * v1) + v2) < ((72 : Nat) : Int) then (k_lt (k_wt A 136 (k_wr (k_wr (6 * v1) + v2)) v3) fun A4 => some (1, A4)) else none))
def gX9_give_b0 (A : k_H) (v1 v2 v3 : Int) : Option (Int × k_H) := k_lt (k_wt A 120 0 0) fun A1 => k_bd (gX9_isHall A1 v1) fun r4 A5 => if r4 = 0 then (some (0, A5)) else (k_bd (gX9_isShow A5 v2) fun r9 A10 => if r9 = 0 then (some (0, A10)) else (if 0 ≤ v3 then (if 10 < v3 then (some (0, A10)) else (gX9_give_h39 k_FU A10 v1 v2 v3 0 0)) else (some (0, A10))))
def gX9_give (A : k_H) (x1 x2 x3 : Int) : Option (Int × k_H) := gX9_give_b0 A x1 x2 x3
set_option maxRecDepth 100000 in
theorem sgX9_give_b72 {sc : k_SC} (k39f : k_H → Int → Int → Int → Int → Int → Int → Option (Int × k_H)) (k39g : k_H → Int → Int → Int → Int → Int → Option (Int × k_H)) (hk39 : ∀ (A : k_H) (v1 v2 v3 v4 v5 : Int) (r : Int) (A' : k_H), k_Wf sc A → k39g A v1 v2 v3 v4 v5 = some (r, A') → k39f A 120 v1 v2 v3 v4 v5 = some (r, A') ∧ k_Wf sc A') (A : k_H) (v1 v2 v3 v5 s0 s1 : Int) (r : Int) (A' : k_H) (hw : k_Wf sc A) (h : gX9_give_b72 k39g A v1 v2 v3 v5 s0 s1 = some (r, A')) : fX9_give_b72 k39f A 120 v1 v2 v3 v5 s0 s1 = some (r, A') ∧ k_Wf sc A' := by
  unfold gX9_give_b72 at h
  unfold fX9_give_b72
  exact hk39 _ _ _ _ _ _ _ _ hw h
set_option maxRecDepth 100000 in
theorem sgX9_give_h39 {sc : k_SC} : ∀ (N : Nat) (A : k_H) (v1 v2 v3 v4 v5 : Int) (r : Int) (A' : k_H), k_Wf sc A → gX9_give_h39 N A v1 v2 v3 v4 v5 = some (r, A') → fX9_give_h39 N A 120 v1 v2 v3 v4 v5 = some (r, A') ∧ k_Wf sc A' := by
  intro N
  induction N with
  | zero => intro A v1 v2 v3 v4 v5 r A' hw  h; exact absurd h (by simp [gX9_give_h39])
  | succ N ih =>
    intro A v1 v2 v3 v4 v5 r A' hw  h
    rw [gX9_give_h39] at h
    rw [fX9_give_h39]
    rw [if_pos (k_wO hw k_K120)]
    by_cases c1 : v5 < (k_rd A 120 21)
    · rw [if_pos c1] at h
      rw [if_pos c1]
      by_cases c7 : v5 = v2
      · rw [if_pos c7] at h
        rw [if_pos c7]
        exact sgX9_give_b72 (fX9_give_h39 N) (gX9_give_h39 N) ih _ _ _ _ _ _ _ _ _ hw h
      · rw [if_neg c7] at h
        rw [if_neg c7]
        try rw [k_p9_19 hw]
        obtain ⟨hc8, h⟩ := k_pk h
        rw [if_pos (k_wA hw (k_R136) hc8)]
        exact sgX9_give_b72 (fX9_give_h39 N) (gX9_give_h39 N) ih _ _ _ _ _ _ _ _ _ hw h
    · rw [if_neg c1] at h
      rw [if_neg c1]
      by_cases c2 : 10 < k_wr (v4 + v3)
      · rw [if_pos c2] at h
        rw [if_pos c2]
        obtain ⟨rfl, rfl⟩ := k_pr h
        exact ⟨rfl, hw⟩
      · rw [if_neg c2] at h
        rw [if_neg c2]
        try rw [k_p9_19 hw]
        obtain ⟨hc3, h⟩ := k_pk h
        rw [if_pos (k_wA hw (k_R136) hc3)]
        obtain ⟨A4, eA5, h⟩ := k_pl h
        have hw6 := k_wE eA5 (k_wa hw k_R136 (by decide))
        refine k_ltg eA5 ?_
        obtain ⟨rfl, rfl⟩ := k_pr h
        exact ⟨rfl, hw6⟩
set_option maxRecDepth 100000 in
theorem sgX9_give_b0 {sc : k_SC} (A : k_H) (v1 v2 v3 : Int) (r : Int) (A' : k_H) (hw : k_Wf sc A) (h : gX9_give_b0 A v1 v2 v3 = some (r, A')) : fX9_give_b0 A 120 v1 v2 v3 = some (r, A') ∧ k_Wf sc A' := by
  unfold gX9_give_b0 at h
  unfold fX9_give_b0
  rw [if_pos (k_wO hw k_K120)]
  obtain ⟨A1, eA2, h⟩ := k_pl h
  have hw3 := k_wE eA2 (k_wo hw k_K120 0 (by decide))
  refine k_ltg eA2 ?_
  obtain ⟨r4, A5, hq6, h⟩ := k_pb h
  have hw7 := sgX9_isHall hw3  hq6
  rw [hw7.1]
  rw [k_bds]
  by_cases c8 : r4 = 0
  · rw [if_pos c8] at h
    rw [if_pos c8]
    obtain ⟨rfl, rfl⟩ := k_pr h
    exact ⟨rfl, hw7.2⟩
  · rw [if_neg c8] at h
    rw [if_neg c8]
    rw [if_pos (k_wO hw7.2 k_K120)]
    obtain ⟨r9, A10, hq11, h⟩ := k_pb h
    have hw12 := sgX9_isShow hw7.2  hq11
    rw [hw12.1]
    rw [k_bds]
    by_cases c13 : r9 = 0
    · rw [if_pos c13] at h
      rw [if_pos c13]
      obtain ⟨rfl, rfl⟩ := k_pr h
      exact ⟨rfl, hw12.2⟩
    · rw [if_neg c13] at h
      rw [if_neg c13]
      by_cases c14 : 0 ≤ v3
      · rw [if_pos c14] at h
        rw [if_pos c14]
        by_cases c15 : 10 < v3
        · rw [if_pos c15] at h
          rw [if_pos c15]
          obtain ⟨rfl, rfl⟩ := k_pr h
          exact ⟨rfl, hw12.2⟩
        · rw [if_neg c15] at h
          rw [if_neg c15]
          exact sgX9_give_h39  _ _ _ _ _ _ _ _ _ hw12.2 h
      · rw [if_neg c14] at h
        rw [if_neg c14]
        obtain ⟨rfl, rfl⟩ := k_pr h
        exact ⟨rfl, hw12.2⟩
theorem sgX9_give {sc : k_SC} {A : k_H} {x1 x2 x3 : Int} {r : Int} {A' : k_H} (hw : k_Wf sc A) (h : gX9_give A x1 x2 x3 = some (r, A')) : fX9_give A 120 x1 x2 x3 = some (r, A') ∧ k_Wf sc A' :=
  sgX9_give_b0 _ _ _ _ _ _ hw h
/-! X9_fit -/
def gX9_fit_b0 (A : k_H) (v1 v2 : Int) : Option (Int × k_H) := if 0 ≤ v2 ∧ v2 < ((12 : Nat) : Int) then (if 0 ≤ v1 ∧ v1 < ((6 : Nat) : Int) then (if (k_rd A 124 v2) < (k_rd A 128 v1) then (some (0, A)) else (if 0 ≤ v2 ∧ v2 < ((12 : Nat) : Int) then (if 0 ≤ v1 ∧ v1 < ((6 : Nat) : Int) then (if (k_rd A 125 v2) < (k_rd A 129 v1) then (some ((-1), A)) else (k_bd (gX9_plug A v1 v2) fun r7 A8 => if r7 = 0 then (some ((-2), A8)) else (some (1, A8)))) else none) else none)) else none) else none
def gX9_fit (A : k_H) (x1 x2 : Int) : Option (Int × k_H) := gX9_fit_b0 A x1 x2
set_option maxRecDepth 100000 in
theorem sgX9_fit_b0 {sc : k_SC} (A : k_H) (v1 v2 : Int) (r : Int) (A' : k_H) (hw : k_Wf sc A) (h : gX9_fit_b0 A v1 v2 = some (r, A')) : fX9_fit_b0 A 120 v1 v2 = some (r, A') ∧ k_Wf sc A' := by
  unfold gX9_fit_b0 at h
  unfold fX9_fit_b0
  rw [if_pos (k_wO hw k_K120)]
  try rw [k_p9_7 hw]
  obtain ⟨hc1, h⟩ := k_pk h
  rw [if_pos (k_wA hw (k_R124) hc1)]
  try rw [k_p9_11 hw]
  obtain ⟨hc2, h⟩ := k_pk h
  rw [if_pos (k_wA hw (k_R128) hc2)]
  by_cases c3 : (k_rd A 124 v2) < (k_rd A 128 v1)
  · rw [if_pos c3] at h
    rw [if_pos c3]
    obtain ⟨rfl, rfl⟩ := k_pr h
    exact ⟨rfl, hw⟩
  · rw [if_neg c3] at h
    rw [if_neg c3]
    try rw [k_p9_8 hw]
    obtain ⟨hc4, h⟩ := k_pk h
    rw [if_pos (k_wA hw (k_R125) hc4)]
    try rw [k_p9_12 hw]
    obtain ⟨hc5, h⟩ := k_pk h
    rw [if_pos (k_wA hw (k_R129) hc5)]
    by_cases c6 : (k_rd A 125 v2) < (k_rd A 129 v1)
    · rw [if_pos c6] at h
      rw [if_pos c6]
      obtain ⟨rfl, rfl⟩ := k_pr h
      exact ⟨rfl, hw⟩
    · rw [if_neg c6] at h
      rw [if_neg c6]
      obtain ⟨r7, A8, hq9, h⟩ := k_pb h
      have hw10 := sgX9_plug hw  hq9
      rw [hw10.1]
      rw [k_bds]
      by_cases c11 : r7 = 0
      · rw [if_pos c11] at h
        rw [if_pos c11]
        obtain ⟨rfl, rfl⟩ := k_pr h
        exact ⟨rfl, hw10.2⟩
      · rw [if_neg c11] at h
        rw [if_neg c11]
        obtain ⟨rfl, rfl⟩ := k_pr h
        exact ⟨rfl, hw10.2⟩
theorem sgX9_fit {sc : k_SC} {A : k_H} {x1 x2 : Int} {r : Int} {A' : k_H} (hw : k_Wf sc A) (h : gX9_fit A x1 x2 = some (r, A')) : fX9_fit A 120 x1 x2 = some (r, A') ∧ k_Wf sc A' :=
  sgX9_fit_b0 _ _ _ _ _ hw h
/-! X9_plugged -/
def gX9_plugged_b0 (A : k_H) (v1 v2 v3 : Int) : Option (Int × k_H) := k_lt (k_wt A 120 0 0) fun A1 => k_bd (gX9_isShow A1 v1) fun r4 A5 => if r4 = 0 then (some ((-1), A5)) else (k_bd (gX9_isHall A5 v2) fun r9 A10 => if r9 = 0 then (some ((-1), A10)) else (if 0 ≤ v3 then (if 0 ≤ v1 ∧ v1 < ((6 : Nat) : Int) then (if (k_rd A10 130 v1) ≤ v3 then (some ((-1), A10)) else (k_bd (gX9_plug A10 v1 v2) fun r17 A18 => if r17 = 0 then (some ((-1), A18)) else (if 0 ≤ v3 ∧ v3 < ((8 : Nat) : Int) then (some ((k_rd A18 137 v3), A18)) else none))) else none) else (some ((-1), A10))))
def gX9_plugged (A : k_H) (x1 x2 x3 : Int) : Option (Int × k_H) := gX9_plugged_b0 A x1 x2 x3
set_option maxRecDepth 100000 in
theorem sgX9_plugged_b0 {sc : k_SC} (A : k_H) (v1 v2 v3 : Int) (r : Int) (A' : k_H) (hw : k_Wf sc A) (h : gX9_plugged_b0 A v1 v2 v3 = some (r, A')) : fX9_plugged_b0 A 120 v1 v2 v3 = some (r, A') ∧ k_Wf sc A' := by
  unfold gX9_plugged_b0 at h
  unfold fX9_plugged_b0
  rw [if_pos (k_wO hw k_K120)]
  obtain ⟨A1, eA2, h⟩ := k_pl h
  have hw3 := k_wE eA2 (k_wo hw k_K120 0 (by decide))
  refine k_ltg eA2 ?_
  obtain ⟨r4, A5, hq6, h⟩ := k_pb h
  have hw7 := sgX9_isShow hw3  hq6
  rw [hw7.1]
  rw [k_bds]
  by_cases c8 : r4 = 0
  · rw [if_pos c8] at h
    rw [if_pos c8]
    obtain ⟨rfl, rfl⟩ := k_pr h
    exact ⟨rfl, hw7.2⟩
  · rw [if_neg c8] at h
    rw [if_neg c8]
    rw [if_pos (k_wO hw7.2 k_K120)]
    obtain ⟨r9, A10, hq11, h⟩ := k_pb h
    have hw12 := sgX9_isHall hw7.2  hq11
    rw [hw12.1]
    rw [k_bds]
    by_cases c13 : r9 = 0
    · rw [if_pos c13] at h
      rw [if_pos c13]
      obtain ⟨rfl, rfl⟩ := k_pr h
      exact ⟨rfl, hw12.2⟩
    · rw [if_neg c13] at h
      rw [if_neg c13]
      by_cases c14 : 0 ≤ v3
      · rw [if_pos c14] at h
        rw [if_pos c14]
        rw [if_pos (k_wO hw12.2 k_K120)]
        try rw [k_p9_13 hw12.2]
        obtain ⟨hc15, h⟩ := k_pk h
        rw [if_pos (k_wA hw12.2 (k_R130) hc15)]
        by_cases c16 : (k_rd A10 130 v1) ≤ v3
        · rw [if_pos c16] at h
          rw [if_pos c16]
          obtain ⟨rfl, rfl⟩ := k_pr h
          exact ⟨rfl, hw12.2⟩
        · rw [if_neg c16] at h
          rw [if_neg c16]
          obtain ⟨r17, A18, hq19, h⟩ := k_pb h
          have hw20 := sgX9_plug hw12.2  hq19
          rw [hw20.1]
          rw [k_bds]
          by_cases c21 : r17 = 0
          · rw [if_pos c21] at h
            rw [if_pos c21]
            obtain ⟨rfl, rfl⟩ := k_pr h
            exact ⟨rfl, hw20.2⟩
          · rw [if_neg c21] at h
            rw [if_neg c21]
            rw [if_pos (k_wO hw20.2 k_K120)]
            try rw [k_p9_22 hw20.2]
            obtain ⟨hc22, h⟩ := k_pk h
            rw [if_pos (k_wA hw20.2 (k_R137) hc22)]
            obtain ⟨rfl, rfl⟩ := k_pr h
            exact ⟨rfl, hw20.2⟩
      · rw [if_neg c14] at h
        rw [if_neg c14]
        obtain ⟨rfl, rfl⟩ := k_pr h
        exact ⟨rfl, hw12.2⟩
theorem sgX9_plugged {sc : k_SC} {A : k_H} {x1 x2 x3 : Int} {r : Int} {A' : k_H} (hw : k_Wf sc A) (h : gX9_plugged A x1 x2 x3 = some (r, A')) : fX9_plugged A 120 x1 x2 x3 = some (r, A') ∧ k_Wf sc A' :=
  sgX9_plugged_b0 _ _ _ _ _ _ hw h
/-! X9_lacks -/
def gX9_lacks_b244 (k60g : k_H → Int → Int → Int → Int → Int → Option (Int × k_H)) (A : k_H) (v1 v2 v3 v5 s0 : Int) : Option (Int × k_H) := k60g A v1 v2 v3 s0 (k_wr (v5 + 1))
def gX9_lacks_b216 (k60g : k_H → Int → Int → Int → Int → Int → Option (Int × k_H)) (k159g : k_H → Int → Int → Int → Int → Int → Int → Int → Option (Int × k_H)) (A : k_H) (v1 v2 v3 v4 v5 v8 s0 s1 : Int) : Option (Int × k_H) := k159g A v1 v2 v3 v4 v5 (k_wr (s0 + s1)) (k_wr (v8 + 1))
def gX9_lacks_b237 (k60g : k_H → Int → Int → Int → Int → Int → Option (Int × k_H)) (A : k_H) (v1 v2 v3 v5 v7 : Int) : Option (Int × k_H) := gX9_lacks_b244 k60g A v1 v2 v3 v5 v7
def gX9_lacks_h159 (k60g : k_H → Int → Int → Int → Int → Int → Option (Int × k_H)) : Nat → k_H → Int → Int → Int → Int → Int → Int → Int → Option (Int × k_H)
  | 0, _, _, _, _, _, _, _, _ => none
  | N + 1, A, v1, v2, v3, v4, v5, v7, v8 => if 0 ≤ v2 ∧ v2 < ((12 : Nat) : Int) then (if v8 < (k_rd A 126 v2) then (if 0 ≤ v8 ∧ v8 < ((4 : Nat) : Int) then (if 0 ≤ k_wr (k_wr (4 * v2) + v8) ∧ k_wr (k_wr (4 * v2) + v8) < ((48 : Nat) : Int) then (if (k_rd A 127 (k_wr (k_wr (4 * v2) + v8))) < (k_rd A 138 v8) then (gX9_lacks_b216 k60g (gX9_lacks_h159 k60g N) A v1 v2 v3 v4 v5 v8 v7 (k_wr ((k_rd A 138 v8) - (k_rd A 127 (k_wr (k_wr (4 * v2) + v8)))))) else (gX9_lacks_b216 k60g (gX9_lacks_h159 k60g N) A v1 v2 v3 v4 v5 v8 v7 0)) else none) else none) else (if 0 ≤ v4 then (if v7 < v4 then (gX9_lacks_b237 k60g A v1 v2 v3 v5 v7) else (gX9_lacks_b244 k60g A v1 v2 v3 v5 v4)) else (gX9_lacks_b237 k60g A v1 v2 v3 v5 v7))) else none
def gX9_lacks_h96 (k60g : k_H → Int → Int → Int → Int → Int → Option (Int × k_H)) : Nat → k_H → Int → Int → Int → Int → Int → Int → Int → Option (Int × k_H)
  | 0, _, _, _, _, _, _, _, _ => none
  | N + 1, A, v1, v2, v3, v4, v5, v6, v7 => if 0 ≤ v1 ∧ v1 < ((6 : Nat) : Int) then (if v7 < (k_rd A 130 v1) then (if 0 ≤ v2 ∧ v2 < ((12 : Nat) : Int) then (if (k_rd A 126 v2) ≠ 0 then (if 0 ≤ k_wr (Int.tmod v6 (k_rd A 126 v2)) ∧ k_wr (Int.tmod v6 (k_rd A 126 v2)) < ((4 : Nat) : Int) then (if 0 ≤ k_wr (k_wr (8 * v1) + v7) ∧ k_wr (k_wr (8 * v1) + v7) < ((48 : Nat) : Int) then (k_lt (k_wt A 138 (k_wr (Int.tmod v6 (k_rd A 126 v2))) (k_wr ((k_rd A 138 (k_wr (Int.tmod v6 (k_rd A 126 v2)))) + (k_rd A 131 (k_wr (k_wr (8 * v1) + v7)))))) fun A7 => if (k_rd A7 126 v2) ≠ 0 then ((gX9_lacks_h96 k60g N) A7 v1 v2 v3 v4 v5 (k_wr (Int.tdiv v6 (k_rd A7 126 v2))) (k_wr (v7 + 1))) else none) else none) else none) else none) else none) else (gX9_lacks_h159 k60g k_FU A v1 v2 v3 v4 v5 0 0)) else none
def gX9_lacks_h69 (k60g : k_H → Int → Int → Int → Int → Int → Option (Int × k_H)) : Nat → k_H → Int → Int → Int → Int → Int → Int → Option (Int × k_H)
  | 0, _, _, _, _, _, _, _ => none
  | N + 1, A, v1, v2, v3, v4, v5, v6 => if v6 < 4 then (if 0 ≤ v6 ∧ v6 < ((4 : Nat) : Int) then (k_lt (k_wt A 138 v6 0) fun A3 => (gX9_lacks_h69 k60g N) A3 v1 v2 v3 v4 v5 (k_wr (v6 + 1))) else none) else (gX9_lacks_h96 k60g k_FU A v1 v2 v3 v4 v5 v5 0)
def gX9_lacks_h60 : Nat → k_H → Int → Int → Int → Int → Int → Option (Int × k_H)
  | 0, _, _, _, _, _, _ => none
  | N + 1, A, v1, v2, v3, v4, v5 => if v5 < v3 then (gX9_lacks_h69 (gX9_lacks_h60 N) k_FU A v1 v2 v3 v4 v5 0) else (some (v4, A))
def gX9_lacks_h28 : Nat → k_H → Int → Int → Int → Int → Option (Int × k_H)
  | 0, _, _, _, _, _ => none
  | N + 1, A, v1, v2, v3, v4 => if 0 ≤ v1 ∧ v1 < ((6 : Nat) : Int) then (if v4 < (k_rd A 130 v1) then (if 0 ≤ v2 ∧ v2 < ((12 : Nat) : Int) then ((gX9_lacks_h28 N) A v1 v2 (k_wr (v3 * (k_rd A 126 v2))) (k_wr (v4 + 1))) else none) else (gX9_lacks_h60 k_FU A v1 v2 v3 (-1) 0)) else none
def gX9_lacks_b0 (A : k_H) (v1 v2 : Int) : Option (Int × k_H) := k_lt (k_wt A 120 0 0) fun A1 => k_bd (gX9_isShow A1 v1) fun r4 A5 => if r4 = 0 then (some ((-1), A5)) else (k_bd (gX9_isHall A5 v2) fun r9 A10 => if r9 = 0 then (some ((-1), A10)) else (gX9_lacks_h28 k_FU A10 v1 v2 1 0))
def gX9_lacks (A : k_H) (x1 x2 : Int) : Option (Int × k_H) := gX9_lacks_b0 A x1 x2
set_option maxRecDepth 100000 in
theorem sgX9_lacks_b244 {sc : k_SC} (k60f : k_H → Int → Int → Int → Int → Int → Int → Option (Int × k_H)) (k60g : k_H → Int → Int → Int → Int → Int → Option (Int × k_H)) (hk60 : ∀ (A : k_H) (v1 v2 v3 v4 v5 : Int) (r : Int) (A' : k_H), k_Wf sc A → k60g A v1 v2 v3 v4 v5 = some (r, A') → k60f A 120 v1 v2 v3 v4 v5 = some (r, A') ∧ k_Wf sc A') (A : k_H) (v1 v2 v3 v5 s0 : Int) (r : Int) (A' : k_H) (hw : k_Wf sc A) (h : gX9_lacks_b244 k60g A v1 v2 v3 v5 s0 = some (r, A')) : fX9_lacks_b244 k60f A 120 v1 v2 v3 v5 s0 = some (r, A') ∧ k_Wf sc A' := by
  unfold gX9_lacks_b244 at h
  unfold fX9_lacks_b244
  exact hk60 _ _ _ _ _ _ _ _ hw h
set_option maxRecDepth 100000 in
theorem sgX9_lacks_b216 {sc : k_SC} (k60f : k_H → Int → Int → Int → Int → Int → Int → Option (Int × k_H)) (k60g : k_H → Int → Int → Int → Int → Int → Option (Int × k_H)) (hk60 : ∀ (A : k_H) (v1 v2 v3 v4 v5 : Int) (r : Int) (A' : k_H), k_Wf sc A → k60g A v1 v2 v3 v4 v5 = some (r, A') → k60f A 120 v1 v2 v3 v4 v5 = some (r, A') ∧ k_Wf sc A') (k159f : k_H → Int → Int → Int → Int → Int → Int → Int → Int → Option (Int × k_H)) (k159g : k_H → Int → Int → Int → Int → Int → Int → Int → Option (Int × k_H)) (hk159 : ∀ (A : k_H) (v1 v2 v3 v4 v5 v7 v8 : Int) (r : Int) (A' : k_H), k_Wf sc A → k159g A v1 v2 v3 v4 v5 v7 v8 = some (r, A') → k159f A 120 v1 v2 v3 v4 v5 v7 v8 = some (r, A') ∧ k_Wf sc A') (A : k_H) (v1 v2 v3 v4 v5 v8 s0 s1 : Int) (r : Int) (A' : k_H) (hw : k_Wf sc A) (h : gX9_lacks_b216 k60g k159g A v1 v2 v3 v4 v5 v8 s0 s1 = some (r, A')) : fX9_lacks_b216 k60f k159f A 120 v1 v2 v3 v4 v5 v8 s0 s1 = some (r, A') ∧ k_Wf sc A' := by
  unfold gX9_lacks_b216 at h
  unfold fX9_lacks_b216
  exact hk159 _ _ _ _ _ _ _ _ _ _ hw h
set_option maxRecDepth 100000 in
theorem sgX9_lacks_b237 {sc : k_SC} (k60f : k_H → Int → Int → Int → Int → Int → Int → Option (Int × k_H)) (k60g : k_H → Int → Int → Int → Int → Int → Option (Int × k_H)) (hk60 : ∀ (A : k_H) (v1 v2 v3 v4 v5 : Int) (r : Int) (A' : k_H), k_Wf sc A → k60g A v1 v2 v3 v4 v5 = some (r, A') → k60f A 120 v1 v2 v3 v4 v5 = some (r, A') ∧ k_Wf sc A') (A : k_H) (v1 v2 v3 v5 v7 : Int) (r : Int) (A' : k_H) (hw : k_Wf sc A) (h : gX9_lacks_b237 k60g A v1 v2 v3 v5 v7 = some (r, A')) : fX9_lacks_b237 k60f A 120 v1 v2 v3 v5 v7 = some (r, A') ∧ k_Wf sc A' := by
  unfold gX9_lacks_b237 at h
  unfold fX9_lacks_b237
  exact sgX9_lacks_b244 k60f k60g hk60 _ _ _ _ _ _ _ _ hw h
set_option maxRecDepth 100000 in
theorem sgX9_lacks_h159 {sc : k_SC} (k60f : k_H → Int → Int → Int → Int → Int → Int → Option (Int × k_H)) (k60g : k_H → Int → Int → Int → Int → Int → Option (Int × k_H)) (hk60 : ∀ (A : k_H) (v1 v2 v3 v4 v5 : Int) (r : Int) (A' : k_H), k_Wf sc A → k60g A v1 v2 v3 v4 v5 = some (r, A') → k60f A 120 v1 v2 v3 v4 v5 = some (r, A') ∧ k_Wf sc A') : ∀ (N : Nat) (A : k_H) (v1 v2 v3 v4 v5 v7 v8 : Int) (r : Int) (A' : k_H), k_Wf sc A → gX9_lacks_h159 k60g N A v1 v2 v3 v4 v5 v7 v8 = some (r, A') → fX9_lacks_h159 k60f N A 120 v1 v2 v3 v4 v5 v7 v8 = some (r, A') ∧ k_Wf sc A' := by
  intro N
  induction N with
  | zero => intro A v1 v2 v3 v4 v5 v7 v8 r A' hw  h; exact absurd h (by simp [gX9_lacks_h159])
  | succ N ih =>
    intro A v1 v2 v3 v4 v5 v7 v8 r A' hw  h
    rw [gX9_lacks_h159] at h
    rw [fX9_lacks_h159]
    rw [if_pos (k_wO hw k_K120)]
    try rw [k_p9_9 hw]
    obtain ⟨hc1, h⟩ := k_pk h
    rw [if_pos (k_wA hw (k_R126) hc1)]
    by_cases c2 : v8 < (k_rd A 126 v2)
    · rw [if_pos c2] at h
      rw [if_pos c2]
      try rw [k_p9_23 hw]
      obtain ⟨hc5, h⟩ := k_pk h
      rw [if_pos (k_wA hw (k_R138) hc5)]
      try rw [k_p9_10 hw]
      obtain ⟨hc6, h⟩ := k_pk h
      rw [if_pos (k_wA hw (k_R127) hc6)]
      by_cases c7 : (k_rd A 127 (k_wr (k_wr (4 * v2) + v8))) < (k_rd A 138 v8)
      · rw [if_pos c7] at h
        rw [if_pos c7]
        try rw [k_p9_23 hw]
        try rw [k_p9_10 hw]
        exact sgX9_lacks_b216 k60f k60g hk60 (fX9_lacks_h159 k60f N) (gX9_lacks_h159 k60g N) ih _ _ _ _ _ _ _ _ _ _ _ hw h
      · rw [if_neg c7] at h
        rw [if_neg c7]
        exact sgX9_lacks_b216 k60f k60g hk60 (fX9_lacks_h159 k60f N) (gX9_lacks_h159 k60g N) ih _ _ _ _ _ _ _ _ _ _ _ hw h
    · rw [if_neg c2] at h
      rw [if_neg c2]
      by_cases c3 : 0 ≤ v4
      · rw [if_pos c3] at h
        rw [if_pos c3]
        by_cases c4 : v7 < v4
        · rw [if_pos c4] at h
          rw [if_pos c4]
          exact sgX9_lacks_b237 k60f k60g hk60 _ _ _ _ _ _ _ _ hw h
        · rw [if_neg c4] at h
          rw [if_neg c4]
          exact sgX9_lacks_b244 k60f k60g hk60 _ _ _ _ _ _ _ _ hw h
      · rw [if_neg c3] at h
        rw [if_neg c3]
        exact sgX9_lacks_b237 k60f k60g hk60 _ _ _ _ _ _ _ _ hw h
set_option maxRecDepth 100000 in
theorem sgX9_lacks_h96 {sc : k_SC} (k60f : k_H → Int → Int → Int → Int → Int → Int → Option (Int × k_H)) (k60g : k_H → Int → Int → Int → Int → Int → Option (Int × k_H)) (hk60 : ∀ (A : k_H) (v1 v2 v3 v4 v5 : Int) (r : Int) (A' : k_H), k_Wf sc A → k60g A v1 v2 v3 v4 v5 = some (r, A') → k60f A 120 v1 v2 v3 v4 v5 = some (r, A') ∧ k_Wf sc A') : ∀ (N : Nat) (A : k_H) (v1 v2 v3 v4 v5 v6 v7 : Int) (r : Int) (A' : k_H), k_Wf sc A → gX9_lacks_h96 k60g N A v1 v2 v3 v4 v5 v6 v7 = some (r, A') → fX9_lacks_h96 k60f N A 120 v1 v2 v3 v4 v5 v6 v7 = some (r, A') ∧ k_Wf sc A' := by
  intro N
  induction N with
  | zero => intro A v1 v2 v3 v4 v5 v6 v7 r A' hw  h; exact absurd h (by simp [gX9_lacks_h96])
  | succ N ih =>
    intro A v1 v2 v3 v4 v5 v6 v7 r A' hw  h
    rw [gX9_lacks_h96] at h
    rw [fX9_lacks_h96]
    rw [if_pos (k_wO hw k_K120)]
    try rw [k_p9_13 hw]
    obtain ⟨hc1, h⟩ := k_pk h
    rw [if_pos (k_wA hw (k_R130) hc1)]
    by_cases c2 : v7 < (k_rd A 130 v1)
    · rw [if_pos c2] at h
      rw [if_pos c2]
      try rw [k_p9_23 hw]
      try rw [k_p9_9 hw]
      obtain ⟨hc3, h⟩ := k_pk h
      rw [if_pos (k_wA hw (k_R126) hc3)]
      obtain ⟨hc4, h⟩ := k_pk h
      rw [if_pos hc4]
      obtain ⟨hc5, h⟩ := k_pk h
      rw [if_pos (k_wA hw (k_R138) hc5)]
      try rw [k_p9_14 hw]
      obtain ⟨hc6, h⟩ := k_pk h
      rw [if_pos (k_wA hw (k_R131) hc6)]
      obtain ⟨A7, eA8, h⟩ := k_pl h
      have hw9 := k_wE eA8 (k_wa hw k_R138 (by decide))
      refine k_ltg eA8 ?_
      try rw [k_p9_9 hw9]
      rw [if_pos (k_wA hw9 (k_R126) hc3)]
      obtain ⟨hc10, h⟩ := k_pk h
      rw [if_pos hc10]
      exact ih _ _ _ _ _ _ _ _ _ _ hw9 h
    · rw [if_neg c2] at h
      rw [if_neg c2]
      exact sgX9_lacks_h159 k60f k60g hk60 _ _ _ _ _ _ _ _ _ _ _ hw h
set_option maxRecDepth 100000 in
theorem sgX9_lacks_h69 {sc : k_SC} (k60f : k_H → Int → Int → Int → Int → Int → Int → Option (Int × k_H)) (k60g : k_H → Int → Int → Int → Int → Int → Option (Int × k_H)) (hk60 : ∀ (A : k_H) (v1 v2 v3 v4 v5 : Int) (r : Int) (A' : k_H), k_Wf sc A → k60g A v1 v2 v3 v4 v5 = some (r, A') → k60f A 120 v1 v2 v3 v4 v5 = some (r, A') ∧ k_Wf sc A') : ∀ (N : Nat) (A : k_H) (v1 v2 v3 v4 v5 v6 : Int) (r : Int) (A' : k_H), k_Wf sc A → gX9_lacks_h69 k60g N A v1 v2 v3 v4 v5 v6 = some (r, A') → fX9_lacks_h69 k60f N A 120 v1 v2 v3 v4 v5 v6 = some (r, A') ∧ k_Wf sc A' := by
  intro N
  induction N with
  | zero => intro A v1 v2 v3 v4 v5 v6 r A' hw  h; exact absurd h (by simp [gX9_lacks_h69])
  | succ N ih =>
    intro A v1 v2 v3 v4 v5 v6 r A' hw  h
    rw [gX9_lacks_h69] at h
    rw [fX9_lacks_h69]
    by_cases c1 : v6 < 4
    · rw [if_pos c1] at h
      rw [if_pos c1]
      rw [if_pos (k_wO hw k_K120)]
      try rw [k_p9_23 hw]
      obtain ⟨hc2, h⟩ := k_pk h
      rw [if_pos (k_wA hw (k_R138) hc2)]
      obtain ⟨A3, eA4, h⟩ := k_pl h
      have hw5 := k_wE eA4 (k_wa hw k_R138 (by decide))
      refine k_ltg eA4 ?_
      exact ih _ _ _ _ _ _ _ _ _ hw5 h
    · rw [if_neg c1] at h
      rw [if_neg c1]
      exact sgX9_lacks_h96 k60f k60g hk60 _ _ _ _ _ _ _ _ _ _ _ hw h
set_option maxRecDepth 100000 in
theorem sgX9_lacks_h60 {sc : k_SC} : ∀ (N : Nat) (A : k_H) (v1 v2 v3 v4 v5 : Int) (r : Int) (A' : k_H), k_Wf sc A → gX9_lacks_h60 N A v1 v2 v3 v4 v5 = some (r, A') → fX9_lacks_h60 N A 120 v1 v2 v3 v4 v5 = some (r, A') ∧ k_Wf sc A' := by
  intro N
  induction N with
  | zero => intro A v1 v2 v3 v4 v5 r A' hw  h; exact absurd h (by simp [gX9_lacks_h60])
  | succ N ih =>
    intro A v1 v2 v3 v4 v5 r A' hw  h
    rw [gX9_lacks_h60] at h
    rw [fX9_lacks_h60]
    by_cases c1 : v5 < v3
    · rw [if_pos c1] at h
      rw [if_pos c1]
      exact sgX9_lacks_h69 (fX9_lacks_h60 N) (gX9_lacks_h60 N) ih _ _ _ _ _ _ _ _ _ _ hw h
    · rw [if_neg c1] at h
      rw [if_neg c1]
      obtain ⟨rfl, rfl⟩ := k_pr h
      exact ⟨rfl, hw⟩
set_option maxRecDepth 100000 in
theorem sgX9_lacks_h28 {sc : k_SC} : ∀ (N : Nat) (A : k_H) (v1 v2 v3 v4 : Int) (r : Int) (A' : k_H), k_Wf sc A → gX9_lacks_h28 N A v1 v2 v3 v4 = some (r, A') → fX9_lacks_h28 N A 120 v1 v2 v3 v4 = some (r, A') ∧ k_Wf sc A' := by
  intro N
  induction N with
  | zero => intro A v1 v2 v3 v4 r A' hw  h; exact absurd h (by simp [gX9_lacks_h28])
  | succ N ih =>
    intro A v1 v2 v3 v4 r A' hw  h
    rw [gX9_lacks_h28] at h
    rw [fX9_lacks_h28]
    rw [if_pos (k_wO hw k_K120)]
    try rw [k_p9_13 hw]
    obtain ⟨hc1, h⟩ := k_pk h
    rw [if_pos (k_wA hw (k_R130) hc1)]
    by_cases c2 : v4 < (k_rd A 130 v1)
    · rw [if_pos c2] at h
      rw [if_pos c2]
      try rw [k_p9_9 hw]
      obtain ⟨hc3, h⟩ := k_pk h
      rw [if_pos (k_wA hw (k_R126) hc3)]
      exact ih _ _ _ _ _ _ _ hw h
    · rw [if_neg c2] at h
      rw [if_neg c2]
      exact sgX9_lacks_h60  _ _ _ _ _ _ _ _ _ hw h
set_option maxRecDepth 100000 in
theorem sgX9_lacks_b0 {sc : k_SC} (A : k_H) (v1 v2 : Int) (r : Int) (A' : k_H) (hw : k_Wf sc A) (h : gX9_lacks_b0 A v1 v2 = some (r, A')) : fX9_lacks_b0 A 120 v1 v2 = some (r, A') ∧ k_Wf sc A' := by
  unfold gX9_lacks_b0 at h
  unfold fX9_lacks_b0
  rw [if_pos (k_wO hw k_K120)]
  obtain ⟨A1, eA2, h⟩ := k_pl h
  have hw3 := k_wE eA2 (k_wo hw k_K120 0 (by decide))
  refine k_ltg eA2 ?_
  obtain ⟨r4, A5, hq6, h⟩ := k_pb h
  have hw7 := sgX9_isShow hw3  hq6
  rw [hw7.1]
  rw [k_bds]
  by_cases c8 : r4 = 0
  · rw [if_pos c8] at h
    rw [if_pos c8]
    obtain ⟨rfl, rfl⟩ := k_pr h
    exact ⟨rfl, hw7.2⟩
  · rw [if_neg c8] at h
    rw [if_neg c8]
    rw [if_pos (k_wO hw7.2 k_K120)]
    obtain ⟨r9, A10, hq11, h⟩ := k_pb h
    have hw12 := sgX9_isHall hw7.2  hq11
    rw [hw12.1]
    rw [k_bds]
    by_cases c13 : r9 = 0
    · rw [if_pos c13] at h
      rw [if_pos c13]
      obtain ⟨rfl, rfl⟩ := k_pr h
      exact ⟨rfl, hw12.2⟩
    · rw [if_neg c13] at h
      rw [if_neg c13]
      exact sgX9_lacks_h28  _ _ _ _ _ _ _ _ hw12.2 h
theorem sgX9_lacks {sc : k_SC} {A : k_H} {x1 x2 : Int} {r : Int} {A' : k_H} (hw : k_Wf sc A) (h : gX9_lacks A x1 x2 = some (r, A')) : fX9_lacks A 120 x1 x2 = some (r, A') ∧ k_Wf sc A' :=
  sgX9_lacks_b0 _ _ _ _ _ hw h
/-! X9_go -/
def gX9_go_b106 (A : k_H) (v1 v2 v4 v5 s0 : Int) : Option (Int × k_H) := if 0 ≤ v2 ∧ v2 < ((15 : Nat) : Int) then (if (k_and (k_shr (k_rd A 143 v2) v4) 1) = 1 then (some (0, A)) else (if 0 ≤ v2 ∧ v2 < ((15 : Nat) : Int) then (if 0 ≤ v1 ∧ v1 < ((6 : Nat) : Int) then (if (k_rd A 146 v2) = (k_rd A 135 v1) then (some (0, A)) else (if s0 = 0 then (k_bd (gX9_isFree A v1 v5 v2) fun r7 A8 => if r7 = 0 then (some (0, A8)) else (if 0 ≤ v2 ∧ v2 < ((15 : Nat) : Int) then (if 0 ≤ k_wr (k_wr (6 * v5) + v1) ∧ k_wr (k_wr (6 * v5) + v1) < ((72 : Nat) : Int) then (k_bd (gX9_stand A8 (k_wr (v2 + 1)) (k_or (k_rd A8 143 v2) (k_shl 1 v4)) v4 v2 (k_wr ((k_rd A8 146 v2) + 1)) (k_wr ((k_rd A8 147 v2) + (k_rd A8 136 (k_wr (k_wr (6 * v5) + v1)))))) fun r14 A15 => some (1, A15)) else none) else none)) else (some (0, A)))) else none) else none)) else none
def gX9_go_b105 (A : k_H) (v1 v2 v4 v5 : Int) : Option (Int × k_H) := gX9_go_b106 A v1 v2 v4 v5 0
def gX9_go_b0 (A : k_H) (v1 v2 v3 : Int) : Option (Int × k_H) := if 0 ≤ v2 ∧ v2 < ((15 : Nat) : Int) then (if (k_rd A 142 v2) = v3 then (if 0 ≤ v2 ∧ v2 < ((15 : Nat) : Int) then (if 0 ≤ v2 ∧ v2 < ((15 : Nat) : Int) then (if 0 ≤ v2 ∧ v2 < ((15 : Nat) : Int) then (if 0 ≤ v2 ∧ v2 < ((15 : Nat) : Int) then (k_bd (gX9_stand A (k_wr (v2 + 1)) (k_rd A 143 v2) (k_rd A 144 v2) (k_rd A 145 v2) 0 (k_rd A 147 v2)) fun r18 A19 => some (1, A19)) else none) else none) else none) else none) else (if 0 ≤ (k_rd A 142 v2) ∧ (k_rd A 142 v2) < ((6 : Nat) : Int) then (if 0 ≤ v2 ∧ v2 < ((15 : Nat) : Int) then (if 0 ≤ (k_rd A 144 v2) then (if 0 ≤ (k_rd A 144 v2) ∧ (k_rd A 144 v2) < ((6 : Nat) : Int) then (k_bd (gX9_milesOf A (k_rd A 141 (k_rd A 144 v2)) (k_rd A 141 (k_rd A 142 v2))) fun r7 A8 => if 0 ≤ v1 ∧ v1 < ((6 : Nat) : Int) then (if 0 ≤ v2 ∧ v2 < ((15 : Nat) : Int) then (if k_wr ((k_rd A8 134 v1) * k_wr (v2 - (k_rd A8 145 v2))) < r7 then (gX9_go_b106 A8 v1 v2 (k_rd A 142 v2) (k_rd A 141 (k_rd A 142 v2)) 1) else (gX9_go_b105 A8 v1 v2 (k_rd A 142 v2) (k_rd A 141 (k_rd A 142 v2)))) else none) else none) else none) else (gX9_go_b105 A v1 v2 (k_rd A 142 v2) (k_rd A 141 (k_rd A 142 v2)))) else none) else none)) else none
def gX9_go (A : k_H) (x1 x2 x3 : Int) : Option (Int × k_H) := gX9_go_b0 A x1 x2 x3
set_option maxRecDepth 100000 in
theorem sgX9_go_b106 {sc : k_SC} (A : k_H) (v1 v2 v4 v5 s0 : Int) (r : Int) (A' : k_H) (hw : k_Wf sc A) (h : gX9_go_b106 A v1 v2 v4 v5 s0 = some (r, A')) : fX9_go_b106 A 120 v1 v2 v4 v5 s0 = some (r, A') ∧ k_Wf sc A' := by
  unfold gX9_go_b106 at h
  unfold fX9_go_b106
  rw [if_pos (k_wO hw k_K120)]
  try rw [k_p9_28 hw]
  obtain ⟨hc1, h⟩ := k_pk h
  rw [if_pos (k_wA hw (k_R143) hc1)]
  by_cases c2 : (k_and (k_shr (k_rd A 143 v2) v4) 1) = 1
  · rw [if_pos c2] at h
    rw [if_pos c2]
    obtain ⟨rfl, rfl⟩ := k_pr h
    exact ⟨rfl, hw⟩
  · rw [if_neg c2] at h
    rw [if_neg c2]
    try rw [k_p9_31 hw]
    obtain ⟨hc3, h⟩ := k_pk h
    rw [if_pos (k_wA hw (k_R146) hc3)]
    try rw [k_p9_18 hw]
    obtain ⟨hc4, h⟩ := k_pk h
    rw [if_pos (k_wA hw (k_R135) hc4)]
    by_cases c5 : (k_rd A 146 v2) = (k_rd A 135 v1)
    · rw [if_pos c5] at h
      rw [if_pos c5]
      obtain ⟨rfl, rfl⟩ := k_pr h
      exact ⟨rfl, hw⟩
    · rw [if_neg c5] at h
      rw [if_neg c5]
      by_cases c6 : s0 = 0
      · rw [if_pos c6] at h
        rw [if_pos c6]
        obtain ⟨r7, A8, hq9, h⟩ := k_pb h
        have hw10 := sgX9_isFree hw  hq9
        rw [hw10.1]
        rw [k_bds]
        by_cases c11 : r7 = 0
        · rw [if_pos c11] at h
          rw [if_pos c11]
          obtain ⟨rfl, rfl⟩ := k_pr h
          exact ⟨rfl, hw10.2⟩
        · rw [if_neg c11] at h
          rw [if_neg c11]
          rw [if_pos (k_wO hw10.2 k_K120)]
          try rw [k_p9_28 hw10.2]
          rw [if_pos (k_wA hw10.2 (k_R143) hc1)]
          try rw [k_p9_31 hw10.2]
          rw [if_pos (k_wA hw10.2 (k_R146) hc3)]
          try rw [k_p9_32 hw10.2]
          obtain ⟨hc12, h⟩ := k_pk h
          rw [if_pos (k_wA hw10.2 (k_R147) hc12)]
          try rw [k_p9_19 hw10.2]
          obtain ⟨hc13, h⟩ := k_pk h
          rw [if_pos (k_wA hw10.2 (k_R136) hc13)]
          obtain ⟨r14, A15, hq16, h⟩ := k_pb h
          have hw17 := sgX9_stand hw10.2  hq16
          rw [hw17.1]
          rw [k_bds]
          obtain ⟨rfl, rfl⟩ := k_pr h
          exact ⟨rfl, hw17.2⟩
      · rw [if_neg c6] at h
        rw [if_neg c6]
        obtain ⟨rfl, rfl⟩ := k_pr h
        exact ⟨rfl, hw⟩
set_option maxRecDepth 100000 in
theorem sgX9_go_b105 {sc : k_SC} (A : k_H) (v1 v2 v4 v5 : Int) (r : Int) (A' : k_H) (hw : k_Wf sc A) (h : gX9_go_b105 A v1 v2 v4 v5 = some (r, A')) : fX9_go_b105 A 120 v1 v2 v4 v5 = some (r, A') ∧ k_Wf sc A' := by
  unfold gX9_go_b105 at h
  unfold fX9_go_b105
  exact sgX9_go_b106  _ _ _ _ _ _ _ _ hw h
set_option maxRecDepth 100000 in
theorem sgX9_go_b0 {sc : k_SC} (A : k_H) (v1 v2 v3 : Int) (r : Int) (A' : k_H) (hw : k_Wf sc A) (h : gX9_go_b0 A v1 v2 v3 = some (r, A')) : fX9_go_b0 A 120 v1 v2 v3 = some (r, A') ∧ k_Wf sc A' := by
  unfold gX9_go_b0 at h
  unfold fX9_go_b0
  rw [if_pos (k_wO hw k_K120)]
  try rw [k_p9_27 hw]
  obtain ⟨hc1, h⟩ := k_pk h
  rw [if_pos (k_wA hw (k_R142) hc1)]
  by_cases c2 : (k_rd A 142 v2) = v3
  · rw [if_pos c2] at h
    rw [if_pos c2]
    try rw [k_p9_28 hw]
    obtain ⟨hc14, h⟩ := k_pk h
    rw [if_pos (k_wA hw (k_R143) hc14)]
    try rw [k_p9_29 hw]
    obtain ⟨hc15, h⟩ := k_pk h
    rw [if_pos (k_wA hw (k_R144) hc15)]
    try rw [k_p9_30 hw]
    obtain ⟨hc16, h⟩ := k_pk h
    rw [if_pos (k_wA hw (k_R145) hc16)]
    try rw [k_p9_32 hw]
    obtain ⟨hc17, h⟩ := k_pk h
    rw [if_pos (k_wA hw (k_R147) hc17)]
    obtain ⟨r18, A19, hq20, h⟩ := k_pb h
    have hw21 := sgX9_stand hw  hq20
    rw [hw21.1]
    rw [k_bds]
    obtain ⟨rfl, rfl⟩ := k_pr h
    exact ⟨rfl, hw21.2⟩
  · rw [if_neg c2] at h
    rw [if_neg c2]
    try rw [k_p9_26 hw]
    obtain ⟨hc3, h⟩ := k_pk h
    rw [if_pos (k_wA hw (k_R141) hc3)]
    try rw [k_p9_29 hw]
    obtain ⟨hc4, h⟩ := k_pk h
    rw [if_pos (k_wA hw (k_R144) hc4)]
    by_cases c5 : 0 ≤ (k_rd A 144 v2)
    · rw [if_pos c5] at h
      rw [if_pos c5]
      try rw [k_p9_26 hw]
      try rw [k_p9_29 hw]
      obtain ⟨hc6, h⟩ := k_pk h
      rw [if_pos (k_wA hw (k_R141) hc6)]
      obtain ⟨r7, A8, hq9, h⟩ := k_pb h
      have hw10 := sgX9_milesOf hw  hq9
      rw [hw10.1]
      rw [k_bds]
      rw [if_pos (k_wO hw10.2 k_K120)]
      try rw [k_p9_17 hw10.2]
      obtain ⟨hc11, h⟩ := k_pk h
      rw [if_pos (k_wA hw10.2 (k_R134) hc11)]
      try rw [k_p9_30 hw10.2]
      obtain ⟨hc12, h⟩ := k_pk h
      rw [if_pos (k_wA hw10.2 (k_R145) hc12)]
      by_cases c13 : k_wr ((k_rd A8 134 v1) * k_wr (v2 - (k_rd A8 145 v2))) < r7
      · rw [if_pos c13] at h
        rw [if_pos c13]
        exact sgX9_go_b106  _ _ _ _ _ _ _ _ hw10.2 h
      · rw [if_neg c13] at h
        rw [if_neg c13]
        exact sgX9_go_b105  _ _ _ _ _ _ _ hw10.2 h
    · rw [if_neg c5] at h
      rw [if_neg c5]
      exact sgX9_go_b105  _ _ _ _ _ _ _ hw h
theorem sgX9_go {sc : k_SC} {A : k_H} {x1 x2 x3 : Int} {r : Int} {A' : k_H} (hw : k_Wf sc A) (h : gX9_go A x1 x2 x3 = some (r, A')) : fX9_go A 120 x1 x2 x3 = some (r, A') ∧ k_Wf sc A' :=
  sgX9_go_b0 _ _ _ _ _ _ hw h
/-! X9_on -/
def gX9_on_b0 (A : k_H) (v1 v2 : Int) : Option (Int × k_H) := k_lt (k_wt A 120 0 0) fun A1 => k_bd (gX9_isShow A1 v1) fun r4 A5 => if r4 = 0 then (some ((-1), A5)) else (k_bd (gX9_isIn A5 v2 0 13) fun r9 A10 => if r9 = 0 then (some ((-1), A10)) else (if 0 ≤ k_wr (k_wr (14 * v1) + v2) ∧ k_wr (k_wr (14 * v1) + v2) < ((84 : Nat) : Int) then (some ((k_rd A10 139 (k_wr (k_wr (14 * v1) + v2))), A10)) else none))
def gX9_on (A : k_H) (x1 x2 : Int) : Option (Int × k_H) := gX9_on_b0 A x1 x2
set_option maxRecDepth 100000 in
theorem sgX9_on_b0 {sc : k_SC} (A : k_H) (v1 v2 : Int) (r : Int) (A' : k_H) (hw : k_Wf sc A) (h : gX9_on_b0 A v1 v2 = some (r, A')) : fX9_on_b0 A 120 v1 v2 = some (r, A') ∧ k_Wf sc A' := by
  unfold gX9_on_b0 at h
  unfold fX9_on_b0
  rw [if_pos (k_wO hw k_K120)]
  obtain ⟨A1, eA2, h⟩ := k_pl h
  have hw3 := k_wE eA2 (k_wo hw k_K120 0 (by decide))
  refine k_ltg eA2 ?_
  obtain ⟨r4, A5, hq6, h⟩ := k_pb h
  have hw7 := sgX9_isShow hw3  hq6
  rw [hw7.1]
  rw [k_bds]
  by_cases c8 : r4 = 0
  · rw [if_pos c8] at h
    rw [if_pos c8]
    obtain ⟨rfl, rfl⟩ := k_pr h
    exact ⟨rfl, hw7.2⟩
  · rw [if_neg c8] at h
    rw [if_neg c8]
    obtain ⟨r9, A10, hq11, h⟩ := k_pb h
    have hw12 := sgX9_isIn hw7.2  hq11
    rw [hw12.1]
    rw [k_bds]
    by_cases c13 : r9 = 0
    · rw [if_pos c13] at h
      rw [if_pos c13]
      obtain ⟨rfl, rfl⟩ := k_pr h
      exact ⟨rfl, hw12.2⟩
    · rw [if_neg c13] at h
      rw [if_neg c13]
      rw [if_pos (k_wO hw12.2 k_K120)]
      try rw [k_p9_24 hw12.2]
      obtain ⟨hc14, h⟩ := k_pk h
      rw [if_pos (k_wA hw12.2 (k_R139) hc14)]
      obtain ⟨rfl, rfl⟩ := k_pr h
      exact ⟨rfl, hw12.2⟩
theorem sgX9_on {sc : k_SC} {A : k_H} {x1 x2 : Int} {r : Int} {A' : k_H} (hw : k_Wf sc A) (h : gX9_on A x1 x2 = some (r, A')) : fX9_on A 120 x1 x2 = some (r, A') ∧ k_Wf sc A' :=
  sgX9_on_b0 _ _ _ _ _ hw h
/-! X9_isLawful -/
def gX9_isLawful_b111 (k7g : k_H → Int → Int → Int → Int → Option (Int × k_H)) (A : k_H) (v1 v2 v3 v4 : Int) : Option (Int × k_H) := k7g A v1 v2 v3 (k_wr (v4 + 1))
def gX9_isLawful_b108 (k7g : k_H → Int → Int → Int → Int → Option (Int × k_H)) (A : k_H) (v1 v3 v4 : Int) : Option (Int × k_H) := gX9_isLawful_b111 k7g A v1 v4 v3 v4
def gX9_isLawful_b40 (k7g : k_H → Int → Int → Int → Int → Option (Int × k_H)) (A : k_H) (v1 v2 v4 v5 s0 : Int) : Option (Int × k_H) := if v5 < 0 then (gX9_isLawful_b111 k7g A v1 v2 s0 v4) else (if 0 ≤ v1 ∧ v1 < ((6 : Nat) : Int) then (if s0 ≤ (k_rd A 135 v1) then (k_bd (gX9_isFree A v1 v5 v4) fun r4 A5 => if r4 = 0 then (some (0, A5)) else (if 0 ≤ v2 then (if 0 ≤ k_wr (k_wr (14 * v1) + v2) ∧ k_wr (k_wr (14 * v1) + v2) < ((84 : Nat) : Int) then (k_bd (gX9_milesOf A5 (k_rd A5 139 (k_wr (k_wr (14 * v1) + v2))) v5) fun r11 A12 => if 0 ≤ v1 ∧ v1 < ((6 : Nat) : Int) then (if k_wr ((k_rd A12 134 v1) * k_wr (v4 - v2)) < r11 then (some (0, A12)) else (gX9_isLawful_b108 k7g A12 v1 s0 v4)) else none) else none) else (gX9_isLawful_b108 k7g A5 v1 s0 v4))) else (some (0, A))) else none)
def gX9_isLawful_h7 : Nat → k_H → Int → Int → Int → Int → Option (Int × k_H)
  | 0, _, _, _, _, _ => none
  | N + 1, A, v1, v2, v3, v4 => if v4 < 14 then (if 0 ≤ k_wr (k_wr (14 * v1) + v4) ∧ k_wr (k_wr (14 * v1) + v4) < ((84 : Nat) : Int) then (if (k_rd A 139 (k_wr (k_wr (14 * v1) + v4))) < 0 then (gX9_isLawful_b40 (gX9_isLawful_h7 N) A v1 v2 v4 (k_rd A 139 (k_wr (k_wr (14 * v1) + v4))) 0) else (gX9_isLawful_b40 (gX9_isLawful_h7 N) A v1 v2 v4 (k_rd A 139 (k_wr (k_wr (14 * v1) + v4))) (k_wr (v3 + 1)))) else none) else (some (1, A))
def gX9_isLawful_b0 (A : k_H) (v1 : Int) : Option (Int × k_H) := gX9_isLawful_h7 k_FU A v1 (-1) 0 0
def gX9_isLawful (A : k_H) (x1 : Int) : Option (Int × k_H) := gX9_isLawful_b0 A x1
set_option maxRecDepth 100000 in
theorem sgX9_isLawful_b111 {sc : k_SC} (k7f : k_H → Int → Int → Int → Int → Int → Option (Int × k_H)) (k7g : k_H → Int → Int → Int → Int → Option (Int × k_H)) (hk7 : ∀ (A : k_H) (v1 v2 v3 v4 : Int) (r : Int) (A' : k_H), k_Wf sc A → k7g A v1 v2 v3 v4 = some (r, A') → k7f A 120 v1 v2 v3 v4 = some (r, A') ∧ k_Wf sc A') (A : k_H) (v1 v2 v3 v4 : Int) (r : Int) (A' : k_H) (hw : k_Wf sc A) (h : gX9_isLawful_b111 k7g A v1 v2 v3 v4 = some (r, A')) : fX9_isLawful_b111 k7f A 120 v1 v2 v3 v4 = some (r, A') ∧ k_Wf sc A' := by
  unfold gX9_isLawful_b111 at h
  unfold fX9_isLawful_b111
  exact hk7 _ _ _ _ _ _ _ hw h
set_option maxRecDepth 100000 in
theorem sgX9_isLawful_b108 {sc : k_SC} (k7f : k_H → Int → Int → Int → Int → Int → Option (Int × k_H)) (k7g : k_H → Int → Int → Int → Int → Option (Int × k_H)) (hk7 : ∀ (A : k_H) (v1 v2 v3 v4 : Int) (r : Int) (A' : k_H), k_Wf sc A → k7g A v1 v2 v3 v4 = some (r, A') → k7f A 120 v1 v2 v3 v4 = some (r, A') ∧ k_Wf sc A') (A : k_H) (v1 v3 v4 : Int) (r : Int) (A' : k_H) (hw : k_Wf sc A) (h : gX9_isLawful_b108 k7g A v1 v3 v4 = some (r, A')) : fX9_isLawful_b108 k7f A 120 v1 v3 v4 = some (r, A') ∧ k_Wf sc A' := by
  unfold gX9_isLawful_b108 at h
  unfold fX9_isLawful_b108
  exact sgX9_isLawful_b111 k7f k7g hk7 _ _ _ _ _ _ _ hw h
set_option maxRecDepth 100000 in
theorem sgX9_isLawful_b40 {sc : k_SC} (k7f : k_H → Int → Int → Int → Int → Int → Option (Int × k_H)) (k7g : k_H → Int → Int → Int → Int → Option (Int × k_H)) (hk7 : ∀ (A : k_H) (v1 v2 v3 v4 : Int) (r : Int) (A' : k_H), k_Wf sc A → k7g A v1 v2 v3 v4 = some (r, A') → k7f A 120 v1 v2 v3 v4 = some (r, A') ∧ k_Wf sc A') (A : k_H) (v1 v2 v4 v5 s0 : Int) (r : Int) (A' : k_H) (hw : k_Wf sc A) (h : gX9_isLawful_b40 k7g A v1 v2 v4 v5 s0 = some (r, A')) : fX9_isLawful_b40 k7f A 120 v1 v2 v4 v5 s0 = some (r, A') ∧ k_Wf sc A' := by
  unfold gX9_isLawful_b40 at h
  unfold fX9_isLawful_b40
  by_cases c1 : v5 < 0
  · rw [if_pos c1] at h
    rw [if_pos c1]
    exact sgX9_isLawful_b111 k7f k7g hk7 _ _ _ _ _ _ _ hw h
  · rw [if_neg c1] at h
    rw [if_neg c1]
    rw [if_pos (k_wO hw k_K120)]
    try rw [k_p9_18 hw]
    obtain ⟨hc2, h⟩ := k_pk h
    rw [if_pos (k_wA hw (k_R135) hc2)]
    by_cases c3 : s0 ≤ (k_rd A 135 v1)
    · rw [if_pos c3] at h
      rw [if_pos c3]
      obtain ⟨r4, A5, hq6, h⟩ := k_pb h
      have hw7 := sgX9_isFree hw  hq6
      rw [hw7.1]
      rw [k_bds]
      by_cases c8 : r4 = 0
      · rw [if_pos c8] at h
        rw [if_pos c8]
        obtain ⟨rfl, rfl⟩ := k_pr h
        exact ⟨rfl, hw7.2⟩
      · rw [if_neg c8] at h
        rw [if_neg c8]
        by_cases c9 : 0 ≤ v2
        · rw [if_pos c9] at h
          rw [if_pos c9]
          rw [if_pos (k_wO hw7.2 k_K120)]
          try rw [k_p9_24 hw7.2]
          obtain ⟨hc10, h⟩ := k_pk h
          rw [if_pos (k_wA hw7.2 (k_R139) hc10)]
          obtain ⟨r11, A12, hq13, h⟩ := k_pb h
          have hw14 := sgX9_milesOf hw7.2  hq13
          rw [hw14.1]
          rw [k_bds]
          rw [if_pos (k_wO hw14.2 k_K120)]
          try rw [k_p9_17 hw14.2]
          obtain ⟨hc15, h⟩ := k_pk h
          rw [if_pos (k_wA hw14.2 (k_R134) hc15)]
          by_cases c16 : k_wr ((k_rd A12 134 v1) * k_wr (v4 - v2)) < r11
          · rw [if_pos c16] at h
            rw [if_pos c16]
            obtain ⟨rfl, rfl⟩ := k_pr h
            exact ⟨rfl, hw14.2⟩
          · rw [if_neg c16] at h
            rw [if_neg c16]
            exact sgX9_isLawful_b108 k7f k7g hk7 _ _ _ _ _ _ hw14.2 h
        · rw [if_neg c9] at h
          rw [if_neg c9]
          exact sgX9_isLawful_b108 k7f k7g hk7 _ _ _ _ _ _ hw7.2 h
    · rw [if_neg c3] at h
      rw [if_neg c3]
      obtain ⟨rfl, rfl⟩ := k_pr h
      exact ⟨rfl, hw⟩
set_option maxRecDepth 100000 in
theorem sgX9_isLawful_h7 {sc : k_SC} : ∀ (N : Nat) (A : k_H) (v1 v2 v3 v4 : Int) (r : Int) (A' : k_H), k_Wf sc A → gX9_isLawful_h7 N A v1 v2 v3 v4 = some (r, A') → fX9_isLawful_h7 N A 120 v1 v2 v3 v4 = some (r, A') ∧ k_Wf sc A' := by
  intro N
  induction N with
  | zero => intro A v1 v2 v3 v4 r A' hw  h; exact absurd h (by simp [gX9_isLawful_h7])
  | succ N ih =>
    intro A v1 v2 v3 v4 r A' hw  h
    rw [gX9_isLawful_h7] at h
    rw [fX9_isLawful_h7]
    by_cases c1 : v4 < 14
    · rw [if_pos c1] at h
      rw [if_pos c1]
      rw [if_pos (k_wO hw k_K120)]
      try rw [k_p9_24 hw]
      obtain ⟨hc2, h⟩ := k_pk h
      rw [if_pos (k_wA hw (k_R139) hc2)]
      by_cases c3 : (k_rd A 139 (k_wr (k_wr (14 * v1) + v4))) < 0
      · rw [if_pos c3] at h
        rw [if_pos c3]
        exact sgX9_isLawful_b40 (fX9_isLawful_h7 N) (gX9_isLawful_h7 N) ih _ _ _ _ _ _ _ _ hw h
      · rw [if_neg c3] at h
        rw [if_neg c3]
        exact sgX9_isLawful_b40 (fX9_isLawful_h7 N) (gX9_isLawful_h7 N) ih _ _ _ _ _ _ _ _ hw h
    · rw [if_neg c1] at h
      rw [if_neg c1]
      obtain ⟨rfl, rfl⟩ := k_pr h
      exact ⟨rfl, hw⟩
set_option maxRecDepth 100000 in
theorem sgX9_isLawful_b0 {sc : k_SC} (A : k_H) (v1 : Int) (r : Int) (A' : k_H) (hw : k_Wf sc A) (h : gX9_isLawful_b0 A v1 = some (r, A')) : fX9_isLawful_b0 A 120 v1 = some (r, A') ∧ k_Wf sc A' := by
  unfold gX9_isLawful_b0 at h
  unfold fX9_isLawful_b0
  exact sgX9_isLawful_h7  _ _ _ _ _ _ _ _ hw h
theorem sgX9_isLawful {sc : k_SC} {A : k_H} {x1 : Int} {r : Int} {A' : k_H} (hw : k_Wf sc A) (h : gX9_isLawful A x1 = some (r, A')) : fX9_isLawful A 120 x1 = some (r, A') ∧ k_Wf sc A' :=
  sgX9_isLawful_b0 _ _ _ _ hw h
/-! X9_worth -/
def gX9_worth_b65 (k19g : k_H → Int → Int → Int → Option (Int × k_H)) (A : k_H) (v1 v3 s0 s1 : Int) : Option (Int × k_H) := k19g A v1 (k_wr (s0 + s1)) (k_wr (v3 + 1))
def gX9_worth_h19 : Nat → k_H → Int → Int → Int → Option (Int × k_H)
  | 0, _, _, _, _ => none
  | N + 1, A, v1, v2, v3 => if v3 < 14 then (if 0 ≤ k_wr (k_wr (14 * v1) + v3) ∧ k_wr (k_wr (14 * v1) + v3) < ((84 : Nat) : Int) then (if (k_rd A 139 (k_wr (k_wr (14 * v1) + v3))) < 0 then (gX9_worth_b65 (gX9_worth_h19 N) A v1 v3 v2 0) else (if 0 ≤ k_wr (k_wr (6 * (k_rd A 139 (k_wr (k_wr (14 * v1) + v3)))) + v1) ∧ k_wr (k_wr (6 * (k_rd A 139 (k_wr (k_wr (14 * v1) + v3)))) + v1) < ((72 : Nat) : Int) then (gX9_worth_b65 (gX9_worth_h19 N) A v1 v3 v2 (k_rd A 136 (k_wr (k_wr (6 * (k_rd A 139 (k_wr (k_wr (14 * v1) + v3)))) + v1)))) else none)) else none) else (some (v2, A))
def gX9_worth_b0 (A : k_H) (v1 : Int) : Option (Int × k_H) := k_lt (k_wt A 120 0 0) fun A1 => k_bd (gX9_isShow A1 v1) fun r4 A5 => if r4 = 0 then (some ((-1), A5)) else (gX9_worth_h19 k_FU A5 v1 0 0)
def gX9_worth (A : k_H) (x1 : Int) : Option (Int × k_H) := gX9_worth_b0 A x1
set_option maxRecDepth 100000 in
theorem sgX9_worth_b65 {sc : k_SC} (k19f : k_H → Int → Int → Int → Int → Option (Int × k_H)) (k19g : k_H → Int → Int → Int → Option (Int × k_H)) (hk19 : ∀ (A : k_H) (v1 v2 v3 : Int) (r : Int) (A' : k_H), k_Wf sc A → k19g A v1 v2 v3 = some (r, A') → k19f A 120 v1 v2 v3 = some (r, A') ∧ k_Wf sc A') (A : k_H) (v1 v3 s0 s1 : Int) (r : Int) (A' : k_H) (hw : k_Wf sc A) (h : gX9_worth_b65 k19g A v1 v3 s0 s1 = some (r, A')) : fX9_worth_b65 k19f A 120 v1 v3 s0 s1 = some (r, A') ∧ k_Wf sc A' := by
  unfold gX9_worth_b65 at h
  unfold fX9_worth_b65
  exact hk19 _ _ _ _ _ _ hw h
set_option maxRecDepth 100000 in
theorem sgX9_worth_h19 {sc : k_SC} : ∀ (N : Nat) (A : k_H) (v1 v2 v3 : Int) (r : Int) (A' : k_H), k_Wf sc A → gX9_worth_h19 N A v1 v2 v3 = some (r, A') → fX9_worth_h19 N A 120 v1 v2 v3 = some (r, A') ∧ k_Wf sc A' := by
  intro N
  induction N with
  | zero => intro A v1 v2 v3 r A' hw  h; exact absurd h (by simp [gX9_worth_h19])
  | succ N ih =>
    intro A v1 v2 v3 r A' hw  h
    rw [gX9_worth_h19] at h
    rw [fX9_worth_h19]
    by_cases c1 : v3 < 14
    · rw [if_pos c1] at h
      rw [if_pos c1]
      rw [if_pos (k_wO hw k_K120)]
      try rw [k_p9_24 hw]
      obtain ⟨hc2, h⟩ := k_pk h
      rw [if_pos (k_wA hw (k_R139) hc2)]
      by_cases c3 : (k_rd A 139 (k_wr (k_wr (14 * v1) + v3))) < 0
      · rw [if_pos c3] at h
        rw [if_pos c3]
        exact sgX9_worth_b65 (fX9_worth_h19 N) (gX9_worth_h19 N) ih _ _ _ _ _ _ _ hw h
      · rw [if_neg c3] at h
        rw [if_neg c3]
        try rw [k_p9_19 hw]
        try rw [k_p9_24 hw]
        obtain ⟨hc4, h⟩ := k_pk h
        rw [if_pos (k_wA hw (k_R136) hc4)]
        exact sgX9_worth_b65 (fX9_worth_h19 N) (gX9_worth_h19 N) ih _ _ _ _ _ _ _ hw h
    · rw [if_neg c1] at h
      rw [if_neg c1]
      obtain ⟨rfl, rfl⟩ := k_pr h
      exact ⟨rfl, hw⟩
set_option maxRecDepth 100000 in
theorem sgX9_worth_b0 {sc : k_SC} (A : k_H) (v1 : Int) (r : Int) (A' : k_H) (hw : k_Wf sc A) (h : gX9_worth_b0 A v1 = some (r, A')) : fX9_worth_b0 A 120 v1 = some (r, A') ∧ k_Wf sc A' := by
  unfold gX9_worth_b0 at h
  unfold fX9_worth_b0
  rw [if_pos (k_wO hw k_K120)]
  obtain ⟨A1, eA2, h⟩ := k_pl h
  have hw3 := k_wE eA2 (k_wo hw k_K120 0 (by decide))
  refine k_ltg eA2 ?_
  obtain ⟨r4, A5, hq6, h⟩ := k_pb h
  have hw7 := sgX9_isShow hw3  hq6
  rw [hw7.1]
  rw [k_bds]
  by_cases c8 : r4 = 0
  · rw [if_pos c8] at h
    rw [if_pos c8]
    obtain ⟨rfl, rfl⟩ := k_pr h
    exact ⟨rfl, hw7.2⟩
  · rw [if_neg c8] at h
    rw [if_neg c8]
    exact sgX9_worth_h19  _ _ _ _ _ _ _ hw7.2 h
theorem sgX9_worth {sc : k_SC} {A : k_H} {x1 : Int} {r : Int} {A' : k_H} (hw : k_Wf sc A) (h : gX9_worth A x1 = some (r, A')) : fX9_worth A 120 x1 = some (r, A') ∧ k_Wf sc A' :=
  sgX9_worth_b0 _ _ _ _ hw h
/-! X9_next -/
def gX9_next_b260 (A : k_H) (s1 : Int) : Option (Int × k_H) := k_lt (k_wt A 120 36 s1) fun A1 => some (0, A1)
def gX9_next_b204 (k114g : k_H → Int → Int → Int → Option (Int × k_H)) (A : k_H) (v2 v3 v4 : Int) : Option (Int × k_H) := k_lt (k_wt A 120 4 (k_wr ((k_rd A 120 4) + 1))) fun A1 => k114g A1 v2 v3 (k_wr (v4 + 1))
def gX9_next_b80 (A : k_H) (s1 : Int) : Option (Int × k_H) := k_lt (k_wt A 120 36 s1) fun A1 => k_lt (k_wt A1 120 4 (k_wr ((k_rd A1 120 4) + 1))) fun A4 => some (0, A4)
def gX9_next_b18 (k0g : k_H → Option (Int × k_H)) (A : k_H) : Option (Int × k_H) := k_lt (k_wt A 120 4 (k_wr ((k_rd A 120 4) + 1))) fun A1 => k0g A1
def gX9_next_b251 (A : k_H) (v2 : Int) : Option (Int × k_H) := if v2 = 0 then (gX9_next_b260 A 2) else (gX9_next_b260 A 1)
def gX9_next_b247 (A : k_H) : Option (Int × k_H) := gX9_next_b260 A 4
def gX9_next_b179 (k114g : k_H → Int → Int → Int → Option (Int × k_H)) (A : k_H) (v2 v3 v4 : Int) : Option (Int × k_H) := if v4 < 5 then (k_bd (gX9_peek A) fun r2 A3 => k_lt (k_wt A3 120 38 (k_wr (k_wr (k_wr (10 * (k_rd A 120 38)) + r2) - 48))) fun A6 => gX9_next_b204 k114g A6 v2 v3 v4) else (gX9_next_b204 k114g A v2 v3 v4)
def gX9_next_b232 (A : k_H) (v2 v3 v4 : Int) : Option (Int × k_H) := if v3 = 0 then (gX9_next_b247 A) else (if v2 = 0 then (if 5 < v4 then (gX9_next_b247 A) else (gX9_next_b251 A v2)) else (gX9_next_b251 A v2))
def gX9_next_b154 (k114g : k_H → Int → Int → Int → Option (Int × k_H)) (A : k_H) (v2 v4 s0 : Int) : Option (Int × k_H) := if v4 < 8 then (k_bd (gX9_peek A) fun r2 A3 => k_lt (k_wt A3 120 42 (k_lorr (k_lshl (k_rd A 120 42) 8) r2)) fun A6 => gX9_next_b179 k114g A6 v2 s0 v4) else (gX9_next_b179 k114g A v2 s0 v4)
def gX9_next_b153 (k114g : k_H → Int → Int → Int → Option (Int × k_H)) (A : k_H) (v2 v4 : Int) : Option (Int × k_H) := gX9_next_b154 k114g A v2 v4 0
def gX9_next_b134 (k114g : k_H → Int → Int → Int → Option (Int × k_H)) (A : k_H) (v2 v3 v4 : Int) : Option (Int × k_H) := if v3 = 0 then (gX9_next_b153 k114g A v2 v4) else (k_bd (gX9_peek A) fun r2 A3 => k_bd (gX9_isSmall A3 r2) fun r6 A7 => if r6 = v2 then (gX9_next_b154 k114g A7 v2 v4 1) else (gX9_next_b153 k114g A7 v2 v4))
def gX9_next_h114 : Nat → k_H → Int → Int → Int → Option (Int × k_H)
  | 0, _, _, _, _ => none
  | N + 1, A, v2, v3, v4 => k_bd (gX9_peek A) fun r1 A2 => k_bd (gX9_isSmall A2 r1) fun r5 A6 => if r5 = 0 then (k_bd (gX9_peek A6) fun r10 A11 => k_bd (gX9_isDigit A11 r10) fun r14 A15 => if r14 = 0 then (if 8 < v4 then (k_lt (k_wt A15 120 42 0) fun A20 => gX9_next_b232 A20 v2 v3 v4) else (gX9_next_b232 A15 v2 v3 v4)) else (gX9_next_b134 (gX9_next_h114 N) A15 v2 v3 v4)) else (gX9_next_b134 (gX9_next_h114 N) A6 v2 v3 v4)
def gX9_next_b94 (A : k_H) (v1 : Int) : Option (Int × k_H) := k_bd (gX9_isSmall A v1) fun r1 A2 => k_lt (k_wt A2 120 42 0) fun A5 => k_lt (k_wt A5 120 38 0) fun A8 => gX9_next_h114 k_FU A8 r1 1 0
def gX9_next_h0 : Nat → k_H → Option (Int × k_H)
  | 0, _ => none
  | N + 1, A => k_bd (gX9_peek A) fun r1 A2 => if r1 = 32 then (gX9_next_b18 (gX9_next_h0 N) A2) else (k_bd (gX9_peek A2) fun r6 A7 => if r6 = 10 then (gX9_next_b18 (gX9_next_h0 N) A7) else (k_lt (k_wt A7 120 37 (k_rd A7 120 4)) fun A11 => k_bd (gX9_peek A11) fun r14 A15 => if r14 < 0 then (k_lt (k_wt A15 120 36 0) fun A30 => some (0, A30)) else (k_bd (gX9_isSmall A15 r14) fun r19 A20 => if r19 = 0 then (k_bd (gX9_isDigit A20 r14) fun r24 A25 => if r24 = 0 then (if r14 = 59 then (gX9_next_b80 A25 3) else (gX9_next_b80 A25 4)) else (gX9_next_b94 A25 r14)) else (gX9_next_b94 A20 r14))))
def gX9_next (A : k_H) : Option (Int × k_H) := gX9_next_h0 k_FU A
set_option maxRecDepth 100000 in
theorem sgX9_next_b260 {sc : k_SC} (A : k_H) (s1 : Int) (r : Int) (A' : k_H) (hw : k_Wf sc A) (h : gX9_next_b260 A s1 = some (r, A')) : fX9_next_b260 A 120 s1 = some (r, A') ∧ k_Wf sc A' := by
  unfold gX9_next_b260 at h
  unfold fX9_next_b260
  rw [if_pos (k_wO hw k_K120)]
  obtain ⟨A1, eA2, h⟩ := k_pl h
  have hw3 := k_wE eA2 (k_wo hw k_K120 36 (by decide))
  refine k_ltg eA2 ?_
  obtain ⟨rfl, rfl⟩ := k_pr h
  exact ⟨rfl, hw3⟩
set_option maxRecDepth 100000 in
theorem sgX9_next_b204 {sc : k_SC} (k114f : k_H → Int → Int → Int → Int → Option (Int × k_H)) (k114g : k_H → Int → Int → Int → Option (Int × k_H)) (hk114 : ∀ (A : k_H) (v2 v3 v4 : Int) (r : Int) (A' : k_H), k_Wf sc A → k114g A v2 v3 v4 = some (r, A') → k114f A 120 v2 v3 v4 = some (r, A') ∧ k_Wf sc A') (A : k_H) (v2 v3 v4 : Int) (r : Int) (A' : k_H) (hw : k_Wf sc A) (h : gX9_next_b204 k114g A v2 v3 v4 = some (r, A')) : fX9_next_b204 k114f A 120 v2 v3 v4 = some (r, A') ∧ k_Wf sc A' := by
  unfold gX9_next_b204 at h
  unfold fX9_next_b204
  rw [if_pos (k_wO hw k_K120)]
  obtain ⟨A1, eA2, h⟩ := k_pl h
  have hw3 := k_wE eA2 (k_wo hw k_K120 4 (by decide))
  refine k_ltg eA2 ?_
  exact hk114 _ _ _ _ _ _ hw3 h
set_option maxRecDepth 100000 in
theorem sgX9_next_b80 {sc : k_SC} (A : k_H) (s1 : Int) (r : Int) (A' : k_H) (hw : k_Wf sc A) (h : gX9_next_b80 A s1 = some (r, A')) : fX9_next_b80 A 120 120 s1 = some (r, A') ∧ k_Wf sc A' := by
  unfold gX9_next_b80 at h
  unfold fX9_next_b80
  rw [if_pos (k_wO hw k_K120)]
  obtain ⟨A1, eA2, h⟩ := k_pl h
  have hw3 := k_wE eA2 (k_wo hw k_K120 36 (by decide))
  refine k_ltg eA2 ?_
  rw [if_pos (k_wO hw3 k_K120)]
  obtain ⟨A4, eA5, h⟩ := k_pl h
  have hw6 := k_wE eA5 (k_wo hw3 k_K120 4 (by decide))
  refine k_ltg eA5 ?_
  obtain ⟨rfl, rfl⟩ := k_pr h
  exact ⟨rfl, hw6⟩
set_option maxRecDepth 100000 in
theorem sgX9_next_b18 {sc : k_SC} (k0f : k_H → Int → Option (Int × k_H)) (k0g : k_H → Option (Int × k_H)) (hk0 : ∀ (A : k_H) (r : Int) (A' : k_H), k_Wf sc A → k0g A  = some (r, A') → k0f A 120 = some (r, A') ∧ k_Wf sc A') (A : k_H) (r : Int) (A' : k_H) (hw : k_Wf sc A) (h : gX9_next_b18 k0g A = some (r, A')) : fX9_next_b18 k0f A 120 = some (r, A') ∧ k_Wf sc A' := by
  unfold gX9_next_b18 at h
  unfold fX9_next_b18
  rw [if_pos (k_wO hw k_K120)]
  obtain ⟨A1, eA2, h⟩ := k_pl h
  have hw3 := k_wE eA2 (k_wo hw k_K120 4 (by decide))
  refine k_ltg eA2 ?_
  exact hk0 _ _ _ hw3 h
set_option maxRecDepth 100000 in
theorem sgX9_next_b251 {sc : k_SC} (A : k_H) (v2 : Int) (r : Int) (A' : k_H) (hw : k_Wf sc A) (h : gX9_next_b251 A v2 = some (r, A')) : fX9_next_b251 A v2 120 = some (r, A') ∧ k_Wf sc A' := by
  unfold gX9_next_b251 at h
  unfold fX9_next_b251
  by_cases c1 : v2 = 0
  · rw [if_pos c1] at h
    rw [if_pos c1]
    exact sgX9_next_b260  _ _ _ _ hw h
  · rw [if_neg c1] at h
    rw [if_neg c1]
    exact sgX9_next_b260  _ _ _ _ hw h
set_option maxRecDepth 100000 in
theorem sgX9_next_b247 {sc : k_SC} (A : k_H) (r : Int) (A' : k_H) (hw : k_Wf sc A) (h : gX9_next_b247 A = some (r, A')) : fX9_next_b247 A 120 = some (r, A') ∧ k_Wf sc A' := by
  unfold gX9_next_b247 at h
  unfold fX9_next_b247
  exact sgX9_next_b260  _ _ _ _ hw h
set_option maxRecDepth 100000 in
theorem sgX9_next_b179 {sc : k_SC} (k114f : k_H → Int → Int → Int → Int → Option (Int × k_H)) (k114g : k_H → Int → Int → Int → Option (Int × k_H)) (hk114 : ∀ (A : k_H) (v2 v3 v4 : Int) (r : Int) (A' : k_H), k_Wf sc A → k114g A v2 v3 v4 = some (r, A') → k114f A 120 v2 v3 v4 = some (r, A') ∧ k_Wf sc A') (A : k_H) (v2 v3 v4 : Int) (r : Int) (A' : k_H) (hw : k_Wf sc A) (h : gX9_next_b179 k114g A v2 v3 v4 = some (r, A')) : fX9_next_b179 k114f A 120 v2 v3 v4 = some (r, A') ∧ k_Wf sc A' := by
  unfold gX9_next_b179 at h
  unfold fX9_next_b179
  by_cases c1 : v4 < 5
  · rw [if_pos c1] at h
    rw [if_pos c1]
    rw [if_pos (k_wO hw k_K120)]
    obtain ⟨r2, A3, hq4, h⟩ := k_pb h
    have hw5 := sgX9_peek hw  hq4
    rw [hw5.1]
    rw [k_bds]
    rw [if_pos (k_wO hw5.2 k_K120)]
    obtain ⟨A6, eA7, h⟩ := k_pl h
    have hw8 := k_wE eA7 (k_wo hw5.2 k_K120 38 (by decide))
    refine k_ltg eA7 ?_
    exact sgX9_next_b204 k114f k114g hk114 _ _ _ _ _ _ hw8 h
  · rw [if_neg c1] at h
    rw [if_neg c1]
    exact sgX9_next_b204 k114f k114g hk114 _ _ _ _ _ _ hw h
set_option maxRecDepth 100000 in
theorem sgX9_next_b232 {sc : k_SC} (A : k_H) (v2 v3 v4 : Int) (r : Int) (A' : k_H) (hw : k_Wf sc A) (h : gX9_next_b232 A v2 v3 v4 = some (r, A')) : fX9_next_b232 A 120 v2 v3 v4 = some (r, A') ∧ k_Wf sc A' := by
  unfold gX9_next_b232 at h
  unfold fX9_next_b232
  by_cases c1 : v3 = 0
  · rw [if_pos c1] at h
    rw [if_pos c1]
    exact sgX9_next_b247  _ _ _ hw h
  · rw [if_neg c1] at h
    rw [if_neg c1]
    by_cases c2 : v2 = 0
    · rw [if_pos c2] at h
      rw [if_pos c2]
      by_cases c3 : 5 < v4
      · rw [if_pos c3] at h
        rw [if_pos c3]
        exact sgX9_next_b247  _ _ _ hw h
      · rw [if_neg c3] at h
        rw [if_neg c3]
        exact sgX9_next_b251  _ _ _ _ hw h
    · rw [if_neg c2] at h
      rw [if_neg c2]
      exact sgX9_next_b251  _ _ _ _ hw h
set_option maxRecDepth 100000 in
theorem sgX9_next_b154 {sc : k_SC} (k114f : k_H → Int → Int → Int → Int → Option (Int × k_H)) (k114g : k_H → Int → Int → Int → Option (Int × k_H)) (hk114 : ∀ (A : k_H) (v2 v3 v4 : Int) (r : Int) (A' : k_H), k_Wf sc A → k114g A v2 v3 v4 = some (r, A') → k114f A 120 v2 v3 v4 = some (r, A') ∧ k_Wf sc A') (A : k_H) (v2 v4 s0 : Int) (r : Int) (A' : k_H) (hw : k_Wf sc A) (h : gX9_next_b154 k114g A v2 v4 s0 = some (r, A')) : fX9_next_b154 k114f A 120 v2 v4 s0 = some (r, A') ∧ k_Wf sc A' := by
  unfold gX9_next_b154 at h
  unfold fX9_next_b154
  by_cases c1 : v4 < 8
  · rw [if_pos c1] at h
    rw [if_pos c1]
    rw [if_pos (k_wO hw k_K120)]
    obtain ⟨r2, A3, hq4, h⟩ := k_pb h
    have hw5 := sgX9_peek hw  hq4
    rw [hw5.1]
    rw [k_bds]
    rw [if_pos (k_wO hw5.2 k_K120)]
    obtain ⟨A6, eA7, h⟩ := k_pl h
    have hw8 := k_wE eA7 (k_wo hw5.2 k_K120 42 (by decide))
    refine k_ltg eA7 ?_
    exact sgX9_next_b179 k114f k114g hk114 _ _ _ _ _ _ hw8 h
  · rw [if_neg c1] at h
    rw [if_neg c1]
    exact sgX9_next_b179 k114f k114g hk114 _ _ _ _ _ _ hw h
set_option maxRecDepth 100000 in
theorem sgX9_next_b153 {sc : k_SC} (k114f : k_H → Int → Int → Int → Int → Option (Int × k_H)) (k114g : k_H → Int → Int → Int → Option (Int × k_H)) (hk114 : ∀ (A : k_H) (v2 v3 v4 : Int) (r : Int) (A' : k_H), k_Wf sc A → k114g A v2 v3 v4 = some (r, A') → k114f A 120 v2 v3 v4 = some (r, A') ∧ k_Wf sc A') (A : k_H) (v2 v4 : Int) (r : Int) (A' : k_H) (hw : k_Wf sc A) (h : gX9_next_b153 k114g A v2 v4 = some (r, A')) : fX9_next_b153 k114f A 120 v2 v4 = some (r, A') ∧ k_Wf sc A' := by
  unfold gX9_next_b153 at h
  unfold fX9_next_b153
  exact sgX9_next_b154 k114f k114g hk114 _ _ _ _ _ _ hw h
set_option maxRecDepth 100000 in
theorem sgX9_next_b134 {sc : k_SC} (k114f : k_H → Int → Int → Int → Int → Option (Int × k_H)) (k114g : k_H → Int → Int → Int → Option (Int × k_H)) (hk114 : ∀ (A : k_H) (v2 v3 v4 : Int) (r : Int) (A' : k_H), k_Wf sc A → k114g A v2 v3 v4 = some (r, A') → k114f A 120 v2 v3 v4 = some (r, A') ∧ k_Wf sc A') (A : k_H) (v2 v3 v4 : Int) (r : Int) (A' : k_H) (hw : k_Wf sc A) (h : gX9_next_b134 k114g A v2 v3 v4 = some (r, A')) : fX9_next_b134 k114f A 120 v2 v3 v4 = some (r, A') ∧ k_Wf sc A' := by
  unfold gX9_next_b134 at h
  unfold fX9_next_b134
  by_cases c1 : v3 = 0
  · rw [if_pos c1] at h
    rw [if_pos c1]
    exact sgX9_next_b153 k114f k114g hk114 _ _ _ _ _ hw h
  · rw [if_neg c1] at h
    rw [if_neg c1]
    rw [if_pos (k_wO hw k_K120)]
    obtain ⟨r2, A3, hq4, h⟩ := k_pb h
    have hw5 := sgX9_peek hw  hq4
    rw [hw5.1]
    rw [k_bds]
    obtain ⟨r6, A7, hq8, h⟩ := k_pb h
    have hw9 := sgX9_isSmall hw5.2  hq8
    rw [hw9.1]
    rw [k_bds]
    by_cases c10 : r6 = v2
    · rw [if_pos c10] at h
      rw [if_pos c10]
      exact sgX9_next_b154 k114f k114g hk114 _ _ _ _ _ _ hw9.2 h
    · rw [if_neg c10] at h
      rw [if_neg c10]
      exact sgX9_next_b153 k114f k114g hk114 _ _ _ _ _ hw9.2 h
set_option maxRecDepth 100000 in
theorem sgX9_next_h114 {sc : k_SC} : ∀ (N : Nat) (A : k_H) (v2 v3 v4 : Int) (r : Int) (A' : k_H), k_Wf sc A → gX9_next_h114 N A v2 v3 v4 = some (r, A') → fX9_next_h114 N A 120 v2 v3 v4 = some (r, A') ∧ k_Wf sc A' := by
  intro N
  induction N with
  | zero => intro A v2 v3 v4 r A' hw  h; exact absurd h (by simp [gX9_next_h114])
  | succ N ih =>
    intro A v2 v3 v4 r A' hw  h
    rw [gX9_next_h114] at h
    rw [fX9_next_h114]
    rw [if_pos (k_wO hw k_K120)]
    obtain ⟨r1, A2, hq3, h⟩ := k_pb h
    have hw4 := sgX9_peek hw  hq3
    rw [hw4.1]
    rw [k_bds]
    obtain ⟨r5, A6, hq7, h⟩ := k_pb h
    have hw8 := sgX9_isSmall hw4.2  hq7
    rw [hw8.1]
    rw [k_bds]
    by_cases c9 : r5 = 0
    · rw [if_pos c9] at h
      rw [if_pos c9]
      rw [if_pos (k_wO hw8.2 k_K120)]
      obtain ⟨r10, A11, hq12, h⟩ := k_pb h
      have hw13 := sgX9_peek hw8.2  hq12
      rw [hw13.1]
      rw [k_bds]
      obtain ⟨r14, A15, hq16, h⟩ := k_pb h
      have hw17 := sgX9_isDigit hw13.2  hq16
      rw [hw17.1]
      rw [k_bds]
      by_cases c18 : r14 = 0
      · rw [if_pos c18] at h
        rw [if_pos c18]
        by_cases c19 : 8 < v4
        · rw [if_pos c19] at h
          rw [if_pos c19]
          rw [if_pos (k_wO hw17.2 k_K120)]
          obtain ⟨A20, eA21, h⟩ := k_pl h
          have hw22 := k_wE eA21 (k_wo hw17.2 k_K120 42 (by decide))
          refine k_ltg eA21 ?_
          exact sgX9_next_b232  _ _ _ _ _ _ hw22 h
        · rw [if_neg c19] at h
          rw [if_neg c19]
          exact sgX9_next_b232  _ _ _ _ _ _ hw17.2 h
      · rw [if_neg c18] at h
        rw [if_neg c18]
        exact sgX9_next_b134 (fX9_next_h114 N) (gX9_next_h114 N) ih _ _ _ _ _ _ hw17.2 h
    · rw [if_neg c9] at h
      rw [if_neg c9]
      exact sgX9_next_b134 (fX9_next_h114 N) (gX9_next_h114 N) ih _ _ _ _ _ _ hw8.2 h
set_option maxRecDepth 100000 in
theorem sgX9_next_b94 {sc : k_SC} (A : k_H) (v1 : Int) (r : Int) (A' : k_H) (hw : k_Wf sc A) (h : gX9_next_b94 A v1 = some (r, A')) : fX9_next_b94 A 120 v1 = some (r, A') ∧ k_Wf sc A' := by
  unfold gX9_next_b94 at h
  unfold fX9_next_b94
  obtain ⟨r1, A2, hq3, h⟩ := k_pb h
  have hw4 := sgX9_isSmall hw  hq3
  rw [hw4.1]
  rw [k_bds]
  rw [if_pos (k_wO hw4.2 k_K120)]
  obtain ⟨A5, eA6, h⟩ := k_pl h
  have hw7 := k_wE eA6 (k_wo hw4.2 k_K120 42 (by decide))
  refine k_ltg eA6 ?_
  obtain ⟨A8, eA9, h⟩ := k_pl h
  have hw10 := k_wE eA9 (k_wo hw7 k_K120 38 (by decide))
  refine k_ltg eA9 ?_
  exact sgX9_next_h114  _ _ _ _ _ _ _ hw10 h
set_option maxRecDepth 100000 in
theorem sgX9_next_h0 {sc : k_SC} : ∀ (N : Nat) (A : k_H) (r : Int) (A' : k_H), k_Wf sc A → gX9_next_h0 N A = some (r, A') → fX9_next_h0 N A 120 = some (r, A') ∧ k_Wf sc A' := by
  intro N
  induction N with
  | zero => intro A  r A' hw  h; exact absurd h (by simp [gX9_next_h0])
  | succ N ih =>
    intro A  r A' hw  h
    rw [gX9_next_h0] at h
    rw [fX9_next_h0]
    rw [if_pos (k_wO hw k_K120)]
    obtain ⟨r1, A2, hq3, h⟩ := k_pb h
    have hw4 := sgX9_peek hw  hq3
    rw [hw4.1]
    rw [k_bds]
    by_cases c5 : r1 = 32
    · rw [if_pos c5] at h
      rw [if_pos c5]
      exact sgX9_next_b18 (fX9_next_h0 N) (gX9_next_h0 N) ih _ _ _ hw4.2 h
    · rw [if_neg c5] at h
      rw [if_neg c5]
      rw [if_pos (k_wO hw4.2 k_K120)]
      obtain ⟨r6, A7, hq8, h⟩ := k_pb h
      have hw9 := sgX9_peek hw4.2  hq8
      rw [hw9.1]
      rw [k_bds]
      by_cases c10 : r6 = 10
      · rw [if_pos c10] at h
        rw [if_pos c10]
        exact sgX9_next_b18 (fX9_next_h0 N) (gX9_next_h0 N) ih _ _ _ hw9.2 h
      · rw [if_neg c10] at h
        rw [if_neg c10]
        rw [if_pos (k_wO hw9.2 k_K120)]
        obtain ⟨A11, eA12, h⟩ := k_pl h
        have hw13 := k_wE eA12 (k_wo hw9.2 k_K120 37 (by decide))
        refine k_ltg eA12 ?_
        obtain ⟨r14, A15, hq16, h⟩ := k_pb h
        have hw17 := sgX9_peek hw13  hq16
        rw [hw17.1]
        rw [k_bds]
        by_cases c18 : r14 < 0
        · rw [if_pos c18] at h
          rw [if_pos c18]
          rw [if_pos (k_wO hw17.2 k_K120)]
          obtain ⟨A30, eA31, h⟩ := k_pl h
          have hw32 := k_wE eA31 (k_wo hw17.2 k_K120 36 (by decide))
          refine k_ltg eA31 ?_
          obtain ⟨rfl, rfl⟩ := k_pr h
          exact ⟨rfl, hw32⟩
        · rw [if_neg c18] at h
          rw [if_neg c18]
          obtain ⟨r19, A20, hq21, h⟩ := k_pb h
          have hw22 := sgX9_isSmall hw17.2  hq21
          rw [hw22.1]
          rw [k_bds]
          by_cases c23 : r19 = 0
          · rw [if_pos c23] at h
            rw [if_pos c23]
            obtain ⟨r24, A25, hq26, h⟩ := k_pb h
            have hw27 := sgX9_isDigit hw22.2  hq26
            rw [hw27.1]
            rw [k_bds]
            by_cases c28 : r24 = 0
            · rw [if_pos c28] at h
              rw [if_pos c28]
              by_cases c29 : r14 = 59
              · rw [if_pos c29] at h
                rw [if_pos c29]
                exact sgX9_next_b80  _ _ _ _ hw27.2 h
              · rw [if_neg c29] at h
                rw [if_neg c29]
                exact sgX9_next_b80  _ _ _ _ hw27.2 h
            · rw [if_neg c28] at h
              rw [if_neg c28]
              exact sgX9_next_b94  _ _ _ _ hw27.2 h
          · rw [if_neg c23] at h
            rw [if_neg c23]
            exact sgX9_next_b94  _ _ _ _ hw22.2 h
theorem sgX9_next {sc : k_SC} {A : k_H} {r : Int} {A' : k_H} (hw : k_Wf sc A) (h : gX9_next A  = some (r, A')) : fX9_next A 120 = some (r, A') ∧ k_Wf sc A' :=
  sgX9_next_h0 k_FU _ _ _ hw h
/-! X9_cant -/
def gX9_cant_b14 (A : k_H) (s1 : Int) : Option (Int × k_H) := k_bd (gX9_wrong A s1 (k_rd A 120 37)) fun r1 A2 => if r1 = 0 ∨ r1 = 1 then (some (r1, A2)) else none
def gX9_cant_b0 (A : k_H) : Option (Int × k_H) := if (k_rd A 120 36) = 4 then (gX9_cant_b14 A 1) else (gX9_cant_b14 A 2)
def gX9_cant (A : k_H) : Option (Int × k_H) := gX9_cant_b0 A
set_option maxRecDepth 100000 in
theorem sgX9_cant_b14 {sc : k_SC} (A : k_H) (s1 : Int) (r : Int) (A' : k_H) (hw : k_Wf sc A) (h : gX9_cant_b14 A s1 = some (r, A')) : fX9_cant_b14 A 120 120 s1 = some (r, A') ∧ k_Wf sc A' := by
  unfold gX9_cant_b14 at h
  unfold fX9_cant_b14
  rw [if_pos (k_wO hw k_K120)]
  rw [if_pos (k_wO hw k_K120)]
  obtain ⟨r1, A2, hq3, h⟩ := k_pb h
  have hw4 := sgX9_wrong hw  hq3
  rw [hw4.1]
  rw [k_bds]
  obtain ⟨hc5, h⟩ := k_pk h
  rw [if_pos hc5]
  obtain ⟨rfl, rfl⟩ := k_pr h
  exact ⟨rfl, hw4.2⟩
set_option maxRecDepth 100000 in
theorem sgX9_cant_b0 {sc : k_SC} (A : k_H) (r : Int) (A' : k_H) (hw : k_Wf sc A) (h : gX9_cant_b0 A = some (r, A')) : fX9_cant_b0 A 120 = some (r, A') ∧ k_Wf sc A' := by
  unfold gX9_cant_b0 at h
  unfold fX9_cant_b0
  rw [if_pos (k_wO hw k_K120)]
  by_cases c1 : (k_rd A 120 36) = 4
  · rw [if_pos c1] at h
    rw [if_pos c1]
    exact sgX9_cant_b14  _ _ _ _ hw h
  · rw [if_neg c1] at h
    rw [if_neg c1]
    exact sgX9_cant_b14  _ _ _ _ hw h
theorem sgX9_cant {sc : k_SC} {A : k_H} {r : Int} {A' : k_H} (hw : k_Wf sc A) (h : gX9_cant A  = some (r, A')) : fX9_cant A 120 = some (r, A') ∧ k_Wf sc A' :=
  sgX9_cant_b0 _ _ _ hw h
/-! X9_door -/
def gX9_door_b0 (A : k_H) (v1 v2 v3 : Int) : Option (Int × k_H) := k_lt (k_wt A 120 0 0) fun A1 => k_bd (gX9_isShow A1 v1) fun r4 A5 => if r4 = 0 then (some (0, A5)) else (k_bd (gX9_isIn A5 v2 0 13) fun r9 A10 => if r9 = 0 then (some (0, A10)) else (if 0 ≤ k_wr (k_wr (14 * v1) + v2) ∧ k_wr (k_wr (14 * v1) + v2) < ((84 : Nat) : Int) then (if 0 ≤ (k_rd A10 139 (k_wr (k_wr (14 * v1) + v2))) then (if 0 ≤ v3 then (if 1000000 < v3 then (some (0, A10)) else (if 0 ≤ k_wr (k_wr (14 * v1) + v2) ∧ k_wr (k_wr (14 * v1) + v2) < ((84 : Nat) : Int) then (k_lt (k_wt A10 140 (k_wr (k_wr (14 * v1) + v2)) v3) fun A19 => some (1, A19)) else none)) else (some (0, A10))) else (some (0, A10))) else none))
def gX9_door (A : k_H) (x1 x2 x3 : Int) : Option (Int × k_H) := gX9_door_b0 A x1 x2 x3
set_option maxRecDepth 100000 in
theorem sgX9_door_b0 {sc : k_SC} (A : k_H) (v1 v2 v3 : Int) (r : Int) (A' : k_H) (hw : k_Wf sc A) (h : gX9_door_b0 A v1 v2 v3 = some (r, A')) : fX9_door_b0 A 120 v1 v2 v3 = some (r, A') ∧ k_Wf sc A' := by
  unfold gX9_door_b0 at h
  unfold fX9_door_b0
  rw [if_pos (k_wO hw k_K120)]
  obtain ⟨A1, eA2, h⟩ := k_pl h
  have hw3 := k_wE eA2 (k_wo hw k_K120 0 (by decide))
  refine k_ltg eA2 ?_
  obtain ⟨r4, A5, hq6, h⟩ := k_pb h
  have hw7 := sgX9_isShow hw3  hq6
  rw [hw7.1]
  rw [k_bds]
  by_cases c8 : r4 = 0
  · rw [if_pos c8] at h
    rw [if_pos c8]
    obtain ⟨rfl, rfl⟩ := k_pr h
    exact ⟨rfl, hw7.2⟩
  · rw [if_neg c8] at h
    rw [if_neg c8]
    obtain ⟨r9, A10, hq11, h⟩ := k_pb h
    have hw12 := sgX9_isIn hw7.2  hq11
    rw [hw12.1]
    rw [k_bds]
    by_cases c13 : r9 = 0
    · rw [if_pos c13] at h
      rw [if_pos c13]
      obtain ⟨rfl, rfl⟩ := k_pr h
      exact ⟨rfl, hw12.2⟩
    · rw [if_neg c13] at h
      rw [if_neg c13]
      rw [if_pos (k_wO hw12.2 k_K120)]
      try rw [k_p9_24 hw12.2]
      obtain ⟨hc14, h⟩ := k_pk h
      rw [if_pos (k_wA hw12.2 (k_R139) hc14)]
      by_cases c15 : 0 ≤ (k_rd A10 139 (k_wr (k_wr (14 * v1) + v2)))
      · rw [if_pos c15] at h
        rw [if_pos c15]
        by_cases c16 : 0 ≤ v3
        · rw [if_pos c16] at h
          rw [if_pos c16]
          by_cases c17 : 1000000 < v3
          · rw [if_pos c17] at h
            rw [if_pos c17]
            obtain ⟨rfl, rfl⟩ := k_pr h
            exact ⟨rfl, hw12.2⟩
          · rw [if_neg c17] at h
            rw [if_neg c17]
            try rw [k_p9_25 hw12.2]
            obtain ⟨hc18, h⟩ := k_pk h
            rw [if_pos (k_wA hw12.2 (k_R140) hc18)]
            obtain ⟨A19, eA20, h⟩ := k_pl h
            have hw21 := k_wE eA20 (k_wa hw12.2 k_R140 (by decide))
            refine k_ltg eA20 ?_
            obtain ⟨rfl, rfl⟩ := k_pr h
            exact ⟨rfl, hw21⟩
        · rw [if_neg c16] at h
          rw [if_neg c16]
          obtain ⟨rfl, rfl⟩ := k_pr h
          exact ⟨rfl, hw12.2⟩
      · rw [if_neg c15] at h
        rw [if_neg c15]
        obtain ⟨rfl, rfl⟩ := k_pr h
        exact ⟨rfl, hw12.2⟩
theorem sgX9_door {sc : k_SC} {A : k_H} {x1 x2 x3 : Int} {r : Int} {A' : k_H} (hw : k_Wf sc A) (h : gX9_door A x1 x2 x3 = some (r, A')) : fX9_door A 120 x1 x2 x3 = some (r, A') ∧ k_Wf sc A' :=
  sgX9_door_b0 _ _ _ _ _ _ hw h
/-! X9_shareOf -/
def gX9_shareOf_b109 (A : k_H) (v2 v3 v5 v6 v7 s0 : Int) : Option (Int × k_H) := if v3 = 0 then (some (v2, A)) else (if v3 = 1 then (some (v5, A)) else (if v3 = 2 then (some (k_wr (v7 + s0), A)) else (some (k_wr (v6 + s0), A))))
def gX9_shareOf_b108 (A : k_H) (v2 v3 v5 v6 v7 : Int) : Option (Int × k_H) := gX9_shareOf_b109 A v2 v3 v5 v6 v7 0
def gX9_shareOf_b69 (A : k_H) (v2 v3 v4 v5 s0 : Int) : Option (Int × k_H) := if k_wr (k_wr (v2 + s0) - v5) < 0 then (if 0 ≤ k_wr (v4 + 10) ∧ k_wr (v4 + 10) < ((84 : Nat) : Int) then (if (k_rd A 150 (k_wr (v4 + 10))) = 1 then (gX9_shareOf_b109 A v2 v3 v5 s0 (k_wr (k_wr (v2 + s0) - v5)) (k_wr (Int.tdiv (k_wr (1 - k_wr (k_wr (v2 + s0) - v5))) 2))) else (gX9_shareOf_b108 A v2 v3 v5 s0 (k_wr (k_wr (v2 + s0) - v5)))) else none) else (gX9_shareOf_b108 A v2 v3 v5 s0 (k_wr (k_wr (v2 + s0) - v5)))
def gX9_shareOf_b0 (A : k_H) (v1 v2 v3 : Int) : Option (Int × k_H) := k_bd (gX9_company A v1 v2) fun r1 A2 => if 0 ≤ k_wr (k_wr (12 * v1) + 0) ∧ k_wr (k_wr (12 * v1) + 0) < ((84 : Nat) : Int) then (if 0 ≤ k_wr (k_wr (12 * v1) + 8) ∧ k_wr (k_wr (12 * v1) + 8) < ((84 : Nat) : Int) then (if 0 ≤ k_wr (k_wr (12 * v1) + 9) ∧ k_wr (k_wr (12 * v1) + 9) < ((84 : Nat) : Int) then (if k_wr (Int.tdiv (k_wr ((k_rd A2 150 (k_wr (k_wr (12 * v1) + 0))) * (k_rd A2 150 (k_wr (k_wr (12 * v1) + 8))))) 100) < (k_rd A2 150 (k_wr (k_wr (12 * v1) + 9))) then (gX9_shareOf_b69 A2 v2 v3 (k_wr (12 * v1)) r1 (k_wr (Int.tdiv (k_wr ((k_rd A2 150 (k_wr (k_wr (12 * v1) + 0))) * (k_rd A2 150 (k_wr (k_wr (12 * v1) + 8))))) 100))) else (gX9_shareOf_b69 A2 v2 v3 (k_wr (12 * v1)) r1 (k_rd A2 150 (k_wr (k_wr (12 * v1) + 9))))) else none) else none) else none
def gX9_shareOf (A : k_H) (x1 x2 x3 : Int) : Option (Int × k_H) := gX9_shareOf_b0 A x1 x2 x3
set_option maxRecDepth 100000 in
theorem sgX9_shareOf_b109 {sc : k_SC} (A : k_H) (v2 v3 v5 v6 v7 s0 : Int) (r : Int) (A' : k_H) (hw : k_Wf sc A) (h : gX9_shareOf_b109 A v2 v3 v5 v6 v7 s0 = some (r, A')) : fX9_shareOf_b109 A v2 v3 v5 v6 v7 s0 = some (r, A') ∧ k_Wf sc A' := by
  unfold gX9_shareOf_b109 at h
  unfold fX9_shareOf_b109
  by_cases c1 : v3 = 0
  · rw [if_pos c1] at h
    rw [if_pos c1]
    obtain ⟨rfl, rfl⟩ := k_pr h
    exact ⟨rfl, hw⟩
  · rw [if_neg c1] at h
    rw [if_neg c1]
    by_cases c2 : v3 = 1
    · rw [if_pos c2] at h
      rw [if_pos c2]
      obtain ⟨rfl, rfl⟩ := k_pr h
      exact ⟨rfl, hw⟩
    · rw [if_neg c2] at h
      rw [if_neg c2]
      by_cases c3 : v3 = 2
      · rw [if_pos c3] at h
        rw [if_pos c3]
        obtain ⟨rfl, rfl⟩ := k_pr h
        exact ⟨rfl, hw⟩
      · rw [if_neg c3] at h
        rw [if_neg c3]
        obtain ⟨rfl, rfl⟩ := k_pr h
        exact ⟨rfl, hw⟩
set_option maxRecDepth 100000 in
theorem sgX9_shareOf_b108 {sc : k_SC} (A : k_H) (v2 v3 v5 v6 v7 : Int) (r : Int) (A' : k_H) (hw : k_Wf sc A) (h : gX9_shareOf_b108 A v2 v3 v5 v6 v7 = some (r, A')) : fX9_shareOf_b108 A v2 v3 v5 v6 v7 = some (r, A') ∧ k_Wf sc A' := by
  unfold gX9_shareOf_b108 at h
  unfold fX9_shareOf_b108
  exact sgX9_shareOf_b109  _ _ _ _ _ _ _ _ _ hw h
set_option maxRecDepth 100000 in
theorem sgX9_shareOf_b69 {sc : k_SC} (A : k_H) (v2 v3 v4 v5 s0 : Int) (r : Int) (A' : k_H) (hw : k_Wf sc A) (h : gX9_shareOf_b69 A v2 v3 v4 v5 s0 = some (r, A')) : fX9_shareOf_b69 A 120 v2 v3 v4 v5 s0 = some (r, A') ∧ k_Wf sc A' := by
  unfold gX9_shareOf_b69 at h
  unfold fX9_shareOf_b69
  by_cases c1 : k_wr (k_wr (v2 + s0) - v5) < 0
  · rw [if_pos c1] at h
    rw [if_pos c1]
    rw [if_pos (k_wO hw k_K120)]
    try rw [k_p9_35 hw]
    obtain ⟨hc2, h⟩ := k_pk h
    rw [if_pos (k_wA hw (k_R150) hc2)]
    by_cases c3 : (k_rd A 150 (k_wr (v4 + 10))) = 1
    · rw [if_pos c3] at h
      rw [if_pos c3]
      exact sgX9_shareOf_b109  _ _ _ _ _ _ _ _ _ hw h
    · rw [if_neg c3] at h
      rw [if_neg c3]
      exact sgX9_shareOf_b108  _ _ _ _ _ _ _ _ hw h
  · rw [if_neg c1] at h
    rw [if_neg c1]
    exact sgX9_shareOf_b108  _ _ _ _ _ _ _ _ hw h
set_option maxRecDepth 100000 in
theorem sgX9_shareOf_b0 {sc : k_SC} (A : k_H) (v1 v2 v3 : Int) (r : Int) (A' : k_H) (hw : k_Wf sc A) (h : gX9_shareOf_b0 A v1 v2 v3 = some (r, A')) : fX9_shareOf_b0 A 120 v1 v2 v3 = some (r, A') ∧ k_Wf sc A' := by
  unfold gX9_shareOf_b0 at h
  unfold fX9_shareOf_b0
  rw [if_pos (k_wO hw k_K120)]
  obtain ⟨r1, A2, hq3, h⟩ := k_pb h
  have hw4 := sgX9_company hw  hq3
  rw [hw4.1]
  rw [k_bds]
  rw [if_pos (k_wO hw4.2 k_K120)]
  try rw [k_p9_35 hw4.2]
  obtain ⟨hc5, h⟩ := k_pk h
  rw [if_pos (k_wA hw4.2 (k_R150) hc5)]
  try rw [k_p9_35 hw4.2]
  obtain ⟨hc6, h⟩ := k_pk h
  rw [if_pos (k_wA hw4.2 (k_R150) hc6)]
  try rw [k_p9_35 hw4.2]
  obtain ⟨hc7, h⟩ := k_pk h
  rw [if_pos (k_wA hw4.2 (k_R150) hc7)]
  by_cases c8 : k_wr (Int.tdiv (k_wr ((k_rd A2 150 (k_wr (k_wr (12 * v1) + 0))) * (k_rd A2 150 (k_wr (k_wr (12 * v1) + 8))))) 100) < (k_rd A2 150 (k_wr (k_wr (12 * v1) + 9)))
  · rw [if_pos c8] at h
    rw [if_pos c8]
    exact sgX9_shareOf_b69  _ _ _ _ _ _ _ _ hw4.2 h
  · rw [if_neg c8] at h
    rw [if_neg c8]
    try rw [k_p9_35 hw4.2]
    exact sgX9_shareOf_b69  _ _ _ _ _ _ _ _ hw4.2 h
theorem sgX9_shareOf {sc : k_SC} {A : k_H} {x1 x2 x3 : Int} {r : Int} {A' : k_H} (hw : k_Wf sc A) (h : gX9_shareOf A x1 x2 x3 = some (r, A')) : fX9_shareOf A 120 x1 x2 x3 = some (r, A') ∧ k_Wf sc A' :=
  sgX9_shareOf_b0 _ _ _ _ _ _ hw h
/-! X9_fits -/
def gX9_fits_b0 (A : k_H) (v1 v2 : Int) : Option (Int × k_H) := k_lt (k_wt A 120 0 0) fun A1 => k_bd (gX9_isShow A1 v1) fun r4 A5 => if r4 = 0 then (some ((-3), A5)) else (k_bd (gX9_isHall A5 v2) fun r9 A10 => if r9 = 0 then (some ((-3), A10)) else (k_bd (gX9_fit A10 v1 v2) fun r14 A15 => some (r14, A15)))
def gX9_fits (A : k_H) (x1 x2 : Int) : Option (Int × k_H) := gX9_fits_b0 A x1 x2
set_option maxRecDepth 100000 in
theorem sgX9_fits_b0 {sc : k_SC} (A : k_H) (v1 v2 : Int) (r : Int) (A' : k_H) (hw : k_Wf sc A) (h : gX9_fits_b0 A v1 v2 = some (r, A')) : fX9_fits_b0 A 120 v1 v2 = some (r, A') ∧ k_Wf sc A' := by
  unfold gX9_fits_b0 at h
  unfold fX9_fits_b0
  rw [if_pos (k_wO hw k_K120)]
  obtain ⟨A1, eA2, h⟩ := k_pl h
  have hw3 := k_wE eA2 (k_wo hw k_K120 0 (by decide))
  refine k_ltg eA2 ?_
  obtain ⟨r4, A5, hq6, h⟩ := k_pb h
  have hw7 := sgX9_isShow hw3  hq6
  rw [hw7.1]
  rw [k_bds]
  by_cases c8 : r4 = 0
  · rw [if_pos c8] at h
    rw [if_pos c8]
    obtain ⟨rfl, rfl⟩ := k_pr h
    exact ⟨rfl, hw7.2⟩
  · rw [if_neg c8] at h
    rw [if_neg c8]
    rw [if_pos (k_wO hw7.2 k_K120)]
    obtain ⟨r9, A10, hq11, h⟩ := k_pb h
    have hw12 := sgX9_isHall hw7.2  hq11
    rw [hw12.1]
    rw [k_bds]
    by_cases c13 : r9 = 0
    · rw [if_pos c13] at h
      rw [if_pos c13]
      obtain ⟨rfl, rfl⟩ := k_pr h
      exact ⟨rfl, hw12.2⟩
    · rw [if_neg c13] at h
      rw [if_neg c13]
      rw [if_pos (k_wO hw12.2 k_K120)]
      obtain ⟨r14, A15, hq16, h⟩ := k_pb h
      have hw17 := sgX9_fit hw12.2  hq16
      rw [hw17.1]
      rw [k_bds]
      obtain ⟨rfl, rfl⟩ := k_pr h
      exact ⟨rfl, hw17.2⟩
theorem sgX9_fits {sc : k_SC} {A : k_H} {x1 x2 : Int} {r : Int} {A' : k_H} (hw : k_Wf sc A) (h : gX9_fits A x1 x2 = some (r, A')) : fX9_fits A 120 x1 x2 = some (r, A') ∧ k_Wf sc A' :=
  sgX9_fits_b0 _ _ _ _ _ hw h
/-! X9_book -/
def gX9_book_h370 : Nat → k_H → Int → Int → Int → Option (Int × k_H)
  | 0, _, _, _, _ => none
  | N + 1, A, v1, v3, v5 => if 0 ≤ v1 ∧ v1 < ((6 : Nat) : Int) then (if v5 ≤ (k_rd A 133 v1) then (if 0 ≤ v5 ∧ v5 < ((14 : Nat) : Int) then (if 0 ≤ k_wr (k_wr (14 * v1) + v5) ∧ k_wr (k_wr (14 * v1) + v5) < ((84 : Nat) : Int) then (k_lt (k_wt A 139 (k_wr (k_wr (14 * v1) + v5)) (k_rd A 148 v5)) fun A5 => (gX9_book_h370 N) A5 v1 v3 (k_wr (v5 + 1))) else none) else none) else (some (v3, A))) else none
def gX9_book_b345 (k165g : k_H → Int → Int → Int → Int → Option (Int × k_H)) (A : k_H) (v1 v2 v3 v4 : Int) : Option (Int × k_H) := k165g A v1 v2 v3 (k_wr (v4 + (-1)))
def gX9_book_b310 (k165g : k_H → Int → Int → Int → Int → Option (Int × k_H)) (A : k_H) (v1 v2 v3 v4 : Int) : Option (Int × k_H) := k165g A v1 v2 v3 (k_wr (v4 + (-1)))
def gX9_book_b303 (k165g : k_H → Int → Int → Int → Int → Option (Int × k_H)) (k259g : k_H → Int → Int → Int → Int → Int → Option (Int × k_H)) (A : k_H) (v1 v2 v3 v4 v5 s1 s2 : Int) : Option (Int × k_H) := if 0 ≤ s1 ∧ s1 < ((14 : Nat) : Int) then (k_lt (k_wt A 148 s1 s2) fun A2 => k259g A2 v1 v2 v3 v4 (k_wr (v5 + 1))) else none
def gX9_book_b108 (k57g : k_H → Int → Int → Int → Option (Int × k_H)) (A : k_H) (v1 v2 v3 : Int) : Option (Int × k_H) := k57g A v1 v2 (k_wr (v3 + 1))
def gX9_book_h259 (k165g : k_H → Int → Int → Int → Int → Option (Int × k_H)) : Nat → k_H → Int → Int → Int → Int → Int → Option (Int × k_H)
  | 0, _, _, _, _, _, _ => none
  | N + 1, A, v1, v2, v3, v4, v5 => if 0 ≤ v1 ∧ v1 < ((6 : Nat) : Int) then (if v5 ≤ (k_rd A 133 v1) then (if 0 ≤ v5 ∧ v5 < ((15 : Nat) : Int) then (if (k_rd A 142 v5) < v2 then (if 0 ≤ (k_rd A 142 v5) ∧ (k_rd A 142 v5) < ((6 : Nat) : Int) then (gX9_book_b303 k165g (gX9_book_h259 k165g N) A v1 v2 v3 v4 v5 v5 (k_rd A 141 (k_rd A 142 v5))) else none) else (gX9_book_b303 k165g (gX9_book_h259 k165g N) A v1 v2 v3 v4 v5 v5 (-1))) else none) else (gX9_book_b310 k165g A v1 v2 v3 v4)) else none
def gX9_book_h165 : Nat → k_H → Int → Int → Int → Int → Option (Int × k_H)
  | 0, _, _, _, _, _ => none
  | N + 1, A, v1, v2, v3, v4 => if 0 ≤ v1 ∧ v1 < ((6 : Nat) : Int) then (if (k_rd A 132 v1) ≤ v4 then (if 0 ≤ v4 ∧ v4 < ((15 : Nat) : Int) then (k_lt (k_wt A 142 v4 (k_wr ((k_rd A 142 v4) + 1))) fun A4 => if v2 < (k_rd A4 142 v4) then ((gX9_book_h165 N) A4 v1 v2 v3 (k_wr (v4 + (-1)))) else (k_bd (gX9_go A4 v1 v4 v2) fun r8 A9 => if r8 = 0 then ((gX9_book_h165 N) A9 v1 v2 v3 v4) else (if 0 ≤ v1 ∧ v1 < ((6 : Nat) : Int) then (if (k_rd A9 133 v1) < k_wr (v4 + 1) then (if 0 ≤ k_wr (v4 + 1) ∧ k_wr (v4 + 1) < ((15 : Nat) : Int) then (if v3 < (k_rd A9 147 (k_wr (v4 + 1))) then (gX9_book_h259 (gX9_book_h165 N) k_FU A9 v1 v2 (k_rd A9 147 (k_wr (v4 + 1))) (k_wr (v4 + 1)) (k_rd A9 132 v1)) else (gX9_book_b310 (gX9_book_h165 N) A9 v1 v2 v3 (k_wr (v4 + 1)))) else none) else (k_bd (gX9_wasThere A9 (k_wr (v4 + 1))) fun r15 A16 => if r15 = 0 then (if 0 ≤ k_wr (v4 + 1) ∧ k_wr (v4 + 1) < ((15 : Nat) : Int) then (k_bd (gX9_rest A16 v1 (k_wr (v4 + 1)) v2) fun r21 A22 => if k_wr ((k_rd A16 147 (k_wr (v4 + 1))) + r21) ≤ v3 then (gX9_book_b345 (gX9_book_h165 N) A22 v1 v2 v3 (k_wr (v4 + 1))) else (if 0 ≤ k_wr (v4 + 1) ∧ k_wr (v4 + 1) < ((15 : Nat) : Int) then (k_lt (k_wt A22 142 (k_wr (v4 + 1)) (-1)) fun A27 => (gX9_book_h165 N) A27 v1 v2 v3 (k_wr (v4 + 1))) else none)) else none) else (gX9_book_b345 (gX9_book_h165 N) A16 v1 v2 v3 (k_wr (v4 + 1))))) else none))) else none) else (gX9_book_h370 k_FU A v1 v3 (k_rd A 132 v1))) else none
def gX9_book_h116 : Nat → k_H → Int → Int → Int → Option (Int × k_H)
  | 0, _, _, _, _ => none
  | N + 1, A, v1, v2, v3 => if v3 < 22050 then (if 0 ≤ v3 ∧ v3 < ((22050 : Nat) : Int) then (k_lt (k_wt A 149 v3 0) fun A12 => (gX9_book_h116 N) A12 v1 v2 (k_wr (v3 + 1))) else none) else (if 0 ≤ v1 ∧ v1 < ((6 : Nat) : Int) then (k_bd (gX9_stand A (k_rd A 132 v1) 0 (-1) 0 0 0) fun r3 A4 => if 0 ≤ (k_rd A 132 v1) ∧ (k_rd A 132 v1) < ((15 : Nat) : Int) then (k_lt (k_wt A4 142 (k_rd A 132 v1) (-1)) fun A8 => gX9_book_h165 k_FU A8 v1 v2 (-1) (k_rd A 132 v1)) else none) else none)
def gX9_book_b114 (A : k_H) (v1 v2 : Int) : Option (Int × k_H) := gX9_book_h116 k_FU A v1 v2 0
def gX9_book_h57 : Nat → k_H → Int → Int → Int → Option (Int × k_H)
  | 0, _, _, _, _ => none
  | N + 1, A, v1, v2, v3 => if v3 < (k_rd A 120 20) then (if v2 < 6 then (if 0 ≤ k_wr (k_wr (6 * v3) + v1) ∧ k_wr (k_wr (6 * v3) + v1) < ((72 : Nat) : Int) then (if (k_rd A 136 (k_wr (k_wr (6 * v3) + v1))) = 0 then (gX9_book_b108 (gX9_book_h57 N) A v1 v2 v3) else (k_bd (gX9_fit A v1 v3) fun r5 A6 => if r5 = 1 then (if 0 ≤ v2 ∧ v2 < ((6 : Nat) : Int) then (k_lt (k_wt A6 141 v2 v3) fun A11 => gX9_book_b108 (gX9_book_h57 N) A11 v1 (k_wr (v2 + 1)) v3) else none) else (gX9_book_b108 (gX9_book_h57 N) A6 v1 v2 v3))) else none) else (gX9_book_b114 A v1 v2)) else (gX9_book_b114 A v1 v2)
def gX9_book_h17 : Nat → k_H → Int → Int → Option (Int × k_H)
  | 0, _, _, _ => none
  | N + 1, A, v1, v2 => if v2 < 14 then (if 0 ≤ k_wr (k_wr (14 * v1) + v2) ∧ k_wr (k_wr (14 * v1) + v2) < ((84 : Nat) : Int) then (k_lt (k_wt A 139 (k_wr (k_wr (14 * v1) + v2)) (-1)) fun A3 => if 0 ≤ k_wr (k_wr (14 * v1) + v2) ∧ k_wr (k_wr (14 * v1) + v2) < ((84 : Nat) : Int) then (k_lt (k_wt A3 140 (k_wr (k_wr (14 * v1) + v2)) (-1)) fun A7 => (gX9_book_h17 N) A7 v1 (k_wr (v2 + 1))) else none) else none) else (gX9_book_h57 k_FU A v1 0 0)
def gX9_book_b0 (A : k_H) (v1 : Int) : Option (Int × k_H) := k_lt (k_wt A 120 0 0) fun A1 => k_bd (gX9_isShow A1 v1) fun r4 A5 => if r4 = 0 then (some ((-1), A5)) else (gX9_book_h17 k_FU A5 v1 0)
def gX9_book (A : k_H) (x1 : Int) : Option (Int × k_H) := gX9_book_b0 A x1
set_option maxRecDepth 100000 in
theorem sgX9_book_h370 {sc : k_SC} : ∀ (N : Nat) (A : k_H) (v1 v3 v5 : Int) (r : Int) (A' : k_H), k_Wf sc A → gX9_book_h370 N A v1 v3 v5 = some (r, A') → fX9_book_h370 N A 120 v1 v3 v5 = some (r, A') ∧ k_Wf sc A' := by
  intro N
  induction N with
  | zero => intro A v1 v3 v5 r A' hw  h; exact absurd h (by simp [gX9_book_h370])
  | succ N ih =>
    intro A v1 v3 v5 r A' hw  h
    rw [gX9_book_h370] at h
    rw [fX9_book_h370]
    rw [if_pos (k_wO hw k_K120)]
    try rw [k_p9_16 hw]
    obtain ⟨hc1, h⟩ := k_pk h
    rw [if_pos (k_wA hw (k_R133) hc1)]
    by_cases c2 : v5 ≤ (k_rd A 133 v1)
    · rw [if_pos c2] at h
      rw [if_pos c2]
      try rw [k_p9_24 hw]
      try rw [k_p9_33 hw]
      obtain ⟨hc3, h⟩ := k_pk h
      rw [if_pos (k_wA hw (k_R148) hc3)]
      obtain ⟨hc4, h⟩ := k_pk h
      rw [if_pos (k_wA hw (k_R139) hc4)]
      obtain ⟨A5, eA6, h⟩ := k_pl h
      have hw7 := k_wE eA6 (k_wa hw k_R139 (by decide))
      refine k_ltg eA6 ?_
      exact ih _ _ _ _ _ _ hw7 h
    · rw [if_neg c2] at h
      rw [if_neg c2]
      obtain ⟨rfl, rfl⟩ := k_pr h
      exact ⟨rfl, hw⟩
set_option maxRecDepth 100000 in
theorem sgX9_book_b345 {sc : k_SC} (k165f : k_H → Int → Int → Int → Int → Int → Option (Int × k_H)) (k165g : k_H → Int → Int → Int → Int → Option (Int × k_H)) (hk165 : ∀ (A : k_H) (v1 v2 v3 v4 : Int) (r : Int) (A' : k_H), k_Wf sc A → k165g A v1 v2 v3 v4 = some (r, A') → k165f A 120 v1 v2 v3 v4 = some (r, A') ∧ k_Wf sc A') (A : k_H) (v1 v2 v3 v4 : Int) (r : Int) (A' : k_H) (hw : k_Wf sc A) (h : gX9_book_b345 k165g A v1 v2 v3 v4 = some (r, A')) : fX9_book_b345 k165f A 120 v1 v2 v3 v4 = some (r, A') ∧ k_Wf sc A' := by
  unfold gX9_book_b345 at h
  unfold fX9_book_b345
  exact hk165 _ _ _ _ _ _ _ hw h
set_option maxRecDepth 100000 in
theorem sgX9_book_b310 {sc : k_SC} (k165f : k_H → Int → Int → Int → Int → Int → Option (Int × k_H)) (k165g : k_H → Int → Int → Int → Int → Option (Int × k_H)) (hk165 : ∀ (A : k_H) (v1 v2 v3 v4 : Int) (r : Int) (A' : k_H), k_Wf sc A → k165g A v1 v2 v3 v4 = some (r, A') → k165f A 120 v1 v2 v3 v4 = some (r, A') ∧ k_Wf sc A') (A : k_H) (v1 v2 v3 v4 : Int) (r : Int) (A' : k_H) (hw : k_Wf sc A) (h : gX9_book_b310 k165g A v1 v2 v3 v4 = some (r, A')) : fX9_book_b310 k165f A 120 v1 v2 v3 v4 = some (r, A') ∧ k_Wf sc A' := by
  unfold gX9_book_b310 at h
  unfold fX9_book_b310
  exact hk165 _ _ _ _ _ _ _ hw h
set_option maxRecDepth 100000 in
theorem sgX9_book_b303 {sc : k_SC} (k165f : k_H → Int → Int → Int → Int → Int → Option (Int × k_H)) (k165g : k_H → Int → Int → Int → Int → Option (Int × k_H)) (hk165 : ∀ (A : k_H) (v1 v2 v3 v4 : Int) (r : Int) (A' : k_H), k_Wf sc A → k165g A v1 v2 v3 v4 = some (r, A') → k165f A 120 v1 v2 v3 v4 = some (r, A') ∧ k_Wf sc A') (k259f : k_H → Int → Int → Int → Int → Int → Int → Option (Int × k_H)) (k259g : k_H → Int → Int → Int → Int → Int → Option (Int × k_H)) (hk259 : ∀ (A : k_H) (v1 v2 v3 v4 v5 : Int) (r : Int) (A' : k_H), k_Wf sc A → k259g A v1 v2 v3 v4 v5 = some (r, A') → k259f A 120 v1 v2 v3 v4 v5 = some (r, A') ∧ k_Wf sc A') (A : k_H) (v1 v2 v3 v4 v5 s1 s2 : Int) (r : Int) (A' : k_H) (hw : k_Wf sc A) (h : gX9_book_b303 k165g k259g A v1 v2 v3 v4 v5 s1 s2 = some (r, A')) : fX9_book_b303 k165f k259f A 120 v1 v2 v3 v4 v5 148 s1 s2 = some (r, A') ∧ k_Wf sc A' := by
  unfold gX9_book_b303 at h
  unfold fX9_book_b303
  obtain ⟨hc1, h⟩ := k_pk h
  rw [if_pos (k_wA hw (k_R148) hc1)]
  obtain ⟨A2, eA3, h⟩ := k_pl h
  have hw4 := k_wE eA3 (k_wa hw k_R148 (by decide))
  refine k_ltg eA3 ?_
  exact hk259 _ _ _ _ _ _ _ _ hw4 h
set_option maxRecDepth 100000 in
theorem sgX9_book_b108 {sc : k_SC} (k57f : k_H → Int → Int → Int → Int → Option (Int × k_H)) (k57g : k_H → Int → Int → Int → Option (Int × k_H)) (hk57 : ∀ (A : k_H) (v1 v2 v3 : Int) (r : Int) (A' : k_H), k_Wf sc A → k57g A v1 v2 v3 = some (r, A') → k57f A 120 v1 v2 v3 = some (r, A') ∧ k_Wf sc A') (A : k_H) (v1 v2 v3 : Int) (r : Int) (A' : k_H) (hw : k_Wf sc A) (h : gX9_book_b108 k57g A v1 v2 v3 = some (r, A')) : fX9_book_b108 k57f A 120 v1 v2 v3 = some (r, A') ∧ k_Wf sc A' := by
  unfold gX9_book_b108 at h
  unfold fX9_book_b108
  exact hk57 _ _ _ _ _ _ hw h
set_option maxRecDepth 100000 in
theorem sgX9_book_h259 {sc : k_SC} (k165f : k_H → Int → Int → Int → Int → Int → Option (Int × k_H)) (k165g : k_H → Int → Int → Int → Int → Option (Int × k_H)) (hk165 : ∀ (A : k_H) (v1 v2 v3 v4 : Int) (r : Int) (A' : k_H), k_Wf sc A → k165g A v1 v2 v3 v4 = some (r, A') → k165f A 120 v1 v2 v3 v4 = some (r, A') ∧ k_Wf sc A') : ∀ (N : Nat) (A : k_H) (v1 v2 v3 v4 v5 : Int) (r : Int) (A' : k_H), k_Wf sc A → gX9_book_h259 k165g N A v1 v2 v3 v4 v5 = some (r, A') → fX9_book_h259 k165f N A 120 v1 v2 v3 v4 v5 = some (r, A') ∧ k_Wf sc A' := by
  intro N
  induction N with
  | zero => intro A v1 v2 v3 v4 v5 r A' hw  h; exact absurd h (by simp [gX9_book_h259])
  | succ N ih =>
    intro A v1 v2 v3 v4 v5 r A' hw  h
    rw [gX9_book_h259] at h
    rw [fX9_book_h259]
    rw [if_pos (k_wO hw k_K120)]
    try rw [k_p9_16 hw]
    obtain ⟨hc1, h⟩ := k_pk h
    rw [if_pos (k_wA hw (k_R133) hc1)]
    by_cases c2 : v5 ≤ (k_rd A 133 v1)
    · rw [if_pos c2] at h
      rw [if_pos c2]
      try rw [k_p9_33 hw]
      try rw [k_p9_27 hw]
      obtain ⟨hc3, h⟩ := k_pk h
      rw [if_pos (k_wA hw (k_R142) hc3)]
      by_cases c4 : (k_rd A 142 v5) < v2
      · rw [if_pos c4] at h
        rw [if_pos c4]
        try rw [k_p9_26 hw]
        try rw [k_p9_27 hw]
        obtain ⟨hc5, h⟩ := k_pk h
        rw [if_pos (k_wA hw (k_R141) hc5)]
        exact sgX9_book_b303 k165f k165g hk165 (fX9_book_h259 k165f N) (gX9_book_h259 k165g N) ih _ _ _ _ _ _ _ _ _ _ hw h
      · rw [if_neg c4] at h
        rw [if_neg c4]
        exact sgX9_book_b303 k165f k165g hk165 (fX9_book_h259 k165f N) (gX9_book_h259 k165g N) ih _ _ _ _ _ _ _ _ _ _ hw h
    · rw [if_neg c2] at h
      rw [if_neg c2]
      exact sgX9_book_b310 k165f k165g hk165 _ _ _ _ _ _ _ hw h
set_option maxRecDepth 100000 in
theorem sgX9_book_h165 {sc : k_SC} : ∀ (N : Nat) (A : k_H) (v1 v2 v3 v4 : Int) (r : Int) (A' : k_H), k_Wf sc A → gX9_book_h165 N A v1 v2 v3 v4 = some (r, A') → fX9_book_h165 N A 120 v1 v2 v3 v4 = some (r, A') ∧ k_Wf sc A' := by
  intro N
  induction N with
  | zero => intro A v1 v2 v3 v4 r A' hw  h; exact absurd h (by simp [gX9_book_h165])
  | succ N ih =>
    intro A v1 v2 v3 v4 r A' hw  h
    rw [gX9_book_h165] at h
    rw [fX9_book_h165]
    rw [if_pos (k_wO hw k_K120)]
    try rw [k_p9_15 hw]
    obtain ⟨hc1, h⟩ := k_pk h
    rw [if_pos (k_wA hw (k_R132) hc1)]
    by_cases c2 : (k_rd A 132 v1) ≤ v4
    · rw [if_pos c2] at h
      rw [if_pos c2]
      try rw [k_p9_27 hw]
      obtain ⟨hc3, h⟩ := k_pk h
      rw [if_pos (k_wA hw (k_R142) hc3)]
      obtain ⟨A4, eA5, h⟩ := k_pl h
      have hw6 := k_wE eA5 (k_wa hw k_R142 (by decide))
      refine k_ltg eA5 ?_
      try rw [k_p9_27 hw6]
      rw [if_pos (k_wA hw6 (k_R142) hc3)]
      by_cases c7 : v2 < (k_rd A4 142 v4)
      · rw [if_pos c7] at h
        rw [if_pos c7]
        exact ih _ _ _ _ _ _ _ hw6 h
      · rw [if_neg c7] at h
        rw [if_neg c7]
        obtain ⟨r8, A9, hq10, h⟩ := k_pb h
        have hw11 := sgX9_go hw6  hq10
        rw [hw11.1]
        rw [k_bds]
        by_cases c12 : r8 = 0
        · rw [if_pos c12] at h
          rw [if_pos c12]
          exact ih _ _ _ _ _ _ _ hw11.2 h
        · rw [if_neg c12] at h
          rw [if_neg c12]
          rw [if_pos (k_wO hw11.2 k_K120)]
          try rw [k_p9_16 hw11.2]
          obtain ⟨hc13, h⟩ := k_pk h
          rw [if_pos (k_wA hw11.2 (k_R133) hc13)]
          by_cases c14 : (k_rd A9 133 v1) < k_wr (v4 + 1)
          · rw [if_pos c14] at h
            rw [if_pos c14]
            try rw [k_p9_32 hw11.2]
            obtain ⟨hc30, h⟩ := k_pk h
            rw [if_pos (k_wA hw11.2 (k_R147) hc30)]
            by_cases c31 : v3 < (k_rd A9 147 (k_wr (v4 + 1)))
            · rw [if_pos c31] at h
              rw [if_pos c31]
              try rw [k_p9_32 hw11.2]
              try rw [k_p9_15 hw11.2]
              rw [if_pos (k_wA hw11.2 (k_R132) hc1)]
              exact sgX9_book_h259 (fX9_book_h165 N) (gX9_book_h165 N) ih _ _ _ _ _ _ _ _ _ hw11.2 h
            · rw [if_neg c31] at h
              rw [if_neg c31]
              exact sgX9_book_b310 (fX9_book_h165 N) (gX9_book_h165 N) ih _ _ _ _ _ _ _ hw11.2 h
          · rw [if_neg c14] at h
            rw [if_neg c14]
            obtain ⟨r15, A16, hq17, h⟩ := k_pb h
            have hw18 := sgX9_wasThere hw11.2  hq17
            rw [hw18.1]
            rw [k_bds]
            by_cases c19 : r15 = 0
            · rw [if_pos c19] at h
              rw [if_pos c19]
              rw [if_pos (k_wO hw18.2 k_K120)]
              try rw [k_p9_32 hw18.2]
              obtain ⟨hc20, h⟩ := k_pk h
              rw [if_pos (k_wA hw18.2 (k_R147) hc20)]
              obtain ⟨r21, A22, hq23, h⟩ := k_pb h
              have hw24 := sgX9_rest hw18.2  hq23
              rw [hw24.1]
              rw [k_bds]
              by_cases c25 : k_wr ((k_rd A16 147 (k_wr (v4 + 1))) + r21) ≤ v3
              · rw [if_pos c25] at h
                rw [if_pos c25]
                exact sgX9_book_b345 (fX9_book_h165 N) (gX9_book_h165 N) ih _ _ _ _ _ _ _ hw24.2 h
              · rw [if_neg c25] at h
                rw [if_neg c25]
                rw [if_pos (k_wO hw24.2 k_K120)]
                try rw [k_p9_27 hw24.2]
                obtain ⟨hc26, h⟩ := k_pk h
                rw [if_pos (k_wA hw24.2 (k_R142) hc26)]
                obtain ⟨A27, eA28, h⟩ := k_pl h
                have hw29 := k_wE eA28 (k_wa hw24.2 k_R142 (by decide))
                refine k_ltg eA28 ?_
                exact ih _ _ _ _ _ _ _ hw29 h
            · rw [if_neg c19] at h
              rw [if_neg c19]
              exact sgX9_book_b345 (fX9_book_h165 N) (gX9_book_h165 N) ih _ _ _ _ _ _ _ hw18.2 h
    · rw [if_neg c2] at h
      rw [if_neg c2]
      try rw [k_p9_15 hw]
      exact sgX9_book_h370  _ _ _ _ _ _ _ hw h
set_option maxRecDepth 100000 in
theorem sgX9_book_h116 {sc : k_SC} : ∀ (N : Nat) (A : k_H) (v1 v2 v3 : Int) (r : Int) (A' : k_H), k_Wf sc A → gX9_book_h116 N A v1 v2 v3 = some (r, A') → fX9_book_h116 N A 120 v1 v2 v3 = some (r, A') ∧ k_Wf sc A' := by
  intro N
  induction N with
  | zero => intro A v1 v2 v3 r A' hw  h; exact absurd h (by simp [gX9_book_h116])
  | succ N ih =>
    intro A v1 v2 v3 r A' hw  h
    rw [gX9_book_h116] at h
    rw [fX9_book_h116]
    by_cases c1 : v3 < 22050
    · rw [if_pos c1] at h
      rw [if_pos c1]
      rw [if_pos (k_wO hw k_K120)]
      try rw [k_p9_34 hw]
      obtain ⟨hc11, h⟩ := k_pk h
      rw [if_pos (k_wA hw (k_R149) hc11)]
      obtain ⟨A12, eA13, h⟩ := k_pl h
      have hw14 := k_wE eA13 (k_wa hw k_R149 (by decide))
      refine k_ltg eA13 ?_
      exact ih _ _ _ _ _ _ hw14 h
    · rw [if_neg c1] at h
      rw [if_neg c1]
      rw [if_pos (k_wO hw k_K120)]
      try rw [k_p9_15 hw]
      obtain ⟨hc2, h⟩ := k_pk h
      rw [if_pos (k_wA hw (k_R132) hc2)]
      obtain ⟨r3, A4, hq5, h⟩ := k_pb h
      have hw6 := sgX9_stand hw  hq5
      rw [hw6.1]
      rw [k_bds]
      rw [if_pos (k_wO hw6.2 k_K120)]
      try rw [k_p9_27 hw6.2]
      obtain ⟨hc7, h⟩ := k_pk h
      rw [if_pos (k_wA hw6.2 (k_R142) hc7)]
      obtain ⟨A8, eA9, h⟩ := k_pl h
      have hw10 := k_wE eA9 (k_wa hw6.2 k_R142 (by decide))
      refine k_ltg eA9 ?_
      exact sgX9_book_h165  _ _ _ _ _ _ _ _ hw10 h
set_option maxRecDepth 100000 in
theorem sgX9_book_b114 {sc : k_SC} (A : k_H) (v1 v2 : Int) (r : Int) (A' : k_H) (hw : k_Wf sc A) (h : gX9_book_b114 A v1 v2 = some (r, A')) : fX9_book_b114 A 120 v1 v2 = some (r, A') ∧ k_Wf sc A' := by
  unfold gX9_book_b114 at h
  unfold fX9_book_b114
  exact sgX9_book_h116  _ _ _ _ _ _ _ hw h
set_option maxRecDepth 100000 in
theorem sgX9_book_h57 {sc : k_SC} : ∀ (N : Nat) (A : k_H) (v1 v2 v3 : Int) (r : Int) (A' : k_H), k_Wf sc A → gX9_book_h57 N A v1 v2 v3 = some (r, A') → fX9_book_h57 N A 120 v1 v2 v3 = some (r, A') ∧ k_Wf sc A' := by
  intro N
  induction N with
  | zero => intro A v1 v2 v3 r A' hw  h; exact absurd h (by simp [gX9_book_h57])
  | succ N ih =>
    intro A v1 v2 v3 r A' hw  h
    rw [gX9_book_h57] at h
    rw [fX9_book_h57]
    rw [if_pos (k_wO hw k_K120)]
    by_cases c1 : v3 < (k_rd A 120 20)
    · rw [if_pos c1] at h
      rw [if_pos c1]
      by_cases c2 : v2 < 6
      · rw [if_pos c2] at h
        rw [if_pos c2]
        try rw [k_p9_19 hw]
        obtain ⟨hc3, h⟩ := k_pk h
        rw [if_pos (k_wA hw (k_R136) hc3)]
        by_cases c4 : (k_rd A 136 (k_wr (k_wr (6 * v3) + v1))) = 0
        · rw [if_pos c4] at h
          rw [if_pos c4]
          exact sgX9_book_b108 (fX9_book_h57 N) (gX9_book_h57 N) ih _ _ _ _ _ _ hw h
        · rw [if_neg c4] at h
          rw [if_neg c4]
          obtain ⟨r5, A6, hq7, h⟩ := k_pb h
          have hw8 := sgX9_fit hw  hq7
          rw [hw8.1]
          rw [k_bds]
          by_cases c9 : r5 = 1
          · rw [if_pos c9] at h
            rw [if_pos c9]
            rw [if_pos (k_wO hw8.2 k_K120)]
            try rw [k_p9_26 hw8.2]
            obtain ⟨hc10, h⟩ := k_pk h
            rw [if_pos (k_wA hw8.2 (k_R141) hc10)]
            obtain ⟨A11, eA12, h⟩ := k_pl h
            have hw13 := k_wE eA12 (k_wa hw8.2 k_R141 (by decide))
            refine k_ltg eA12 ?_
            exact sgX9_book_b108 (fX9_book_h57 N) (gX9_book_h57 N) ih _ _ _ _ _ _ hw13 h
          · rw [if_neg c9] at h
            rw [if_neg c9]
            exact sgX9_book_b108 (fX9_book_h57 N) (gX9_book_h57 N) ih _ _ _ _ _ _ hw8.2 h
      · rw [if_neg c2] at h
        rw [if_neg c2]
        exact sgX9_book_b114  _ _ _ _ _ hw h
    · rw [if_neg c1] at h
      rw [if_neg c1]
      exact sgX9_book_b114  _ _ _ _ _ hw h
set_option maxRecDepth 100000 in
theorem sgX9_book_h17 {sc : k_SC} : ∀ (N : Nat) (A : k_H) (v1 v2 : Int) (r : Int) (A' : k_H), k_Wf sc A → gX9_book_h17 N A v1 v2 = some (r, A') → fX9_book_h17 N A 120 v1 v2 = some (r, A') ∧ k_Wf sc A' := by
  intro N
  induction N with
  | zero => intro A v1 v2 r A' hw  h; exact absurd h (by simp [gX9_book_h17])
  | succ N ih =>
    intro A v1 v2 r A' hw  h
    rw [gX9_book_h17] at h
    rw [fX9_book_h17]
    by_cases c1 : v2 < 14
    · rw [if_pos c1] at h
      rw [if_pos c1]
      rw [if_pos (k_wO hw k_K120)]
      try rw [k_p9_24 hw]
      obtain ⟨hc2, h⟩ := k_pk h
      rw [if_pos (k_wA hw (k_R139) hc2)]
      obtain ⟨A3, eA4, h⟩ := k_pl h
      have hw5 := k_wE eA4 (k_wa hw k_R139 (by decide))
      refine k_ltg eA4 ?_
      try rw [k_p9_25 hw5]
      obtain ⟨hc6, h⟩ := k_pk h
      rw [if_pos (k_wA hw5 (k_R140) hc6)]
      obtain ⟨A7, eA8, h⟩ := k_pl h
      have hw9 := k_wE eA8 (k_wa hw5 k_R140 (by decide))
      refine k_ltg eA8 ?_
      exact ih _ _ _ _ _ hw9 h
    · rw [if_neg c1] at h
      rw [if_neg c1]
      exact sgX9_book_h57  _ _ _ _ _ _ _ hw h
set_option maxRecDepth 100000 in
theorem sgX9_book_b0 {sc : k_SC} (A : k_H) (v1 : Int) (r : Int) (A' : k_H) (hw : k_Wf sc A) (h : gX9_book_b0 A v1 = some (r, A')) : fX9_book_b0 A 120 v1 = some (r, A') ∧ k_Wf sc A' := by
  unfold gX9_book_b0 at h
  unfold fX9_book_b0
  rw [if_pos (k_wO hw k_K120)]
  obtain ⟨A1, eA2, h⟩ := k_pl h
  have hw3 := k_wE eA2 (k_wo hw k_K120 0 (by decide))
  refine k_ltg eA2 ?_
  obtain ⟨r4, A5, hq6, h⟩ := k_pb h
  have hw7 := sgX9_isShow hw3  hq6
  rw [hw7.1]
  rw [k_bds]
  by_cases c8 : r4 = 0
  · rw [if_pos c8] at h
    rw [if_pos c8]
    obtain ⟨rfl, rfl⟩ := k_pr h
    exact ⟨rfl, hw7.2⟩
  · rw [if_neg c8] at h
    rw [if_neg c8]
    exact sgX9_book_h17  _ _ _ _ _ _ hw7.2 h
theorem sgX9_book {sc : k_SC} {A : k_H} {x1 : Int} {r : Int} {A' : k_H} (hw : k_Wf sc A) (h : gX9_book A x1 = some (r, A')) : fX9_book A 120 x1 = some (r, A') ∧ k_Wf sc A' :=
  sgX9_book_b0 _ _ _ _ hw h
/-! X9_snow -/
def gX9_snow_b165 (k99g : k_H → Int → Int → Int → Option (Int × k_H)) (A : k_H) (v1 v3 v4 : Int) : Option (Int × k_H) := k99g A v1 v3 (k_wr (v4 + 1))
def gX9_snow_b58 (k30g : k_H → Int → Int → Int → Int → Option (Int × k_H)) (A : k_H) (v1 v2 v3 v4 : Int) : Option (Int × k_H) := k30g A v1 v2 v3 (k_wr (v4 + 1))
def gX9_snow_h99 : Nat → k_H → Int → Int → Int → Option (Int × k_H)
  | 0, _, _, _, _ => none
  | N + 1, A, v1, v3, v4 => if 0 ≤ v3 ∧ v3 < ((6 : Nat) : Int) then (if v4 ≤ (k_rd A 133 v3) then (if 0 ≤ k_wr (k_wr (14 * v3) + v4) ∧ k_wr (k_wr (14 * v3) + v4) < ((84 : Nat) : Int) then (if 0 ≤ (k_rd A 139 (k_wr (k_wr (14 * v3) + v4))) then (gX9_snow_b165 (gX9_snow_h99 N) A v1 v3 v4) else (k_lt (k_wt A 139 (k_wr (k_wr (14 * v3) + v4)) v1) fun A5 => k_bd (gX9_isLawful A5 v3) fun r8 A9 => if r8 = 0 then (k_lt (k_wt A9 139 (k_wr (k_wr (14 * v3) + v4)) (-1)) fun A13 => gX9_snow_b165 (gX9_snow_h99 N) A13 v1 v3 v4) else (some (v4, A9)))) else none) else (some ((-2), A))) else none
def gX9_snow_h30 : Nat → k_H → Int → Int → Int → Int → Option (Int × k_H)
  | 0, _, _, _, _, _ => none
  | N + 1, A, v1, v2, v3, v4 => if v4 < (k_rd A 120 21) then (if 0 ≤ k_wr (k_wr (14 * v4) + v2) ∧ k_wr (k_wr (14 * v4) + v2) < ((84 : Nat) : Int) then (if (k_rd A 139 (k_wr (k_wr (14 * v4) + v2))) = v1 then (gX9_snow_b58 (gX9_snow_h30 N) A v1 v2 v4 v4) else (gX9_snow_b58 (gX9_snow_h30 N) A v1 v2 v3 v4)) else none) else (if v3 < 0 then (some ((-1), A)) else (if 0 ≤ k_wr (k_wr (14 * v3) + v2) ∧ k_wr (k_wr (14 * v3) + v2) < ((84 : Nat) : Int) then (k_lt (k_wt A 139 (k_wr (k_wr (14 * v3) + v2)) (-1)) fun A4 => if 0 ≤ k_wr (k_wr (14 * v3) + v2) ∧ k_wr (k_wr (14 * v3) + v2) < ((84 : Nat) : Int) then (k_lt (k_wt A4 140 (k_wr (k_wr (14 * v3) + v2)) (-1)) fun A8 => gX9_snow_h99 k_FU A8 v1 v3 (k_wr (v2 + 1))) else none) else none))
def gX9_snow_b0 (A : k_H) (v1 v2 : Int) : Option (Int × k_H) := k_lt (k_wt A 120 0 0) fun A1 => k_bd (gX9_isHall A1 v1) fun r4 A5 => if r4 = 0 then (some ((-1), A5)) else (k_bd (gX9_isIn A5 v2 0 13) fun r9 A10 => if r9 = 0 then (some ((-1), A10)) else (gX9_snow_h30 k_FU A10 v1 v2 (-1) 0))
def gX9_snow (A : k_H) (x1 x2 : Int) : Option (Int × k_H) := gX9_snow_b0 A x1 x2
set_option maxRecDepth 100000 in
theorem sgX9_snow_b165 {sc : k_SC} (k99f : k_H → Int → Int → Int → Int → Option (Int × k_H)) (k99g : k_H → Int → Int → Int → Option (Int × k_H)) (hk99 : ∀ (A : k_H) (v1 v3 v4 : Int) (r : Int) (A' : k_H), k_Wf sc A → k99g A v1 v3 v4 = some (r, A') → k99f A 120 v1 v3 v4 = some (r, A') ∧ k_Wf sc A') (A : k_H) (v1 v3 v4 : Int) (r : Int) (A' : k_H) (hw : k_Wf sc A) (h : gX9_snow_b165 k99g A v1 v3 v4 = some (r, A')) : fX9_snow_b165 k99f A 120 v1 v3 v4 = some (r, A') ∧ k_Wf sc A' := by
  unfold gX9_snow_b165 at h
  unfold fX9_snow_b165
  exact hk99 _ _ _ _ _ _ hw h
set_option maxRecDepth 100000 in
theorem sgX9_snow_b58 {sc : k_SC} (k30f : k_H → Int → Int → Int → Int → Int → Option (Int × k_H)) (k30g : k_H → Int → Int → Int → Int → Option (Int × k_H)) (hk30 : ∀ (A : k_H) (v1 v2 v3 v4 : Int) (r : Int) (A' : k_H), k_Wf sc A → k30g A v1 v2 v3 v4 = some (r, A') → k30f A 120 v1 v2 v3 v4 = some (r, A') ∧ k_Wf sc A') (A : k_H) (v1 v2 v3 v4 : Int) (r : Int) (A' : k_H) (hw : k_Wf sc A) (h : gX9_snow_b58 k30g A v1 v2 v3 v4 = some (r, A')) : fX9_snow_b58 k30f A 120 v1 v2 v3 v4 = some (r, A') ∧ k_Wf sc A' := by
  unfold gX9_snow_b58 at h
  unfold fX9_snow_b58
  exact hk30 _ _ _ _ _ _ _ hw h
set_option maxRecDepth 100000 in
theorem sgX9_snow_h99 {sc : k_SC} : ∀ (N : Nat) (A : k_H) (v1 v3 v4 : Int) (r : Int) (A' : k_H), k_Wf sc A → gX9_snow_h99 N A v1 v3 v4 = some (r, A') → fX9_snow_h99 N A 120 v1 v3 v4 = some (r, A') ∧ k_Wf sc A' := by
  intro N
  induction N with
  | zero => intro A v1 v3 v4 r A' hw  h; exact absurd h (by simp [gX9_snow_h99])
  | succ N ih =>
    intro A v1 v3 v4 r A' hw  h
    rw [gX9_snow_h99] at h
    rw [fX9_snow_h99]
    rw [if_pos (k_wO hw k_K120)]
    try rw [k_p9_16 hw]
    obtain ⟨hc1, h⟩ := k_pk h
    rw [if_pos (k_wA hw (k_R133) hc1)]
    by_cases c2 : v4 ≤ (k_rd A 133 v3)
    · rw [if_pos c2] at h
      rw [if_pos c2]
      try rw [k_p9_24 hw]
      obtain ⟨hc3, h⟩ := k_pk h
      rw [if_pos (k_wA hw (k_R139) hc3)]
      by_cases c4 : 0 ≤ (k_rd A 139 (k_wr (k_wr (14 * v3) + v4)))
      · rw [if_pos c4] at h
        rw [if_pos c4]
        exact sgX9_snow_b165 (fX9_snow_h99 N) (gX9_snow_h99 N) ih _ _ _ _ _ _ hw h
      · rw [if_neg c4] at h
        rw [if_neg c4]
        try rw [k_p9_24 hw]
        obtain ⟨A5, eA6, h⟩ := k_pl h
        have hw7 := k_wE eA6 (k_wa hw k_R139 (by decide))
        refine k_ltg eA6 ?_
        obtain ⟨r8, A9, hq10, h⟩ := k_pb h
        have hw11 := sgX9_isLawful hw7  hq10
        rw [hw11.1]
        rw [k_bds]
        by_cases c12 : r8 = 0
        · rw [if_pos c12] at h
          rw [if_pos c12]
          rw [if_pos (k_wO hw11.2 k_K120)]
          try rw [k_p9_24 hw11.2]
          rw [if_pos (k_wA hw11.2 (k_R139) hc3)]
          obtain ⟨A13, eA14, h⟩ := k_pl h
          have hw15 := k_wE eA14 (k_wa hw11.2 k_R139 (by decide))
          refine k_ltg eA14 ?_
          exact sgX9_snow_b165 (fX9_snow_h99 N) (gX9_snow_h99 N) ih _ _ _ _ _ _ hw15 h
        · rw [if_neg c12] at h
          rw [if_neg c12]
          obtain ⟨rfl, rfl⟩ := k_pr h
          exact ⟨rfl, hw11.2⟩
    · rw [if_neg c2] at h
      rw [if_neg c2]
      obtain ⟨rfl, rfl⟩ := k_pr h
      exact ⟨rfl, hw⟩
set_option maxRecDepth 100000 in
theorem sgX9_snow_h30 {sc : k_SC} : ∀ (N : Nat) (A : k_H) (v1 v2 v3 v4 : Int) (r : Int) (A' : k_H), k_Wf sc A → gX9_snow_h30 N A v1 v2 v3 v4 = some (r, A') → fX9_snow_h30 N A 120 v1 v2 v3 v4 = some (r, A') ∧ k_Wf sc A' := by
  intro N
  induction N with
  | zero => intro A v1 v2 v3 v4 r A' hw  h; exact absurd h (by simp [gX9_snow_h30])
  | succ N ih =>
    intro A v1 v2 v3 v4 r A' hw  h
    rw [gX9_snow_h30] at h
    rw [fX9_snow_h30]
    rw [if_pos (k_wO hw k_K120)]
    by_cases c1 : v4 < (k_rd A 120 21)
    · rw [if_pos c1] at h
      rw [if_pos c1]
      try rw [k_p9_24 hw]
      obtain ⟨hc11, h⟩ := k_pk h
      rw [if_pos (k_wA hw (k_R139) hc11)]
      by_cases c12 : (k_rd A 139 (k_wr (k_wr (14 * v4) + v2))) = v1
      · rw [if_pos c12] at h
        rw [if_pos c12]
        exact sgX9_snow_b58 (fX9_snow_h30 N) (gX9_snow_h30 N) ih _ _ _ _ _ _ _ hw h
      · rw [if_neg c12] at h
        rw [if_neg c12]
        exact sgX9_snow_b58 (fX9_snow_h30 N) (gX9_snow_h30 N) ih _ _ _ _ _ _ _ hw h
    · rw [if_neg c1] at h
      rw [if_neg c1]
      by_cases c2 : v3 < 0
      · rw [if_pos c2] at h
        rw [if_pos c2]
        obtain ⟨rfl, rfl⟩ := k_pr h
        exact ⟨rfl, hw⟩
      · rw [if_neg c2] at h
        rw [if_neg c2]
        try rw [k_p9_24 hw]
        obtain ⟨hc3, h⟩ := k_pk h
        rw [if_pos (k_wA hw (k_R139) hc3)]
        obtain ⟨A4, eA5, h⟩ := k_pl h
        have hw6 := k_wE eA5 (k_wa hw k_R139 (by decide))
        refine k_ltg eA5 ?_
        try rw [k_p9_25 hw6]
        obtain ⟨hc7, h⟩ := k_pk h
        rw [if_pos (k_wA hw6 (k_R140) hc7)]
        obtain ⟨A8, eA9, h⟩ := k_pl h
        have hw10 := k_wE eA9 (k_wa hw6 k_R140 (by decide))
        refine k_ltg eA9 ?_
        exact sgX9_snow_h99  _ _ _ _ _ _ _ hw10 h
set_option maxRecDepth 100000 in
theorem sgX9_snow_b0 {sc : k_SC} (A : k_H) (v1 v2 : Int) (r : Int) (A' : k_H) (hw : k_Wf sc A) (h : gX9_snow_b0 A v1 v2 = some (r, A')) : fX9_snow_b0 A 120 v1 v2 = some (r, A') ∧ k_Wf sc A' := by
  unfold gX9_snow_b0 at h
  unfold fX9_snow_b0
  rw [if_pos (k_wO hw k_K120)]
  obtain ⟨A1, eA2, h⟩ := k_pl h
  have hw3 := k_wE eA2 (k_wo hw k_K120 0 (by decide))
  refine k_ltg eA2 ?_
  obtain ⟨r4, A5, hq6, h⟩ := k_pb h
  have hw7 := sgX9_isHall hw3  hq6
  rw [hw7.1]
  rw [k_bds]
  by_cases c8 : r4 = 0
  · rw [if_pos c8] at h
    rw [if_pos c8]
    obtain ⟨rfl, rfl⟩ := k_pr h
    exact ⟨rfl, hw7.2⟩
  · rw [if_neg c8] at h
    rw [if_neg c8]
    obtain ⟨r9, A10, hq11, h⟩ := k_pb h
    have hw12 := sgX9_isIn hw7.2  hq11
    rw [hw12.1]
    rw [k_bds]
    by_cases c13 : r9 = 0
    · rw [if_pos c13] at h
      rw [if_pos c13]
      obtain ⟨rfl, rfl⟩ := k_pr h
      exact ⟨rfl, hw12.2⟩
    · rw [if_neg c13] at h
      rw [if_neg c13]
      exact sgX9_snow_h30  _ _ _ _ _ _ _ _ hw12.2 h
theorem sgX9_snow {sc : k_SC} {A : k_H} {x1 x2 : Int} {r : Int} {A' : k_H} (hw : k_Wf sc A) (h : gX9_snow A x1 x2 = some (r, A')) : fX9_snow A 120 x1 x2 = some (r, A') ∧ k_Wf sc A' :=
  sgX9_snow_b0 _ _ _ _ _ hw h
/-! X9_behind -/
def gX9_behind_b0 (A : k_H) (v1 : Int) : Option (Int × k_H) := k_bd (gX9_isWord A v1) fun r1 A2 => if r1 = 0 then (k_bd (gX9_cant A2) fun r10 A11 => if r10 = 0 ∨ r10 = 1 then (some (r10, A11)) else none) else (k_bd (gX9_next A2) fun r6 A7 => some (1, A7))
def gX9_behind (A : k_H) (x1 : Int) : Option (Int × k_H) := gX9_behind_b0 A x1
set_option maxRecDepth 100000 in
theorem sgX9_behind_b0 {sc : k_SC} (A : k_H) (v1 : Int) (r : Int) (A' : k_H) (hw : k_Wf sc A) (h : gX9_behind_b0 A v1 = some (r, A')) : fX9_behind_b0 A 120 v1 = some (r, A') ∧ k_Wf sc A' := by
  unfold gX9_behind_b0 at h
  unfold fX9_behind_b0
  rw [if_pos (k_wO hw k_K120)]
  obtain ⟨r1, A2, hq3, h⟩ := k_pb h
  have hw4 := sgX9_isWord hw  hq3
  rw [hw4.1]
  rw [k_bds]
  by_cases c5 : r1 = 0
  · rw [if_pos c5] at h
    rw [if_pos c5]
    rw [if_pos (k_wO hw4.2 k_K120)]
    obtain ⟨r10, A11, hq12, h⟩ := k_pb h
    have hw13 := sgX9_cant hw4.2  hq12
    rw [hw13.1]
    rw [k_bds]
    obtain ⟨hc14, h⟩ := k_pk h
    rw [if_pos hc14]
    obtain ⟨rfl, rfl⟩ := k_pr h
    exact ⟨rfl, hw13.2⟩
  · rw [if_neg c5] at h
    rw [if_neg c5]
    rw [if_pos (k_wO hw4.2 k_K120)]
    obtain ⟨r6, A7, hq8, h⟩ := k_pb h
    have hw9 := sgX9_next hw4.2  hq8
    rw [hw9.1]
    rw [k_bds]
    obtain ⟨rfl, rfl⟩ := k_pr h
    exact ⟨rfl, hw9.2⟩
theorem sgX9_behind {sc : k_SC} {A : k_H} {x1 : Int} {r : Int} {A' : k_H} (hw : k_Wf sc A) (h : gX9_behind A x1 = some (r, A')) : fX9_behind A 120 x1 = some (r, A') ∧ k_Wf sc A' :=
  sgX9_behind_b0 _ _ _ _ hw h
/-! X9_take -/
def gX9_take_b29 (A : k_H) : Option (Int × k_H) := k_bd (gX9_wrong A 3 (k_rd A 120 37)) fun r1 A2 => if r1 = 0 ∨ r1 = 1 then (some (r1, A2)) else none
def gX9_take_b0 (A : k_H) (v1 v2 v3 : Int) : Option (Int × k_H) := if (k_rd A 120 36) = 2 then (if (k_rd A 120 38) ≤ v2 then (if (k_rd A 120 38) ≤ v3 then (gX9_take_b29 A) else (if 0 ≤ k_wr (72 + v1) ∧ k_wr (72 + v1) < ((84 : Nat) : Int) then (k_lt (k_wt A 150 (k_wr (72 + v1)) (k_rd A 120 38)) fun A5 => k_bd (gX9_next A5) fun r8 A9 => some (1, A9)) else none)) else (gX9_take_b29 A)) else (k_bd (gX9_cant A) fun r12 A13 => if r12 = 0 ∨ r12 = 1 then (some (r12, A13)) else none)
def gX9_take (A : k_H) (x1 x2 x3 : Int) : Option (Int × k_H) := gX9_take_b0 A x1 x2 x3
set_option maxRecDepth 100000 in
theorem sgX9_take_b29 {sc : k_SC} (A : k_H) (r : Int) (A' : k_H) (hw : k_Wf sc A) (h : gX9_take_b29 A = some (r, A')) : fX9_take_b29 A 120 = some (r, A') ∧ k_Wf sc A' := by
  unfold gX9_take_b29 at h
  unfold fX9_take_b29
  rw [if_pos (k_wO hw k_K120)]
  obtain ⟨r1, A2, hq3, h⟩ := k_pb h
  have hw4 := sgX9_wrong hw  hq3
  rw [hw4.1]
  rw [k_bds]
  obtain ⟨hc5, h⟩ := k_pk h
  rw [if_pos hc5]
  obtain ⟨rfl, rfl⟩ := k_pr h
  exact ⟨rfl, hw4.2⟩
set_option maxRecDepth 100000 in
theorem sgX9_take_b0 {sc : k_SC} (A : k_H) (v1 v2 v3 : Int) (r : Int) (A' : k_H) (hw : k_Wf sc A) (h : gX9_take_b0 A v1 v2 v3 = some (r, A')) : fX9_take_b0 A 120 v1 v2 v3 = some (r, A') ∧ k_Wf sc A' := by
  unfold gX9_take_b0 at h
  unfold fX9_take_b0
  rw [if_pos (k_wO hw k_K120)]
  by_cases c1 : (k_rd A 120 36) = 2
  · rw [if_pos c1] at h
    rw [if_pos c1]
    by_cases c2 : (k_rd A 120 38) ≤ v2
    · rw [if_pos c2] at h
      rw [if_pos c2]
      by_cases c3 : (k_rd A 120 38) ≤ v3
      · rw [if_pos c3] at h
        rw [if_pos c3]
        exact sgX9_take_b29  _ _ _ hw h
      · rw [if_neg c3] at h
        rw [if_neg c3]
        try rw [k_p9_35 hw]
        obtain ⟨hc4, h⟩ := k_pk h
        rw [if_pos (k_wA hw (k_R150) hc4)]
        obtain ⟨A5, eA6, h⟩ := k_pl h
        have hw7 := k_wE eA6 (k_wa hw k_R150 (by decide))
        refine k_ltg eA6 ?_
        obtain ⟨r8, A9, hq10, h⟩ := k_pb h
        have hw11 := sgX9_next hw7  hq10
        rw [hw11.1]
        rw [k_bds]
        obtain ⟨rfl, rfl⟩ := k_pr h
        exact ⟨rfl, hw11.2⟩
    · rw [if_neg c2] at h
      rw [if_neg c2]
      exact sgX9_take_b29  _ _ _ hw h
  · rw [if_neg c1] at h
    rw [if_neg c1]
    obtain ⟨r12, A13, hq14, h⟩ := k_pb h
    have hw15 := sgX9_cant hw  hq14
    rw [hw15.1]
    rw [k_bds]
    obtain ⟨hc16, h⟩ := k_pk h
    rw [if_pos hc16]
    obtain ⟨rfl, rfl⟩ := k_pr h
    exact ⟨rfl, hw15.2⟩
theorem sgX9_take {sc : k_SC} {A : k_H} {x1 x2 x3 : Int} {r : Int} {A' : k_H} (hw : k_Wf sc A) (h : gX9_take A x1 x2 x3 = some (r, A')) : fX9_take A 120 x1 x2 x3 = some (r, A') ∧ k_Wf sc A' :=
  sgX9_take_b0 _ _ _ _ _ _ hw h
/-! X9_shared -/
def gX9_shared_b47 (A : k_H) (v1 v2 v3 s1 : Int) : Option (Int × k_H) := k_bd (gX9_throwsIf A s1) fun r1 A2 => if r1 = 0 then (if 0 ≤ k_wr (k_wr (14 * v1) + v2) ∧ k_wr (k_wr (14 * v1) + v2) < ((84 : Nat) : Int) then (k_bd (gX9_shareOf A2 v1 (k_rd A2 140 (k_wr (k_wr (14 * v1) + v2))) v3) fun r7 A8 => some (r7, A8)) else none) else (some (0, A2))
def gX9_shared_b42 (A : k_H) (v1 v2 v3 : Int) : Option (Int × k_H) := gX9_shared_b47 A v1 v2 v3 1
def gX9_shared_b0 (A : k_H) (v1 v2 v3 : Int) : Option (Int × k_H) := k_bd (gX9_isShow A v1) fun r1 A2 => if r1 = 0 then (gX9_shared_b42 A2 v1 v2 v3) else (k_bd (gX9_isIn A2 v2 0 13) fun r6 A7 => if r6 = 0 then (gX9_shared_b42 A7 v1 v2 v3) else (if 0 ≤ k_wr (k_wr (14 * v1) + v2) ∧ k_wr (k_wr (14 * v1) + v2) < ((84 : Nat) : Int) then (if 0 ≤ (k_rd A7 140 (k_wr (k_wr (14 * v1) + v2))) then (k_bd (gX9_isIn A7 v3 0 3) fun r13 A14 => if r13 = 0 then (gX9_shared_b42 A14 v1 v2 v3) else (gX9_shared_b47 A14 v1 v2 v3 0)) else (gX9_shared_b42 A7 v1 v2 v3)) else none))
def gX9_shared (A : k_H) (x1 x2 x3 : Int) : Option (Int × k_H) := gX9_shared_b0 A x1 x2 x3
set_option maxRecDepth 100000 in
theorem sgX9_shared_b47 {sc : k_SC} (A : k_H) (v1 v2 v3 s1 : Int) (r : Int) (A' : k_H) (hw : k_Wf sc A) (h : gX9_shared_b47 A v1 v2 v3 s1 = some (r, A')) : fX9_shared_b47 A 120 v1 v2 v3 120 s1 = some (r, A') ∧ k_Wf sc A' := by
  unfold gX9_shared_b47 at h
  unfold fX9_shared_b47
  rw [if_pos (k_wO hw k_K120)]
  obtain ⟨r1, A2, hq3, h⟩ := k_pb h
  have hw4 := sgX9_throwsIf hw  hq3
  rw [hw4.1]
  rw [k_bds]
  by_cases c5 : r1 = 0
  · rw [if_pos c5] at h
    rw [if_pos c5]
    rw [if_pos (k_wO hw4.2 k_K120)]
    try rw [k_p9_25 hw4.2]
    obtain ⟨hc6, h⟩ := k_pk h
    rw [if_pos (k_wA hw4.2 (k_R140) hc6)]
    obtain ⟨r7, A8, hq9, h⟩ := k_pb h
    have hw10 := sgX9_shareOf hw4.2  hq9
    rw [hw10.1]
    rw [k_bds]
    obtain ⟨rfl, rfl⟩ := k_pr h
    exact ⟨rfl, hw10.2⟩
  · rw [if_neg c5] at h
    rw [if_neg c5]
    obtain ⟨rfl, rfl⟩ := k_pr h
    exact ⟨rfl, hw4.2⟩
set_option maxRecDepth 100000 in
theorem sgX9_shared_b42 {sc : k_SC} (A : k_H) (v1 v2 v3 : Int) (r : Int) (A' : k_H) (hw : k_Wf sc A) (h : gX9_shared_b42 A v1 v2 v3 = some (r, A')) : fX9_shared_b42 A 120 v1 v2 v3 120 = some (r, A') ∧ k_Wf sc A' := by
  unfold gX9_shared_b42 at h
  unfold fX9_shared_b42
  exact sgX9_shared_b47  _ _ _ _ _ _ _ hw h
set_option maxRecDepth 100000 in
theorem sgX9_shared_b0 {sc : k_SC} (A : k_H) (v1 v2 v3 : Int) (r : Int) (A' : k_H) (hw : k_Wf sc A) (h : gX9_shared_b0 A v1 v2 v3 = some (r, A')) : fX9_shared_b0 A 120 v1 v2 v3 = some (r, A') ∧ k_Wf sc A' := by
  unfold gX9_shared_b0 at h
  unfold fX9_shared_b0
  rw [if_pos (k_wO hw k_K120)]
  obtain ⟨r1, A2, hq3, h⟩ := k_pb h
  have hw4 := sgX9_isShow hw  hq3
  rw [hw4.1]
  rw [k_bds]
  by_cases c5 : r1 = 0
  · rw [if_pos c5] at h
    rw [if_pos c5]
    exact sgX9_shared_b42  _ _ _ _ _ _ hw4.2 h
  · rw [if_neg c5] at h
    rw [if_neg c5]
    obtain ⟨r6, A7, hq8, h⟩ := k_pb h
    have hw9 := sgX9_isIn hw4.2  hq8
    rw [hw9.1]
    rw [k_bds]
    by_cases c10 : r6 = 0
    · rw [if_pos c10] at h
      rw [if_pos c10]
      exact sgX9_shared_b42  _ _ _ _ _ _ hw9.2 h
    · rw [if_neg c10] at h
      rw [if_neg c10]
      rw [if_pos (k_wO hw9.2 k_K120)]
      try rw [k_p9_25 hw9.2]
      obtain ⟨hc11, h⟩ := k_pk h
      rw [if_pos (k_wA hw9.2 (k_R140) hc11)]
      by_cases c12 : 0 ≤ (k_rd A7 140 (k_wr (k_wr (14 * v1) + v2)))
      · rw [if_pos c12] at h
        rw [if_pos c12]
        obtain ⟨r13, A14, hq15, h⟩ := k_pb h
        have hw16 := sgX9_isIn hw9.2  hq15
        rw [hw16.1]
        rw [k_bds]
        by_cases c17 : r13 = 0
        · rw [if_pos c17] at h
          rw [if_pos c17]
          exact sgX9_shared_b42  _ _ _ _ _ _ hw16.2 h
        · rw [if_neg c17] at h
          rw [if_neg c17]
          exact sgX9_shared_b47  _ _ _ _ _ _ _ hw16.2 h
      · rw [if_neg c12] at h
        rw [if_neg c12]
        exact sgX9_shared_b42  _ _ _ _ _ _ hw9.2 h
theorem sgX9_shared {sc : k_SC} {A : k_H} {x1 x2 x3 : Int} {r : Int} {A' : k_H} (hw : k_Wf sc A) (h : gX9_shared A x1 x2 x3 = some (r, A')) : fX9_shared A 120 x1 x2 x3 = some (r, A') ∧ k_Wf sc A' :=
  sgX9_shared_b0 _ _ _ _ _ _ hw h
/-! X9_sum -/
def gX9_sum_b83 (k20g : k_H → Int → Int → Int → Option (Int × k_H)) (k31g : k_H → Int → Int → Int → Int → Option (Int × k_H)) (A : k_H) (v1 v2 v3 v4 : Int) : Option (Int × k_H) := k31g A v1 v2 v3 (k_wr (v4 + 1))
def gX9_sum_b81 (k20g : k_H → Int → Int → Int → Option (Int × k_H)) (k31g : k_H → Int → Int → Int → Int → Option (Int × k_H)) (A : k_H) (v1 v3 v4 s0 s1 : Int) : Option (Int × k_H) := gX9_sum_b83 k20g k31g A v1 (k_wr (s0 + s1)) v3 v4
def gX9_sum_h31 (k20g : k_H → Int → Int → Int → Option (Int × k_H)) : Nat → k_H → Int → Int → Int → Int → Option (Int × k_H)
  | 0, _, _, _, _, _ => none
  | N + 1, A, v1, v2, v3, v4 => if v4 < 14 then (if 0 ≤ k_wr (k_wr (14 * v3) + v4) ∧ k_wr (k_wr (14 * v3) + v4) < ((84 : Nat) : Int) then (if 0 ≤ (k_rd A 140 (k_wr (k_wr (14 * v3) + v4))) then (if v1 = 4 then (gX9_sum_b81 k20g (gX9_sum_h31 k20g N) A v1 v3 v4 v2 1) else (k_bd (gX9_shareOf A v3 (k_rd A 140 (k_wr (k_wr (14 * v3) + v4))) v1) fun r5 A6 => gX9_sum_b81 k20g (gX9_sum_h31 k20g N) A6 v1 v3 v4 v2 r5)) else (gX9_sum_b83 k20g (gX9_sum_h31 k20g N) A v1 v2 v3 v4)) else none) else (k20g A v1 v2 (k_wr (v3 + 1)))
def gX9_sum_h20 : Nat → k_H → Int → Int → Int → Option (Int × k_H)
  | 0, _, _, _, _ => none
  | N + 1, A, v1, v2, v3 => if v3 < (k_rd A 120 21) then (gX9_sum_h31 (gX9_sum_h20 N) k_FU A v1 v2 v3 0) else (some (v2, A))
def gX9_sum_b0 (A : k_H) (v1 : Int) : Option (Int × k_H) := k_lt (k_wt A 120 0 0) fun A1 => k_bd (gX9_isIn A1 v1 0 4) fun r4 A5 => if r4 = 0 then (some ((-1), A5)) else (gX9_sum_h20 k_FU A5 v1 0 0)
def gX9_sum (A : k_H) (x1 : Int) : Option (Int × k_H) := gX9_sum_b0 A x1
set_option maxRecDepth 100000 in
theorem sgX9_sum_b83 {sc : k_SC} (k20f : k_H → Int → Int → Int → Int → Option (Int × k_H)) (k20g : k_H → Int → Int → Int → Option (Int × k_H)) (hk20 : ∀ (A : k_H) (v1 v2 v3 : Int) (r : Int) (A' : k_H), k_Wf sc A → k20g A v1 v2 v3 = some (r, A') → k20f A 120 v1 v2 v3 = some (r, A') ∧ k_Wf sc A') (k31f : k_H → Int → Int → Int → Int → Int → Option (Int × k_H)) (k31g : k_H → Int → Int → Int → Int → Option (Int × k_H)) (hk31 : ∀ (A : k_H) (v1 v2 v3 v4 : Int) (r : Int) (A' : k_H), k_Wf sc A → k31g A v1 v2 v3 v4 = some (r, A') → k31f A 120 v1 v2 v3 v4 = some (r, A') ∧ k_Wf sc A') (A : k_H) (v1 v2 v3 v4 : Int) (r : Int) (A' : k_H) (hw : k_Wf sc A) (h : gX9_sum_b83 k20g k31g A v1 v2 v3 v4 = some (r, A')) : fX9_sum_b83 k20f k31f A 120 v1 v2 v3 v4 = some (r, A') ∧ k_Wf sc A' := by
  unfold gX9_sum_b83 at h
  unfold fX9_sum_b83
  exact hk31 _ _ _ _ _ _ _ hw h
set_option maxRecDepth 100000 in
theorem sgX9_sum_b81 {sc : k_SC} (k20f : k_H → Int → Int → Int → Int → Option (Int × k_H)) (k20g : k_H → Int → Int → Int → Option (Int × k_H)) (hk20 : ∀ (A : k_H) (v1 v2 v3 : Int) (r : Int) (A' : k_H), k_Wf sc A → k20g A v1 v2 v3 = some (r, A') → k20f A 120 v1 v2 v3 = some (r, A') ∧ k_Wf sc A') (k31f : k_H → Int → Int → Int → Int → Int → Option (Int × k_H)) (k31g : k_H → Int → Int → Int → Int → Option (Int × k_H)) (hk31 : ∀ (A : k_H) (v1 v2 v3 v4 : Int) (r : Int) (A' : k_H), k_Wf sc A → k31g A v1 v2 v3 v4 = some (r, A') → k31f A 120 v1 v2 v3 v4 = some (r, A') ∧ k_Wf sc A') (A : k_H) (v1 v3 v4 s0 s1 : Int) (r : Int) (A' : k_H) (hw : k_Wf sc A) (h : gX9_sum_b81 k20g k31g A v1 v3 v4 s0 s1 = some (r, A')) : fX9_sum_b81 k20f k31f A 120 v1 v3 v4 s0 s1 = some (r, A') ∧ k_Wf sc A' := by
  unfold gX9_sum_b81 at h
  unfold fX9_sum_b81
  exact sgX9_sum_b83 k20f k20g hk20 k31f k31g hk31 _ _ _ _ _ _ _ hw h
set_option maxRecDepth 100000 in
theorem sgX9_sum_h31 {sc : k_SC} (k20f : k_H → Int → Int → Int → Int → Option (Int × k_H)) (k20g : k_H → Int → Int → Int → Option (Int × k_H)) (hk20 : ∀ (A : k_H) (v1 v2 v3 : Int) (r : Int) (A' : k_H), k_Wf sc A → k20g A v1 v2 v3 = some (r, A') → k20f A 120 v1 v2 v3 = some (r, A') ∧ k_Wf sc A') : ∀ (N : Nat) (A : k_H) (v1 v2 v3 v4 : Int) (r : Int) (A' : k_H), k_Wf sc A → gX9_sum_h31 k20g N A v1 v2 v3 v4 = some (r, A') → fX9_sum_h31 k20f N A 120 v1 v2 v3 v4 = some (r, A') ∧ k_Wf sc A' := by
  intro N
  induction N with
  | zero => intro A v1 v2 v3 v4 r A' hw  h; exact absurd h (by simp [gX9_sum_h31])
  | succ N ih =>
    intro A v1 v2 v3 v4 r A' hw  h
    rw [gX9_sum_h31] at h
    rw [fX9_sum_h31]
    by_cases c1 : v4 < 14
    · rw [if_pos c1] at h
      rw [if_pos c1]
      rw [if_pos (k_wO hw k_K120)]
      try rw [k_p9_25 hw]
      obtain ⟨hc2, h⟩ := k_pk h
      rw [if_pos (k_wA hw (k_R140) hc2)]
      by_cases c3 : 0 ≤ (k_rd A 140 (k_wr (k_wr (14 * v3) + v4)))
      · rw [if_pos c3] at h
        rw [if_pos c3]
        by_cases c4 : v1 = 4
        · rw [if_pos c4] at h
          rw [if_pos c4]
          exact sgX9_sum_b81 k20f k20g hk20 (fX9_sum_h31 k20f N) (gX9_sum_h31 k20g N) ih _ _ _ _ _ _ _ _ hw h
        · rw [if_neg c4] at h
          rw [if_neg c4]
          try rw [k_p9_25 hw]
          obtain ⟨r5, A6, hq7, h⟩ := k_pb h
          have hw8 := sgX9_shareOf hw  hq7
          rw [hw8.1]
          rw [k_bds]
          exact sgX9_sum_b81 k20f k20g hk20 (fX9_sum_h31 k20f N) (gX9_sum_h31 k20g N) ih _ _ _ _ _ _ _ _ hw8.2 h
      · rw [if_neg c3] at h
        rw [if_neg c3]
        exact sgX9_sum_b83 k20f k20g hk20 (fX9_sum_h31 k20f N) (gX9_sum_h31 k20g N) ih _ _ _ _ _ _ _ hw h
    · rw [if_neg c1] at h
      rw [if_neg c1]
      exact hk20 _ _ _ _ _ _ hw h
set_option maxRecDepth 100000 in
theorem sgX9_sum_h20 {sc : k_SC} : ∀ (N : Nat) (A : k_H) (v1 v2 v3 : Int) (r : Int) (A' : k_H), k_Wf sc A → gX9_sum_h20 N A v1 v2 v3 = some (r, A') → fX9_sum_h20 N A 120 v1 v2 v3 = some (r, A') ∧ k_Wf sc A' := by
  intro N
  induction N with
  | zero => intro A v1 v2 v3 r A' hw  h; exact absurd h (by simp [gX9_sum_h20])
  | succ N ih =>
    intro A v1 v2 v3 r A' hw  h
    rw [gX9_sum_h20] at h
    rw [fX9_sum_h20]
    rw [if_pos (k_wO hw k_K120)]
    by_cases c1 : v3 < (k_rd A 120 21)
    · rw [if_pos c1] at h
      rw [if_pos c1]
      exact sgX9_sum_h31 (fX9_sum_h20 N) (gX9_sum_h20 N) ih _ _ _ _ _ _ _ _ hw h
    · rw [if_neg c1] at h
      rw [if_neg c1]
      obtain ⟨rfl, rfl⟩ := k_pr h
      exact ⟨rfl, hw⟩
set_option maxRecDepth 100000 in
theorem sgX9_sum_b0 {sc : k_SC} (A : k_H) (v1 : Int) (r : Int) (A' : k_H) (hw : k_Wf sc A) (h : gX9_sum_b0 A v1 = some (r, A')) : fX9_sum_b0 A 120 v1 = some (r, A') ∧ k_Wf sc A' := by
  unfold gX9_sum_b0 at h
  unfold fX9_sum_b0
  rw [if_pos (k_wO hw k_K120)]
  obtain ⟨A1, eA2, h⟩ := k_pl h
  have hw3 := k_wE eA2 (k_wo hw k_K120 0 (by decide))
  refine k_ltg eA2 ?_
  obtain ⟨r4, A5, hq6, h⟩ := k_pb h
  have hw7 := sgX9_isIn hw3  hq6
  rw [hw7.1]
  rw [k_bds]
  by_cases c8 : r4 = 0
  · rw [if_pos c8] at h
    rw [if_pos c8]
    obtain ⟨rfl, rfl⟩ := k_pr h
    exact ⟨rfl, hw7.2⟩
  · rw [if_neg c8] at h
    rw [if_neg c8]
    exact sgX9_sum_h20  _ _ _ _ _ _ _ hw7.2 h
theorem sgX9_sum {sc : k_SC} {A : k_H} {x1 : Int} {r : Int} {A' : k_H} (hw : k_Wf sc A) (h : gX9_sum A x1 = some (r, A')) : fX9_sum A 120 x1 = some (r, A') ∧ k_Wf sc A' :=
  sgX9_sum_b0 _ _ _ _ hw h
/-! X9_keeps -/
def gX9_keeps_b96 (k26g : k_H → Int → Int → Int → Option (Int × k_H)) (k37g : k_H → Int → Int → Int → Int → Option (Int × k_H)) (A : k_H) (v1 v2 v3 v4 : Int) : Option (Int × k_H) := k37g A v1 v2 v3 (k_wr (v4 + 1))
def gX9_keeps_h37 (k26g : k_H → Int → Int → Int → Option (Int × k_H)) : Nat → k_H → Int → Int → Int → Int → Option (Int × k_H)
  | 0, _, _, _, _, _ => none
  | N + 1, A, v1, v2, v3, v4 => if v4 < 14 then (if 0 ≤ k_wr (k_wr (14 * v3) + v4) ∧ k_wr (k_wr (14 * v3) + v4) < ((84 : Nat) : Int) then (if 0 ≤ (k_rd A 140 (k_wr (k_wr (14 * v3) + v4))) then (if 0 ≤ k_wr (k_wr (14 * v3) + v4) ∧ k_wr (k_wr (14 * v3) + v4) < ((84 : Nat) : Int) then (if (k_rd A 139 (k_wr (k_wr (14 * v3) + v4))) = v1 then (k_bd (gX9_shareOf A v3 (k_rd A 140 (k_wr (k_wr (14 * v3) + v4))) 2) fun r6 A7 => gX9_keeps_b96 k26g (gX9_keeps_h37 k26g N) A7 v1 (k_wr (v2 + r6)) v3 v4) else (gX9_keeps_b96 k26g (gX9_keeps_h37 k26g N) A v1 v2 v3 v4)) else none) else (gX9_keeps_b96 k26g (gX9_keeps_h37 k26g N) A v1 v2 v3 v4)) else none) else (k26g A v1 v2 (k_wr (v3 + 1)))
def gX9_keeps_h26 : Nat → k_H → Int → Int → Int → Option (Int × k_H)
  | 0, _, _, _, _ => none
  | N + 1, A, v1, v2, v3 => if v3 < (k_rd A 120 21) then (gX9_keeps_h37 (gX9_keeps_h26 N) k_FU A v1 v2 v3 0) else (some (v2, A))
def gX9_keeps_b14 (A : k_H) (v1 s1 : Int) : Option (Int × k_H) := k_bd (gX9_throwsIf A s1) fun r1 A2 => if r1 = 0 then (gX9_keeps_h26 k_FU A2 v1 0 0) else (some (0, A2))
def gX9_keeps_b0 (A : k_H) (v1 : Int) : Option (Int × k_H) := k_bd (gX9_isHall A v1) fun r1 A2 => if r1 = 0 then (gX9_keeps_b14 A2 v1 1) else (gX9_keeps_b14 A2 v1 0)
def gX9_keeps (A : k_H) (x1 : Int) : Option (Int × k_H) := gX9_keeps_b0 A x1
set_option maxRecDepth 100000 in
theorem sgX9_keeps_b96 {sc : k_SC} (k26f : k_H → Int → Int → Int → Int → Option (Int × k_H)) (k26g : k_H → Int → Int → Int → Option (Int × k_H)) (hk26 : ∀ (A : k_H) (v1 v2 v3 : Int) (r : Int) (A' : k_H), k_Wf sc A → k26g A v1 v2 v3 = some (r, A') → k26f A 120 v1 v2 v3 = some (r, A') ∧ k_Wf sc A') (k37f : k_H → Int → Int → Int → Int → Int → Option (Int × k_H)) (k37g : k_H → Int → Int → Int → Int → Option (Int × k_H)) (hk37 : ∀ (A : k_H) (v1 v2 v3 v4 : Int) (r : Int) (A' : k_H), k_Wf sc A → k37g A v1 v2 v3 v4 = some (r, A') → k37f A 120 v1 v2 v3 v4 = some (r, A') ∧ k_Wf sc A') (A : k_H) (v1 v2 v3 v4 : Int) (r : Int) (A' : k_H) (hw : k_Wf sc A) (h : gX9_keeps_b96 k26g k37g A v1 v2 v3 v4 = some (r, A')) : fX9_keeps_b96 k26f k37f A 120 v1 v2 v3 v4 = some (r, A') ∧ k_Wf sc A' := by
  unfold gX9_keeps_b96 at h
  unfold fX9_keeps_b96
  exact hk37 _ _ _ _ _ _ _ hw h
set_option maxRecDepth 100000 in
theorem sgX9_keeps_h37 {sc : k_SC} (k26f : k_H → Int → Int → Int → Int → Option (Int × k_H)) (k26g : k_H → Int → Int → Int → Option (Int × k_H)) (hk26 : ∀ (A : k_H) (v1 v2 v3 : Int) (r : Int) (A' : k_H), k_Wf sc A → k26g A v1 v2 v3 = some (r, A') → k26f A 120 v1 v2 v3 = some (r, A') ∧ k_Wf sc A') : ∀ (N : Nat) (A : k_H) (v1 v2 v3 v4 : Int) (r : Int) (A' : k_H), k_Wf sc A → gX9_keeps_h37 k26g N A v1 v2 v3 v4 = some (r, A') → fX9_keeps_h37 k26f N A 120 v1 v2 v3 v4 = some (r, A') ∧ k_Wf sc A' := by
  intro N
  induction N with
  | zero => intro A v1 v2 v3 v4 r A' hw  h; exact absurd h (by simp [gX9_keeps_h37])
  | succ N ih =>
    intro A v1 v2 v3 v4 r A' hw  h
    rw [gX9_keeps_h37] at h
    rw [fX9_keeps_h37]
    by_cases c1 : v4 < 14
    · rw [if_pos c1] at h
      rw [if_pos c1]
      rw [if_pos (k_wO hw k_K120)]
      try rw [k_p9_25 hw]
      obtain ⟨hc2, h⟩ := k_pk h
      rw [if_pos (k_wA hw (k_R140) hc2)]
      by_cases c3 : 0 ≤ (k_rd A 140 (k_wr (k_wr (14 * v3) + v4)))
      · rw [if_pos c3] at h
        rw [if_pos c3]
        try rw [k_p9_24 hw]
        obtain ⟨hc4, h⟩ := k_pk h
        rw [if_pos (k_wA hw (k_R139) hc4)]
        by_cases c5 : (k_rd A 139 (k_wr (k_wr (14 * v3) + v4))) = v1
        · rw [if_pos c5] at h
          rw [if_pos c5]
          try rw [k_p9_25 hw]
          obtain ⟨r6, A7, hq8, h⟩ := k_pb h
          have hw9 := sgX9_shareOf hw  hq8
          rw [hw9.1]
          rw [k_bds]
          exact sgX9_keeps_b96 k26f k26g hk26 (fX9_keeps_h37 k26f N) (gX9_keeps_h37 k26g N) ih _ _ _ _ _ _ _ hw9.2 h
        · rw [if_neg c5] at h
          rw [if_neg c5]
          exact sgX9_keeps_b96 k26f k26g hk26 (fX9_keeps_h37 k26f N) (gX9_keeps_h37 k26g N) ih _ _ _ _ _ _ _ hw h
      · rw [if_neg c3] at h
        rw [if_neg c3]
        exact sgX9_keeps_b96 k26f k26g hk26 (fX9_keeps_h37 k26f N) (gX9_keeps_h37 k26g N) ih _ _ _ _ _ _ _ hw h
    · rw [if_neg c1] at h
      rw [if_neg c1]
      exact hk26 _ _ _ _ _ _ hw h
set_option maxRecDepth 100000 in
theorem sgX9_keeps_h26 {sc : k_SC} : ∀ (N : Nat) (A : k_H) (v1 v2 v3 : Int) (r : Int) (A' : k_H), k_Wf sc A → gX9_keeps_h26 N A v1 v2 v3 = some (r, A') → fX9_keeps_h26 N A 120 v1 v2 v3 = some (r, A') ∧ k_Wf sc A' := by
  intro N
  induction N with
  | zero => intro A v1 v2 v3 r A' hw  h; exact absurd h (by simp [gX9_keeps_h26])
  | succ N ih =>
    intro A v1 v2 v3 r A' hw  h
    rw [gX9_keeps_h26] at h
    rw [fX9_keeps_h26]
    rw [if_pos (k_wO hw k_K120)]
    by_cases c1 : v3 < (k_rd A 120 21)
    · rw [if_pos c1] at h
      rw [if_pos c1]
      exact sgX9_keeps_h37 (fX9_keeps_h26 N) (gX9_keeps_h26 N) ih _ _ _ _ _ _ _ _ hw h
    · rw [if_neg c1] at h
      rw [if_neg c1]
      obtain ⟨rfl, rfl⟩ := k_pr h
      exact ⟨rfl, hw⟩
set_option maxRecDepth 100000 in
theorem sgX9_keeps_b14 {sc : k_SC} (A : k_H) (v1 s1 : Int) (r : Int) (A' : k_H) (hw : k_Wf sc A) (h : gX9_keeps_b14 A v1 s1 = some (r, A')) : fX9_keeps_b14 A 120 v1 120 s1 = some (r, A') ∧ k_Wf sc A' := by
  unfold gX9_keeps_b14 at h
  unfold fX9_keeps_b14
  rw [if_pos (k_wO hw k_K120)]
  obtain ⟨r1, A2, hq3, h⟩ := k_pb h
  have hw4 := sgX9_throwsIf hw  hq3
  rw [hw4.1]
  rw [k_bds]
  by_cases c5 : r1 = 0
  · rw [if_pos c5] at h
    rw [if_pos c5]
    exact sgX9_keeps_h26  _ _ _ _ _ _ _ hw4.2 h
  · rw [if_neg c5] at h
    rw [if_neg c5]
    obtain ⟨rfl, rfl⟩ := k_pr h
    exact ⟨rfl, hw4.2⟩
set_option maxRecDepth 100000 in
theorem sgX9_keeps_b0 {sc : k_SC} (A : k_H) (v1 : Int) (r : Int) (A' : k_H) (hw : k_Wf sc A) (h : gX9_keeps_b0 A v1 = some (r, A')) : fX9_keeps_b0 A 120 v1 = some (r, A') ∧ k_Wf sc A' := by
  unfold gX9_keeps_b0 at h
  unfold fX9_keeps_b0
  rw [if_pos (k_wO hw k_K120)]
  obtain ⟨r1, A2, hq3, h⟩ := k_pb h
  have hw4 := sgX9_isHall hw  hq3
  rw [hw4.1]
  rw [k_bds]
  by_cases c5 : r1 = 0
  · rw [if_pos c5] at h
    rw [if_pos c5]
    exact sgX9_keeps_b14  _ _ _ _ _ hw4.2 h
  · rw [if_neg c5] at h
    rw [if_neg c5]
    exact sgX9_keeps_b14  _ _ _ _ _ hw4.2 h
theorem sgX9_keeps {sc : k_SC} {A : k_H} {x1 : Int} {r : Int} {A' : k_H} (hw : k_Wf sc A) (h : gX9_keeps A x1 = some (r, A')) : fX9_keeps A 120 x1 = some (r, A') ∧ k_Wf sc A' :=
  sgX9_keeps_b0 _ _ _ _ hw h
/-! X9_term -/
def gX9_term_b337 (A : k_H) (v3 : Int) : Option (Int × k_H) := if v3 = 0 then (some (0, A)) else (if (k_rd A 120 36) = 3 then (k_lt (k_wt A 150 83 (k_wr ((k_rd A 150 83) + 1))) fun A4 => k_bd (gX9_next A4) fun r7 A8 => some (1, A8)) else (k_bd (gX9_cant A) fun r11 A12 => if r11 = 0 ∨ r11 = 1 then (some (r11, A12)) else none))
def gX9_term_b102 (A : k_H) : Option (Int × k_H) := k_bd (gX9_wrong A 4 (k_rd A 120 37)) fun r1 A2 => if r1 = 0 ∨ r1 = 1 then (some (r1, A2)) else none
def gX9_term_b328 (A : k_H) (v3 s1 s2 : Int) : Option (Int × k_H) := if 0 ≤ s1 ∧ s1 < ((84 : Nat) : Int) then (k_lt (k_wt A 150 s1 s2) fun A2 => if v3 = 0 then (gX9_term_b337 A2 v3) else (k_bd (gX9_next A2) fun r6 A7 => gX9_term_b337 A7 v3)) else none
def gX9_term_b271 (A : k_H) (s0 : Int) : Option (Int × k_H) := gX9_term_b337 A s0
def gX9_term_b208 (A : k_H) (v2 s0 : Int) : Option (Int × k_H) := if s0 = 0 then (gX9_term_b337 A s0) else (k_lt (k_wt A 150 73 (k_wr (v2 + 1))) fun A3 => gX9_term_b337 A3 s0)
def gX9_term_b311 (A : k_H) (v4 s0 : Int) : Option (Int × k_H) := if v4 = 0 then (gX9_term_b328 A s0 82 0) else (gX9_term_b328 A s0 82 1)
def gX9_term_b270 (A : k_H) : Option (Int × k_H) := gX9_term_b271 A 0
def gX9_term_b207 (A : k_H) (v2 : Int) : Option (Int × k_H) := gX9_term_b208 A v2 0
def gX9_term_b306 (A : k_H) (v4 : Int) : Option (Int × k_H) := gX9_term_b311 A v4 1
def gX9_term_b197 (A : k_H) (v2 s1 s2 s3 : Int) : Option (Int × k_H) := k_bd (gX9_take A s1 s2 s3) fun r1 A2 => if r1 = 0 then (gX9_term_b207 A2 v2) else (gX9_term_b208 A2 v2 1)
def gX9_term_b112 (A : k_H) (v1 v2 : Int) : Option (Int × k_H) := k_lt (k_wt A 120 41 (k_or (k_rd A 120 41) (k_shl 1 v1))) fun A1 => k_bd (gX9_next A1) fun r4 A5 => if v1 = 0 then (k_bd (gX9_take A5 0 99999 (-1)) fun r53 A54 => gX9_term_b337 A54 r53) else (if v1 = 2 then (k_bd (gX9_take A5 (k_wr (2 + v2)) 100 (-1)) fun r41 A42 => if r41 = 0 then (gX9_term_b207 A42 v2) else (k_bd (gX9_behind A42 418263299685) fun r46 A47 => if r46 = 0 then (gX9_term_b207 A47 v2) else (if v2 = 0 then (gX9_term_b197 A47 v2 (k_wr (5 + v2)) 99999 (-1)) else (if 0 ≤ k_wr (k_wr (77 + v2) - 1) ∧ k_wr (k_wr (77 + v2) - 1) < ((84 : Nat) : Int) then (gX9_term_b197 A47 v2 (k_wr (5 + v2)) 99999 (k_rd A47 150 (k_wr (k_wr (77 + v2) - 1)))) else none)))) else (if v1 = 8 then (k_bd (gX9_take A5 8 100 (-1)) fun r26 A27 => if r26 = 0 then (gX9_term_b270 A27) else (k_bd (gX9_behind A27 1836020596) fun r31 A32 => if r31 = 0 then (gX9_term_b270 A32) else (k_bd (gX9_take A32 9 99999 (-1)) fun r36 A37 => if r36 = 0 then (gX9_term_b270 A37) else (gX9_term_b271 A37 1)))) else (k_bd (gX9_isWord A5 1651471464) fun r11 A12 => if r11 = 0 then (k_bd (gX9_isWord A12 1751215212) fun r16 A17 => if r16 = 0 then (k_bd (gX9_cant A17) fun r21 A22 => if r21 = 0 then (gX9_term_b311 A22 r11 0) else (gX9_term_b306 A22 r11)) else (gX9_term_b306 A17 r11)) else (gX9_term_b306 A12 r11))))
def gX9_term_b59 (A : k_H) (s0 : Int) : Option (Int × k_H) := if s0 < 0 then (k_bd (gX9_cant A) fun r6 A7 => if r6 = 0 ∨ r6 = 1 then (some (r6, A7)) else none) else (if s0 = 2 then (if (k_rd A 150 73) = 3 then (gX9_term_b102 A) else (gX9_term_b112 A s0 (k_rd A 150 73))) else (if (k_and (k_shr (k_rd A 120 41) s0) 1) = 1 then (gX9_term_b102 A) else (gX9_term_b112 A s0 (k_rd A 150 73))))
def gX9_term_b0 (A : k_H) : Option (Int × k_H) := k_bd (gX9_isWord A 6710629) fun r1 A2 => if r1 = 0 then (k_bd (gX9_isWord A2 495672455781) fun r6 A7 => if r6 = 0 then (k_bd (gX9_isWord A7 32498688025257081) fun r11 A12 => if r11 = 0 then (k_bd (gX9_isWord A12 1819243379) fun r16 A17 => if r16 = 0 then (gX9_term_b59 A17 (-1)) else (gX9_term_b59 A17 10)) else (gX9_term_b59 A12 8)) else (gX9_term_b59 A7 2)) else (gX9_term_b59 A2 0)
def gX9_term (A : k_H) : Option (Int × k_H) := gX9_term_b0 A
set_option maxRecDepth 100000 in
theorem sgX9_term_b337 {sc : k_SC} (A : k_H) (v3 : Int) (r : Int) (A' : k_H) (hw : k_Wf sc A) (h : gX9_term_b337 A v3 = some (r, A')) : fX9_term_b337 A 120 v3 = some (r, A') ∧ k_Wf sc A' := by
  unfold gX9_term_b337 at h
  unfold fX9_term_b337
  by_cases c1 : v3 = 0
  · rw [if_pos c1] at h
    rw [if_pos c1]
    obtain ⟨rfl, rfl⟩ := k_pr h
    exact ⟨rfl, hw⟩
  · rw [if_neg c1] at h
    rw [if_neg c1]
    rw [if_pos (k_wO hw k_K120)]
    by_cases c2 : (k_rd A 120 36) = 3
    · rw [if_pos c2] at h
      rw [if_pos c2]
      try rw [k_p9_35 hw]
      have hc3 : (0 : Int) ≤ 83 ∧ (83 : Int) < ((84 : Nat) : Int) := by decide
      rw [if_pos (k_wA hw (k_R150) hc3)]
      obtain ⟨A4, eA5, h⟩ := k_pl h
      have hw6 := k_wE eA5 (k_wa hw k_R150 (by decide))
      refine k_ltg eA5 ?_
      obtain ⟨r7, A8, hq9, h⟩ := k_pb h
      have hw10 := sgX9_next hw6  hq9
      rw [hw10.1]
      rw [k_bds]
      obtain ⟨rfl, rfl⟩ := k_pr h
      exact ⟨rfl, hw10.2⟩
    · rw [if_neg c2] at h
      rw [if_neg c2]
      obtain ⟨r11, A12, hq13, h⟩ := k_pb h
      have hw14 := sgX9_cant hw  hq13
      rw [hw14.1]
      rw [k_bds]
      obtain ⟨hc15, h⟩ := k_pk h
      rw [if_pos hc15]
      obtain ⟨rfl, rfl⟩ := k_pr h
      exact ⟨rfl, hw14.2⟩
set_option maxRecDepth 100000 in
theorem sgX9_term_b102 {sc : k_SC} (A : k_H) (r : Int) (A' : k_H) (hw : k_Wf sc A) (h : gX9_term_b102 A = some (r, A')) : fX9_term_b102 A 120 = some (r, A') ∧ k_Wf sc A' := by
  unfold gX9_term_b102 at h
  unfold fX9_term_b102
  rw [if_pos (k_wO hw k_K120)]
  obtain ⟨r1, A2, hq3, h⟩ := k_pb h
  have hw4 := sgX9_wrong hw  hq3
  rw [hw4.1]
  rw [k_bds]
  obtain ⟨hc5, h⟩ := k_pk h
  rw [if_pos hc5]
  obtain ⟨rfl, rfl⟩ := k_pr h
  exact ⟨rfl, hw4.2⟩
set_option maxRecDepth 100000 in
theorem sgX9_term_b328 {sc : k_SC} (A : k_H) (v3 s1 s2 : Int) (r : Int) (A' : k_H) (hw : k_Wf sc A) (h : gX9_term_b328 A v3 s1 s2 = some (r, A')) : fX9_term_b328 A 120 v3 150 s1 s2 = some (r, A') ∧ k_Wf sc A' := by
  unfold gX9_term_b328 at h
  unfold fX9_term_b328
  obtain ⟨hc1, h⟩ := k_pk h
  rw [if_pos (k_wA hw (k_R150) hc1)]
  obtain ⟨A2, eA3, h⟩ := k_pl h
  have hw4 := k_wE eA3 (k_wa hw k_R150 (by decide))
  refine k_ltg eA3 ?_
  by_cases c5 : v3 = 0
  · rw [if_pos c5] at h
    rw [if_pos c5]
    exact sgX9_term_b337  _ _ _ _ hw4 h
  · rw [if_neg c5] at h
    rw [if_neg c5]
    rw [if_pos (k_wO hw4 k_K120)]
    obtain ⟨r6, A7, hq8, h⟩ := k_pb h
    have hw9 := sgX9_next hw4  hq8
    rw [hw9.1]
    rw [k_bds]
    exact sgX9_term_b337  _ _ _ _ hw9.2 h
set_option maxRecDepth 100000 in
theorem sgX9_term_b271 {sc : k_SC} (A : k_H) (s0 : Int) (r : Int) (A' : k_H) (hw : k_Wf sc A) (h : gX9_term_b271 A s0 = some (r, A')) : fX9_term_b271 A 120 s0 = some (r, A') ∧ k_Wf sc A' := by
  unfold gX9_term_b271 at h
  unfold fX9_term_b271
  exact sgX9_term_b337  _ _ _ _ hw h
set_option maxRecDepth 100000 in
theorem sgX9_term_b208 {sc : k_SC} (A : k_H) (v2 s0 : Int) (r : Int) (A' : k_H) (hw : k_Wf sc A) (h : gX9_term_b208 A v2 s0 = some (r, A')) : fX9_term_b208 A 120 v2 s0 = some (r, A') ∧ k_Wf sc A' := by
  unfold gX9_term_b208 at h
  unfold fX9_term_b208
  by_cases c1 : s0 = 0
  · rw [if_pos c1] at h
    rw [if_pos c1]
    exact sgX9_term_b337  _ _ _ _ hw h
  · rw [if_neg c1] at h
    rw [if_neg c1]
    rw [if_pos (k_wO hw k_K120)]
    try rw [k_p9_35 hw]
    have hc2 : (0 : Int) ≤ 73 ∧ (73 : Int) < ((84 : Nat) : Int) := by decide
    rw [if_pos (k_wA hw (k_R150) hc2)]
    obtain ⟨A3, eA4, h⟩ := k_pl h
    have hw5 := k_wE eA4 (k_wa hw k_R150 (by decide))
    refine k_ltg eA4 ?_
    exact sgX9_term_b337  _ _ _ _ hw5 h
set_option maxRecDepth 100000 in
theorem sgX9_term_b311 {sc : k_SC} (A : k_H) (v4 s0 : Int) (r : Int) (A' : k_H) (hw : k_Wf sc A) (h : gX9_term_b311 A v4 s0 = some (r, A')) : fX9_term_b311 A 120 v4 s0 = some (r, A') ∧ k_Wf sc A' := by
  unfold gX9_term_b311 at h
  unfold fX9_term_b311
  rw [if_pos (k_wO hw k_K120)]
  try rw [k_p9_35 hw]
  by_cases c1 : v4 = 0
  · rw [if_pos c1] at h
    rw [if_pos c1]
    exact sgX9_term_b328  _ _ _ _ _ _ hw h
  · rw [if_neg c1] at h
    rw [if_neg c1]
    exact sgX9_term_b328  _ _ _ _ _ _ hw h
set_option maxRecDepth 100000 in
theorem sgX9_term_b270 {sc : k_SC} (A : k_H) (r : Int) (A' : k_H) (hw : k_Wf sc A) (h : gX9_term_b270 A = some (r, A')) : fX9_term_b270 A 120 = some (r, A') ∧ k_Wf sc A' := by
  unfold gX9_term_b270 at h
  unfold fX9_term_b270
  exact sgX9_term_b271  _ _ _ _ hw h
set_option maxRecDepth 100000 in
theorem sgX9_term_b207 {sc : k_SC} (A : k_H) (v2 : Int) (r : Int) (A' : k_H) (hw : k_Wf sc A) (h : gX9_term_b207 A v2 = some (r, A')) : fX9_term_b207 A 120 v2 = some (r, A') ∧ k_Wf sc A' := by
  unfold gX9_term_b207 at h
  unfold fX9_term_b207
  exact sgX9_term_b208  _ _ _ _ _ hw h
set_option maxRecDepth 100000 in
theorem sgX9_term_b306 {sc : k_SC} (A : k_H) (v4 : Int) (r : Int) (A' : k_H) (hw : k_Wf sc A) (h : gX9_term_b306 A v4 = some (r, A')) : fX9_term_b306 A 120 v4 = some (r, A') ∧ k_Wf sc A' := by
  unfold gX9_term_b306 at h
  unfold fX9_term_b306
  exact sgX9_term_b311  _ _ _ _ _ hw h
set_option maxRecDepth 100000 in
theorem sgX9_term_b197 {sc : k_SC} (A : k_H) (v2 s1 s2 s3 : Int) (r : Int) (A' : k_H) (hw : k_Wf sc A) (h : gX9_term_b197 A v2 s1 s2 s3 = some (r, A')) : fX9_term_b197 A 120 v2 120 s1 s2 s3 = some (r, A') ∧ k_Wf sc A' := by
  unfold gX9_term_b197 at h
  unfold fX9_term_b197
  rw [if_pos (k_wO hw k_K120)]
  obtain ⟨r1, A2, hq3, h⟩ := k_pb h
  have hw4 := sgX9_take hw  hq3
  rw [hw4.1]
  rw [k_bds]
  by_cases c5 : r1 = 0
  · rw [if_pos c5] at h
    rw [if_pos c5]
    exact sgX9_term_b207  _ _ _ _ hw4.2 h
  · rw [if_neg c5] at h
    rw [if_neg c5]
    exact sgX9_term_b208  _ _ _ _ _ hw4.2 h
set_option maxRecDepth 100000 in
theorem sgX9_term_b112 {sc : k_SC} (A : k_H) (v1 v2 : Int) (r : Int) (A' : k_H) (hw : k_Wf sc A) (h : gX9_term_b112 A v1 v2 = some (r, A')) : fX9_term_b112 A 120 v1 v2 = some (r, A') ∧ k_Wf sc A' := by
  unfold gX9_term_b112 at h
  unfold fX9_term_b112
  rw [if_pos (k_wO hw k_K120)]
  obtain ⟨A1, eA2, h⟩ := k_pl h
  have hw3 := k_wE eA2 (k_wo hw k_K120 41 (by decide))
  refine k_ltg eA2 ?_
  obtain ⟨r4, A5, hq6, h⟩ := k_pb h
  have hw7 := sgX9_next hw3  hq6
  rw [hw7.1]
  rw [k_bds]
  by_cases c8 : v1 = 0
  · rw [if_pos c8] at h
    rw [if_pos c8]
    rw [if_pos (k_wO hw7.2 k_K120)]
    obtain ⟨r53, A54, hq55, h⟩ := k_pb h
    have hw56 := sgX9_take hw7.2  hq55
    rw [hw56.1]
    rw [k_bds]
    exact sgX9_term_b337  _ _ _ _ hw56.2 h
  · rw [if_neg c8] at h
    rw [if_neg c8]
    by_cases c9 : v1 = 2
    · rw [if_pos c9] at h
      rw [if_pos c9]
      rw [if_pos (k_wO hw7.2 k_K120)]
      obtain ⟨r41, A42, hq43, h⟩ := k_pb h
      have hw44 := sgX9_take hw7.2  hq43
      rw [hw44.1]
      rw [k_bds]
      by_cases c45 : r41 = 0
      · rw [if_pos c45] at h
        rw [if_pos c45]
        exact sgX9_term_b207  _ _ _ _ hw44.2 h
      · rw [if_neg c45] at h
        rw [if_neg c45]
        rw [if_pos (k_wO hw44.2 k_K120)]
        obtain ⟨r46, A47, hq48, h⟩ := k_pb h
        have hw49 := sgX9_behind hw44.2  hq48
        rw [hw49.1]
        rw [k_bds]
        by_cases c50 : r46 = 0
        · rw [if_pos c50] at h
          rw [if_pos c50]
          exact sgX9_term_b207  _ _ _ _ hw49.2 h
        · rw [if_neg c50] at h
          rw [if_neg c50]
          by_cases c51 : v2 = 0
          · rw [if_pos c51] at h
            rw [if_pos c51]
            exact sgX9_term_b197  _ _ _ _ _ _ _ hw49.2 h
          · rw [if_neg c51] at h
            rw [if_neg c51]
            rw [if_pos (k_wO hw49.2 k_K120)]
            try rw [k_p9_35 hw49.2]
            obtain ⟨hc52, h⟩ := k_pk h
            rw [if_pos (k_wA hw49.2 (k_R150) hc52)]
            exact sgX9_term_b197  _ _ _ _ _ _ _ hw49.2 h
    · rw [if_neg c9] at h
      rw [if_neg c9]
      by_cases c10 : v1 = 8
      · rw [if_pos c10] at h
        rw [if_pos c10]
        rw [if_pos (k_wO hw7.2 k_K120)]
        obtain ⟨r26, A27, hq28, h⟩ := k_pb h
        have hw29 := sgX9_take hw7.2  hq28
        rw [hw29.1]
        rw [k_bds]
        by_cases c30 : r26 = 0
        · rw [if_pos c30] at h
          rw [if_pos c30]
          exact sgX9_term_b270  _ _ _ hw29.2 h
        · rw [if_neg c30] at h
          rw [if_neg c30]
          rw [if_pos (k_wO hw29.2 k_K120)]
          obtain ⟨r31, A32, hq33, h⟩ := k_pb h
          have hw34 := sgX9_behind hw29.2  hq33
          rw [hw34.1]
          rw [k_bds]
          by_cases c35 : r31 = 0
          · rw [if_pos c35] at h
            rw [if_pos c35]
            exact sgX9_term_b270  _ _ _ hw34.2 h
          · rw [if_neg c35] at h
            rw [if_neg c35]
            rw [if_pos (k_wO hw34.2 k_K120)]
            obtain ⟨r36, A37, hq38, h⟩ := k_pb h
            have hw39 := sgX9_take hw34.2  hq38
            rw [hw39.1]
            rw [k_bds]
            by_cases c40 : r36 = 0
            · rw [if_pos c40] at h
              rw [if_pos c40]
              exact sgX9_term_b270  _ _ _ hw39.2 h
            · rw [if_neg c40] at h
              rw [if_neg c40]
              exact sgX9_term_b271  _ _ _ _ hw39.2 h
      · rw [if_neg c10] at h
        rw [if_neg c10]
        rw [if_pos (k_wO hw7.2 k_K120)]
        obtain ⟨r11, A12, hq13, h⟩ := k_pb h
        have hw14 := sgX9_isWord hw7.2  hq13
        rw [hw14.1]
        rw [k_bds]
        by_cases c15 : r11 = 0
        · rw [if_pos c15] at h
          rw [if_pos c15]
          rw [if_pos (k_wO hw14.2 k_K120)]
          obtain ⟨r16, A17, hq18, h⟩ := k_pb h
          have hw19 := sgX9_isWord hw14.2  hq18
          rw [hw19.1]
          rw [k_bds]
          by_cases c20 : r16 = 0
          · rw [if_pos c20] at h
            rw [if_pos c20]
            rw [if_pos (k_wO hw19.2 k_K120)]
            obtain ⟨r21, A22, hq23, h⟩ := k_pb h
            have hw24 := sgX9_cant hw19.2  hq23
            rw [hw24.1]
            rw [k_bds]
            by_cases c25 : r21 = 0
            · rw [if_pos c25] at h
              rw [if_pos c25]
              exact sgX9_term_b311  _ _ _ _ _ hw24.2 h
            · rw [if_neg c25] at h
              rw [if_neg c25]
              exact sgX9_term_b306  _ _ _ _ hw24.2 h
          · rw [if_neg c20] at h
            rw [if_neg c20]
            exact sgX9_term_b306  _ _ _ _ hw19.2 h
        · rw [if_neg c15] at h
          rw [if_neg c15]
          exact sgX9_term_b306  _ _ _ _ hw14.2 h
set_option maxRecDepth 100000 in
theorem sgX9_term_b59 {sc : k_SC} (A : k_H) (s0 : Int) (r : Int) (A' : k_H) (hw : k_Wf sc A) (h : gX9_term_b59 A s0 = some (r, A')) : fX9_term_b59 A 120 s0 = some (r, A') ∧ k_Wf sc A' := by
  unfold gX9_term_b59 at h
  unfold fX9_term_b59
  by_cases c1 : s0 < 0
  · rw [if_pos c1] at h
    rw [if_pos c1]
    rw [if_pos (k_wO hw k_K120)]
    obtain ⟨r6, A7, hq8, h⟩ := k_pb h
    have hw9 := sgX9_cant hw  hq8
    rw [hw9.1]
    rw [k_bds]
    obtain ⟨hc10, h⟩ := k_pk h
    rw [if_pos hc10]
    obtain ⟨rfl, rfl⟩ := k_pr h
    exact ⟨rfl, hw9.2⟩
  · rw [if_neg c1] at h
    rw [if_neg c1]
    rw [if_pos (k_wO hw k_K120)]
    try rw [k_p9_35 hw]
    have hc2 : (0 : Int) ≤ 73 ∧ (73 : Int) < ((84 : Nat) : Int) := by decide
    rw [if_pos (k_wA hw (k_R150) hc2)]
    by_cases c3 : s0 = 2
    · rw [if_pos c3] at h
      rw [if_pos c3]
      by_cases c5 : (k_rd A 150 73) = 3
      · rw [if_pos c5] at h
        rw [if_pos c5]
        exact sgX9_term_b102  _ _ _ hw h
      · rw [if_neg c5] at h
        rw [if_neg c5]
        exact sgX9_term_b112  _ _ _ _ _ hw h
    · rw [if_neg c3] at h
      rw [if_neg c3]
      by_cases c4 : (k_and (k_shr (k_rd A 120 41) s0) 1) = 1
      · rw [if_pos c4] at h
        rw [if_pos c4]
        exact sgX9_term_b102  _ _ _ hw h
      · rw [if_neg c4] at h
        rw [if_neg c4]
        exact sgX9_term_b112  _ _ _ _ _ hw h
set_option maxRecDepth 100000 in
theorem sgX9_term_b0 {sc : k_SC} (A : k_H) (r : Int) (A' : k_H) (hw : k_Wf sc A) (h : gX9_term_b0 A = some (r, A')) : fX9_term_b0 A 120 = some (r, A') ∧ k_Wf sc A' := by
  unfold gX9_term_b0 at h
  unfold fX9_term_b0
  rw [if_pos (k_wO hw k_K120)]
  obtain ⟨r1, A2, hq3, h⟩ := k_pb h
  have hw4 := sgX9_isWord hw  hq3
  rw [hw4.1]
  rw [k_bds]
  by_cases c5 : r1 = 0
  · rw [if_pos c5] at h
    rw [if_pos c5]
    rw [if_pos (k_wO hw4.2 k_K120)]
    obtain ⟨r6, A7, hq8, h⟩ := k_pb h
    have hw9 := sgX9_isWord hw4.2  hq8
    rw [hw9.1]
    rw [k_bds]
    by_cases c10 : r6 = 0
    · rw [if_pos c10] at h
      rw [if_pos c10]
      rw [if_pos (k_wO hw9.2 k_K120)]
      obtain ⟨r11, A12, hq13, h⟩ := k_pb h
      have hw14 := sgX9_isWord hw9.2  hq13
      rw [hw14.1]
      rw [k_bds]
      by_cases c15 : r11 = 0
      · rw [if_pos c15] at h
        rw [if_pos c15]
        rw [if_pos (k_wO hw14.2 k_K120)]
        obtain ⟨r16, A17, hq18, h⟩ := k_pb h
        have hw19 := sgX9_isWord hw14.2  hq18
        rw [hw19.1]
        rw [k_bds]
        by_cases c20 : r16 = 0
        · rw [if_pos c20] at h
          rw [if_pos c20]
          exact sgX9_term_b59  _ _ _ _ hw19.2 h
        · rw [if_neg c20] at h
          rw [if_neg c20]
          exact sgX9_term_b59  _ _ _ _ hw19.2 h
      · rw [if_neg c15] at h
        rw [if_neg c15]
        exact sgX9_term_b59  _ _ _ _ hw14.2 h
    · rw [if_neg c10] at h
      rw [if_neg c10]
      exact sgX9_term_b59  _ _ _ _ hw9.2 h
  · rw [if_neg c5] at h
    rw [if_neg c5]
    exact sgX9_term_b59  _ _ _ _ hw4.2 h
theorem sgX9_term {sc : k_SC} {A : k_H} {r : Int} {A' : k_H} (hw : k_Wf sc A) (h : gX9_term A  = some (r, A')) : fX9_term A 120 = some (r, A') ∧ k_Wf sc A' :=
  sgX9_term_b0 _ _ _ hw h
/-! X9_terms -/
def gX9_terms_h82 : Nat → k_H → Int → Int → Option (Int × k_H)
  | 0, _, _, _ => none
  | N + 1, A, v1, v2 => if v2 < 12 then (if 0 ≤ k_wr (72 + v2) ∧ k_wr (72 + v2) < ((84 : Nat) : Int) then (if 0 ≤ k_wr (k_wr (12 * v1) + v2) ∧ k_wr (k_wr (12 * v1) + v2) < ((84 : Nat) : Int) then (k_lt (k_wt A 150 (k_wr (k_wr (12 * v1) + v2)) (k_rd A 150 (k_wr (72 + v2)))) fun A5 => (gX9_terms_h82 N) A5 v1 (k_wr (v2 + 1))) else none) else none) else (some ((k_rd A 150 83), A))
def gX9_terms_h59 : Nat → k_H → Int → Option (Int × k_H)
  | 0, _, _ => none
  | N + 1, A, v1 => if (k_rd A 120 36) = 0 then (gX9_terms_h82 k_FU A v1 0) else (k_bd (gX9_term A) fun r2 A3 => if r2 = 0 then (some (k_wr ((-1) - (k_rd A3 120 40)), A3)) else ((gX9_terms_h59 N) A3 v1))
def gX9_terms_h33 : Nat → k_H → Int → Int → Option (Int × k_H)
  | 0, _, _, _ => none
  | N + 1, A, v1, v2 => if v2 < 12 then (if 0 ≤ k_wr (72 + v2) ∧ k_wr (72 + v2) < ((84 : Nat) : Int) then (k_lt (k_wt A 150 (k_wr (72 + v2)) 0) fun A7 => (gX9_terms_h33 N) A7 v1 (k_wr (v2 + 1))) else none) else (k_bd (gX9_next A) fun r2 A3 => gX9_terms_h59 k_FU A3 v1)
def gX9_terms_b0 (A : k_H) (v1 : Int) : Option (Int × k_H) := k_lt (k_wt A 120 0 0) fun A1 => k_bd (gX9_taken A1) fun r4 A5 => k_bd (gX9_isShow A5 v1) fun r8 A9 => if r8 = 0 then (some ((-300), A9)) else (k_lt (k_wt A9 120 39 0) fun A13 => k_lt (k_wt A13 120 41 0) fun A16 => gX9_terms_h33 k_FU A16 v1 0)
def gX9_terms (A : k_H) (x1 : Int) : Option (Int × k_H) := gX9_terms_b0 A x1
set_option maxRecDepth 100000 in
theorem sgX9_terms_h82 {sc : k_SC} : ∀ (N : Nat) (A : k_H) (v1 v2 : Int) (r : Int) (A' : k_H), k_Wf sc A → gX9_terms_h82 N A v1 v2 = some (r, A') → fX9_terms_h82 N A 120 v1 v2 = some (r, A') ∧ k_Wf sc A' := by
  intro N
  induction N with
  | zero => intro A v1 v2 r A' hw  h; exact absurd h (by simp [gX9_terms_h82])
  | succ N ih =>
    intro A v1 v2 r A' hw  h
    rw [gX9_terms_h82] at h
    rw [fX9_terms_h82]
    by_cases c1 : v2 < 12
    · rw [if_pos c1] at h
      rw [if_pos c1]
      rw [if_pos (k_wO hw k_K120)]
      try rw [k_p9_35 hw]
      try rw [k_p9_35 hw]
      obtain ⟨hc3, h⟩ := k_pk h
      rw [if_pos (k_wA hw (k_R150) hc3)]
      obtain ⟨hc4, h⟩ := k_pk h
      rw [if_pos (k_wA hw (k_R150) hc4)]
      obtain ⟨A5, eA6, h⟩ := k_pl h
      have hw7 := k_wE eA6 (k_wa hw k_R150 (by decide))
      refine k_ltg eA6 ?_
      exact ih _ _ _ _ _ hw7 h
    · rw [if_neg c1] at h
      rw [if_neg c1]
      rw [if_pos (k_wO hw k_K120)]
      try rw [k_p9_35 hw]
      have hc2 : (0 : Int) ≤ 83 ∧ (83 : Int) < ((84 : Nat) : Int) := by decide
      rw [if_pos (k_wA hw (k_R150) hc2)]
      obtain ⟨rfl, rfl⟩ := k_pr h
      exact ⟨rfl, hw⟩
set_option maxRecDepth 100000 in
theorem sgX9_terms_h59 {sc : k_SC} : ∀ (N : Nat) (A : k_H) (v1 : Int) (r : Int) (A' : k_H), k_Wf sc A → gX9_terms_h59 N A v1 = some (r, A') → fX9_terms_h59 N A 120 v1 = some (r, A') ∧ k_Wf sc A' := by
  intro N
  induction N with
  | zero => intro A v1 r A' hw  h; exact absurd h (by simp [gX9_terms_h59])
  | succ N ih =>
    intro A v1 r A' hw  h
    rw [gX9_terms_h59] at h
    rw [fX9_terms_h59]
    rw [if_pos (k_wO hw k_K120)]
    by_cases c1 : (k_rd A 120 36) = 0
    · rw [if_pos c1] at h
      rw [if_pos c1]
      exact sgX9_terms_h82  _ _ _ _ _ _ hw h
    · rw [if_neg c1] at h
      rw [if_neg c1]
      obtain ⟨r2, A3, hq4, h⟩ := k_pb h
      have hw5 := sgX9_term hw  hq4
      rw [hw5.1]
      rw [k_bds]
      by_cases c6 : r2 = 0
      · rw [if_pos c6] at h
        rw [if_pos c6]
        rw [if_pos (k_wO hw5.2 k_K120)]
        obtain ⟨rfl, rfl⟩ := k_pr h
        exact ⟨rfl, hw5.2⟩
      · rw [if_neg c6] at h
        rw [if_neg c6]
        exact ih _ _ _ _ hw5.2 h
set_option maxRecDepth 100000 in
theorem sgX9_terms_h33 {sc : k_SC} : ∀ (N : Nat) (A : k_H) (v1 v2 : Int) (r : Int) (A' : k_H), k_Wf sc A → gX9_terms_h33 N A v1 v2 = some (r, A') → fX9_terms_h33 N A 120 v1 v2 = some (r, A') ∧ k_Wf sc A' := by
  intro N
  induction N with
  | zero => intro A v1 v2 r A' hw  h; exact absurd h (by simp [gX9_terms_h33])
  | succ N ih =>
    intro A v1 v2 r A' hw  h
    rw [gX9_terms_h33] at h
    rw [fX9_terms_h33]
    by_cases c1 : v2 < 12
    · rw [if_pos c1] at h
      rw [if_pos c1]
      rw [if_pos (k_wO hw k_K120)]
      try rw [k_p9_35 hw]
      obtain ⟨hc6, h⟩ := k_pk h
      rw [if_pos (k_wA hw (k_R150) hc6)]
      obtain ⟨A7, eA8, h⟩ := k_pl h
      have hw9 := k_wE eA8 (k_wa hw k_R150 (by decide))
      refine k_ltg eA8 ?_
      exact ih _ _ _ _ _ hw9 h
    · rw [if_neg c1] at h
      rw [if_neg c1]
      rw [if_pos (k_wO hw k_K120)]
      obtain ⟨r2, A3, hq4, h⟩ := k_pb h
      have hw5 := sgX9_next hw  hq4
      rw [hw5.1]
      rw [k_bds]
      exact sgX9_terms_h59  _ _ _ _ _ hw5.2 h
set_option maxRecDepth 100000 in
theorem sgX9_terms_b0 {sc : k_SC} (A : k_H) (v1 : Int) (r : Int) (A' : k_H) (hw : k_Wf sc A) (h : gX9_terms_b0 A v1 = some (r, A')) : fX9_terms_b0 A 120 v1 = some (r, A') ∧ k_Wf sc A' := by
  unfold gX9_terms_b0 at h
  unfold fX9_terms_b0
  rw [if_pos (k_wO hw k_K120)]
  obtain ⟨A1, eA2, h⟩ := k_pl h
  have hw3 := k_wE eA2 (k_wo hw k_K120 0 (by decide))
  refine k_ltg eA2 ?_
  obtain ⟨r4, A5, hq6, h⟩ := k_pb h
  have hw7 := sgX9_taken hw3  hq6
  rw [hw7.1]
  rw [k_bds]
  rw [if_pos (k_wO hw7.2 k_K120)]
  obtain ⟨r8, A9, hq10, h⟩ := k_pb h
  have hw11 := sgX9_isShow hw7.2  hq10
  rw [hw11.1]
  rw [k_bds]
  by_cases c12 : r8 = 0
  · rw [if_pos c12] at h
    rw [if_pos c12]
    obtain ⟨rfl, rfl⟩ := k_pr h
    exact ⟨rfl, hw11.2⟩
  · rw [if_neg c12] at h
    rw [if_neg c12]
    rw [if_pos (k_wO hw11.2 k_K120)]
    obtain ⟨A13, eA14, h⟩ := k_pl h
    have hw15 := k_wE eA14 (k_wo hw11.2 k_K120 39 (by decide))
    refine k_ltg eA14 ?_
    obtain ⟨A16, eA17, h⟩ := k_pl h
    have hw18 := k_wE eA17 (k_wo hw15 k_K120 41 (by decide))
    refine k_ltg eA17 ?_
    exact sgX9_terms_h33  _ _ _ _ _ _ hw18 h
theorem sgX9_terms {sc : k_SC} {A : k_H} {x1 : Int} {r : Int} {A' : k_H} (hw : k_Wf sc A) (h : gX9_terms A x1 = some (r, A')) : fX9_terms A 120 x1 = some (r, A') ∧ k_Wf sc A' :=
  sgX9_terms_b0 _ _ _ _ hw h
