/-! X2_start -/
def gX2_start_b0 (A : k_H) (v1 : Int) : Option (Int × k_H) := k_lt (k_wt A 12 5 0) fun A1 => k_lt (k_wt A1 12 6 (k_rd A1 v1 6)) fun A4 => k_lt (k_wt A4 12 7 (k_rd A4 v1 7)) fun A7 => k_lt (k_wt A7 12 8 (max 1 (k_rd A7 v1 8))) fun A10 => k_lt (k_wt A10 12 9 (k_rd A10 v1 9)) fun A13 => some (0, A13)
def gX2_start (A : k_H) (x1 : Int) : Option (Int × k_H) := gX2_start_b0 A x1
set_option maxRecDepth 100000 in
theorem sgX2_start_b0 {sc : k_SC} (A : k_H) (v1 : Int) (r : Int) (A' : k_H) (hw : k_Wf sc A) (hv1 : k_isK v1 4) (h : gX2_start_b0 A v1 = some (r, A')) : fX2_start_b0 A 12 v1 = some (r, A') ∧ k_Wf sc A' := by
  unfold gX2_start_b0 at h
  unfold fX2_start_b0
  rw [if_pos (k_wO hw k_K12)]
  obtain ⟨A1, eA2, h⟩ := k_pl h
  have hw3 := k_wE eA2 (k_wo hw k_K12 5 (by decide))
  refine k_ltg eA2 ?_
  rw [if_pos (k_wO hw3 hv1)]
  obtain ⟨A4, eA5, h⟩ := k_pl h
  have hw6 := k_wE eA5 (k_wo hw3 k_K12 6 (by decide))
  refine k_ltg eA5 ?_
  obtain ⟨A7, eA8, h⟩ := k_pl h
  have hw9 := k_wE eA8 (k_wo hw6 k_K12 7 (by decide))
  refine k_ltg eA8 ?_
  obtain ⟨A10, eA11, h⟩ := k_pl h
  have hw12 := k_wE eA11 (k_wo hw9 k_K12 8 (by decide))
  refine k_ltg eA11 ?_
  obtain ⟨A13, eA14, h⟩ := k_pl h
  have hw15 := k_wE eA14 (k_wo hw12 k_K12 9 (by decide))
  refine k_ltg eA14 ?_
  obtain ⟨rfl, rfl⟩ := k_pr h
  exact ⟨rfl, hw15⟩
theorem sgX2_start {sc : k_SC} {A : k_H} {x1 : Int} {r : Int} {A' : k_H} (hw : k_Wf sc A) (hx1 : k_isK x1 4) (h : gX2_start A x1 = some (r, A')) : fX2_start A 12 x1 = some (r, A') ∧ k_Wf sc A' :=
  sgX2_start_b0 _ _ _ _ hw hx1 h
/-! X2_asksMore -/
def gX2_asksMore_b0 (A : k_H) : Option (Int × k_H) := if (k_rd A 12 5) < 6 then (some (1, A)) else (some (0, A))
def gX2_asksMore (A : k_H) : Option (Int × k_H) := gX2_asksMore_b0 A
set_option maxRecDepth 100000 in
theorem sgX2_asksMore_b0 {sc : k_SC} (A : k_H) (r : Int) (A' : k_H) (hw : k_Wf sc A) (h : gX2_asksMore_b0 A = some (r, A')) : fX2_asksMore_b0 A 12 = some (r, A') ∧ k_Wf sc A' := by
  unfold gX2_asksMore_b0 at h
  unfold fX2_asksMore_b0
  rw [if_pos (k_wO hw k_K12)]
  by_cases c1 : (k_rd A 12 5) < 6
  · rw [if_pos c1] at h
    rw [if_pos c1]
    obtain ⟨rfl, rfl⟩ := k_pr h
    exact ⟨rfl, hw⟩
  · rw [if_neg c1] at h
    rw [if_neg c1]
    obtain ⟨rfl, rfl⟩ := k_pr h
    exact ⟨rfl, hw⟩
theorem sgX2_asksMore {sc : k_SC} {A : k_H} {r : Int} {A' : k_H} (hw : k_Wf sc A) (h : gX2_asksMore A  = some (r, A')) : fX2_asksMore A 12 = some (r, A') ∧ k_Wf sc A' :=
  sgX2_asksMore_b0 _ _ _ hw h
/-! X2_close -/
def gX2_close_b0 (A : k_H) (v1 : Int) : Option (Int × k_H) := if 0 < (k_rd A 12 5) then (if 0 ≤ k_wr ((k_rd A 12 5) - 1) ∧ k_wr ((k_rd A 12 5) - 1) < ((6 : Nat) : Int) then (k_lt (k_wt A 16 (k_wr ((k_rd A 12 5) - 1)) (k_or (k_rd A 16 (k_wr ((k_rd A 12 5) - 1))) (k_shl 1 v1))) fun A3 => some (0, A3)) else none) else (some (0, A))
def gX2_close (A : k_H) (x1 : Int) : Option (Int × k_H) := gX2_close_b0 A x1
set_option maxRecDepth 100000 in
theorem sgX2_close_b0 {sc : k_SC} (A : k_H) (v1 : Int) (r : Int) (A' : k_H) (hw : k_Wf sc A) (h : gX2_close_b0 A v1 = some (r, A')) : fX2_close_b0 A 12 v1 = some (r, A') ∧ k_Wf sc A' := by
  unfold gX2_close_b0 at h
  unfold fX2_close_b0
  rw [if_pos (k_wO hw k_K12)]
  by_cases c1 : 0 < (k_rd A 12 5)
  · rw [if_pos c1] at h
    rw [if_pos c1]
    try rw [k_p2_3 hw]
    obtain ⟨hc2, h⟩ := k_pk h
    rw [if_pos (k_wA hw (k_R16) hc2)]
    obtain ⟨A3, eA4, h⟩ := k_pl h
    have hw5 := k_wE eA4 (k_wa hw k_R16 (by decide))
    refine k_ltg eA4 ?_
    obtain ⟨rfl, rfl⟩ := k_pr h
    exact ⟨rfl, hw5⟩
  · rw [if_neg c1] at h
    rw [if_neg c1]
    obtain ⟨rfl, rfl⟩ := k_pr h
    exact ⟨rfl, hw⟩
theorem sgX2_close {sc : k_SC} {A : k_H} {x1 : Int} {r : Int} {A' : k_H} (hw : k_Wf sc A) (h : gX2_close A x1 = some (r, A')) : fX2_close A 12 x1 = some (r, A') ∧ k_Wf sc A' :=
  sgX2_close_b0 _ _ _ _ hw h
/-! X2_has -/
def gX2_has_b0 (A : k_H) (v0 v1 : Int) : Option (Int × k_H) := if (k_and (k_shr v0 v1) 1) = 0 then (some (0, A)) else (some (1, A))
def gX2_has (A : k_H) (x0 x1 : Int) : Option (Int × k_H) := gX2_has_b0 A x0 x1
set_option maxRecDepth 100000 in
theorem sgX2_has_b0 {sc : k_SC} (A : k_H) (v0 v1 : Int) (r : Int) (A' : k_H) (hw : k_Wf sc A) (h : gX2_has_b0 A v0 v1 = some (r, A')) : fX2_has_b0 A v0 v1 = some (r, A') ∧ k_Wf sc A' := by
  unfold gX2_has_b0 at h
  unfold fX2_has_b0
  by_cases c1 : (k_and (k_shr v0 v1) 1) = 0
  · rw [if_pos c1] at h
    rw [if_pos c1]
    obtain ⟨rfl, rfl⟩ := k_pr h
    exact ⟨rfl, hw⟩
  · rw [if_neg c1] at h
    rw [if_neg c1]
    obtain ⟨rfl, rfl⟩ := k_pr h
    exact ⟨rfl, hw⟩
theorem sgX2_has {sc : k_SC} {A : k_H} {x0 x1 : Int} {r : Int} {A' : k_H} (hw : k_Wf sc A) (h : gX2_has A x0 x1 = some (r, A')) : fX2_has A x0 x1 = some (r, A') ∧ k_Wf sc A' :=
  sgX2_has_b0 _ _ _ _ _ hw h
/-! X2_cell -/
def gX2_cell_b0 (A : k_H) (v0 v1 v2 : Int) : Option (Int × k_H) := some (k_wr (k_wr (k_wr (k_wr (v0 * 64) + v1) * 6) + v2), A)
def gX2_cell (A : k_H) (x0 x1 x2 : Int) : Option (Int × k_H) := gX2_cell_b0 A x0 x1 x2
set_option maxRecDepth 100000 in
theorem sgX2_cell_b0 {sc : k_SC} (A : k_H) (v0 v1 v2 : Int) (r : Int) (A' : k_H) (hw : k_Wf sc A) (h : gX2_cell_b0 A v0 v1 v2 = some (r, A')) : fX2_cell_b0 A v0 v1 v2 = some (r, A') ∧ k_Wf sc A' := by
  unfold gX2_cell_b0 at h
  unfold fX2_cell_b0
  obtain ⟨rfl, rfl⟩ := k_pr h
  exact ⟨rfl, hw⟩
theorem sgX2_cell {sc : k_SC} {A : k_H} {x0 x1 x2 : Int} {r : Int} {A' : k_H} (hw : k_Wf sc A) (h : gX2_cell A x0 x1 x2 = some (r, A')) : fX2_cell A x0 x1 x2 = some (r, A') ∧ k_Wf sc A' :=
  sgX2_cell_b0 _ _ _ _ _ _ hw h
/-! X2_pack -/
def gX2_pack_b0 (A : k_H) (v0 v1 : Int) : Option (Int × k_H) := some ((k_lshl v0 (k_wr (6 * v1))), A)
def gX2_pack (A : k_H) (x0 x1 : Int) : Option (Int × k_H) := gX2_pack_b0 A x0 x1
set_option maxRecDepth 100000 in
theorem sgX2_pack_b0 {sc : k_SC} (A : k_H) (v0 v1 : Int) (r : Int) (A' : k_H) (hw : k_Wf sc A) (h : gX2_pack_b0 A v0 v1 = some (r, A')) : fX2_pack_b0 A v0 v1 = some (r, A') ∧ k_Wf sc A' := by
  unfold gX2_pack_b0 at h
  unfold fX2_pack_b0
  obtain ⟨rfl, rfl⟩ := k_pr h
  exact ⟨rfl, hw⟩
theorem sgX2_pack {sc : k_SC} {A : k_H} {x0 x1 : Int} {r : Int} {A' : k_H} (hw : k_Wf sc A) (h : gX2_pack A x0 x1 = some (r, A')) : fX2_pack A x0 x1 = some (r, A') ∧ k_Wf sc A' :=
  sgX2_pack_b0 _ _ _ _ _ hw h
/-! X2_unpack -/
def gX2_unpack_b0 (A : k_H) (v0 v2 : Int) : Option (Int × k_H) := some ((k_and (k_l2i (k_lushr v0 (k_wr (6 * v2)))) 63), A)
def gX2_unpack (A : k_H) (x0 x1 : Int) : Option (Int × k_H) := gX2_unpack_b0 A x0 x1
set_option maxRecDepth 100000 in
theorem sgX2_unpack_b0 {sc : k_SC} (A : k_H) (v0 v2 : Int) (r : Int) (A' : k_H) (hw : k_Wf sc A) (h : gX2_unpack_b0 A v0 v2 = some (r, A')) : fX2_unpack_b0 A v0 v2 = some (r, A') ∧ k_Wf sc A' := by
  unfold gX2_unpack_b0 at h
  unfold fX2_unpack_b0
  obtain ⟨rfl, rfl⟩ := k_pr h
  exact ⟨rfl, hw⟩
theorem sgX2_unpack {sc : k_SC} {A : k_H} {x0 x1 : Int} {r : Int} {A' : k_H} (hw : k_Wf sc A) (h : gX2_unpack A x0 x1 = some (r, A')) : fX2_unpack A x0 x1 = some (r, A') ∧ k_Wf sc A' :=
  sgX2_unpack_b0 _ _ _ _ _ hw h
/-! X2_ask -/
def gX2_ask_h41 : Nat → k_H → Int → Int → Option (Int × k_H)
  | 0, _, _, _ => none
  | N + 1, A, v1, v4 => if v4 < (k_rd A 12 5) then (if 0 ≤ v4 ∧ v4 < ((6 : Nat) : Int) then (if 0 ≤ (k_rd A 13 v4) ∧ (k_rd A 13 v4) < ((12 : Nat) : Int) then (if 0 ≤ v1 ∧ v1 < ((12 : Nat) : Int) then (k_bd (gX1_milesTo A (24 + 4 * (k_rd A 13 v4)) (24 + 4 * v1)) fun r8 A9 => if (k_rd A9 12 8) ≠ 0 then (if 0 ≤ k_wr (k_wr (v4 * 6) + (k_rd A9 12 5)) ∧ k_wr (k_wr (v4 * 6) + (k_rd A9 12 5)) < ((36 : Nat) : Int) then (k_lt (k_wt A9 15 (k_wr (k_wr (v4 * 6) + (k_rd A9 12 5))) (k_wr (Int.tdiv (k_wr (k_wr (r8 + (k_rd A9 12 8)) - 1)) (k_rd A9 12 8)))) fun A14 => if 0 ≤ k_wr (k_wr ((k_rd A14 12 5) * 6) + v4) ∧ k_wr (k_wr ((k_rd A14 12 5) * 6) + v4) < ((36 : Nat) : Int) then (k_lt (k_wt A14 15 (k_wr (k_wr ((k_rd A14 12 5) * 6) + v4)) (k_wr (Int.tdiv (k_wr (k_wr (r8 + (k_rd A9 12 8)) - 1)) (k_rd A9 12 8)))) fun A18 => (gX2_ask_h41 N) A18 v1 (k_wr (v4 + 1))) else none) else none) else none) else none) else none) else none) else (k_lt (k_wt A 12 5 (k_wr ((k_rd A 12 5) + 1))) fun A2 => some (0, A2))
def gX2_ask_b0 (A : k_H) (v1 v3 : Int) : Option (Int × k_H) := k_bd (gX2_asksMore A) fun r1 A2 => if r1 = 0 then (some (0, A2)) else (if 0 ≤ (k_rd A2 12 5) ∧ (k_rd A2 12 5) < ((6 : Nat) : Int) then (k_lt (k_wt A2 13 (k_rd A2 12 5) v1) fun A7 => if 0 ≤ (k_rd A7 12 5) ∧ (k_rd A7 12 5) < ((6 : Nat) : Int) then (k_lt (k_wt A7 14 (k_rd A7 12 5) v3) fun A11 => if 0 ≤ (k_rd A11 12 5) ∧ (k_rd A11 12 5) < ((6 : Nat) : Int) then (k_lt (k_wt A11 16 (k_rd A11 12 5) 0) fun A15 => gX2_ask_h41 k_FU A15 v1 0) else none) else none) else none)
def gX2_ask (A : k_H) (x1 x3 : Int) : Option (Int × k_H) := gX2_ask_b0 A x1 x3
set_option maxRecDepth 100000 in
theorem sgX2_ask_h41 {sc : k_SC} : ∀ (N : Nat) (A : k_H) (v1 v4 : Int) (r : Int) (A' : k_H), k_Wf sc A → gX2_ask_h41 N A v1 v4 = some (r, A') → fX2_ask_h41 N A 12 v1 3 v4 = some (r, A') ∧ k_Wf sc A' := by
  intro N
  induction N with
  | zero => intro A v1 v4 r A' hw  h; exact absurd h (by simp [gX2_ask_h41])
  | succ N ih =>
    intro A v1 v4 r A' hw  h
    rw [gX2_ask_h41] at h
    rw [fX2_ask_h41]
    rw [if_pos (k_wO hw k_K12)]
    by_cases c1 : v4 < (k_rd A 12 5)
    · rw [if_pos c1] at h
      rw [if_pos c1]
      try rw [k_p2_0 hw]
      obtain ⟨hc5, h⟩ := k_pk h
      rw [if_pos (k_wA hw (k_R13) hc5)]
      obtain ⟨hc6, h⟩ := k_pk h
      rw [if_pos (k_wA hw (k_R3) hc6)]
      try rw [k_a23 hw hc6]
      obtain ⟨hc7, h⟩ := k_pk h
      rw [if_pos (k_wA hw (k_R3) hc7)]
      try rw [k_a23 hw hc7]
      rw [if_pos (k_wO hw (k_b23 hc6))]
      obtain ⟨r8, A9, hq10, h⟩ := k_pb h
      have hw11 := sgX1_milesTo hw (k_b23 hc6) (k_b23 hc7) hq10
      rw [hw11.1]
      rw [k_bds]
      rw [if_pos (k_wO hw11.2 k_K12)]
      obtain ⟨hc12, h⟩ := k_pk h
      rw [if_pos hc12]
      try rw [k_p2_2 hw11.2]
      obtain ⟨hc13, h⟩ := k_pk h
      rw [if_pos (k_wA hw11.2 (k_R15) hc13)]
      obtain ⟨A14, eA15, h⟩ := k_pl h
      have hw16 := k_wE eA15 (k_wa hw11.2 k_R15 (by decide))
      refine k_ltg eA15 ?_
      try rw [k_p2_2 hw16]
      obtain ⟨hc17, h⟩ := k_pk h
      rw [if_pos (k_wA hw16 (k_R15) hc17)]
      obtain ⟨A18, eA19, h⟩ := k_pl h
      have hw20 := k_wE eA19 (k_wa hw16 k_R15 (by decide))
      refine k_ltg eA19 ?_
      exact ih _ _ _ _ _ hw20 h
    · rw [if_neg c1] at h
      rw [if_neg c1]
      obtain ⟨A2, eA3, h⟩ := k_pl h
      have hw4 := k_wE eA3 (k_wo hw k_K12 5 (by decide))
      refine k_ltg eA3 ?_
      obtain ⟨rfl, rfl⟩ := k_pr h
      exact ⟨rfl, hw4⟩
set_option maxRecDepth 100000 in
theorem sgX2_ask_b0 {sc : k_SC} (A : k_H) (v1 v3 : Int) (r : Int) (A' : k_H) (hw : k_Wf sc A) (h : gX2_ask_b0 A v1 v3 = some (r, A')) : fX2_ask_b0 A 12 v1 3 v3 = some (r, A') ∧ k_Wf sc A' := by
  unfold gX2_ask_b0 at h
  unfold fX2_ask_b0
  rw [if_pos (k_wO hw k_K12)]
  obtain ⟨r1, A2, hq3, h⟩ := k_pb h
  have hw4 := sgX2_asksMore hw  hq3
  rw [hw4.1]
  rw [k_bds]
  by_cases c5 : r1 = 0
  · rw [if_pos c5] at h
    rw [if_pos c5]
    obtain ⟨rfl, rfl⟩ := k_pr h
    exact ⟨rfl, hw4.2⟩
  · rw [if_neg c5] at h
    rw [if_neg c5]
    rw [if_pos (k_wO hw4.2 k_K12)]
    try rw [k_p2_0 hw4.2]
    obtain ⟨hc6, h⟩ := k_pk h
    rw [if_pos (k_wA hw4.2 (k_R13) hc6)]
    obtain ⟨A7, eA8, h⟩ := k_pl h
    have hw9 := k_wE eA8 (k_wa hw4.2 k_R13 (by decide))
    refine k_ltg eA8 ?_
    try rw [k_p2_1 hw9]
    obtain ⟨hc10, h⟩ := k_pk h
    rw [if_pos (k_wA hw9 (k_R14) hc10)]
    obtain ⟨A11, eA12, h⟩ := k_pl h
    have hw13 := k_wE eA12 (k_wa hw9 k_R14 (by decide))
    refine k_ltg eA12 ?_
    try rw [k_p2_3 hw13]
    obtain ⟨hc14, h⟩ := k_pk h
    rw [if_pos (k_wA hw13 (k_R16) hc14)]
    obtain ⟨A15, eA16, h⟩ := k_pl h
    have hw17 := k_wE eA16 (k_wa hw13 k_R16 (by decide))
    refine k_ltg eA16 ?_
    exact sgX2_ask_h41  _ _ _ _ _ _ hw17 h
theorem sgX2_ask {sc : k_SC} {A : k_H} {x1 x3 : Int} {r : Int} {A' : k_H} (hw : k_Wf sc A) (h : gX2_ask A x1 x3 = some (r, A')) : fX2_ask A 12 x1 3 x3 = some (r, A') ∧ k_Wf sc A' :=
  sgX2_ask_b0 _ _ _ _ _ hw h
/-! X2_gain -/
def gX2_gain_b0 (A : k_H) (v1 v2 v3 v4 : Int) : Option (Int × k_H) := k_bd (gX2_cell A v1 v2 v3) fun r1 A2 => if 0 ≤ r1 ∧ r1 < ((5376 : Nat) : Int) then (k_bd (gX2_unpack A2 (k_rd A2 17 r1) v4) fun r6 A7 => some (r6, A7)) else none
def gX2_gain (A : k_H) (x1 x2 x3 x4 : Int) : Option (Int × k_H) := gX2_gain_b0 A x1 x2 x3 x4
set_option maxRecDepth 100000 in
theorem sgX2_gain_b0 {sc : k_SC} (A : k_H) (v1 v2 v3 v4 : Int) (r : Int) (A' : k_H) (hw : k_Wf sc A) (h : gX2_gain_b0 A v1 v2 v3 v4 = some (r, A')) : fX2_gain_b0 A 12 v1 v2 v3 v4 = some (r, A') ∧ k_Wf sc A' := by
  unfold gX2_gain_b0 at h
  unfold fX2_gain_b0
  rw [if_pos (k_wO hw k_K12)]
  try rw [k_p2_4 hw]
  obtain ⟨r1, A2, hq3, h⟩ := k_pb h
  have hw4 := sgX2_cell hw  hq3
  rw [hw4.1]
  rw [k_bds]
  obtain ⟨hc5, h⟩ := k_pk h
  rw [if_pos (k_wA hw4.2 (k_R17) hc5)]
  obtain ⟨r6, A7, hq8, h⟩ := k_pb h
  have hw9 := sgX2_unpack hw4.2  hq8
  rw [hw9.1]
  rw [k_bds]
  obtain ⟨rfl, rfl⟩ := k_pr h
  exact ⟨rfl, hw9.2⟩
theorem sgX2_gain {sc : k_SC} {A : k_H} {x1 x2 x3 x4 : Int} {r : Int} {A' : k_H} (hw : k_Wf sc A) (h : gX2_gain A x1 x2 x3 x4 = some (r, A')) : fX2_gain A 12 x1 x2 x3 x4 = some (r, A') ∧ k_Wf sc A' :=
  sgX2_gain_b0 _ _ _ _ _ _ _ hw h
/-! X2_gainRested -/
def gX2_gainRested_b75 (k6g : k_H → Int → Int → Int → Int → Int → Option (Int × k_H)) (A : k_H) (v1 v2 v3 v4 v5 : Int) : Option (Int × k_H) := k6g A v1 v2 v3 v4 (k_wr (v5 + 1))
def gX2_gainRested_h6 : Nat → k_H → Int → Int → Int → Int → Int → Option (Int × k_H)
  | 0, _, _, _, _, _, _ => none
  | N + 1, A, v1, v2, v3, v4, v5 => if v5 < (k_rd A 12 5) then (if 0 ≤ k_wr (k_wr (v3 * 6) + v5) ∧ k_wr (k_wr (v3 * 6) + v5) < ((36 : Nat) : Int) then (k_bd (gX2_has A v2 v5) fun r3 A4 => if r3 = 0 then (if k_wr (v1 + (max 2 (k_rd A 15 (k_wr (k_wr (v3 * 6) + v5))))) ≤ (k_rd A4 12 7) then (k_bd (gX2_gain A4 (k_wr (v1 + (max 2 (k_rd A 15 (k_wr (k_wr (v3 * 6) + v5)))))) (k_or v2 (k_shl 1 v5)) v5 0) fun r9 A10 => gX2_gainRested_b75 (gX2_gainRested_h6 N) A10 v1 v2 v3 (max v4 r9) v5) else (gX2_gainRested_b75 (gX2_gainRested_h6 N) A4 v1 v2 v3 v4 v5)) else (gX2_gainRested_b75 (gX2_gainRested_h6 N) A4 v1 v2 v3 v4 v5)) else none) else (some (v4, A))
def gX2_gainRested_b0 (A : k_H) (v1 v2 v3 : Int) : Option (Int × k_H) := gX2_gainRested_h6 k_FU A v1 v2 v3 0 0
def gX2_gainRested (A : k_H) (x1 x2 x3 : Int) : Option (Int × k_H) := gX2_gainRested_b0 A x1 x2 x3
set_option maxRecDepth 100000 in
theorem sgX2_gainRested_b75 {sc : k_SC} (k6f : k_H → Int → Int → Int → Int → Int → Int → Option (Int × k_H)) (k6g : k_H → Int → Int → Int → Int → Int → Option (Int × k_H)) (hk6 : ∀ (A : k_H) (v1 v2 v3 v4 v5 : Int) (r : Int) (A' : k_H), k_Wf sc A → k6g A v1 v2 v3 v4 v5 = some (r, A') → k6f A 12 v1 v2 v3 v4 v5 = some (r, A') ∧ k_Wf sc A') (A : k_H) (v1 v2 v3 v4 v5 : Int) (r : Int) (A' : k_H) (hw : k_Wf sc A) (h : gX2_gainRested_b75 k6g A v1 v2 v3 v4 v5 = some (r, A')) : fX2_gainRested_b75 k6f A 12 v1 v2 v3 v4 v5 = some (r, A') ∧ k_Wf sc A' := by
  unfold gX2_gainRested_b75 at h
  unfold fX2_gainRested_b75
  exact hk6 _ _ _ _ _ _ _ _ hw h
set_option maxRecDepth 100000 in
theorem sgX2_gainRested_h6 {sc : k_SC} : ∀ (N : Nat) (A : k_H) (v1 v2 v3 v4 v5 : Int) (r : Int) (A' : k_H), k_Wf sc A → gX2_gainRested_h6 N A v1 v2 v3 v4 v5 = some (r, A') → fX2_gainRested_h6 N A 12 v1 v2 v3 v4 v5 = some (r, A') ∧ k_Wf sc A' := by
  intro N
  induction N with
  | zero => intro A v1 v2 v3 v4 v5 r A' hw  h; exact absurd h (by simp [gX2_gainRested_h6])
  | succ N ih =>
    intro A v1 v2 v3 v4 v5 r A' hw  h
    rw [gX2_gainRested_h6] at h
    rw [fX2_gainRested_h6]
    rw [if_pos (k_wO hw k_K12)]
    by_cases c1 : v5 < (k_rd A 12 5)
    · rw [if_pos c1] at h
      rw [if_pos c1]
      try rw [k_p2_2 hw]
      obtain ⟨hc2, h⟩ := k_pk h
      rw [if_pos (k_wA hw (k_R15) hc2)]
      obtain ⟨r3, A4, hq5, h⟩ := k_pb h
      have hw6 := sgX2_has hw  hq5
      rw [hw6.1]
      rw [k_bds]
      by_cases c7 : r3 = 0
      · rw [if_pos c7] at h
        rw [if_pos c7]
        rw [if_pos (k_wO hw6.2 k_K12)]
        by_cases c8 : k_wr (v1 + (max 2 (k_rd A 15 (k_wr (k_wr (v3 * 6) + v5))))) ≤ (k_rd A4 12 7)
        · rw [if_pos c8] at h
          rw [if_pos c8]
          obtain ⟨r9, A10, hq11, h⟩ := k_pb h
          have hw12 := sgX2_gain hw6.2  hq11
          rw [hw12.1]
          rw [k_bds]
          exact sgX2_gainRested_b75 (fX2_gainRested_h6 N) (gX2_gainRested_h6 N) ih _ _ _ _ _ _ _ _ hw12.2 h
        · rw [if_neg c8] at h
          rw [if_neg c8]
          exact sgX2_gainRested_b75 (fX2_gainRested_h6 N) (gX2_gainRested_h6 N) ih _ _ _ _ _ _ _ _ hw6.2 h
      · rw [if_neg c7] at h
        rw [if_neg c7]
        exact sgX2_gainRested_b75 (fX2_gainRested_h6 N) (gX2_gainRested_h6 N) ih _ _ _ _ _ _ _ _ hw6.2 h
    · rw [if_neg c1] at h
      rw [if_neg c1]
      obtain ⟨rfl, rfl⟩ := k_pr h
      exact ⟨rfl, hw⟩
set_option maxRecDepth 100000 in
theorem sgX2_gainRested_b0 {sc : k_SC} (A : k_H) (v1 v2 v3 : Int) (r : Int) (A' : k_H) (hw : k_Wf sc A) (h : gX2_gainRested_b0 A v1 v2 v3 = some (r, A')) : fX2_gainRested_b0 A 12 v1 v2 v3 = some (r, A') ∧ k_Wf sc A' := by
  unfold gX2_gainRested_b0 at h
  unfold fX2_gainRested_b0
  exact sgX2_gainRested_h6  _ _ _ _ _ _ _ _ _ hw h
theorem sgX2_gainRested {sc : k_SC} {A : k_H} {x1 x2 x3 : Int} {r : Int} {A' : k_H} (hw : k_Wf sc A) (h : gX2_gainRested A x1 x2 x3 = some (r, A')) : fX2_gainRested A 12 x1 x2 x3 = some (r, A') ∧ k_Wf sc A' :=
  sgX2_gainRested_b0 _ _ _ _ _ _ hw h
/-! X2_gainNextNight -/
def gX2_gainNextNight_b74 (k6g : k_H → Int → Int → Int → Int → Int → Int → Option (Int × k_H)) (A : k_H) (v1 v2 v3 v4 v5 v6 : Int) : Option (Int × k_H) := k6g A v1 v2 v3 v4 v5 (k_wr (v6 + 1))
def gX2_gainNextNight_h6 : Nat → k_H → Int → Int → Int → Int → Int → Int → Option (Int × k_H)
  | 0, _, _, _, _, _, _, _ => none
  | N + 1, A, v1, v2, v3, v4, v5, v6 => if v6 < (k_rd A 12 5) then (if v1 < (k_rd A 12 7) then (k_bd (gX2_has A v2 v6) fun r3 A4 => if r3 = 0 then (if 0 ≤ k_wr (k_wr (v3 * 6) + v6) ∧ k_wr (k_wr (v3 * 6) + v6) < ((36 : Nat) : Int) then (if (k_rd A4 15 (k_wr (k_wr (v3 * 6) + v6))) ≤ 1 then (k_bd (gX2_gain A4 (k_wr (v1 + 1)) (k_or v2 (k_shl 1 v6)) v6 (k_wr (v4 + 1))) fun r10 A11 => gX2_gainNextNight_b74 (gX2_gainNextNight_h6 N) A11 v1 v2 v3 v4 (max v5 r10) v6) else (gX2_gainNextNight_b74 (gX2_gainNextNight_h6 N) A4 v1 v2 v3 v4 v5 v6)) else none) else (gX2_gainNextNight_b74 (gX2_gainNextNight_h6 N) A4 v1 v2 v3 v4 v5 v6)) else (some (v5, A))) else (some (v5, A))
def gX2_gainNextNight_b0 (A : k_H) (v1 v2 v3 v4 : Int) : Option (Int × k_H) := gX2_gainNextNight_h6 k_FU A v1 v2 v3 v4 0 0
def gX2_gainNextNight (A : k_H) (x1 x2 x3 x4 : Int) : Option (Int × k_H) := gX2_gainNextNight_b0 A x1 x2 x3 x4
set_option maxRecDepth 100000 in
theorem sgX2_gainNextNight_b74 {sc : k_SC} (k6f : k_H → Int → Int → Int → Int → Int → Int → Int → Option (Int × k_H)) (k6g : k_H → Int → Int → Int → Int → Int → Int → Option (Int × k_H)) (hk6 : ∀ (A : k_H) (v1 v2 v3 v4 v5 v6 : Int) (r : Int) (A' : k_H), k_Wf sc A → k6g A v1 v2 v3 v4 v5 v6 = some (r, A') → k6f A 12 v1 v2 v3 v4 v5 v6 = some (r, A') ∧ k_Wf sc A') (A : k_H) (v1 v2 v3 v4 v5 v6 : Int) (r : Int) (A' : k_H) (hw : k_Wf sc A) (h : gX2_gainNextNight_b74 k6g A v1 v2 v3 v4 v5 v6 = some (r, A')) : fX2_gainNextNight_b74 k6f A 12 v1 v2 v3 v4 v5 v6 = some (r, A') ∧ k_Wf sc A' := by
  unfold gX2_gainNextNight_b74 at h
  unfold fX2_gainNextNight_b74
  exact hk6 _ _ _ _ _ _ _ _ _ hw h
set_option maxRecDepth 100000 in
theorem sgX2_gainNextNight_h6 {sc : k_SC} : ∀ (N : Nat) (A : k_H) (v1 v2 v3 v4 v5 v6 : Int) (r : Int) (A' : k_H), k_Wf sc A → gX2_gainNextNight_h6 N A v1 v2 v3 v4 v5 v6 = some (r, A') → fX2_gainNextNight_h6 N A 12 v1 v2 v3 v4 v5 v6 = some (r, A') ∧ k_Wf sc A' := by
  intro N
  induction N with
  | zero => intro A v1 v2 v3 v4 v5 v6 r A' hw  h; exact absurd h (by simp [gX2_gainNextNight_h6])
  | succ N ih =>
    intro A v1 v2 v3 v4 v5 v6 r A' hw  h
    rw [gX2_gainNextNight_h6] at h
    rw [fX2_gainNextNight_h6]
    rw [if_pos (k_wO hw k_K12)]
    by_cases c1 : v6 < (k_rd A 12 5)
    · rw [if_pos c1] at h
      rw [if_pos c1]
      by_cases c2 : v1 < (k_rd A 12 7)
      · rw [if_pos c2] at h
        rw [if_pos c2]
        obtain ⟨r3, A4, hq5, h⟩ := k_pb h
        have hw6 := sgX2_has hw  hq5
        rw [hw6.1]
        rw [k_bds]
        by_cases c7 : r3 = 0
        · rw [if_pos c7] at h
          rw [if_pos c7]
          rw [if_pos (k_wO hw6.2 k_K12)]
          try rw [k_p2_2 hw6.2]
          obtain ⟨hc8, h⟩ := k_pk h
          rw [if_pos (k_wA hw6.2 (k_R15) hc8)]
          by_cases c9 : (k_rd A4 15 (k_wr (k_wr (v3 * 6) + v6))) ≤ 1
          · rw [if_pos c9] at h
            rw [if_pos c9]
            obtain ⟨r10, A11, hq12, h⟩ := k_pb h
            have hw13 := sgX2_gain hw6.2  hq12
            rw [hw13.1]
            rw [k_bds]
            exact sgX2_gainNextNight_b74 (fX2_gainNextNight_h6 N) (gX2_gainNextNight_h6 N) ih _ _ _ _ _ _ _ _ _ hw13.2 h
          · rw [if_neg c9] at h
            rw [if_neg c9]
            exact sgX2_gainNextNight_b74 (fX2_gainNextNight_h6 N) (gX2_gainNextNight_h6 N) ih _ _ _ _ _ _ _ _ _ hw6.2 h
        · rw [if_neg c7] at h
          rw [if_neg c7]
          exact sgX2_gainNextNight_b74 (fX2_gainNextNight_h6 N) (gX2_gainNextNight_h6 N) ih _ _ _ _ _ _ _ _ _ hw6.2 h
      · rw [if_neg c2] at h
        rw [if_neg c2]
        obtain ⟨rfl, rfl⟩ := k_pr h
        exact ⟨rfl, hw⟩
    · rw [if_neg c1] at h
      rw [if_neg c1]
      obtain ⟨rfl, rfl⟩ := k_pr h
      exact ⟨rfl, hw⟩
set_option maxRecDepth 100000 in
theorem sgX2_gainNextNight_b0 {sc : k_SC} (A : k_H) (v1 v2 v3 v4 : Int) (r : Int) (A' : k_H) (hw : k_Wf sc A) (h : gX2_gainNextNight_b0 A v1 v2 v3 v4 = some (r, A')) : fX2_gainNextNight_b0 A 12 v1 v2 v3 v4 = some (r, A') ∧ k_Wf sc A' := by
  unfold gX2_gainNextNight_b0 at h
  unfold fX2_gainNextNight_b0
  exact sgX2_gainNextNight_h6  _ _ _ _ _ _ _ _ _ _ hw h
theorem sgX2_gainNextNight {sc : k_SC} {A : k_H} {x1 x2 x3 x4 : Int} {r : Int} {A' : k_H} (hw : k_Wf sc A) (h : gX2_gainNextNight A x1 x2 x3 x4 = some (r, A')) : fX2_gainNextNight A 12 x1 x2 x3 x4 = some (r, A') ∧ k_Wf sc A' :=
  sgX2_gainNextNight_b0 _ _ _ _ _ _ _ hw h
/-! X2_mostPoints -/
def gX2_mostPoints_h4 : Nat → k_H → Int → Int → Option (Int × k_H)
  | 0, _, _, _ => none
  | N + 1, A, v1, v2 => if v2 < (k_rd A 12 5) then (k_bd (gX2_gain A (k_rd A 12 6) (k_shl 1 v2) v2 0) fun r2 A3 => (gX2_mostPoints_h4 N) A3 (max v1 r2) (k_wr (v2 + 1))) else (some (v1, A))
def gX2_mostPoints_b0 (A : k_H) : Option (Int × k_H) := gX2_mostPoints_h4 k_FU A 0 0
def gX2_mostPoints (A : k_H) : Option (Int × k_H) := gX2_mostPoints_b0 A
set_option maxRecDepth 100000 in
theorem sgX2_mostPoints_h4 {sc : k_SC} : ∀ (N : Nat) (A : k_H) (v1 v2 : Int) (r : Int) (A' : k_H), k_Wf sc A → gX2_mostPoints_h4 N A v1 v2 = some (r, A') → fX2_mostPoints_h4 N A 12 v1 v2 = some (r, A') ∧ k_Wf sc A' := by
  intro N
  induction N with
  | zero => intro A v1 v2 r A' hw  h; exact absurd h (by simp [gX2_mostPoints_h4])
  | succ N ih =>
    intro A v1 v2 r A' hw  h
    rw [gX2_mostPoints_h4] at h
    rw [fX2_mostPoints_h4]
    rw [if_pos (k_wO hw k_K12)]
    by_cases c1 : v2 < (k_rd A 12 5)
    · rw [if_pos c1] at h
      rw [if_pos c1]
      obtain ⟨r2, A3, hq4, h⟩ := k_pb h
      have hw5 := sgX2_gain hw  hq4
      rw [hw5.1]
      rw [k_bds]
      exact ih _ _ _ _ _ hw5.2 h
    · rw [if_neg c1] at h
      rw [if_neg c1]
      obtain ⟨rfl, rfl⟩ := k_pr h
      exact ⟨rfl, hw⟩
set_option maxRecDepth 100000 in
theorem sgX2_mostPoints_b0 {sc : k_SC} (A : k_H) (r : Int) (A' : k_H) (hw : k_Wf sc A) (h : gX2_mostPoints_b0 A = some (r, A')) : fX2_mostPoints_b0 A 12 = some (r, A') ∧ k_Wf sc A' := by
  unfold gX2_mostPoints_b0 at h
  unfold fX2_mostPoints_b0
  exact sgX2_mostPoints_h4  _ _ _ _ _ _ hw h
theorem sgX2_mostPoints {sc : k_SC} {A : k_H} {r : Int} {A' : k_H} (hw : k_Wf sc A) (h : gX2_mostPoints A  = some (r, A')) : fX2_mostPoints A 12 = some (r, A') ∧ k_Wf sc A' :=
  sgX2_mostPoints_b0 _ _ _ hw h
/-! X2_firstBringing -/
def gX2_firstBringing_b79 (k3g : k_H → Int → Int → Int → Int → Int → Int → Int → Option (Int × k_H)) (A : k_H) (v1 v2 v3 v4 v5 v6 v7 : Int) : Option (Int × k_H) := k3g A v1 v2 v3 v4 v5 v6 (k_wr (v7 + 1))
def gX2_firstBringing_b41 (k3g : k_H → Int → Int → Int → Int → Int → Int → Int → Option (Int × k_H)) (A : k_H) (v1 v2 v3 v4 v5 v6 v7 s0 : Int) : Option (Int × k_H) := if s0 = 0 then (gX2_firstBringing_b79 k3g A v1 v2 v3 v4 v5 v6 v7) else (k_bd (gX2_has A v3 v7) fun r2 A3 => if r2 = 0 then (k_bd (gX2_gain A3 v2 (k_or v3 (k_shl 1 v7)) v7 v6) fun r7 A8 => if r7 = v1 then (some (v7, A8)) else (gX2_firstBringing_b79 k3g A8 v1 v2 v3 v4 v5 v6 v7)) else (gX2_firstBringing_b79 k3g A3 v1 v2 v3 v4 v5 v6 v7))
def gX2_firstBringing_b36 (k3g : k_H → Int → Int → Int → Int → Int → Int → Int → Option (Int × k_H)) (A : k_H) (v1 v2 v3 v4 v5 v6 v7 : Int) : Option (Int × k_H) := gX2_firstBringing_b41 k3g A v1 v2 v3 v4 v5 v6 v7 1
def gX2_firstBringing_h3 : Nat → k_H → Int → Int → Int → Int → Int → Int → Int → Option (Int × k_H)
  | 0, _, _, _, _, _, _, _, _ => none
  | N + 1, A, v1, v2, v3, v4, v5, v6, v7 => if v7 < (k_rd A 12 5) then (if v4 = (-1) then (gX2_firstBringing_b36 (gX2_firstBringing_h3 N) A v1 v2 v3 v4 v5 v6 v7) else (if 0 ≤ k_wr (k_wr (v4 * 6) + v7) ∧ k_wr (k_wr (v4 * 6) + v7) < ((36 : Nat) : Int) then (if (k_rd A 15 (k_wr (k_wr (v4 * 6) + v7))) ≤ v5 then (gX2_firstBringing_b36 (gX2_firstBringing_h3 N) A v1 v2 v3 v4 v5 v6 v7) else (gX2_firstBringing_b41 (gX2_firstBringing_h3 N) A v1 v2 v3 v4 v5 v6 v7 0)) else none)) else (some ((-1), A))
def gX2_firstBringing_b0 (A : k_H) (v1 v2 v3 v4 v5 v6 : Int) : Option (Int × k_H) := gX2_firstBringing_h3 k_FU A v1 v2 v3 v4 v5 v6 0
def gX2_firstBringing (A : k_H) (x1 x2 x3 x4 x5 x6 : Int) : Option (Int × k_H) := gX2_firstBringing_b0 A x1 x2 x3 x4 x5 x6
set_option maxRecDepth 100000 in
theorem sgX2_firstBringing_b79 {sc : k_SC} (k3f : k_H → Int → Int → Int → Int → Int → Int → Int → Int → Option (Int × k_H)) (k3g : k_H → Int → Int → Int → Int → Int → Int → Int → Option (Int × k_H)) (hk3 : ∀ (A : k_H) (v1 v2 v3 v4 v5 v6 v7 : Int) (r : Int) (A' : k_H), k_Wf sc A → k3g A v1 v2 v3 v4 v5 v6 v7 = some (r, A') → k3f A 12 v1 v2 v3 v4 v5 v6 v7 = some (r, A') ∧ k_Wf sc A') (A : k_H) (v1 v2 v3 v4 v5 v6 v7 : Int) (r : Int) (A' : k_H) (hw : k_Wf sc A) (h : gX2_firstBringing_b79 k3g A v1 v2 v3 v4 v5 v6 v7 = some (r, A')) : fX2_firstBringing_b79 k3f A 12 v1 v2 v3 v4 v5 v6 v7 = some (r, A') ∧ k_Wf sc A' := by
  unfold gX2_firstBringing_b79 at h
  unfold fX2_firstBringing_b79
  exact hk3 _ _ _ _ _ _ _ _ _ _ hw h
set_option maxRecDepth 100000 in
theorem sgX2_firstBringing_b41 {sc : k_SC} (k3f : k_H → Int → Int → Int → Int → Int → Int → Int → Int → Option (Int × k_H)) (k3g : k_H → Int → Int → Int → Int → Int → Int → Int → Option (Int × k_H)) (hk3 : ∀ (A : k_H) (v1 v2 v3 v4 v5 v6 v7 : Int) (r : Int) (A' : k_H), k_Wf sc A → k3g A v1 v2 v3 v4 v5 v6 v7 = some (r, A') → k3f A 12 v1 v2 v3 v4 v5 v6 v7 = some (r, A') ∧ k_Wf sc A') (A : k_H) (v1 v2 v3 v4 v5 v6 v7 s0 : Int) (r : Int) (A' : k_H) (hw : k_Wf sc A) (h : gX2_firstBringing_b41 k3g A v1 v2 v3 v4 v5 v6 v7 s0 = some (r, A')) : fX2_firstBringing_b41 k3f A 12 v1 v2 v3 v4 v5 v6 v7 s0 = some (r, A') ∧ k_Wf sc A' := by
  unfold gX2_firstBringing_b41 at h
  unfold fX2_firstBringing_b41
  by_cases c1 : s0 = 0
  · rw [if_pos c1] at h
    rw [if_pos c1]
    exact sgX2_firstBringing_b79 k3f k3g hk3 _ _ _ _ _ _ _ _ _ _ hw h
  · rw [if_neg c1] at h
    rw [if_neg c1]
    obtain ⟨r2, A3, hq4, h⟩ := k_pb h
    have hw5 := sgX2_has hw  hq4
    rw [hw5.1]
    rw [k_bds]
    by_cases c6 : r2 = 0
    · rw [if_pos c6] at h
      rw [if_pos c6]
      rw [if_pos (k_wO hw5.2 k_K12)]
      obtain ⟨r7, A8, hq9, h⟩ := k_pb h
      have hw10 := sgX2_gain hw5.2  hq9
      rw [hw10.1]
      rw [k_bds]
      by_cases c11 : r7 = v1
      · rw [if_pos c11] at h
        rw [if_pos c11]
        obtain ⟨rfl, rfl⟩ := k_pr h
        exact ⟨rfl, hw10.2⟩
      · rw [if_neg c11] at h
        rw [if_neg c11]
        exact sgX2_firstBringing_b79 k3f k3g hk3 _ _ _ _ _ _ _ _ _ _ hw10.2 h
    · rw [if_neg c6] at h
      rw [if_neg c6]
      exact sgX2_firstBringing_b79 k3f k3g hk3 _ _ _ _ _ _ _ _ _ _ hw5.2 h
set_option maxRecDepth 100000 in
theorem sgX2_firstBringing_b36 {sc : k_SC} (k3f : k_H → Int → Int → Int → Int → Int → Int → Int → Int → Option (Int × k_H)) (k3g : k_H → Int → Int → Int → Int → Int → Int → Int → Option (Int × k_H)) (hk3 : ∀ (A : k_H) (v1 v2 v3 v4 v5 v6 v7 : Int) (r : Int) (A' : k_H), k_Wf sc A → k3g A v1 v2 v3 v4 v5 v6 v7 = some (r, A') → k3f A 12 v1 v2 v3 v4 v5 v6 v7 = some (r, A') ∧ k_Wf sc A') (A : k_H) (v1 v2 v3 v4 v5 v6 v7 : Int) (r : Int) (A' : k_H) (hw : k_Wf sc A) (h : gX2_firstBringing_b36 k3g A v1 v2 v3 v4 v5 v6 v7 = some (r, A')) : fX2_firstBringing_b36 k3f A 12 v1 v2 v3 v4 v5 v6 v7 = some (r, A') ∧ k_Wf sc A' := by
  unfold gX2_firstBringing_b36 at h
  unfold fX2_firstBringing_b36
  exact sgX2_firstBringing_b41 k3f k3g hk3 _ _ _ _ _ _ _ _ _ _ _ hw h
set_option maxRecDepth 100000 in
theorem sgX2_firstBringing_h3 {sc : k_SC} : ∀ (N : Nat) (A : k_H) (v1 v2 v3 v4 v5 v6 v7 : Int) (r : Int) (A' : k_H), k_Wf sc A → gX2_firstBringing_h3 N A v1 v2 v3 v4 v5 v6 v7 = some (r, A') → fX2_firstBringing_h3 N A 12 v1 v2 v3 v4 v5 v6 v7 = some (r, A') ∧ k_Wf sc A' := by
  intro N
  induction N with
  | zero => intro A v1 v2 v3 v4 v5 v6 v7 r A' hw  h; exact absurd h (by simp [gX2_firstBringing_h3])
  | succ N ih =>
    intro A v1 v2 v3 v4 v5 v6 v7 r A' hw  h
    rw [gX2_firstBringing_h3] at h
    rw [fX2_firstBringing_h3]
    rw [if_pos (k_wO hw k_K12)]
    by_cases c1 : v7 < (k_rd A 12 5)
    · rw [if_pos c1] at h
      rw [if_pos c1]
      by_cases c2 : v4 = (-1)
      · rw [if_pos c2] at h
        rw [if_pos c2]
        exact sgX2_firstBringing_b36 (fX2_firstBringing_h3 N) (gX2_firstBringing_h3 N) ih _ _ _ _ _ _ _ _ _ _ hw h
      · rw [if_neg c2] at h
        rw [if_neg c2]
        try rw [k_p2_2 hw]
        obtain ⟨hc3, h⟩ := k_pk h
        rw [if_pos (k_wA hw (k_R15) hc3)]
        by_cases c4 : (k_rd A 15 (k_wr (k_wr (v4 * 6) + v7))) ≤ v5
        · rw [if_pos c4] at h
          rw [if_pos c4]
          exact sgX2_firstBringing_b36 (fX2_firstBringing_h3 N) (gX2_firstBringing_h3 N) ih _ _ _ _ _ _ _ _ _ _ hw h
        · rw [if_neg c4] at h
          rw [if_neg c4]
          exact sgX2_firstBringing_b41 (fX2_firstBringing_h3 N) (gX2_firstBringing_h3 N) ih _ _ _ _ _ _ _ _ _ _ _ hw h
    · rw [if_neg c1] at h
      rw [if_neg c1]
      obtain ⟨rfl, rfl⟩ := k_pr h
      exact ⟨rfl, hw⟩
set_option maxRecDepth 100000 in
theorem sgX2_firstBringing_b0 {sc : k_SC} (A : k_H) (v1 v2 v3 v4 v5 v6 : Int) (r : Int) (A' : k_H) (hw : k_Wf sc A) (h : gX2_firstBringing_b0 A v1 v2 v3 v4 v5 v6 = some (r, A')) : fX2_firstBringing_b0 A 12 v1 v2 v3 v4 v5 v6 = some (r, A') ∧ k_Wf sc A' := by
  unfold gX2_firstBringing_b0 at h
  unfold fX2_firstBringing_b0
  exact sgX2_firstBringing_h3  _ _ _ _ _ _ _ _ _ _ _ hw h
theorem sgX2_firstBringing {sc : k_SC} {A : k_H} {x1 x2 x3 x4 x5 x6 : Int} {r : Int} {A' : k_H} (hw : k_Wf sc A) (h : gX2_firstBringing A x1 x2 x3 x4 x5 x6 = some (r, A')) : fX2_firstBringing A 12 x1 x2 x3 x4 x5 x6 = some (r, A') ∧ k_Wf sc A' :=
  sgX2_firstBringing_b0 _ _ _ _ _ _ _ _ _ hw h
/-! X2_weigh -/
def gX2_weigh_b109 (A : k_H) (v1 v2 v3 v4 s0 : Int) : Option (Int × k_H) := k_bd (gX2_unpack A v4 1) fun r1 A2 => k_bd (gX2_pack A2 (max s0 r1) 0) fun r5 A6 => k_bd (gX2_cell A6 v1 v2 v3) fun r9 A10 => if 0 ≤ r9 ∧ r9 < ((5376 : Nat) : Int) then (k_lt (k_wt A10 17 r9 (k_lorr v4 r5)) fun A14 => some (0, A14)) else none
def gX2_weigh_b87 (A : k_H) (v1 v2 v3 v4 : Int) : Option (Int × k_H) := if v1 < (k_rd A 12 7) then (k_bd (gX2_gain A (k_wr (v1 + 1)) v2 v3 0) fun r2 A3 => gX2_weigh_b109 A3 v1 v2 v3 v4 r2) else (gX2_weigh_b109 A v1 v2 v3 v4 0)
def gX2_weigh_h28 : Nat → k_H → Int → Int → Int → Int → Int → Int → Option (Int × k_H)
  | 0, _, _, _, _, _, _, _ => none
  | N + 1, A, v1, v2, v3, v4, v6, v7 => if v7 ≤ (k_rd A 12 9) then (k_bd (gJ6_bitCount_0f7a4 A v2) fun r2 A3 => if v7 ≤ r2 then (k_bd (gX2_gainNextNight A3 v1 v2 v3 v7) fun r7 A8 => if 0 ≤ v3 ∧ v3 < ((6 : Nat) : Int) then (k_bd (gX2_pack A8 (k_wr ((k_rd A8 14 v3) + (max v6 r7))) v7) fun r12 A13 => (gX2_weigh_h28 N) A13 v1 v2 v3 (k_lorr v4 r12) v6 (k_wr (v7 + 1))) else none) else (gX2_weigh_b87 A3 v1 v2 v3 v4)) else (gX2_weigh_b87 A v1 v2 v3 v4)
def gX2_weigh_b0 (A : k_H) (v1 v2 v3 : Int) : Option (Int × k_H) := if 0 ≤ v3 ∧ v3 < ((6 : Nat) : Int) then (k_bd (gX2_has A (k_rd A 16 v3) v1) fun r2 A3 => if r2 = 0 then (k_bd (gX2_gainRested A3 v1 v2 v3) fun r7 A8 => gX2_weigh_h28 k_FU A8 v1 v2 v3 0 r7 1) else (gX2_weigh_b87 A3 v1 v2 v3 0)) else none
def gX2_weigh (A : k_H) (x1 x2 x3 : Int) : Option (Int × k_H) := gX2_weigh_b0 A x1 x2 x3
set_option maxRecDepth 100000 in
theorem sgX2_weigh_b109 {sc : k_SC} (A : k_H) (v1 v2 v3 v4 s0 : Int) (r : Int) (A' : k_H) (hw : k_Wf sc A) (h : gX2_weigh_b109 A v1 v2 v3 v4 s0 = some (r, A')) : fX2_weigh_b109 A 12 v1 v2 v3 v4 s0 = some (r, A') ∧ k_Wf sc A' := by
  unfold gX2_weigh_b109 at h
  unfold fX2_weigh_b109
  obtain ⟨r1, A2, hq3, h⟩ := k_pb h
  have hw4 := sgX2_unpack hw  hq3
  rw [hw4.1]
  rw [k_bds]
  obtain ⟨r5, A6, hq7, h⟩ := k_pb h
  have hw8 := sgX2_pack hw4.2  hq7
  rw [hw8.1]
  rw [k_bds]
  rw [if_pos (k_wO hw8.2 k_K12)]
  try rw [k_p2_4 hw8.2]
  obtain ⟨r9, A10, hq11, h⟩ := k_pb h
  have hw12 := sgX2_cell hw8.2  hq11
  rw [hw12.1]
  rw [k_bds]
  obtain ⟨hc13, h⟩ := k_pk h
  rw [if_pos (k_wA hw12.2 (k_R17) hc13)]
  obtain ⟨A14, eA15, h⟩ := k_pl h
  have hw16 := k_wE eA15 (k_wa hw12.2 k_R17 (by decide))
  refine k_ltg eA15 ?_
  obtain ⟨rfl, rfl⟩ := k_pr h
  exact ⟨rfl, hw16⟩
set_option maxRecDepth 100000 in
theorem sgX2_weigh_b87 {sc : k_SC} (A : k_H) (v1 v2 v3 v4 : Int) (r : Int) (A' : k_H) (hw : k_Wf sc A) (h : gX2_weigh_b87 A v1 v2 v3 v4 = some (r, A')) : fX2_weigh_b87 A 12 v1 v2 v3 v4 = some (r, A') ∧ k_Wf sc A' := by
  unfold gX2_weigh_b87 at h
  unfold fX2_weigh_b87
  rw [if_pos (k_wO hw k_K12)]
  by_cases c1 : v1 < (k_rd A 12 7)
  · rw [if_pos c1] at h
    rw [if_pos c1]
    obtain ⟨r2, A3, hq4, h⟩ := k_pb h
    have hw5 := sgX2_gain hw  hq4
    rw [hw5.1]
    rw [k_bds]
    exact sgX2_weigh_b109  _ _ _ _ _ _ _ _ hw5.2 h
  · rw [if_neg c1] at h
    rw [if_neg c1]
    exact sgX2_weigh_b109  _ _ _ _ _ _ _ _ hw h
set_option maxRecDepth 100000 in
theorem sgX2_weigh_h28 {sc : k_SC} : ∀ (N : Nat) (A : k_H) (v1 v2 v3 v4 v6 v7 : Int) (r : Int) (A' : k_H), k_Wf sc A → gX2_weigh_h28 N A v1 v2 v3 v4 v6 v7 = some (r, A') → fX2_weigh_h28 N A 12 v1 v2 v3 v4 v6 v7 = some (r, A') ∧ k_Wf sc A' := by
  intro N
  induction N with
  | zero => intro A v1 v2 v3 v4 v6 v7 r A' hw  h; exact absurd h (by simp [gX2_weigh_h28])
  | succ N ih =>
    intro A v1 v2 v3 v4 v6 v7 r A' hw  h
    rw [gX2_weigh_h28] at h
    rw [fX2_weigh_h28]
    rw [if_pos (k_wO hw k_K12)]
    by_cases c1 : v7 ≤ (k_rd A 12 9)
    · rw [if_pos c1] at h
      rw [if_pos c1]
      obtain ⟨r2, A3, hq4, h⟩ := k_pb h
      have hw5 := sgJ6_bitCount_0f7a4 hw  hq4
      rw [hw5.1]
      rw [k_bds]
      by_cases c6 : v7 ≤ r2
      · rw [if_pos c6] at h
        rw [if_pos c6]
        rw [if_pos (k_wO hw5.2 k_K12)]
        obtain ⟨r7, A8, hq9, h⟩ := k_pb h
        have hw10 := sgX2_gainNextNight hw5.2  hq9
        rw [hw10.1]
        rw [k_bds]
        rw [if_pos (k_wO hw10.2 k_K12)]
        try rw [k_p2_1 hw10.2]
        obtain ⟨hc11, h⟩ := k_pk h
        rw [if_pos (k_wA hw10.2 (k_R14) hc11)]
        obtain ⟨r12, A13, hq14, h⟩ := k_pb h
        have hw15 := sgX2_pack hw10.2  hq14
        rw [hw15.1]
        rw [k_bds]
        exact ih _ _ _ _ _ _ _ _ _ hw15.2 h
      · rw [if_neg c6] at h
        rw [if_neg c6]
        exact sgX2_weigh_b87  _ _ _ _ _ _ _ hw5.2 h
    · rw [if_neg c1] at h
      rw [if_neg c1]
      exact sgX2_weigh_b87  _ _ _ _ _ _ _ hw h
set_option maxRecDepth 100000 in
theorem sgX2_weigh_b0 {sc : k_SC} (A : k_H) (v1 v2 v3 : Int) (r : Int) (A' : k_H) (hw : k_Wf sc A) (h : gX2_weigh_b0 A v1 v2 v3 = some (r, A')) : fX2_weigh_b0 A 12 v1 v2 v3 = some (r, A') ∧ k_Wf sc A' := by
  unfold gX2_weigh_b0 at h
  unfold fX2_weigh_b0
  rw [if_pos (k_wO hw k_K12)]
  try rw [k_p2_3 hw]
  obtain ⟨hc1, h⟩ := k_pk h
  rw [if_pos (k_wA hw (k_R16) hc1)]
  obtain ⟨r2, A3, hq4, h⟩ := k_pb h
  have hw5 := sgX2_has hw  hq4
  rw [hw5.1]
  rw [k_bds]
  by_cases c6 : r2 = 0
  · rw [if_pos c6] at h
    rw [if_pos c6]
    rw [if_pos (k_wO hw5.2 k_K12)]
    obtain ⟨r7, A8, hq9, h⟩ := k_pb h
    have hw10 := sgX2_gainRested hw5.2  hq9
    rw [hw10.1]
    rw [k_bds]
    exact sgX2_weigh_h28  _ _ _ _ _ _ _ _ _ _ hw10.2 h
  · rw [if_neg c6] at h
    rw [if_neg c6]
    exact sgX2_weigh_b87  _ _ _ _ _ _ _ hw5.2 h
theorem sgX2_weigh {sc : k_SC} {A : k_H} {x1 x2 x3 : Int} {r : Int} {A' : k_H} (hw : k_Wf sc A) (h : gX2_weigh A x1 x2 x3 = some (r, A')) : fX2_weigh A 12 x1 x2 x3 = some (r, A') ∧ k_Wf sc A' :=
  sgX2_weigh_b0 _ _ _ _ _ _ hw h
/-! X2_walk -/
def gX2_walk_b124 (k22g : k_H → Int → Int → Int → Int → Int → Int → Int → Option (Int × k_H)) (A : k_H) (v1 v2 v3 v4 v5 v6 v7 : Int) : Option (Int × k_H) := k22g A v1 v2 v3 v4 v5 v6 (k_wr (v7 + 1))
def gX2_walk_b58 (k22g : k_H → Int → Int → Int → Int → Int → Int → Int → Option (Int × k_H)) (A : k_H) (v1 v2 v3 v4 v5 v7 s0 : Int) : Option (Int × k_H) := k_bd (gX2_firstBringing A v2 v7 v3 v4 (k_wr (v7 - v5)) s0) fun r1 A2 => if r1 = (-1) then (gX2_walk_b124 k22g A2 v1 v2 v3 v4 v5 s0 v7) else (if 0 ≤ r1 ∧ r1 < ((6 : Nat) : Int) then (if 0 ≤ v7 ∧ v7 < ((14 : Nat) : Int) then (k_lt (k_wt A2 (v1 + 3) v7 (k_rd A2 13 r1)) fun A8 => if 0 ≤ r1 ∧ r1 < ((6 : Nat) : Int) then (gX2_walk_b124 k22g A8 v1 (k_wr (v2 - (k_rd A8 14 r1))) (k_or v3 (k_shl 1 r1)) r1 v7 s0 v7) else none) else none) else none)
def gX2_walk_b57 (k22g : k_H → Int → Int → Int → Int → Int → Int → Int → Option (Int × k_H)) (A : k_H) (v1 v2 v3 v4 v5 v7 : Int) : Option (Int × k_H) := gX2_walk_b58 k22g A v1 v2 v3 v4 v5 v7 1
def gX2_walk_h22 : Nat → k_H → Int → Int → Int → Int → Int → Int → Int → Option (Int × k_H)
  | 0, _, _, _, _, _, _, _, _ => none
  | N + 1, A, v1, v2, v3, v4, v5, v6, v7 => if v7 ≤ (k_rd A 12 7) then (if 0 < v2 then (if v4 = (-1) then (gX2_walk_b57 (gX2_walk_h22 N) A v1 v2 v3 v4 v5 v7) else (if v5 = k_wr (v7 - 1) then (gX2_walk_b58 (gX2_walk_h22 N) A v1 v2 v3 v4 v5 v7 (k_wr (v6 + 1))) else (gX2_walk_b57 (gX2_walk_h22 N) A v1 v2 v3 v4 v5 v7))) else (some (0, A))) else (some (0, A))
def gX2_walk_b0 (A : k_H) (v1 : Int) : Option (Int × k_H) := k_bd (gX2_mostPoints A) fun r1 A2 => gX2_walk_h22 k_FU A2 v1 r1 0 (-1) (-1) 0 (k_rd A2 12 6)
def gX2_walk (A : k_H) (x1 : Int) : Option (Int × k_H) := gX2_walk_b0 A x1
set_option maxRecDepth 100000 in
theorem sgX2_walk_b124 {sc : k_SC} (k22f : k_H → Int → Int → Int → Int → Int → Int → Int → Int → Option (Int × k_H)) (k22g : k_H → Int → Int → Int → Int → Int → Int → Int → Option (Int × k_H)) (hk22 : ∀ (A : k_H) (v1 v2 v3 v4 v5 v6 v7 : Int) (r : Int) (A' : k_H), k_Wf sc A → k_isK v1 4 → k22g A v1 v2 v3 v4 v5 v6 v7 = some (r, A') → k22f A 12 v1 v2 v3 v4 v5 v6 v7 = some (r, A') ∧ k_Wf sc A') (A : k_H) (v1 v2 v3 v4 v5 v6 v7 : Int) (r : Int) (A' : k_H) (hw : k_Wf sc A) (hv1 : k_isK v1 4) (h : gX2_walk_b124 k22g A v1 v2 v3 v4 v5 v6 v7 = some (r, A')) : fX2_walk_b124 k22f A 12 v1 v2 v3 v4 v5 v6 v7 = some (r, A') ∧ k_Wf sc A' := by
  unfold gX2_walk_b124 at h
  unfold fX2_walk_b124
  exact hk22 _ _ _ _ _ _ _ _ _ _ hw hv1 h
set_option maxRecDepth 100000 in
theorem sgX2_walk_b58 {sc : k_SC} (k22f : k_H → Int → Int → Int → Int → Int → Int → Int → Int → Option (Int × k_H)) (k22g : k_H → Int → Int → Int → Int → Int → Int → Int → Option (Int × k_H)) (hk22 : ∀ (A : k_H) (v1 v2 v3 v4 v5 v6 v7 : Int) (r : Int) (A' : k_H), k_Wf sc A → k_isK v1 4 → k22g A v1 v2 v3 v4 v5 v6 v7 = some (r, A') → k22f A 12 v1 v2 v3 v4 v5 v6 v7 = some (r, A') ∧ k_Wf sc A') (A : k_H) (v1 v2 v3 v4 v5 v7 s0 : Int) (r : Int) (A' : k_H) (hw : k_Wf sc A) (hv1 : k_isK v1 4) (h : gX2_walk_b58 k22g A v1 v2 v3 v4 v5 v7 s0 = some (r, A')) : fX2_walk_b58 k22f A 12 v1 v2 v3 v4 v5 v7 s0 = some (r, A') ∧ k_Wf sc A' := by
  unfold gX2_walk_b58 at h
  unfold fX2_walk_b58
  rw [if_pos (k_wO hw k_K12)]
  obtain ⟨r1, A2, hq3, h⟩ := k_pb h
  have hw4 := sgX2_firstBringing hw  hq3
  rw [hw4.1]
  rw [k_bds]
  by_cases c5 : r1 = (-1)
  · rw [if_pos c5] at h
    rw [if_pos c5]
    exact sgX2_walk_b124 k22f k22g hk22 _ _ _ _ _ _ _ _ _ _ hw4.2 hv1 h
  · rw [if_neg c5] at h
    rw [if_neg c5]
    rw [if_pos (k_wO hw4.2 hv1)]
    try rw [k_p4_1 hw4.2 hv1]
    rw [if_pos (k_wO hw4.2 k_K12)]
    try rw [k_p2_0 hw4.2]
    obtain ⟨hc6, h⟩ := k_pk h
    rw [if_pos (k_wA hw4.2 (k_R13) hc6)]
    obtain ⟨hc7, h⟩ := k_pk h
    rw [if_pos (k_wA hw4.2 ((k_q4_1 hv1)) hc7)]
    obtain ⟨A8, eA9, h⟩ := k_pl h
    have hw10 := k_wE eA9 (k_wa hw4.2 (k_q4_1 hv1) (by decide))
    refine k_ltg eA9 ?_
    try rw [k_p2_1 hw10]
    obtain ⟨hc11, h⟩ := k_pk h
    rw [if_pos (k_wA hw10 (k_R14) hc11)]
    exact sgX2_walk_b124 k22f k22g hk22 _ _ _ _ _ _ _ _ _ _ hw10 hv1 h
set_option maxRecDepth 100000 in
theorem sgX2_walk_b57 {sc : k_SC} (k22f : k_H → Int → Int → Int → Int → Int → Int → Int → Int → Option (Int × k_H)) (k22g : k_H → Int → Int → Int → Int → Int → Int → Int → Option (Int × k_H)) (hk22 : ∀ (A : k_H) (v1 v2 v3 v4 v5 v6 v7 : Int) (r : Int) (A' : k_H), k_Wf sc A → k_isK v1 4 → k22g A v1 v2 v3 v4 v5 v6 v7 = some (r, A') → k22f A 12 v1 v2 v3 v4 v5 v6 v7 = some (r, A') ∧ k_Wf sc A') (A : k_H) (v1 v2 v3 v4 v5 v7 : Int) (r : Int) (A' : k_H) (hw : k_Wf sc A) (hv1 : k_isK v1 4) (h : gX2_walk_b57 k22g A v1 v2 v3 v4 v5 v7 = some (r, A')) : fX2_walk_b57 k22f A 12 v1 v2 v3 v4 v5 v7 = some (r, A') ∧ k_Wf sc A' := by
  unfold gX2_walk_b57 at h
  unfold fX2_walk_b57
  exact sgX2_walk_b58 k22f k22g hk22 _ _ _ _ _ _ _ _ _ _ hw hv1 h
set_option maxRecDepth 100000 in
theorem sgX2_walk_h22 {sc : k_SC} : ∀ (N : Nat) (A : k_H) (v1 v2 v3 v4 v5 v6 v7 : Int) (r : Int) (A' : k_H), k_Wf sc A → k_isK v1 4 → gX2_walk_h22 N A v1 v2 v3 v4 v5 v6 v7 = some (r, A') → fX2_walk_h22 N A 12 v1 v2 v3 v4 v5 v6 v7 = some (r, A') ∧ k_Wf sc A' := by
  intro N
  induction N with
  | zero => intro A v1 v2 v3 v4 v5 v6 v7 r A' hw hv1 h; exact absurd h (by simp [gX2_walk_h22])
  | succ N ih =>
    intro A v1 v2 v3 v4 v5 v6 v7 r A' hw hv1 h
    rw [gX2_walk_h22] at h
    rw [fX2_walk_h22]
    rw [if_pos (k_wO hw k_K12)]
    by_cases c1 : v7 ≤ (k_rd A 12 7)
    · rw [if_pos c1] at h
      rw [if_pos c1]
      by_cases c2 : 0 < v2
      · rw [if_pos c2] at h
        rw [if_pos c2]
        by_cases c3 : v4 = (-1)
        · rw [if_pos c3] at h
          rw [if_pos c3]
          exact sgX2_walk_b57 (fX2_walk_h22 N) (gX2_walk_h22 N) ih _ _ _ _ _ _ _ _ _ hw hv1 h
        · rw [if_neg c3] at h
          rw [if_neg c3]
          by_cases c4 : v5 = k_wr (v7 - 1)
          · rw [if_pos c4] at h
            rw [if_pos c4]
            exact sgX2_walk_b58 (fX2_walk_h22 N) (gX2_walk_h22 N) ih _ _ _ _ _ _ _ _ _ _ hw hv1 h
          · rw [if_neg c4] at h
            rw [if_neg c4]
            exact sgX2_walk_b57 (fX2_walk_h22 N) (gX2_walk_h22 N) ih _ _ _ _ _ _ _ _ _ hw hv1 h
      · rw [if_neg c2] at h
        rw [if_neg c2]
        obtain ⟨rfl, rfl⟩ := k_pr h
        exact ⟨rfl, hw⟩
    · rw [if_neg c1] at h
      rw [if_neg c1]
      obtain ⟨rfl, rfl⟩ := k_pr h
      exact ⟨rfl, hw⟩
set_option maxRecDepth 100000 in
theorem sgX2_walk_b0 {sc : k_SC} (A : k_H) (v1 : Int) (r : Int) (A' : k_H) (hw : k_Wf sc A) (hv1 : k_isK v1 4) (h : gX2_walk_b0 A v1 = some (r, A')) : fX2_walk_b0 A 12 v1 = some (r, A') ∧ k_Wf sc A' := by
  unfold gX2_walk_b0 at h
  unfold fX2_walk_b0
  rw [if_pos (k_wO hw k_K12)]
  obtain ⟨r1, A2, hq3, h⟩ := k_pb h
  have hw4 := sgX2_mostPoints hw  hq3
  rw [hw4.1]
  rw [k_bds]
  rw [if_pos (k_wO hw4.2 k_K12)]
  exact sgX2_walk_h22  _ _ _ _ _ _ _ _ _ _ _ hw4.2 hv1 h
theorem sgX2_walk {sc : k_SC} {A : k_H} {x1 : Int} {r : Int} {A' : k_H} (hw : k_Wf sc A) (hx1 : k_isK x1 4) (h : gX2_walk A x1 = some (r, A')) : fX2_walk A 12 x1 = some (r, A') ∧ k_Wf sc A' :=
  sgX2_walk_b0 _ _ _ _ hw hx1 h
/-! X2_bookBest -/
def gX2_bookBest_b54 (k5g : k_H → Int → Int → Option (Int × k_H)) (k15g : k_H → Int → Int → Int → Option (Int × k_H)) (k28g : k_H → Int → Int → Int → Int → Option (Int × k_H)) (A : k_H) (v1 v2 v3 v4 : Int) : Option (Int × k_H) := k28g A v1 v2 v3 (k_wr (v4 + 1))
def gX2_bookBest_h28 (k5g : k_H → Int → Int → Option (Int × k_H)) (k15g : k_H → Int → Int → Int → Option (Int × k_H)) : Nat → k_H → Int → Int → Int → Int → Option (Int × k_H)
  | 0, _, _, _, _, _ => none
  | N + 1, A, v1, v2, v3, v4 => if v4 < (k_rd A 12 5) then (k_bd (gX2_has A v3 v4) fun r2 A3 => if r2 = 0 then (gX2_bookBest_b54 k5g k15g (gX2_bookBest_h28 k5g k15g N) A3 v1 v2 v3 v4) else (k_bd (gX2_weigh A3 v2 v3 v4) fun r7 A8 => gX2_bookBest_b54 k5g k15g (gX2_bookBest_h28 k5g k15g N) A8 v1 v2 v3 v4)) else (k15g A v1 v2 (k_wr (v3 + 1)))
def gX2_bookBest_h15 (k5g : k_H → Int → Int → Option (Int × k_H)) : Nat → k_H → Int → Int → Int → Option (Int × k_H)
  | 0, _, _, _, _ => none
  | N + 1, A, v1, v2, v3 => if v3 < (k_shl 1 (k_rd A 12 5)) then (gX2_bookBest_h28 k5g (gX2_bookBest_h15 k5g N) k_FU A v1 v2 v3 0) else (k5g A v1 (k_wr (v2 + (-1))))
def gX2_bookBest_h5 : Nat → k_H → Int → Int → Option (Int × k_H)
  | 0, _, _, _ => none
  | N + 1, A, v1, v2 => if (k_rd A 12 6) ≤ v2 then (gX2_bookBest_h15 (gX2_bookBest_h5 N) k_FU A v1 v2 1) else (k_bd (gX2_walk A v1) fun r2 A3 => some (0, A3))
def gX2_bookBest_b0 (A : k_H) (v1 : Int) : Option (Int × k_H) := gX2_bookBest_h5 k_FU A v1 (k_rd A 12 7)
def gX2_bookBest (A : k_H) (x1 : Int) : Option (Int × k_H) := gX2_bookBest_b0 A x1
set_option maxRecDepth 100000 in
theorem sgX2_bookBest_b54 {sc : k_SC} (k5f : k_H → Int → Int → Int → Option (Int × k_H)) (k5g : k_H → Int → Int → Option (Int × k_H)) (hk5 : ∀ (A : k_H) (v1 v2 : Int) (r : Int) (A' : k_H), k_Wf sc A → k_isK v1 4 → k5g A v1 v2 = some (r, A') → k5f A 12 v1 v2 = some (r, A') ∧ k_Wf sc A') (k15f : k_H → Int → Int → Int → Int → Option (Int × k_H)) (k15g : k_H → Int → Int → Int → Option (Int × k_H)) (hk15 : ∀ (A : k_H) (v1 v2 v3 : Int) (r : Int) (A' : k_H), k_Wf sc A → k_isK v1 4 → k15g A v1 v2 v3 = some (r, A') → k15f A 12 v1 v2 v3 = some (r, A') ∧ k_Wf sc A') (k28f : k_H → Int → Int → Int → Int → Int → Option (Int × k_H)) (k28g : k_H → Int → Int → Int → Int → Option (Int × k_H)) (hk28 : ∀ (A : k_H) (v1 v2 v3 v4 : Int) (r : Int) (A' : k_H), k_Wf sc A → k_isK v1 4 → k28g A v1 v2 v3 v4 = some (r, A') → k28f A 12 v1 v2 v3 v4 = some (r, A') ∧ k_Wf sc A') (A : k_H) (v1 v2 v3 v4 : Int) (r : Int) (A' : k_H) (hw : k_Wf sc A) (hv1 : k_isK v1 4) (h : gX2_bookBest_b54 k5g k15g k28g A v1 v2 v3 v4 = some (r, A')) : fX2_bookBest_b54 k5f k15f k28f A 12 v1 v2 v3 v4 = some (r, A') ∧ k_Wf sc A' := by
  unfold gX2_bookBest_b54 at h
  unfold fX2_bookBest_b54
  exact hk28 _ _ _ _ _ _ _ hw hv1 h
set_option maxRecDepth 100000 in
theorem sgX2_bookBest_h28 {sc : k_SC} (k5f : k_H → Int → Int → Int → Option (Int × k_H)) (k5g : k_H → Int → Int → Option (Int × k_H)) (hk5 : ∀ (A : k_H) (v1 v2 : Int) (r : Int) (A' : k_H), k_Wf sc A → k_isK v1 4 → k5g A v1 v2 = some (r, A') → k5f A 12 v1 v2 = some (r, A') ∧ k_Wf sc A') (k15f : k_H → Int → Int → Int → Int → Option (Int × k_H)) (k15g : k_H → Int → Int → Int → Option (Int × k_H)) (hk15 : ∀ (A : k_H) (v1 v2 v3 : Int) (r : Int) (A' : k_H), k_Wf sc A → k_isK v1 4 → k15g A v1 v2 v3 = some (r, A') → k15f A 12 v1 v2 v3 = some (r, A') ∧ k_Wf sc A') : ∀ (N : Nat) (A : k_H) (v1 v2 v3 v4 : Int) (r : Int) (A' : k_H), k_Wf sc A → k_isK v1 4 → gX2_bookBest_h28 k5g k15g N A v1 v2 v3 v4 = some (r, A') → fX2_bookBest_h28 k5f k15f N A 12 v1 v2 v3 v4 = some (r, A') ∧ k_Wf sc A' := by
  intro N
  induction N with
  | zero => intro A v1 v2 v3 v4 r A' hw hv1 h; exact absurd h (by simp [gX2_bookBest_h28])
  | succ N ih =>
    intro A v1 v2 v3 v4 r A' hw hv1 h
    rw [gX2_bookBest_h28] at h
    rw [fX2_bookBest_h28]
    rw [if_pos (k_wO hw k_K12)]
    by_cases c1 : v4 < (k_rd A 12 5)
    · rw [if_pos c1] at h
      rw [if_pos c1]
      obtain ⟨r2, A3, hq4, h⟩ := k_pb h
      have hw5 := sgX2_has hw  hq4
      rw [hw5.1]
      rw [k_bds]
      by_cases c6 : r2 = 0
      · rw [if_pos c6] at h
        rw [if_pos c6]
        exact sgX2_bookBest_b54 k5f k5g hk5 k15f k15g hk15 (fX2_bookBest_h28 k5f k15f N) (gX2_bookBest_h28 k5g k15g N) ih _ _ _ _ _ _ _ hw5.2 hv1 h
      · rw [if_neg c6] at h
        rw [if_neg c6]
        rw [if_pos (k_wO hw5.2 k_K12)]
        obtain ⟨r7, A8, hq9, h⟩ := k_pb h
        have hw10 := sgX2_weigh hw5.2  hq9
        rw [hw10.1]
        rw [k_bds]
        exact sgX2_bookBest_b54 k5f k5g hk5 k15f k15g hk15 (fX2_bookBest_h28 k5f k15f N) (gX2_bookBest_h28 k5g k15g N) ih _ _ _ _ _ _ _ hw10.2 hv1 h
    · rw [if_neg c1] at h
      rw [if_neg c1]
      exact hk15 _ _ _ _ _ _ hw hv1 h
set_option maxRecDepth 100000 in
theorem sgX2_bookBest_h15 {sc : k_SC} (k5f : k_H → Int → Int → Int → Option (Int × k_H)) (k5g : k_H → Int → Int → Option (Int × k_H)) (hk5 : ∀ (A : k_H) (v1 v2 : Int) (r : Int) (A' : k_H), k_Wf sc A → k_isK v1 4 → k5g A v1 v2 = some (r, A') → k5f A 12 v1 v2 = some (r, A') ∧ k_Wf sc A') : ∀ (N : Nat) (A : k_H) (v1 v2 v3 : Int) (r : Int) (A' : k_H), k_Wf sc A → k_isK v1 4 → gX2_bookBest_h15 k5g N A v1 v2 v3 = some (r, A') → fX2_bookBest_h15 k5f N A 12 v1 v2 v3 = some (r, A') ∧ k_Wf sc A' := by
  intro N
  induction N with
  | zero => intro A v1 v2 v3 r A' hw hv1 h; exact absurd h (by simp [gX2_bookBest_h15])
  | succ N ih =>
    intro A v1 v2 v3 r A' hw hv1 h
    rw [gX2_bookBest_h15] at h
    rw [fX2_bookBest_h15]
    rw [if_pos (k_wO hw k_K12)]
    by_cases c1 : v3 < (k_shl 1 (k_rd A 12 5))
    · rw [if_pos c1] at h
      rw [if_pos c1]
      exact sgX2_bookBest_h28 k5f k5g hk5 (fX2_bookBest_h15 k5f N) (gX2_bookBest_h15 k5g N) ih _ _ _ _ _ _ _ _ hw hv1 h
    · rw [if_neg c1] at h
      rw [if_neg c1]
      exact hk5 _ _ _ _ _ hw hv1 h
set_option maxRecDepth 100000 in
theorem sgX2_bookBest_h5 {sc : k_SC} : ∀ (N : Nat) (A : k_H) (v1 v2 : Int) (r : Int) (A' : k_H), k_Wf sc A → k_isK v1 4 → gX2_bookBest_h5 N A v1 v2 = some (r, A') → fX2_bookBest_h5 N A 12 v1 v2 = some (r, A') ∧ k_Wf sc A' := by
  intro N
  induction N with
  | zero => intro A v1 v2 r A' hw hv1 h; exact absurd h (by simp [gX2_bookBest_h5])
  | succ N ih =>
    intro A v1 v2 r A' hw hv1 h
    rw [gX2_bookBest_h5] at h
    rw [fX2_bookBest_h5]
    rw [if_pos (k_wO hw k_K12)]
    by_cases c1 : (k_rd A 12 6) ≤ v2
    · rw [if_pos c1] at h
      rw [if_pos c1]
      exact sgX2_bookBest_h15 (fX2_bookBest_h5 N) (gX2_bookBest_h5 N) ih _ _ _ _ _ _ _ hw hv1 h
    · rw [if_neg c1] at h
      rw [if_neg c1]
      obtain ⟨r2, A3, hq4, h⟩ := k_pb h
      have hw5 := sgX2_walk hw hv1 hq4
      rw [hw5.1]
      rw [k_bds]
      obtain ⟨rfl, rfl⟩ := k_pr h
      exact ⟨rfl, hw5.2⟩
set_option maxRecDepth 100000 in
theorem sgX2_bookBest_b0 {sc : k_SC} (A : k_H) (v1 : Int) (r : Int) (A' : k_H) (hw : k_Wf sc A) (hv1 : k_isK v1 4) (h : gX2_bookBest_b0 A v1 = some (r, A')) : fX2_bookBest_b0 A 12 v1 = some (r, A') ∧ k_Wf sc A' := by
  unfold gX2_bookBest_b0 at h
  unfold fX2_bookBest_b0
  rw [if_pos (k_wO hw k_K12)]
  exact sgX2_bookBest_h5  _ _ _ _ _ _ hw hv1 h
theorem sgX2_bookBest {sc : k_SC} {A : k_H} {x1 : Int} {r : Int} {A' : k_H} (hw : k_Wf sc A) (hx1 : k_isK x1 4) (h : gX2_bookBest A x1 = some (r, A')) : fX2_bookBest A 12 x1 = some (r, A') ∧ k_Wf sc A' :=
  sgX2_bookBest_b0 _ _ _ _ hw hx1 h
