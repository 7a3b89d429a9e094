/-! X8_shared -/
def gX8_shared_b24 (A : k_H) : Option (Int × k_H) := none
def gX8_shared_b0 (A : k_H) (v1 v2 v3 : Int) : Option (Int × k_H) := k_bd (gX8_isShow A v1) fun r1 A2 => if r1 = 0 then (gX8_shared_b24 A2) else (k_bd (gX8_isNight A2 v2) fun r6 A7 => if r6 = 0 then (gX8_shared_b24 A7) else (k_bd (gX8_isWithin A7 v3 0 3) fun r11 A12 => if r11 = 0 then (gX8_shared_b24 A12) else (if 0 ≤ v1 ∧ v1 < ((6 : Nat) : Int) then (if 0 ≤ v2 ∧ v2 < ((14 : Nat) : Int) then (if (k_rd A12 ((72 + 8 * v1) + 4) v2) = (-1) then (none) else (k_bd (gX4_partOfDoor A12 (72 + 8 * v1) v2 v3) fun r19 A20 => some (r19, A20))) else none) else none)))
def gX8_shared (A : k_H) (x1 x2 x3 : Int) : Option (Int × k_H) := gX8_shared_b0 A x1 x2 x3
set_option maxRecDepth 100000 in
theorem sgX8_shared_b24 {sc : k_SC} (A : k_H) (r : Int) (A' : k_H) (hw : k_Wf sc A) (h : gX8_shared_b24 A = some (r, A')) : fX8_shared_b24 A = some (r, A') ∧ k_Wf sc A' := by
  unfold gX8_shared_b24 at h
  unfold fX8_shared_b24
  cases h
set_option maxRecDepth 100000 in
theorem sgX8_shared_b0 {sc : k_SC} (A : k_H) (v1 v2 v3 : Int) (r : Int) (A' : k_H) (hw : k_Wf sc A) (h : gX8_shared_b0 A v1 v2 v3 = some (r, A')) : fX8_shared_b0 A 0 v1 v2 v3 = some (r, A') ∧ k_Wf sc A' := by
  unfold gX8_shared_b0 at h
  unfold fX8_shared_b0
  rw [if_pos (k_wO hw k_K0)]
  obtain ⟨r1, A2, hq3, h⟩ := k_pb h
  have hw4 := sgX8_isShow hw  hq3
  rw [hw4.1]
  rw [k_bds]
  by_cases c5 : r1 = 0
  · rw [if_pos c5] at h
    rw [if_pos c5]
    exact sgX8_shared_b24  _ _ _ hw4.2 h
  · rw [if_neg c5] at h
    rw [if_neg c5]
    obtain ⟨r6, A7, hq8, h⟩ := k_pb h
    have hw9 := sgX8_isNight hw4.2  hq8
    rw [hw9.1]
    rw [k_bds]
    by_cases c10 : r6 = 0
    · rw [if_pos c10] at h
      rw [if_pos c10]
      exact sgX8_shared_b24  _ _ _ hw9.2 h
    · rw [if_neg c10] at h
      rw [if_neg c10]
      obtain ⟨r11, A12, hq13, h⟩ := k_pb h
      have hw14 := sgX8_isWithin hw9.2  hq13
      rw [hw14.1]
      rw [k_bds]
      by_cases c15 : r11 = 0
      · rw [if_pos c15] at h
        rw [if_pos c15]
        exact sgX8_shared_b24  _ _ _ hw14.2 h
      · rw [if_neg c15] at h
        rw [if_neg c15]
        rw [if_pos (k_wO hw14.2 k_K0)]
        try rw [k_p8_2 hw14.2]
        obtain ⟨hc16, h⟩ := k_pk h
        rw [if_pos (k_wA hw14.2 (k_R4) hc16)]
        try rw [k_a24 hw14.2 hc16]
        rw [if_pos (k_wO hw14.2 (k_b24 hc16))]
        try rw [k_p4_2 hw14.2 (k_b24 hc16)]
        obtain ⟨hc17, h⟩ := k_pk h
        rw [if_pos (k_wA hw14.2 ((k_q4_2 (k_b24 hc16))) hc17)]
        by_cases c18 : (k_rd A12 ((72 + 8 * v1) + 4) v2) = (-1)
        · rw [if_pos c18] at h
          rw [if_pos c18]
          cases h
        · rw [if_neg c18] at h
          rw [if_neg c18]
          try rw [k_p8_2 hw14.2]
          try rw [k_a24 hw14.2 hc16]
          obtain ⟨r19, A20, hq21, h⟩ := k_pb h
          have hw22 := sgX4_partOfDoor hw14.2 (k_b24 hc16) hq21
          rw [hw22.1]
          rw [k_bds]
          obtain ⟨rfl, rfl⟩ := k_pr h
          exact ⟨rfl, hw22.2⟩
theorem sgX8_shared {sc : k_SC} {A : k_H} {x1 x2 x3 : Int} {r : Int} {A' : k_H} (hw : k_Wf sc A) (h : gX8_shared A x1 x2 x3 = some (r, A')) : fX8_shared A 0 x1 x2 x3 = some (r, A') ∧ k_Wf sc A' :=
  sgX8_shared_b0 _ _ _ _ _ _ hw h
/-! X8_keeps -/
def gX8_keeps_b87 (k22g : k_H → Int → Int → Int → Option (Int × k_H)) (k33g : k_H → Int → Int → Int → Int → Option (Int × k_H)) (A : k_H) (v1 v2 v3 v4 : Int) : Option (Int × k_H) := k33g A v1 v2 v3 (k_wr (v4 + 1))
def gX8_keeps_h33 (k22g : k_H → Int → Int → Int → Option (Int × k_H)) : Nat → k_H → Int → Int → Int → Int → Option (Int × k_H)
  | 0, _, _, _, _, _ => none
  | N + 1, A, v1, v2, v3, v4 => if v4 < 14 then (if 0 ≤ v3 ∧ v3 < ((6 : Nat) : Int) then (if 0 ≤ v4 ∧ v4 < ((14 : Nat) : Int) then (if (k_rd A ((72 + 8 * v3) + 3) v4) = v1 then (if 0 ≤ v4 ∧ v4 < ((14 : Nat) : Int) then (if (k_rd A ((72 + 8 * v3) + 4) v4) = (-1) then (gX8_keeps_b87 k22g (gX8_keeps_h33 k22g N) A v1 v2 v3 v4) else (k_bd (gX4_partOfDoor A (72 + 8 * v3) v4 2) fun r7 A8 => gX8_keeps_b87 k22g (gX8_keeps_h33 k22g N) A8 v1 (k_wr (v2 + r7)) v3 v4)) else none) else (gX8_keeps_b87 k22g (gX8_keeps_h33 k22g N) A v1 v2 v3 v4)) else none) else none) else (k22g A v1 v2 (k_wr (v3 + 1)))
def gX8_keeps_h22 : Nat → k_H → Int → Int → Int → Option (Int × k_H)
  | 0, _, _, _, _ => none
  | N + 1, A, v1, v2, v3 => if v3 < (k_rd A 0 7) then (gX8_keeps_h33 (gX8_keeps_h22 N) k_FU A v1 v2 v3 0) else (some (v2, A))
def gX8_keeps_b0 (A : k_H) (v1 : Int) : Option (Int × k_H) := k_bd (gX8_isHall A v1) fun r1 A2 => if r1 = 0 then (none) else (gX8_keeps_h22 k_FU A2 v1 0 0)
def gX8_keeps (A : k_H) (x1 : Int) : Option (Int × k_H) := gX8_keeps_b0 A x1
set_option maxRecDepth 100000 in
theorem sgX8_keeps_b87 {sc : k_SC} (k22f : k_H → Int → Int → Int → Int → Option (Int × k_H)) (k22g : k_H → Int → Int → Int → Option (Int × k_H)) (hk22 : ∀ (A : k_H) (v1 v2 v3 : Int) (r : Int) (A' : k_H), k_Wf sc A → k22g A v1 v2 v3 = some (r, A') → k22f A 0 v1 v2 v3 = some (r, A') ∧ k_Wf sc A') (k33f : k_H → Int → Int → Int → Int → Int → Option (Int × k_H)) (k33g : k_H → Int → Int → Int → Int → Option (Int × k_H)) (hk33 : ∀ (A : k_H) (v1 v2 v3 v4 : Int) (r : Int) (A' : k_H), k_Wf sc A → k33g A v1 v2 v3 v4 = some (r, A') → k33f A 0 v1 v2 v3 v4 = some (r, A') ∧ k_Wf sc A') (A : k_H) (v1 v2 v3 v4 : Int) (r : Int) (A' : k_H) (hw : k_Wf sc A) (h : gX8_keeps_b87 k22g k33g A v1 v2 v3 v4 = some (r, A')) : fX8_keeps_b87 k22f k33f A 0 v1 v2 v3 v4 = some (r, A') ∧ k_Wf sc A' := by
  unfold gX8_keeps_b87 at h
  unfold fX8_keeps_b87
  exact hk33 _ _ _ _ _ _ _ hw h
set_option maxRecDepth 100000 in
theorem sgX8_keeps_h33 {sc : k_SC} (k22f : k_H → Int → Int → Int → Int → Option (Int × k_H)) (k22g : k_H → Int → Int → Int → Option (Int × k_H)) (hk22 : ∀ (A : k_H) (v1 v2 v3 : Int) (r : Int) (A' : k_H), k_Wf sc A → k22g A v1 v2 v3 = some (r, A') → k22f A 0 v1 v2 v3 = some (r, A') ∧ k_Wf sc A') : ∀ (N : Nat) (A : k_H) (v1 v2 v3 v4 : Int) (r : Int) (A' : k_H), k_Wf sc A → gX8_keeps_h33 k22g N A v1 v2 v3 v4 = some (r, A') → fX8_keeps_h33 k22f N A 0 v1 v2 v3 v4 = some (r, A') ∧ k_Wf sc A' := by
  intro N
  induction N with
  | zero => intro A v1 v2 v3 v4 r A' hw  h; exact absurd h (by simp [gX8_keeps_h33])
  | succ N ih =>
    intro A v1 v2 v3 v4 r A' hw  h
    rw [gX8_keeps_h33] at h
    rw [fX8_keeps_h33]
    by_cases c1 : v4 < 14
    · rw [if_pos c1] at h
      rw [if_pos c1]
      rw [if_pos (k_wO hw k_K0)]
      try rw [k_p8_2 hw]
      obtain ⟨hc2, h⟩ := k_pk h
      rw [if_pos (k_wA hw (k_R4) hc2)]
      try rw [k_a24 hw hc2]
      rw [if_pos (k_wO hw (k_b24 hc2))]
      try rw [k_p4_1 hw (k_b24 hc2)]
      obtain ⟨hc3, h⟩ := k_pk h
      rw [if_pos (k_wA hw ((k_q4_1 (k_b24 hc2))) hc3)]
      by_cases c4 : (k_rd A ((72 + 8 * v3) + 3) v4) = v1
      · rw [if_pos c4] at h
        rw [if_pos c4]
        try rw [k_p8_2 hw]
        try rw [k_a24 hw hc2]
        try rw [k_p4_2 hw (k_b24 hc2)]
        obtain ⟨hc5, h⟩ := k_pk h
        rw [if_pos (k_wA hw ((k_q4_2 (k_b24 hc2))) hc5)]
        by_cases c6 : (k_rd A ((72 + 8 * v3) + 4) v4) = (-1)
        · rw [if_pos c6] at h
          rw [if_pos c6]
          exact sgX8_keeps_b87 k22f k22g hk22 (fX8_keeps_h33 k22f N) (gX8_keeps_h33 k22g N) ih _ _ _ _ _ _ _ hw h
        · rw [if_neg c6] at h
          rw [if_neg c6]
          try rw [k_p8_2 hw]
          try rw [k_a24 hw hc2]
          obtain ⟨r7, A8, hq9, h⟩ := k_pb h
          have hw10 := sgX4_partOfDoor hw (k_b24 hc2) hq9
          rw [hw10.1]
          rw [k_bds]
          exact sgX8_keeps_b87 k22f k22g hk22 (fX8_keeps_h33 k22f N) (gX8_keeps_h33 k22g N) ih _ _ _ _ _ _ _ hw10.2 h
      · rw [if_neg c4] at h
        rw [if_neg c4]
        exact sgX8_keeps_b87 k22f k22g hk22 (fX8_keeps_h33 k22f N) (gX8_keeps_h33 k22g N) ih _ _ _ _ _ _ _ hw h
    · rw [if_neg c1] at h
      rw [if_neg c1]
      exact hk22 _ _ _ _ _ _ hw h
set_option maxRecDepth 100000 in
theorem sgX8_keeps_h22 {sc : k_SC} : ∀ (N : Nat) (A : k_H) (v1 v2 v3 : Int) (r : Int) (A' : k_H), k_Wf sc A → gX8_keeps_h22 N A v1 v2 v3 = some (r, A') → fX8_keeps_h22 N A 0 v1 v2 v3 = some (r, A') ∧ k_Wf sc A' := by
  intro N
  induction N with
  | zero => intro A v1 v2 v3 r A' hw  h; exact absurd h (by simp [gX8_keeps_h22])
  | succ N ih =>
    intro A v1 v2 v3 r A' hw  h
    rw [gX8_keeps_h22] at h
    rw [fX8_keeps_h22]
    rw [if_pos (k_wO hw k_K0)]
    by_cases c1 : v3 < (k_rd A 0 7)
    · rw [if_pos c1] at h
      rw [if_pos c1]
      exact sgX8_keeps_h33 (fX8_keeps_h22 N) (gX8_keeps_h22 N) ih _ _ _ _ _ _ _ _ hw h
    · rw [if_neg c1] at h
      rw [if_neg c1]
      obtain ⟨rfl, rfl⟩ := k_pr h
      exact ⟨rfl, hw⟩
set_option maxRecDepth 100000 in
theorem sgX8_keeps_b0 {sc : k_SC} (A : k_H) (v1 : Int) (r : Int) (A' : k_H) (hw : k_Wf sc A) (h : gX8_keeps_b0 A v1 = some (r, A')) : fX8_keeps_b0 A 0 v1 = some (r, A') ∧ k_Wf sc A' := by
  unfold gX8_keeps_b0 at h
  unfold fX8_keeps_b0
  rw [if_pos (k_wO hw k_K0)]
  obtain ⟨r1, A2, hq3, h⟩ := k_pb h
  have hw4 := sgX8_isHall hw  hq3
  rw [hw4.1]
  rw [k_bds]
  by_cases c5 : r1 = 0
  · rw [if_pos c5] at h
    rw [if_pos c5]
    cases h
  · rw [if_neg c5] at h
    rw [if_neg c5]
    exact sgX8_keeps_h22  _ _ _ _ _ _ _ hw4.2 h
theorem sgX8_keeps {sc : k_SC} {A : k_H} {x1 : Int} {r : Int} {A' : k_H} (hw : k_Wf sc A) (h : gX8_keeps A x1 = some (r, A')) : fX8_keeps A 0 x1 = some (r, A') ∧ k_Wf sc A' :=
  sgX8_keeps_b0 _ _ _ _ hw h
