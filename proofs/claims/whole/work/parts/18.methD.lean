/-! X7_refuse -/
def fX7_refuse_b0 (A : k_H) (v0 v1 : Int) : Option (Int × k_H) := if k_isO A v0 7 then (k_lt (k_wt A v0 2 v1) fun A2 => k_lt (k_wt A2 v0 3 (k_rd A2 v0 9)) fun A5 => some (0, A5)) else none
def fX7_refuse (A : k_H) (x0 x1 : Int) : Option (Int × k_H) := fX7_refuse_b0 A x0 x1
set_option maxRecDepth 100000 in
theorem okX7_refuse_b0 (A : k_H) (v0 v1 : Int) (r : Int) (A' : k_H) (h : fX7_refuse_b0 A v0 v1 = some (r, A')) : k_AW 1 mX7_refuse 0 [(1, v0), (0, v1)] [] A r A' := by
  unfold fX7_refuse_b0 at h
  refine k_aload_n (pc := 0) (x := v0) dX7_refuse_0 rfl rfl ?_
  refine k_iload_n (pc := 1) (x := v1) dX7_refuse_1 rfl rfl ?_
  obtain ⟨hc1, h⟩ := k_pk h
  refine k_putf (pc := 2) (t := 0) (fi := 2) dX7_refuse_2 flX7_49 rfl rfl hc1 rfl ?_
  obtain ⟨A2, eA3, h⟩ := k_pl h
  refine k_hq eA3 ?_
  refine k_aload_n (pc := 5) (x := v0) dX7_refuse_5 rfl rfl ?_
  refine k_aload_n (pc := 6) (x := v0) dX7_refuse_6 rfl rfl ?_
  have hf4 := k_oW eA3 hc1
  refine k_getf (pc := 7) (t := 0) (fi := 9) dX7_refuse_7 flX7_142 rfl rfl hf4 ?_
  refine k_putf (pc := 10) (t := 0) (fi := 3) dX7_refuse_10 flX7_52 rfl rfl hf4 rfl ?_
  obtain ⟨A5, eA6, h⟩ := k_pl h
  refine k_hq eA6 ?_
  refine k_iconst (pc := 13) dX7_refuse_13 ⟨by decide, by decide⟩ ?_
  obtain ⟨rfl, rfl⟩ := k_pr h
  exact k_ret (pc := 14) dX7_refuse_14 rfl rfl (by decide +kernel)
theorem okX7_refuse {A : k_H} {x0 x1 : Int} {r : Int} {A1 : k_H} (h : fX7_refuse A x0 x1 = some (r, A1)) : k_AM 1 mX7_refuse [(1, x0), (0, x1)] A r A1 :=
  k_AM_of2 (ls := [(1, x0), (0, x1)]) (Or.inl (by decide +kernel)) (by decide +kernel) (by decide) rfl (Nat.le_of_ble_eq_true rfl) ⟨Or.inr rfl, Or.inr rfl, trivial⟩ (okX7_refuse_b0 A x0 x1 r A1 h)
/-! X7_isBlank -/
def fX7_isBlank_b12 (A : k_H) : Option (Int × k_H) := some (1, A)
def fX7_isBlank_b0 (A : k_H) (v0 : Int) : Option (Int × k_H) := if v0 = 32 then (fX7_isBlank_b12 A) else (if v0 = 10 then (fX7_isBlank_b12 A) else (some (0, A)))
def fX7_isBlank (A : k_H) (x0 : Int) : Option (Int × k_H) := fX7_isBlank_b0 A x0
set_option maxRecDepth 100000 in
theorem okX7_isBlank_b12 (A : k_H) (r : Int) (A' : k_H) (h : fX7_isBlank_b12 A  = some (r, A')) : k_AW 1 mX7_isBlank 12 [(3, 0)] [] A r A' := by
  unfold fX7_isBlank_b12 at h
  refine k_iconst (pc := 12) dX7_isBlank_12 ⟨by decide, by decide⟩ ?_
  refine k_goto (pc := 13) (tgt := 17) dX7_isBlank_13 rfl ?_
  obtain ⟨rfl, rfl⟩ := k_pr h
  exact k_ret (pc := 17) dX7_isBlank_17 rfl rfl (by decide +kernel)
set_option maxRecDepth 100000 in
theorem okX7_isBlank_b0 (A : k_H) (v0 : Int) (r : Int) (A' : k_H) (h : fX7_isBlank_b0 A v0 = some (r, A')) : k_AW 1 mX7_isBlank 0 [(0, v0)] [] A r A' := by
  unfold fX7_isBlank_b0 at h
  refine k_iload_n (pc := 0) (x := v0) dX7_isBlank_0 rfl rfl ?_
  refine k_bipush (pc := 1) dX7_isBlank_1 ⟨by decide, by decide⟩ (by decide +kernel) ?_
  refine k_icmp_eq (pc := 3) (tgt := 12) dX7_isBlank_3 rfl (fun c1 => ?_) (fun c1 => ?_)
  · rw [if_pos c1] at h
    refine k_sub (ls' := [(3, 0)]) (k_sbl_ok _ _ ⟨Or.inl rfl, trivial⟩) ?_
    exact okX7_isBlank_b12  _ _ _ h
  · rw [if_neg c1] at h
    refine k_iload_n (pc := 6) (x := v0) dX7_isBlank_6 rfl rfl ?_
    refine k_bipush (pc := 7) dX7_isBlank_7 ⟨by decide, by decide⟩ (by decide +kernel) ?_
    refine k_icmp_ne (pc := 9) (tgt := 16) dX7_isBlank_9 rfl (fun c2 => ?_) (fun c2 => ?_)
    · rw [if_neg c2] at h
      refine k_iconst (pc := 16) dX7_isBlank_16 ⟨by decide, by decide⟩ ?_
      obtain ⟨rfl, rfl⟩ := k_pr h
      exact k_ret (pc := 17) dX7_isBlank_17 rfl rfl (by decide +kernel)
    · rw [if_pos (Classical.not_not.mp c2)] at h
      refine k_sub (ls' := [(3, 0)]) (k_sbl_ok _ _ ⟨Or.inl rfl, trivial⟩) ?_
      exact okX7_isBlank_b12  _ _ _ h
theorem okX7_isBlank {A : k_H} {x0 : Int} {r : Int} {A1 : k_H} (h : fX7_isBlank A x0 = some (r, A1)) : k_AM 1 mX7_isBlank [(0, x0)] A r A1 :=
  k_AM_of2 (ls := [(0, x0)]) (Or.inl (by decide +kernel)) (by decide +kernel) (by decide) rfl (Nat.le_of_ble_eq_true rfl) ⟨Or.inr rfl, trivial⟩ (okX7_isBlank_b0 A x0 r A1 h)
/-! X7_isLetter -/
def fX7_isLetter_b0 (A : k_H) (v0 : Int) : Option (Int × k_H) := if 97 ≤ v0 then (if v0 ≤ 122 then (some (1, A)) else (some (0, A))) else (some (0, A))
def fX7_isLetter (A : k_H) (x0 : Int) : Option (Int × k_H) := fX7_isLetter_b0 A x0
set_option maxRecDepth 100000 in
theorem okX7_isLetter_b0 (A : k_H) (v0 : Int) (r : Int) (A' : k_H) (h : fX7_isLetter_b0 A v0 = some (r, A')) : k_AW 1 mX7_isLetter 0 [(0, v0)] [] A r A' := by
  unfold fX7_isLetter_b0 at h
  refine k_iload_n (pc := 0) (x := v0) dX7_isLetter_0 rfl rfl ?_
  refine k_bipush (pc := 1) dX7_isLetter_1 ⟨by decide, by decide⟩ (by decide +kernel) ?_
  refine k_icmp_lt (pc := 3) (tgt := 16) dX7_isLetter_3 rfl (fun c1 => ?_) (fun c1 => ?_)
  · rw [if_neg (Int.not_le.mpr c1)] at h
    refine k_iconst (pc := 16) dX7_isLetter_16 ⟨by decide, by decide⟩ ?_
    obtain ⟨rfl, rfl⟩ := k_pr h
    exact k_ret (pc := 17) dX7_isLetter_17 rfl rfl (by decide +kernel)
  · rw [if_pos (Int.not_lt.mp c1)] at h
    refine k_iload_n (pc := 6) (x := v0) dX7_isLetter_6 rfl rfl ?_
    refine k_bipush (pc := 7) dX7_isLetter_7 ⟨by decide, by decide⟩ (by decide +kernel) ?_
    refine k_icmp_gt (pc := 9) (tgt := 16) dX7_isLetter_9 rfl (fun c2 => ?_) (fun c2 => ?_)
    · rw [if_neg (Int.not_le.mpr c2)] at h
      refine k_iconst (pc := 16) dX7_isLetter_16 ⟨by decide, by decide⟩ ?_
      obtain ⟨rfl, rfl⟩ := k_pr h
      exact k_ret (pc := 17) dX7_isLetter_17 rfl rfl (by decide +kernel)
    · rw [if_pos (Int.not_lt.mp c2)] at h
      refine k_iconst (pc := 12) dX7_isLetter_12 ⟨by decide, by decide⟩ ?_
      refine k_goto (pc := 13) (tgt := 17) dX7_isLetter_13 rfl ?_
      obtain ⟨rfl, rfl⟩ := k_pr h
      exact k_ret (pc := 17) dX7_isLetter_17 rfl rfl (by decide +kernel)
theorem okX7_isLetter {A : k_H} {x0 : Int} {r : Int} {A1 : k_H} (h : fX7_isLetter A x0 = some (r, A1)) : k_AM 1 mX7_isLetter [(0, x0)] A r A1 :=
  k_AM_of2 (ls := [(0, x0)]) (Or.inl (by decide +kernel)) (by decide +kernel) (by decide) rfl (Nat.le_of_ble_eq_true rfl) ⟨Or.inr rfl, trivial⟩ (okX7_isLetter_b0 A x0 r A1 h)
/-! X7_isDigit -/
def fX7_isDigit_b0 (A : k_H) (v0 : Int) : Option (Int × k_H) := if 48 ≤ v0 then (if v0 ≤ 57 then (some (1, A)) else (some (0, A))) else (some (0, A))
def fX7_isDigit (A : k_H) (x0 : Int) : Option (Int × k_H) := fX7_isDigit_b0 A x0
set_option maxRecDepth 100000 in
theorem okX7_isDigit_b0 (A : k_H) (v0 : Int) (r : Int) (A' : k_H) (h : fX7_isDigit_b0 A v0 = some (r, A')) : k_AW 1 mX7_isDigit 0 [(0, v0)] [] A r A' := by
  unfold fX7_isDigit_b0 at h
  refine k_iload_n (pc := 0) (x := v0) dX7_isDigit_0 rfl rfl ?_
  refine k_bipush (pc := 1) dX7_isDigit_1 ⟨by decide, by decide⟩ (by decide +kernel) ?_
  refine k_icmp_lt (pc := 3) (tgt := 16) dX7_isDigit_3 rfl (fun c1 => ?_) (fun c1 => ?_)
  · rw [if_neg (Int.not_le.mpr c1)] at h
    refine k_iconst (pc := 16) dX7_isDigit_16 ⟨by decide, by decide⟩ ?_
    obtain ⟨rfl, rfl⟩ := k_pr h
    exact k_ret (pc := 17) dX7_isDigit_17 rfl rfl (by decide +kernel)
  · rw [if_pos (Int.not_lt.mp c1)] at h
    refine k_iload_n (pc := 6) (x := v0) dX7_isDigit_6 rfl rfl ?_
    refine k_bipush (pc := 7) dX7_isDigit_7 ⟨by decide, by decide⟩ (by decide +kernel) ?_
    refine k_icmp_gt (pc := 9) (tgt := 16) dX7_isDigit_9 rfl (fun c2 => ?_) (fun c2 => ?_)
    · rw [if_neg (Int.not_le.mpr c2)] at h
      refine k_iconst (pc := 16) dX7_isDigit_16 ⟨by decide, by decide⟩ ?_
      obtain ⟨rfl, rfl⟩ := k_pr h
      exact k_ret (pc := 17) dX7_isDigit_17 rfl rfl (by decide +kernel)
    · rw [if_pos (Int.not_lt.mp c2)] at h
      refine k_iconst (pc := 12) dX7_isDigit_12 ⟨by decide, by decide⟩ ?_
      refine k_goto (pc := 13) (tgt := 17) dX7_isDigit_13 rfl ?_
      obtain ⟨rfl, rfl⟩ := k_pr h
      exact k_ret (pc := 17) dX7_isDigit_17 rfl rfl (by decide +kernel)
theorem okX7_isDigit {A : k_H} {x0 : Int} {r : Int} {A1 : k_H} (h : fX7_isDigit A x0 = some (r, A1)) : k_AM 1 mX7_isDigit [(0, x0)] A r A1 :=
  k_AM_of2 (ls := [(0, x0)]) (Or.inl (by decide +kernel)) (by decide +kernel) (by decide) rfl (Nat.le_of_ble_eq_true rfl) ⟨Or.inr rfl, trivial⟩ (okX7_isDigit_b0 A x0 r A1 h)
/-! X8_end -/
def fX8_end_b0 (A : k_H) (v0 v1 : Int) : Option (Int × k_H) := if 0 ≤ v1 then (if k_isO A v0 8 then (if k_isO A (k_rd A v0 0) 5 then (if (k_rd A (k_rd A v0 0) 1) < v1 then (some (0, A)) else (k_lt (k_wt A (k_rd A v0 0) 1 v1) fun A5 => some (1, A5))) else none) else none) else (some (0, A))
def fX8_end (A : k_H) (x0 x1 : Int) : Option (Int × k_H) := fX8_end_b0 A x0 x1
set_option maxRecDepth 100000 in
theorem okX8_end_b0 (A : k_H) (v0 v1 : Int) (r : Int) (A' : k_H) (h : fX8_end_b0 A v0 v1 = some (r, A')) : k_AW 1 mX8_end 0 [(1, v0), (0, v1)] [] A r A' := by
  unfold fX8_end_b0 at h
  refine k_iload_n (pc := 0) (x := v1) dX8_end_0 rfl rfl ?_
  refine k_if_lt (pc := 1) (tgt := 15) dX8_end_1 rfl (fun c1 => ?_) (fun c1 => ?_)
  · rw [if_neg (Int.not_le.mpr c1)] at h
    refine k_iconst (pc := 15) dX8_end_15 ⟨by decide, by decide⟩ ?_
    obtain ⟨rfl, rfl⟩ := k_pr h
    exact k_ret (pc := 16) dX8_end_16 rfl rfl (by decide +kernel)
  · rw [if_pos (Int.not_lt.mp c1)] at h
    refine k_iload_n (pc := 4) (x := v1) dX8_end_4 rfl rfl ?_
    refine k_aload_n (pc := 5) (x := v0) dX8_end_5 rfl rfl ?_
    obtain ⟨hc2, h⟩ := k_pk h
    refine k_getf (pc := 6) (t := 1) (fi := 0) dX8_end_6 flX8_10 rfl rfl hc2 ?_
    obtain ⟨hc3, h⟩ := k_pk h
    refine k_getf (pc := 9) (t := 0) (fi := 1) dX8_end_9 flX8_51 rfl rfl hc3 ?_
    refine k_icmp_le (pc := 12) (tgt := 17) dX8_end_12 rfl (fun c4 => ?_) (fun c4 => ?_)
    · rw [if_neg (Int.not_lt.mpr c4)] at h
      refine k_aload_n (pc := 17) (x := v0) dX8_end_17 rfl rfl ?_
      refine k_getf (pc := 18) (t := 1) (fi := 0) dX8_end_18 flX8_10 rfl rfl hc2 ?_
      refine k_iload_n (pc := 21) (x := v1) dX8_end_21 rfl rfl ?_
      refine k_putf (pc := 22) (t := 0) (fi := 1) dX8_end_22 flX8_51 rfl rfl hc3 rfl ?_
      obtain ⟨A5, eA6, h⟩ := k_pl h
      refine k_hq eA6 ?_
      refine k_iconst (pc := 25) dX8_end_25 ⟨by decide, by decide⟩ ?_
      obtain ⟨rfl, rfl⟩ := k_pr h
      exact k_ret (pc := 26) dX8_end_26 rfl rfl (by decide +kernel)
    · rw [if_pos (Int.not_le.mp c4)] at h
      refine k_iconst (pc := 15) dX8_end_15 ⟨by decide, by decide⟩ ?_
      obtain ⟨rfl, rfl⟩ := k_pr h
      exact k_ret (pc := 16) dX8_end_16 rfl rfl (by decide +kernel)
theorem okX8_end {A : k_H} {x0 x1 : Int} {r : Int} {A1 : k_H} (h : fX8_end A x0 x1 = some (r, A1)) : k_AM 1 mX8_end [(1, x0), (0, x1)] A r A1 :=
  k_AM_of2 (ls := [(1, x0), (0, x1)]) (Or.inl (by decide +kernel)) (by decide +kernel) (by decide) rfl (Nat.le_of_ble_eq_true rfl) ⟨Or.inr rfl, Or.inr rfl, trivial⟩ (okX8_end_b0 A x0 x1 r A1 h)
/-! X8_fault -/
def fX8_fault_b0 (A : k_H) (v0 : Int) : Option (Int × k_H) := if k_isO A v0 8 then (if k_isO A (k_rd A v0 5) 7 then (some ((k_rd A (k_rd A v0 5) 2), A)) else none) else none
def fX8_fault (A : k_H) (x0 : Int) : Option (Int × k_H) := fX8_fault_b0 A x0
set_option maxRecDepth 100000 in
theorem okX8_fault_b0 (A : k_H) (v0 : Int) (r : Int) (A' : k_H) (h : fX8_fault_b0 A v0 = some (r, A')) : k_AW 1 mX8_fault 0 [(1, v0)] [] A r A' := by
  unfold fX8_fault_b0 at h
  refine k_aload_n (pc := 0) (x := v0) dX8_fault_0 rfl rfl ?_
  obtain ⟨hc1, h⟩ := k_pk h
  refine k_getf (pc := 1) (t := 1) (fi := 5) dX8_fault_1 flX8_45 rfl rfl hc1 ?_
  obtain ⟨hc2, h⟩ := k_pk h
  refine k_getf (pc := 4) (t := 0) (fi := 2) dX8_fault_4 flX8_203 rfl rfl hc2 ?_
  obtain ⟨rfl, rfl⟩ := k_pr h
  exact k_ret (pc := 7) dX8_fault_7 rfl rfl rfl
theorem okX8_fault {A : k_H} {x0 : Int} {r : Int} {A1 : k_H} (h : fX8_fault A x0 = some (r, A1)) : k_AM 1 mX8_fault [(1, x0)] A r A1 :=
  k_AM_of2 (ls := [(1, x0)]) (Or.inl (by decide +kernel)) (by decide +kernel) (by decide) rfl (Nat.le_of_ble_eq_true rfl) ⟨Or.inr rfl, trivial⟩ (okX8_fault_b0 A x0 r A1 h)
/-! X8_isWithin -/
def fX8_isWithin_b0 (A : k_H) (v0 v1 v2 : Int) : Option (Int × k_H) := if v1 ≤ v0 then (if v0 ≤ v2 then (some (1, A)) else (some (0, A))) else (some (0, A))
def fX8_isWithin (A : k_H) (x0 x1 x2 : Int) : Option (Int × k_H) := fX8_isWithin_b0 A x0 x1 x2
set_option maxRecDepth 100000 in
theorem okX8_isWithin_b0 (A : k_H) (v0 v1 v2 : Int) (r : Int) (A' : k_H) (h : fX8_isWithin_b0 A v0 v1 v2 = some (r, A')) : k_AW 1 mX8_isWithin 0 [(0, v0), (0, v1), (0, v2)] [] A r A' := by
  unfold fX8_isWithin_b0 at h
  refine k_iload_n (pc := 0) (x := v0) dX8_isWithin_0 rfl rfl ?_
  refine k_iload_n (pc := 1) (x := v1) dX8_isWithin_1 rfl rfl ?_
  refine k_icmp_lt (pc := 2) (tgt := 14) dX8_isWithin_2 rfl (fun c1 => ?_) (fun c1 => ?_)
  · rw [if_neg (Int.not_le.mpr c1)] at h
    refine k_iconst (pc := 14) dX8_isWithin_14 ⟨by decide, by decide⟩ ?_
    obtain ⟨rfl, rfl⟩ := k_pr h
    exact k_ret (pc := 15) dX8_isWithin_15 rfl rfl (by decide +kernel)
  · rw [if_pos (Int.not_lt.mp c1)] at h
    refine k_iload_n (pc := 5) (x := v0) dX8_isWithin_5 rfl rfl ?_
    refine k_iload_n (pc := 6) (x := v2) dX8_isWithin_6 rfl rfl ?_
    refine k_icmp_gt (pc := 7) (tgt := 14) dX8_isWithin_7 rfl (fun c2 => ?_) (fun c2 => ?_)
    · rw [if_neg (Int.not_le.mpr c2)] at h
      refine k_iconst (pc := 14) dX8_isWithin_14 ⟨by decide, by decide⟩ ?_
      obtain ⟨rfl, rfl⟩ := k_pr h
      exact k_ret (pc := 15) dX8_isWithin_15 rfl rfl (by decide +kernel)
    · rw [if_pos (Int.not_lt.mp c2)] at h
      refine k_iconst (pc := 10) dX8_isWithin_10 ⟨by decide, by decide⟩ ?_
      refine k_goto (pc := 11) (tgt := 15) dX8_isWithin_11 rfl ?_
      obtain ⟨rfl, rfl⟩ := k_pr h
      exact k_ret (pc := 15) dX8_isWithin_15 rfl rfl (by decide +kernel)
theorem okX8_isWithin {A : k_H} {x0 x1 x2 : Int} {r : Int} {A1 : k_H} (h : fX8_isWithin A x0 x1 x2 = some (r, A1)) : k_AM 1 mX8_isWithin [(0, x0), (0, x1), (0, x2)] A r A1 :=
  k_AM_of2 (ls := [(0, x0), (0, x1), (0, x2)]) (Or.inl (by decide +kernel)) (by decide +kernel) (by decide) rfl (Nat.le_of_ble_eq_true rfl) ⟨Or.inr rfl, Or.inr rfl, Or.inr rfl, trivial⟩ (okX8_isWithin_b0 A x0 x1 x2 r A1 h)
/-! X8_isHall -/
def fX8_isHall_b0 (A : k_H) (v0 v1 : Int) : Option (Int × k_H) := if 0 ≤ v1 then (if k_isO A v0 8 then (if v1 < (k_rd A v0 6) then (some (1, A)) else (some (0, A))) else none) else (some (0, A))
def fX8_isHall (A : k_H) (x0 x1 : Int) : Option (Int × k_H) := fX8_isHall_b0 A x0 x1
set_option maxRecDepth 100000 in
theorem okX8_isHall_b0 (A : k_H) (v0 v1 : Int) (r : Int) (A' : k_H) (h : fX8_isHall_b0 A v0 v1 = some (r, A')) : k_AW 1 mX8_isHall 0 [(1, v0), (0, v1)] [] A r A' := by
  unfold fX8_isHall_b0 at h
  refine k_iload_n (pc := 0) (x := v1) dX8_isHall_0 rfl rfl ?_
  refine k_if_lt (pc := 1) (tgt := 16) dX8_isHall_1 rfl (fun c1 => ?_) (fun c1 => ?_)
  · rw [if_neg (Int.not_le.mpr c1)] at h
    refine k_iconst (pc := 16) dX8_isHall_16 ⟨by decide, by decide⟩ ?_
    obtain ⟨rfl, rfl⟩ := k_pr h
    exact k_ret (pc := 17) dX8_isHall_17 rfl rfl (by decide +kernel)
  · rw [if_pos (Int.not_lt.mp c1)] at h
    refine k_iload_n (pc := 4) (x := v1) dX8_isHall_4 rfl rfl ?_
    refine k_aload_n (pc := 5) (x := v0) dX8_isHall_5 rfl rfl ?_
    obtain ⟨hc2, h⟩ := k_pk h
    refine k_getf (pc := 6) (t := 0) (fi := 6) dX8_isHall_6 flX8_59 rfl rfl hc2 ?_
    refine k_icmp_ge (pc := 9) (tgt := 16) dX8_isHall_9 rfl (fun c3 => ?_) (fun c3 => ?_)
    · rw [if_neg (Int.not_lt.mpr c3)] at h
      refine k_iconst (pc := 16) dX8_isHall_16 ⟨by decide, by decide⟩ ?_
      obtain ⟨rfl, rfl⟩ := k_pr h
      exact k_ret (pc := 17) dX8_isHall_17 rfl rfl (by decide +kernel)
    · rw [if_pos (Int.not_le.mp c3)] at h
      refine k_iconst (pc := 12) dX8_isHall_12 ⟨by decide, by decide⟩ ?_
      refine k_goto (pc := 13) (tgt := 17) dX8_isHall_13 rfl ?_
      obtain ⟨rfl, rfl⟩ := k_pr h
      exact k_ret (pc := 17) dX8_isHall_17 rfl rfl (by decide +kernel)
theorem okX8_isHall {A : k_H} {x0 x1 : Int} {r : Int} {A1 : k_H} (h : fX8_isHall A x0 x1 = some (r, A1)) : k_AM 1 mX8_isHall [(1, x0), (0, x1)] A r A1 :=
  k_AM_of2 (ls := [(1, x0), (0, x1)]) (Or.inl (by decide +kernel)) (by decide +kernel) (by decide) rfl (Nat.le_of_ble_eq_true rfl) ⟨Or.inr rfl, Or.inr rfl, trivial⟩ (okX8_isHall_b0 A x0 x1 r A1 h)
/-! X8_isShow -/
def fX8_isShow_b0 (A : k_H) (v0 v1 : Int) : Option (Int × k_H) := if 0 ≤ v1 then (if k_isO A v0 8 then (if v1 < (k_rd A v0 7) then (some (1, A)) else (some (0, A))) else none) else (some (0, A))
def fX8_isShow (A : k_H) (x0 x1 : Int) : Option (Int × k_H) := fX8_isShow_b0 A x0 x1
set_option maxRecDepth 100000 in
theorem okX8_isShow_b0 (A : k_H) (v0 v1 : Int) (r : Int) (A' : k_H) (h : fX8_isShow_b0 A v0 v1 = some (r, A')) : k_AW 1 mX8_isShow 0 [(1, v0), (0, v1)] [] A r A' := by
  unfold fX8_isShow_b0 at h
  refine k_iload_n (pc := 0) (x := v1) dX8_isShow_0 rfl rfl ?_
  refine k_if_lt (pc := 1) (tgt := 16) dX8_isShow_1 rfl (fun c1 => ?_) (fun c1 => ?_)
  · rw [if_neg (Int.not_le.mpr c1)] at h
    refine k_iconst (pc := 16) dX8_isShow_16 ⟨by decide, by decide⟩ ?_
    obtain ⟨rfl, rfl⟩ := k_pr h
    exact k_ret (pc := 17) dX8_isShow_17 rfl rfl (by decide +kernel)
  · rw [if_pos (Int.not_lt.mp c1)] at h
    refine k_iload_n (pc := 4) (x := v1) dX8_isShow_4 rfl rfl ?_
    refine k_aload_n (pc := 5) (x := v0) dX8_isShow_5 rfl rfl ?_
    obtain ⟨hc2, h⟩ := k_pk h
    refine k_getf (pc := 6) (t := 0) (fi := 7) dX8_isShow_6 flX8_80 rfl rfl hc2 ?_
    refine k_icmp_ge (pc := 9) (tgt := 16) dX8_isShow_9 rfl (fun c3 => ?_) (fun c3 => ?_)
    · rw [if_neg (Int.not_lt.mpr c3)] at h
      refine k_iconst (pc := 16) dX8_isShow_16 ⟨by decide, by decide⟩ ?_
      obtain ⟨rfl, rfl⟩ := k_pr h
      exact k_ret (pc := 17) dX8_isShow_17 rfl rfl (by decide +kernel)
    · rw [if_pos (Int.not_le.mp c3)] at h
      refine k_iconst (pc := 12) dX8_isShow_12 ⟨by decide, by decide⟩ ?_
      refine k_goto (pc := 13) (tgt := 17) dX8_isShow_13 rfl ?_
      obtain ⟨rfl, rfl⟩ := k_pr h
      exact k_ret (pc := 17) dX8_isShow_17 rfl rfl (by decide +kernel)
theorem okX8_isShow {A : k_H} {x0 x1 : Int} {r : Int} {A1 : k_H} (h : fX8_isShow A x0 x1 = some (r, A1)) : k_AM 1 mX8_isShow [(1, x0), (0, x1)] A r A1 :=
  k_AM_of2 (ls := [(1, x0), (0, x1)]) (Or.inl (by decide +kernel)) (by decide +kernel) (by decide) rfl (Nat.le_of_ble_eq_true rfl) ⟨Or.inr rfl, Or.inr rfl, trivial⟩ (okX8_isShow_b0 A x0 x1 r A1 h)
/-! X8_showAt -/
def fX8_showAt_h2 : Nat → k_H → Int → Int → Int → Int → Option (Int × k_H)
  | 0, _, _, _, _, _ => none
  | N + 1, A, v0, v1, v2, v3 => if k_isO A v0 8 then (if v3 < (k_rd A v0 7) then (if k_isA A (k_rd A v0 2) 24 v3 then (if k_isO A (k_rd A (k_rd A v0 2) v3) 4 then (if k_isA A (k_rd A (k_rd A (k_rd A v0 2) v3) 1) 21 v2 then (if (k_rd A (k_rd A (k_rd A (k_rd A v0 2) v3) 1) v2) = v1 then (some (v3, A)) else ((fX8_showAt_h2 N) A v0 v1 v2 (k_wr (v3 + 1)))) else none) else none) else none) else (some ((-1), A))) else none
def fX8_showAt_b0 (A : k_H) (v0 v1 v2 : Int) : Option (Int × k_H) := fX8_showAt_h2 k_FU A v0 v1 v2 0
def fX8_showAt (A : k_H) (x0 x1 x2 : Int) : Option (Int × k_H) := fX8_showAt_b0 A x0 x1 x2
set_option maxRecDepth 100000 in
theorem okX8_showAt_h2 : ∀ (N : Nat) (A : k_H) (v0 v1 v2 v3 : Int) (r : Int) (A' : k_H), fX8_showAt_h2 N A v0 v1 v2 v3 = some (r, A') → k_AW 1 mX8_showAt 2 [(1, v0), (0, v1), (0, v2), (0, v3)] [] A r A' := by
  intro N
  induction N with
  | zero => intro A v0 v1 v2 v3 r A' h; exact absurd h (by simp [fX8_showAt_h2])
  | succ N ih =>
    intro A v0 v1 v2 v3 r A' h
    rw [fX8_showAt_h2] at h
    refine k_iload_n (pc := 2) (x := v3) dX8_showAt_2 rfl rfl ?_
    refine k_aload_n (pc := 3) (x := v0) dX8_showAt_3 rfl rfl ?_
    obtain ⟨hc1, h⟩ := k_pk h
    refine k_getf (pc := 4) (t := 0) (fi := 7) dX8_showAt_4 flX8_80 rfl rfl hc1 ?_
    refine k_icmp_ge (pc := 7) (tgt := 33) dX8_showAt_7 rfl (fun c2 => ?_) (fun c2 => ?_)
    · rw [if_neg (Int.not_lt.mpr c2)] at h
      refine k_iconst (pc := 33) dX8_showAt_33 ⟨by decide, by decide⟩ ?_
      obtain ⟨rfl, rfl⟩ := k_pr h
      exact k_ret (pc := 34) dX8_showAt_34 rfl rfl rfl
    · rw [if_pos (Int.not_le.mp c2)] at h
      refine k_aload_n (pc := 10) (x := v0) dX8_showAt_10 rfl rfl ?_
      refine k_getf (pc := 11) (t := 1) (fi := 2) dX8_showAt_11 flX8_24 rfl rfl hc1 ?_
      refine k_iload_n (pc := 14) (x := v3) dX8_showAt_14 rfl rfl ?_
      obtain ⟨hc3, h⟩ := k_pk h
      refine k_aaload (pc := 15) (K := 24) dX8_showAt_15 (by decide) hc3 ?_
      obtain ⟨hc4, h⟩ := k_pk h
      refine k_getf (pc := 16) (t := 1) (fi := 1) dX8_showAt_16 flX8_163 rfl rfl hc4 ?_
      refine k_iload_n (pc := 19) (x := v2) dX8_showAt_19 rfl rfl ?_
      obtain ⟨hc5, h⟩ := k_pk h
      refine k_iaload (pc := 20) dX8_showAt_20 hc5 ?_
      refine k_iload_n (pc := 21) (x := v1) dX8_showAt_21 rfl rfl ?_
      refine k_icmp_ne (pc := 22) (tgt := 27) dX8_showAt_22 rfl (fun c6 => ?_) (fun c6 => ?_)
      · rw [if_neg c6] at h
        refine k_iinc (pc := 27) (x := v3) dX8_showAt_27 (Nat.le_of_ble_eq_true rfl) rfl rfl ?_
        show k_AW _ _ _ [(1, v0), (0, v1), (0, v2), (0, k_wr (v3 + 1))] _ _ _ _
        refine k_goto (pc := 30) (tgt := 2) dX8_showAt_30 rfl ?_
        refine k_sub (ls' := [(1, v0), (0, v1), (0, v2), (0, k_wr (v3 + 1))]) (k_sbl_ok _ _ ⟨Or.inr rfl, Or.inr rfl, Or.inr rfl, Or.inr rfl, trivial⟩) ?_
        exact ih _ _ _ _ _ _ _ h
      · rw [if_pos (Classical.not_not.mp c6)] at h
        refine k_iload_n (pc := 25) (x := v3) dX8_showAt_25 rfl rfl ?_
        obtain ⟨rfl, rfl⟩ := k_pr h
        exact k_ret (pc := 26) dX8_showAt_26 rfl rfl rfl
set_option maxRecDepth 100000 in
theorem okX8_showAt_b0 (A : k_H) (v0 v1 v2 : Int) (r : Int) (A' : k_H) (h : fX8_showAt_b0 A v0 v1 v2 = some (r, A')) : k_AW 1 mX8_showAt 0 [(1, v0), (0, v1), (0, v2), (3, 0)] [] A r A' := by
  unfold fX8_showAt_b0 at h
  refine k_iconst (pc := 0) dX8_showAt_0 ⟨by decide, by decide⟩ ?_
  refine k_istore_n (pc := 1) dX8_showAt_1 rfl (Nat.le_of_ble_eq_true rfl) rfl ?_
  show k_AW _ _ _ [(1, v0), (0, v1), (0, v2), (0, 0)] _ _ _ _
  refine k_sub (ls' := [(1, v0), (0, v1), (0, v2), (0, 0)]) (k_sbl_ok _ _ ⟨Or.inr rfl, Or.inr rfl, Or.inr rfl, Or.inr rfl, trivial⟩) ?_
  exact okX8_showAt_h2  _ _ _ _ _ _ _ _ h
theorem okX8_showAt {A : k_H} {x0 x1 x2 : Int} {r : Int} {A1 : k_H} (h : fX8_showAt A x0 x1 x2 = some (r, A1)) : k_AM 1 mX8_showAt [(1, x0), (0, x1), (0, x2)] A r A1 :=
  k_AM_of2 (ls := [(1, x0), (0, x1), (0, x2), (3, 0)]) (Or.inl (by decide +kernel)) (by decide +kernel) (by decide) rfl (Nat.le_of_ble_eq_true rfl) ⟨Or.inr rfl, Or.inr rfl, Or.inr rfl, rfl, trivial⟩ (okX8_showAt_b0 A x0 x1 x2 r A1 h)
/-! X8_nightsOnTours -/
def fX8_nightsOnTours_b38 (k4 : k_H → Int → Int → Int → Option (Int × k_H)) (k14 : k_H → Int → Int → Int → Int → Option (Int × k_H)) (A : k_H) (v0 v1 v2 v3 : Int) : Option (Int × k_H) := k14 A v0 v1 v2 (k_wr (v3 + 1))
def fX8_nightsOnTours_h14 (k4 : k_H → Int → Int → Int → Option (Int × k_H)) : Nat → k_H → Int → Int → Int → Int → Option (Int × k_H)
  | 0, _, _, _, _, _ => none
  | N + 1, A, v0, v1, v2, v3 => if v3 < 14 then (if k_isO A v0 8 then (if k_isA A (k_rd A v0 2) 24 v2 then (if k_isO A (k_rd A (k_rd A v0 2) v2) 4 then (if k_isA A (k_rd A (k_rd A (k_rd A v0 2) v2) 1) 21 v3 then (if (k_rd A (k_rd A (k_rd A (k_rd A v0 2) v2) 1) v3) = (-1) then (fX8_nightsOnTours_b38 k4 (fX8_nightsOnTours_h14 k4 N) A v0 v1 v2 v3) else (fX8_nightsOnTours_b38 k4 (fX8_nightsOnTours_h14 k4 N) A v0 (k_wr (v1 + 1)) v2 v3)) else none) else none) else none) else none) else (k4 A v0 v1 (k_wr (v2 + 1)))
def fX8_nightsOnTours_h4 : Nat → k_H → Int → Int → Int → Option (Int × k_H)
  | 0, _, _, _, _ => none
  | N + 1, A, v0, v1, v2 => if k_isO A v0 8 then (if v2 < (k_rd A v0 7) then (fX8_nightsOnTours_h14 (fX8_nightsOnTours_h4 N) k_FU A v0 v1 v2 0) else (some (v1, A))) else none
def fX8_nightsOnTours_b0 (A : k_H) (v0 : Int) : Option (Int × k_H) := fX8_nightsOnTours_h4 k_FU A v0 0 0
def fX8_nightsOnTours (A : k_H) (x0 : Int) : Option (Int × k_H) := fX8_nightsOnTours_b0 A x0
set_option maxRecDepth 100000 in
theorem okX8_nightsOnTours_b38 (k4 : k_H → Int → Int → Int → Option (Int × k_H)) (hk4 : ∀ (A : k_H) (v0 v1 v2 : Int) (r : Int) (A' : k_H), k4 A v0 v1 v2 = some (r, A') → k_AW 1 mX8_nightsOnTours 4 [(1, v0), (0, v1), (0, v2), (3, 0)] [] A r A') (k14 : k_H → Int → Int → Int → Int → Option (Int × k_H)) (hk14 : ∀ (A : k_H) (v0 v1 v2 v3 : Int) (r : Int) (A' : k_H), k14 A v0 v1 v2 v3 = some (r, A') → k_AW 1 mX8_nightsOnTours 14 [(1, v0), (0, v1), (0, v2), (0, v3)] [] A r A') (A : k_H) (v0 v1 v2 v3 : Int) (r : Int) (A' : k_H) (h : fX8_nightsOnTours_b38 k4 k14 A v0 v1 v2 v3 = some (r, A')) : k_AW 1 mX8_nightsOnTours 38 [(1, v0), (0, v1), (0, v2), (0, v3)] [] A r A' := by
  unfold fX8_nightsOnTours_b38 at h
  refine k_iinc (pc := 38) (x := v3) dX8_nightsOnTours_38 (Nat.le_of_ble_eq_true rfl) rfl rfl ?_
  show k_AW _ _ _ [(1, v0), (0, v1), (0, v2), (0, k_wr (v3 + 1))] _ _ _ _
  refine k_goto (pc := 41) (tgt := 14) dX8_nightsOnTours_41 rfl ?_
  refine k_sub (ls' := [(1, v0), (0, v1), (0, v2), (0, k_wr (v3 + 1))]) (k_sbl_ok _ _ ⟨Or.inr rfl, Or.inr rfl, Or.inr rfl, Or.inr rfl, trivial⟩) ?_
  exact hk14 _ _ _ _ _ _ _ h
set_option maxRecDepth 100000 in
theorem okX8_nightsOnTours_h14 (k4 : k_H → Int → Int → Int → Option (Int × k_H)) (hk4 : ∀ (A : k_H) (v0 v1 v2 : Int) (r : Int) (A' : k_H), k4 A v0 v1 v2 = some (r, A') → k_AW 1 mX8_nightsOnTours 4 [(1, v0), (0, v1), (0, v2), (3, 0)] [] A r A') : ∀ (N : Nat) (A : k_H) (v0 v1 v2 v3 : Int) (r : Int) (A' : k_H), fX8_nightsOnTours_h14 k4 N A v0 v1 v2 v3 = some (r, A') → k_AW 1 mX8_nightsOnTours 14 [(1, v0), (0, v1), (0, v2), (0, v3)] [] A r A' := by
  intro N
  induction N with
  | zero => intro A v0 v1 v2 v3 r A' h; exact absurd h (by simp [fX8_nightsOnTours_h14])
  | succ N ih =>
    intro A v0 v1 v2 v3 r A' h
    rw [fX8_nightsOnTours_h14] at h
    refine k_iload_n (pc := 14) (x := v3) dX8_nightsOnTours_14 rfl rfl ?_
    refine k_bipush (pc := 15) dX8_nightsOnTours_15 ⟨by decide, by decide⟩ (by decide +kernel) ?_
    refine k_icmp_ge (pc := 17) (tgt := 44) dX8_nightsOnTours_17 rfl (fun c1 => ?_) (fun c1 => ?_)
    · rw [if_neg (Int.not_lt.mpr c1)] at h
      refine k_iinc (pc := 44) (x := v2) dX8_nightsOnTours_44 (Nat.le_of_ble_eq_true rfl) rfl rfl ?_
      show k_AW _ _ _ [(1, v0), (0, v1), (0, k_wr (v2 + 1)), (0, v3)] _ _ _ _
      refine k_goto (pc := 47) (tgt := 4) dX8_nightsOnTours_47 rfl ?_
      refine k_sub (ls' := [(1, v0), (0, v1), (0, k_wr (v2 + 1)), (3, 0)]) (k_sbl_ok _ _ ⟨Or.inr rfl, Or.inr rfl, Or.inr rfl, Or.inl rfl, trivial⟩) ?_
      exact hk4 _ _ _ _ _ _ h
    · rw [if_pos (Int.not_le.mp c1)] at h
      refine k_aload_n (pc := 20) (x := v0) dX8_nightsOnTours_20 rfl rfl ?_
      obtain ⟨hc2, h⟩ := k_pk h
      refine k_getf (pc := 21) (t := 1) (fi := 2) dX8_nightsOnTours_21 flX8_24 rfl rfl hc2 ?_
      refine k_iload_n (pc := 24) (x := v2) dX8_nightsOnTours_24 rfl rfl ?_
      obtain ⟨hc3, h⟩ := k_pk h
      refine k_aaload (pc := 25) (K := 24) dX8_nightsOnTours_25 (by decide) hc3 ?_
      obtain ⟨hc4, h⟩ := k_pk h
      refine k_getf (pc := 26) (t := 1) (fi := 1) dX8_nightsOnTours_26 flX8_163 rfl rfl hc4 ?_
      refine k_iload_n (pc := 29) (x := v3) dX8_nightsOnTours_29 rfl rfl ?_
      obtain ⟨hc5, h⟩ := k_pk h
      refine k_iaload (pc := 30) dX8_nightsOnTours_30 hc5 ?_
      refine k_iconst (pc := 31) dX8_nightsOnTours_31 ⟨by decide, by decide⟩ ?_
      refine k_icmp_eq (pc := 32) (tgt := 38) dX8_nightsOnTours_32 rfl (fun c6 => ?_) (fun c6 => ?_)
      · rw [if_pos c6] at h
        refine k_sub (ls' := [(1, v0), (0, v1), (0, v2), (0, v3)]) (k_sbl_ok _ _ ⟨Or.inr rfl, Or.inr rfl, Or.inr rfl, Or.inr rfl, trivial⟩) ?_
        exact okX8_nightsOnTours_b38 k4 hk4 (fX8_nightsOnTours_h14 k4 N) ih _ _ _ _ _ _ _ h
      · rw [if_neg c6] at h
        refine k_iinc (pc := 35) (x := v1) dX8_nightsOnTours_35 (Nat.le_of_ble_eq_true rfl) rfl rfl ?_
        show k_AW _ _ _ [(1, v0), (0, k_wr (v1 + 1)), (0, v2), (0, v3)] _ _ _ _
        refine k_sub (ls' := [(1, v0), (0, k_wr (v1 + 1)), (0, v2), (0, v3)]) (k_sbl_ok _ _ ⟨Or.inr rfl, Or.inr rfl, Or.inr rfl, Or.inr rfl, trivial⟩) ?_
        exact okX8_nightsOnTours_b38 k4 hk4 (fX8_nightsOnTours_h14 k4 N) ih _ _ _ _ _ _ _ h
set_option maxRecDepth 100000 in
theorem okX8_nightsOnTours_h4 : ∀ (N : Nat) (A : k_H) (v0 v1 v2 : Int) (r : Int) (A' : k_H), fX8_nightsOnTours_h4 N A v0 v1 v2 = some (r, A') → k_AW 1 mX8_nightsOnTours 4 [(1, v0), (0, v1), (0, v2), (3, 0)] [] A r A' := by
  intro N
  induction N with
  | zero => intro A v0 v1 v2 r A' h; exact absurd h (by simp [fX8_nightsOnTours_h4])
  | succ N ih =>
    intro A v0 v1 v2 r A' h
    rw [fX8_nightsOnTours_h4] at h
    refine k_iload_n (pc := 4) (x := v2) dX8_nightsOnTours_4 rfl rfl ?_
    refine k_aload_n (pc := 5) (x := v0) dX8_nightsOnTours_5 rfl rfl ?_
    obtain ⟨hc1, h⟩ := k_pk h
    refine k_getf (pc := 6) (t := 0) (fi := 7) dX8_nightsOnTours_6 flX8_80 rfl rfl hc1 ?_
    refine k_icmp_ge (pc := 9) (tgt := 50) dX8_nightsOnTours_9 rfl (fun c2 => ?_) (fun c2 => ?_)
    · rw [if_neg (Int.not_lt.mpr c2)] at h
      refine k_iload_n (pc := 50) (x := v1) dX8_nightsOnTours_50 rfl rfl ?_
      obtain ⟨rfl, rfl⟩ := k_pr h
      exact k_ret (pc := 51) dX8_nightsOnTours_51 rfl rfl rfl
    · rw [if_pos (Int.not_le.mp c2)] at h
      refine k_iconst (pc := 12) dX8_nightsOnTours_12 ⟨by decide, by decide⟩ ?_
      refine k_istore_n (pc := 13) dX8_nightsOnTours_13 rfl (Nat.le_of_ble_eq_true rfl) rfl ?_
      show k_AW _ _ _ [(1, v0), (0, v1), (0, v2), (0, 0)] _ _ _ _
      refine k_sub (ls' := [(1, v0), (0, v1), (0, v2), (0, 0)]) (k_sbl_ok _ _ ⟨Or.inr rfl, Or.inr rfl, Or.inr rfl, Or.inr rfl, trivial⟩) ?_
      exact okX8_nightsOnTours_h14 (fX8_nightsOnTours_h4 N) ih _ _ _ _ _ _ _ _ h
set_option maxRecDepth 100000 in
theorem okX8_nightsOnTours_b0 (A : k_H) (v0 : Int) (r : Int) (A' : k_H) (h : fX8_nightsOnTours_b0 A v0 = some (r, A')) : k_AW 1 mX8_nightsOnTours 0 [(1, v0), (3, 0), (3, 0), (3, 0)] [] A r A' := by
  unfold fX8_nightsOnTours_b0 at h
  refine k_iconst (pc := 0) dX8_nightsOnTours_0 ⟨by decide, by decide⟩ ?_
  refine k_istore_n (pc := 1) dX8_nightsOnTours_1 rfl (Nat.le_of_ble_eq_true rfl) rfl ?_
  show k_AW _ _ _ [(1, v0), (0, 0), (3, 0), (3, 0)] _ _ _ _
  refine k_iconst (pc := 2) dX8_nightsOnTours_2 ⟨by decide, by decide⟩ ?_
  refine k_istore_n (pc := 3) dX8_nightsOnTours_3 rfl (Nat.le_of_ble_eq_true rfl) rfl ?_
  show k_AW _ _ _ [(1, v0), (0, 0), (0, 0), (3, 0)] _ _ _ _
  refine k_sub (ls' := [(1, v0), (0, 0), (0, 0), (3, 0)]) (k_sbl_ok _ _ ⟨Or.inr rfl, Or.inr rfl, Or.inr rfl, Or.inl rfl, trivial⟩) ?_
  exact okX8_nightsOnTours_h4  _ _ _ _ _ _ _ h
theorem okX8_nightsOnTours {A : k_H} {x0 : Int} {r : Int} {A1 : k_H} (h : fX8_nightsOnTours A x0 = some (r, A1)) : k_AM 1 mX8_nightsOnTours [(1, x0)] A r A1 :=
  k_AM_of2 (ls := [(1, x0), (3, 0), (3, 0), (3, 0)]) (Or.inl (by decide +kernel)) (by decide +kernel) (by decide) rfl (Nat.le_of_ble_eq_true rfl) ⟨Or.inr rfl, rfl, rfl, rfl, trivial⟩ (okX8_nightsOnTours_b0 A x0 r A1 h)
/-! X7_init -/
def fX7_init_b0 (A : k_H) (v0 : Int) : Option (Int × k_H) := if 0 ≤ v0 then (k_lt (k_mk A 6 7) fun A2 => if 0 ≤ (k_N A : Int) then (k_bd (fX6_init A2 (k_N A : Int)) fun r4 A5 => if k_isO A5 v0 7 then (k_lt (k_wt A5 v0 0 (k_N A : Int)) fun A9 => k_lt (k_mk A9 5 2) fun A11 => if 0 ≤ (k_N A9 : Int) then (k_bd (fX5_init A11 (k_N A9 : Int)) fun r13 A14 => if k_isO A14 v0 7 then (k_lt (k_wt A14 v0 4 (k_N A9 : Int)) fun A18 => some (0, A18)) else none) else none) else none) else none) else none
def fX7_init (A : k_H) (x0 : Int) : Option (Int × k_H) := fX7_init_b0 A x0
set_option maxRecDepth 100000 in
theorem okX7_init_b0 (A : k_H) (v0 : Int) (r : Int) (A' : k_H) (h : fX7_init_b0 A v0 = some (r, A')) : k_AW 2 mX7_init 0 [(1, v0)] [] A r A' := by
  unfold fX7_init_b0 at h
  refine k_aload_n (pc := 0) (x := v0) dX7_init_0 rfl rfl ?_
  obtain ⟨hc1, h⟩ := k_pk h
  refine k_objInit (pc := 1) dX7_init_1 (k_gt 129 (by decide +kernel) (by decide +kernel)) (by omega) hc1 (Nat.le_of_ble_eq_true rfl) ?_
  refine k_aload_n (pc := 4) (x := v0) dX7_init_4 rfl rfl ?_
  refine k_new (pc := 5) (ci := 6) (n := 7) dX7_init_5 ncX7_9 rfl ?_
  obtain ⟨A2, eA3, h⟩ := k_pl h
  refine k_hq eA3 ?_
  refine k_dup (pc := 8) dX7_init_8 (Nat.le_of_ble_eq_true rfl) ?_
  obtain ⟨hc7, h⟩ := k_pk h
  obtain ⟨r4, A5, hq6, h⟩ := k_pb h
  refine k_callIN (pc := 9) (a := (k_N A : Int)) (host := "VanPlays") (as := []) (st := [(1, (k_N A : Int)), (1, v0)]) (st1 := [(1, (k_N A : Int)), (1, v0)]) dX7_init_9 cbX6_init (by decide +kernel) (k_gt 133 (by decide +kernel) (by decide +kernel)) rfl rfl hc7 (by omega) rfl (Nat.le_of_ble_eq_true rfl) (okX6_init hq6) rfl ?_
  obtain ⟨hc8, h⟩ := k_pk h
  refine k_putF (pc := 12) (t := 1) (fi := 0) dX7_init_12 flX7_12 rfl (fun Cn Tt Nn h9 => by cases h9; rfl) rfl rfl hc8 rfl ?_
  obtain ⟨A9, eA10, h⟩ := k_pl h
  refine k_hq eA10 ?_
  refine k_aload_n (pc := 15) (x := v0) dX7_init_15 rfl rfl ?_
  refine k_new (pc := 16) (ci := 5) (n := 2) dX7_init_16 ncX7_18 rfl ?_
  obtain ⟨A11, eA12, h⟩ := k_pl h
  refine k_hq eA12 ?_
  refine k_dup (pc := 19) dX7_init_19 (Nat.le_of_ble_eq_true rfl) ?_
  obtain ⟨hc16, h⟩ := k_pk h
  obtain ⟨r13, A14, hq15, h⟩ := k_pb h
  refine k_callIN (pc := 20) (a := (k_N A9 : Int)) (host := "VanPlays") (as := []) (st := [(1, (k_N A9 : Int)), (1, v0)]) (st1 := [(1, (k_N A9 : Int)), (1, v0)]) dX7_init_20 cbX5_init (by decide +kernel) (k_gt 34 (by decide +kernel) (by decide +kernel)) rfl rfl hc16 (by omega) rfl (Nat.le_of_ble_eq_true rfl) (okX5_init hq15) rfl ?_
  obtain ⟨hc17, h⟩ := k_pk h
  refine k_putF (pc := 23) (t := 1) (fi := 4) dX7_init_23 flX7_21 rfl (fun Cn Tt Nn h9 => by cases h9; rfl) rfl rfl hc17 rfl ?_
  obtain ⟨A18, eA19, h⟩ := k_pl h
  refine k_hq eA19 ?_
  obtain ⟨rfl, rfl⟩ := k_pr h
  exact k_retv (pc := 26) dX7_init_26 rfl
theorem okX7_init {A : k_H} {x0 : Int} {r : Int} {A1 : k_H} (h : fX7_init A x0 = some (r, A1)) : k_AM 2 mX7_init [(1, x0)] A r A1 :=
  k_AM_of2 (ls := [(1, x0)]) (Or.inl (by decide +kernel)) (by decide +kernel) (by decide) rfl (Nat.le_of_ble_eq_true rfl) ⟨Or.inr rfl, trivial⟩ (okX7_init_b0 A x0 r A1 h)
/-! X7_start -/
def fX7_start_b0 (A : k_H) (v0 v1 : Int) : Option (Int × k_H) := if k_isO A v0 7 then (if k_isO A (k_rd A v0 4) 5 then (k_bd (fX5_copyFrom A (k_rd A v0 4) v1) fun r2 A3 => if k_isO A3 v0 7 then (if k_isO A3 (k_rd A3 v0 0) 6 then (k_bd (fX6_clear A3 (k_rd A3 v0 0)) fun r7 A8 => if k_isO A8 v0 7 then (k_lt (k_wt A8 v0 1 0) fun A12 => k_lt (k_wt A12 v0 2 0) fun A15 => k_lt (k_wt A15 v0 3 0) fun A18 => k_lt (k_wt A18 v0 5 0) fun A21 => k_lt (k_wt A21 v0 6 0) fun A24 => k_lt (k_wt A24 v0 7 0) fun A27 => k_lt (k_wt A27 v0 8 0) fun A30 => some (0, A30)) else none) else none) else none) else none) else none
def fX7_start (A : k_H) (x0 x1 : Int) : Option (Int × k_H) := fX7_start_b0 A x0 x1
set_option maxRecDepth 100000 in
theorem okX7_start_b0 (A : k_H) (v0 v1 : Int) (r : Int) (A' : k_H) (h : fX7_start_b0 A v0 v1 = some (r, A')) : k_AW 2 mX7_start 0 [(1, v0), (1, v1)] [] A r A' := by
  unfold fX7_start_b0 at h
  refine k_aload_n (pc := 0) (x := v0) dX7_start_0 rfl rfl ?_
  obtain ⟨hc1, h⟩ := k_pk h
  refine k_getf (pc := 1) (t := 1) (fi := 4) dX7_start_1 flX7_21 rfl rfl hc1 ?_
  refine k_aload_n (pc := 4) (x := v1) dX7_start_4 rfl rfl ?_
  obtain ⟨hc5, h⟩ := k_pk h
  obtain ⟨r2, A3, hq4, h⟩ := k_pb h
  refine k_callV (pc := 5) (ci := 5) (a := (k_rd A v0 4)) (as := [(1, v1)]) (st := []) (st1 := []) dX7_start_5 cbX5_copyFrom (k_gt 601 (by decide +kernel) (by decide +kernel)) cvX5_copyFrom.1 cvX5_copyFrom.2 rfl (by decide) hc5 (by omega) rfl (Nat.le_of_ble_eq_true rfl) (okX5_copyFrom hq4) rfl ?_
  refine k_aload_n (pc := 8) (x := v0) dX7_start_8 rfl rfl ?_
  obtain ⟨hc6, h⟩ := k_pk h
  refine k_getf (pc := 9) (t := 1) (fi := 0) dX7_start_9 flX7_12 rfl rfl hc6 ?_
  obtain ⟨hc10, h⟩ := k_pk h
  obtain ⟨r7, A8, hq9, h⟩ := k_pb h
  refine k_callV (pc := 12) (ci := 6) (a := (k_rd A3 v0 0)) (as := []) (st := []) (st1 := []) dX7_start_12 cbX6_clear (k_gt 606 (by decide +kernel) (by decide +kernel)) cvX6_clear.1 cvX6_clear.2 rfl (by decide) hc10 (by omega) rfl (Nat.le_of_ble_eq_true rfl) (okX6_clear hq9) rfl ?_
  refine k_aload_n (pc := 15) (x := v0) dX7_start_15 rfl rfl ?_
  refine k_iconst (pc := 16) dX7_start_16 ⟨by decide, by decide⟩ ?_
  obtain ⟨hc11, h⟩ := k_pk h
  refine k_putf (pc := 17) (t := 0) (fi := 1) dX7_start_17 flX7_40 rfl rfl hc11 rfl ?_
  obtain ⟨A12, eA13, h⟩ := k_pl h
  refine k_hq eA13 ?_
  refine k_aload_n (pc := 20) (x := v0) dX7_start_20 rfl rfl ?_
  refine k_iconst (pc := 21) dX7_start_21 ⟨by decide, by decide⟩ ?_
  have hf14 := k_oW eA13 hc11
  refine k_putf (pc := 22) (t := 0) (fi := 2) dX7_start_22 flX7_49 rfl rfl hf14 rfl ?_
  obtain ⟨A15, eA16, h⟩ := k_pl h
  refine k_hq eA16 ?_
  refine k_aload_n (pc := 25) (x := v0) dX7_start_25 rfl rfl ?_
  refine k_iconst (pc := 26) dX7_start_26 ⟨by decide, by decide⟩ ?_
  have hf17 := k_oW eA16 hf14
  refine k_putf (pc := 27) (t := 0) (fi := 3) dX7_start_27 flX7_52 rfl rfl hf17 rfl ?_
  obtain ⟨A18, eA19, h⟩ := k_pl h
  refine k_hq eA19 ?_
  refine k_aload_n (pc := 30) (x := v0) dX7_start_30 rfl rfl ?_
  refine k_iconst (pc := 31) dX7_start_31 ⟨by decide, by decide⟩ ?_
  have hf20 := k_oW eA19 hf17
  refine k_putf (pc := 32) (t := 0) (fi := 5) dX7_start_32 flX7_55 rfl rfl hf20 ⟨rfl, Or.inl rfl⟩ ?_
  obtain ⟨A21, eA22, h⟩ := k_pl h
  refine k_hq eA22 ?_
  refine k_aload_n (pc := 35) (x := v0) dX7_start_35 rfl rfl ?_
  refine k_iconst (pc := 36) dX7_start_36 ⟨by decide, by decide⟩ ?_
  have hf23 := k_oW eA22 hf20
  refine k_putf (pc := 37) (t := 0) (fi := 6) dX7_start_37 flX7_59 rfl rfl hf23 ⟨rfl, Or.inl rfl⟩ ?_
  obtain ⟨A24, eA25, h⟩ := k_pl h
  refine k_hq eA25 ?_
  refine k_aload_n (pc := 40) (x := v0) dX7_start_40 rfl rfl ?_
  refine k_iconst (pc := 41) dX7_start_41 ⟨by decide, by decide⟩ ?_
  have hf26 := k_oW eA25 hf23
  refine k_putf (pc := 42) (t := 0) (fi := 7) dX7_start_42 flX7_62 rfl rfl hf26 ⟨rfl, Or.inl rfl⟩ ?_
  obtain ⟨A27, eA28, h⟩ := k_pl h
  refine k_hq eA28 ?_
  refine k_aload_n (pc := 45) (x := v0) dX7_start_45 rfl rfl ?_
  refine k_iconst (pc := 46) dX7_start_46 ⟨by decide, by decide⟩ ?_
  have hf29 := k_oW eA28 hf26
  refine k_putf (pc := 47) (t := 0) (fi := 8) dX7_start_47 flX7_65 rfl rfl hf29 rfl ?_
  obtain ⟨A30, eA31, h⟩ := k_pl h
  refine k_hq eA31 ?_
  obtain ⟨rfl, rfl⟩ := k_pr h
  exact k_retv (pc := 50) dX7_start_50 rfl
theorem okX7_start {A : k_H} {x0 x1 : Int} {r : Int} {A1 : k_H} (h : fX7_start A x0 x1 = some (r, A1)) : k_AM 2 mX7_start [(1, x0), (1, x1)] A r A1 :=
  k_AM_of2 (ls := [(1, x0), (1, x1)]) (Or.inl (by decide +kernel)) (by decide +kernel) (by decide) rfl (Nat.le_of_ble_eq_true rfl) ⟨Or.inr rfl, Or.inr rfl, trivial⟩ (okX7_start_b0 A x0 x1 r A1 h)
/-! X7_refuseToken -/
def fX7_refuseToken_b13 (A : k_H) (s0 s1 : Int) : Option (Int × k_H) := if k_isO A s0 7 then (k_bd (fX7_refuse A s0 s1) fun r1 A2 => if r1 = 0 ∨ r1 = 1 then (some (r1, A2)) else none) else none
def fX7_refuseToken_b0 (A : k_H) (v0 : Int) : Option (Int × k_H) := if k_isO A v0 7 then (if (k_rd A v0 10) = 0 then (fX7_refuseToken_b13 A v0 1) else (fX7_refuseToken_b13 A v0 2)) else none
def fX7_refuseToken (A : k_H) (x0 : Int) : Option (Int × k_H) := fX7_refuseToken_b0 A x0
set_option maxRecDepth 100000 in
theorem okX7_refuseToken_b13 (A : k_H) (s0 s1 : Int) (r : Int) (A' : k_H) (h : fX7_refuseToken_b13 A s0 s1 = some (r, A')) : k_AW 2 mX7_refuseToken 13 [(3, 0)] [(0, s1), (1, s0)] A r A' := by
  unfold fX7_refuseToken_b13 at h
  obtain ⟨hc4, h⟩ := k_pk h
  obtain ⟨r1, A2, hq3, h⟩ := k_pb h
  refine k_callV (pc := 13) (ci := 7) (a := s0) (as := [(0, s1)]) (st := []) (st1 := [(0, r1)]) dX7_refuseToken_13 cbX7_refuse (k_gt 689 (by decide +kernel) (by decide +kernel)) cvX7_refuse.1 cvX7_refuse.2 rfl (by decide) hc4 (by omega) rfl (Nat.le_of_ble_eq_true rfl) (okX7_refuse hq3) rfl ?_
  obtain ⟨hc5, h⟩ := k_pk h
  obtain ⟨rfl, rfl⟩ := k_pr h
  exact k_ret (pc := 16) dX7_refuseToken_16 rfl rfl (k_nz hc5)
set_option maxRecDepth 100000 in
theorem okX7_refuseToken_b0 (A : k_H) (v0 : Int) (r : Int) (A' : k_H) (h : fX7_refuseToken_b0 A v0 = some (r, A')) : k_AW 2 mX7_refuseToken 0 [(1, v0)] [] A r A' := by
  unfold fX7_refuseToken_b0 at h
  refine k_aload_n (pc := 0) (x := v0) dX7_refuseToken_0 rfl rfl ?_
  refine k_aload_n (pc := 1) (x := v0) dX7_refuseToken_1 rfl rfl ?_
  obtain ⟨hc1, h⟩ := k_pk h
  refine k_getf (pc := 2) (t := 0) (fi := 10) dX7_refuseToken_2 flX7_32 rfl rfl hc1 ?_
  refine k_if_ne (pc := 5) (tgt := 12) dX7_refuseToken_5 rfl (fun c2 => ?_) (fun c2 => ?_)
  · rw [if_neg c2] at h
    refine k_iconst (pc := 12) dX7_refuseToken_12 ⟨by decide, by decide⟩ ?_
    refine k_sub (ls' := [(3, 0)]) (k_sbl_ok _ _ ⟨Or.inl rfl, trivial⟩) ?_
    exact okX7_refuseToken_b13  _ _ _ _ _ h
  · rw [if_pos (Classical.not_not.mp c2)] at h
    refine k_iconst (pc := 8) dX7_refuseToken_8 ⟨by decide, by decide⟩ ?_
    refine k_goto (pc := 9) (tgt := 13) dX7_refuseToken_9 rfl ?_
    refine k_sub (ls' := [(3, 0)]) (k_sbl_ok _ _ ⟨Or.inl rfl, trivial⟩) ?_
    exact okX7_refuseToken_b13  _ _ _ _ _ h
theorem okX7_refuseToken {A : k_H} {x0 : Int} {r : Int} {A1 : k_H} (h : fX7_refuseToken A x0 = some (r, A1)) : k_AM 2 mX7_refuseToken [(1, x0)] A r A1 :=
  k_AM_of2 (ls := [(1, x0)]) (Or.inl (by decide +kernel)) (by decide +kernel) (by decide) rfl (Nat.le_of_ble_eq_true rfl) ⟨Or.inr rfl, trivial⟩ (okX7_refuseToken_b0 A x0 r A1 h)
/-! X7_readRun -/
def fX7_readRun_b145 (A : k_H) (v0 : Int) : Option (Int × k_H) := if k_isO A v0 7 then (k_lt (k_wt A v0 10 0) fun A2 => some (0, A2)) else none
def fX7_readRun_b87 (k4 : k_H → Int → Int → Int → Option (Int × k_H)) (A : k_H) (v0 v1 v2 : Int) : Option (Int × k_H) := if k_isO A v0 7 then (k_lt (k_wt A v0 8 (k_wr ((k_rd A v0 8) + 1))) fun A2 => k4 A2 v0 v1 v2) else none
def fX7_readRun_b100 (A : k_H) (v0 v1 v2 : Int) : Option (Int × k_H) := if k_isO A v0 7 then (if v1 = k_wr ((k_rd A v0 8) - (k_rd A v0 9)) then (k_lt (k_wt A v0 10 1) fun A10 => some (0, A10)) else (if v1 = 0 then (if k_wr ((k_rd A v0 8) - (k_rd A v0 9)) ≤ 5 then (k_lt (k_wt A v0 10 2) fun A5 => k_lt (k_wt A5 v0 11 v2) fun A8 => some (0, A8)) else (fX7_readRun_b145 A v0)) else (fX7_readRun_b145 A v0))) else none
def fX7_readRun_b52 (k4 : k_H → Int → Int → Int → Option (Int × k_H)) (A : k_H) (v0 v1 v2 : Int) : Option (Int × k_H) := if k_isO A v0 7 then (if k_isO A (k_rd A v0 4) 5 then (k_bd (fX5_byteAt A (k_rd A v0 4) (k_rd A v0 8)) fun r2 A3 => k_bd (fX7_isLetter A3 r2) fun r6 A7 => if r6 = 0 then (fX7_readRun_b87 k4 A7 v0 v1 (k_wr (k_wr (k_wr (v2 * 10) + r2) - 48))) else (fX7_readRun_b87 k4 A7 v0 (k_wr (v1 + 1)) v2)) else none) else none
def fX7_readRun_h4 : Nat → k_H → Int → Int → Int → Option (Int × k_H)
  | 0, _, _, _, _ => none
  | N + 1, A, v0, v1, v2 => if k_isO A v0 7 then (if k_isO A (k_rd A v0 4) 5 then (if (k_rd A v0 8) < (k_rd A (k_rd A v0 4) 1) then (k_bd (fX5_byteAt A (k_rd A v0 4) (k_rd A v0 8)) fun r4 A5 => k_bd (fX7_isLetter A5 r4) fun r7 A8 => if r7 = 0 then (if k_isO A8 v0 7 then (if k_isO A8 (k_rd A8 v0 4) 5 then (k_bd (fX5_byteAt A8 (k_rd A8 v0 4) (k_rd A8 v0 8)) fun r12 A13 => k_bd (fX7_isDigit A13 r12) fun r16 A17 => if r16 = 0 then (fX7_readRun_b100 A17 v0 v1 v2) else (fX7_readRun_b52 (fX7_readRun_h4 N) A17 v0 v1 v2)) else none) else none) else (fX7_readRun_b52 (fX7_readRun_h4 N) A8 v0 v1 v2)) else (fX7_readRun_b100 A v0 v1 v2)) else none) else none
def fX7_readRun_b0 (A : k_H) (v0 : Int) : Option (Int × k_H) := fX7_readRun_h4 k_FU A v0 0 0
def fX7_readRun (A : k_H) (x0 : Int) : Option (Int × k_H) := fX7_readRun_b0 A x0
set_option maxRecDepth 100000 in
theorem okX7_readRun_b145 (A : k_H) (v0 : Int) (r : Int) (A' : k_H) (h : fX7_readRun_b145 A v0 = some (r, A')) : k_AW 2 mX7_readRun 145 [(1, v0), (3, 0), (3, 0), (3, 0)] [] A r A' := by
  unfold fX7_readRun_b145 at h
  refine k_aload_n (pc := 145) (x := v0) dX7_readRun_145 rfl rfl ?_
  refine k_iconst (pc := 146) dX7_readRun_146 ⟨by decide, by decide⟩ ?_
  obtain ⟨hc1, h⟩ := k_pk h
  refine k_putf (pc := 147) (t := 0) (fi := 10) dX7_readRun_147 flX7_32 rfl rfl hc1 rfl ?_
  obtain ⟨A2, eA3, h⟩ := k_pl h
  refine k_hq eA3 ?_
  obtain ⟨rfl, rfl⟩ := k_pr h
  exact k_retv (pc := 150) dX7_readRun_150 rfl
set_option maxRecDepth 100000 in
theorem okX7_readRun_b87 (k4 : k_H → Int → Int → Int → Option (Int × k_H)) (hk4 : ∀ (A : k_H) (v0 v1 v2 : Int) (r : Int) (A' : k_H), k4 A v0 v1 v2 = some (r, A') → k_AW 2 mX7_readRun 4 [(1, v0), (0, v1), (0, v2), (3, 0)] [] A r A') (A : k_H) (v0 v1 v2 : Int) (r : Int) (A' : k_H) (h : fX7_readRun_b87 k4 A v0 v1 v2 = some (r, A')) : k_AW 2 mX7_readRun 87 [(1, v0), (0, v1), (0, v2), (3, 0)] [] A r A' := by
  unfold fX7_readRun_b87 at h
  refine k_aload_n (pc := 87) (x := v0) dX7_readRun_87 rfl rfl ?_
  refine k_dup (pc := 88) dX7_readRun_88 (Nat.le_of_ble_eq_true rfl) ?_
  obtain ⟨hc1, h⟩ := k_pk h
  refine k_getf (pc := 89) (t := 0) (fi := 8) dX7_readRun_89 flX7_65 rfl rfl hc1 ?_
  refine k_iconst (pc := 92) dX7_readRun_92 ⟨by decide, by decide⟩ ?_
  refine k_iadd (pc := 93) dX7_readRun_93 ?_
  refine k_putf (pc := 94) (t := 0) (fi := 8) dX7_readRun_94 flX7_65 rfl rfl hc1 rfl ?_
  obtain ⟨A2, eA3, h⟩ := k_pl h
  refine k_hq eA3 ?_
  refine k_goto (pc := 97) (tgt := 4) dX7_readRun_97 rfl ?_
  refine k_sub (ls' := [(1, v0), (0, v1), (0, v2), (3, 0)]) (k_sbl_ok _ _ ⟨Or.inr rfl, Or.inr rfl, Or.inr rfl, Or.inl rfl, trivial⟩) ?_
  exact hk4 _ _ _ _ _ _ h
set_option maxRecDepth 100000 in
theorem okX7_readRun_b100 (A : k_H) (v0 v1 v2 : Int) (r : Int) (A' : k_H) (h : fX7_readRun_b100 A v0 v1 v2 = some (r, A')) : k_AW 2 mX7_readRun 100 [(1, v0), (0, v1), (0, v2), (3, 0)] [] A r A' := by
  unfold fX7_readRun_b100 at h
  refine k_aload_n (pc := 100) (x := v0) dX7_readRun_100 rfl rfl ?_
  obtain ⟨hc1, h⟩ := k_pk h
  refine k_getf (pc := 101) (t := 0) (fi := 8) dX7_readRun_101 flX7_65 rfl rfl hc1 ?_
  refine k_aload_n (pc := 104) (x := v0) dX7_readRun_104 rfl rfl ?_
  refine k_getf (pc := 105) (t := 0) (fi := 9) dX7_readRun_105 flX7_142 rfl rfl hc1 ?_
  refine k_isub (pc := 108) dX7_readRun_108 ?_
  refine k_istore_n (pc := 109) dX7_readRun_109 rfl (Nat.le_of_ble_eq_true rfl) rfl ?_
  show k_AW _ _ _ [(1, v0), (0, v1), (0, v2), (0, k_wr ((k_rd A v0 8) - (k_rd A v0 9)))] _ _ _ _
  refine k_iload_n (pc := 110) (x := v1) dX7_readRun_110 rfl rfl ?_
  refine k_iload_n (pc := 111) (x := k_wr ((k_rd A v0 8) - (k_rd A v0 9))) dX7_readRun_111 rfl rfl ?_
  refine k_icmp_ne (pc := 112) (tgt := 123) dX7_readRun_112 rfl (fun c2 => ?_) (fun c2 => ?_)
  · rw [if_neg c2] at h
    refine k_iload_n (pc := 123) (x := v1) dX7_readRun_123 rfl rfl ?_
    refine k_if_ne (pc := 124) (tgt := 145) dX7_readRun_124 rfl (fun c3 => ?_) (fun c3 => ?_)
    · rw [if_neg c3] at h
      refine k_sub (ls' := [(1, v0), (3, 0), (3, 0), (3, 0)]) (k_sbl_ok _ _ ⟨Or.inr rfl, Or.inl rfl, Or.inl rfl, Or.inl rfl, trivial⟩) ?_
      exact okX7_readRun_b145  _ _ _ _ h
    · rw [if_pos (Classical.not_not.mp c3)] at h
      refine k_iload_n (pc := 127) (x := k_wr ((k_rd A v0 8) - (k_rd A v0 9))) dX7_readRun_127 rfl rfl ?_
      refine k_iconst (pc := 128) dX7_readRun_128 ⟨by decide, by decide⟩ ?_
      refine k_icmp_gt (pc := 129) (tgt := 145) dX7_readRun_129 rfl (fun c4 => ?_) (fun c4 => ?_)
      · rw [if_neg (Int.not_le.mpr c4)] at h
        refine k_sub (ls' := [(1, v0), (3, 0), (3, 0), (3, 0)]) (k_sbl_ok _ _ ⟨Or.inr rfl, Or.inl rfl, Or.inl rfl, Or.inl rfl, trivial⟩) ?_
        exact okX7_readRun_b145  _ _ _ _ h
      · rw [if_pos (Int.not_lt.mp c4)] at h
        refine k_aload_n (pc := 132) (x := v0) dX7_readRun_132 rfl rfl ?_
        refine k_iconst (pc := 133) dX7_readRun_133 ⟨by decide, by decide⟩ ?_
        refine k_putf (pc := 134) (t := 0) (fi := 10) dX7_readRun_134 flX7_32 rfl rfl hc1 rfl ?_
        obtain ⟨A5, eA6, h⟩ := k_pl h
        refine k_hq eA6 ?_
        refine k_aload_n (pc := 137) (x := v0) dX7_readRun_137 rfl rfl ?_
        refine k_iload_n (pc := 138) (x := v2) dX7_readRun_138 rfl rfl ?_
        have hf7 := k_oW eA6 hc1
        refine k_putf (pc := 139) (t := 0) (fi := 11) dX7_readRun_139 flX7_104 rfl rfl hf7 rfl ?_
        obtain ⟨A8, eA9, h⟩ := k_pl h
        refine k_hq eA9 ?_
        refine k_goto (pc := 142) (tgt := 150) dX7_readRun_142 rfl ?_
        obtain ⟨rfl, rfl⟩ := k_pr h
        exact k_retv (pc := 150) dX7_readRun_150 rfl
  · rw [if_pos (Classical.not_not.mp c2)] at h
    refine k_aload_n (pc := 115) (x := v0) dX7_readRun_115 rfl rfl ?_
    refine k_iconst (pc := 116) dX7_readRun_116 ⟨by decide, by decide⟩ ?_
    refine k_putf (pc := 117) (t := 0) (fi := 10) dX7_readRun_117 flX7_32 rfl rfl hc1 rfl ?_
    obtain ⟨A10, eA11, h⟩ := k_pl h
    refine k_hq eA11 ?_
    refine k_goto (pc := 120) (tgt := 150) dX7_readRun_120 rfl ?_
    obtain ⟨rfl, rfl⟩ := k_pr h
    exact k_retv (pc := 150) dX7_readRun_150 rfl
set_option maxRecDepth 100000 in
theorem okX7_readRun_b52 (k4 : k_H → Int → Int → Int → Option (Int × k_H)) (hk4 : ∀ (A : k_H) (v0 v1 v2 : Int) (r : Int) (A' : k_H), k4 A v0 v1 v2 = some (r, A') → k_AW 2 mX7_readRun 4 [(1, v0), (0, v1), (0, v2), (3, 0)] [] A r A') (A : k_H) (v0 v1 v2 : Int) (r : Int) (A' : k_H) (h : fX7_readRun_b52 k4 A v0 v1 v2 = some (r, A')) : k_AW 2 mX7_readRun 52 [(1, v0), (0, v1), (0, v2), (3, 0)] [] A r A' := by
  unfold fX7_readRun_b52 at h
  refine k_aload_n (pc := 52) (x := v0) dX7_readRun_52 rfl rfl ?_
  obtain ⟨hc1, h⟩ := k_pk h
  refine k_getf (pc := 53) (t := 1) (fi := 4) dX7_readRun_53 flX7_21 rfl rfl hc1 ?_
  refine k_aload_n (pc := 56) (x := v0) dX7_readRun_56 rfl rfl ?_
  refine k_getf (pc := 57) (t := 0) (fi := 8) dX7_readRun_57 flX7_65 rfl rfl hc1 ?_
  obtain ⟨hc5, h⟩ := k_pk h
  obtain ⟨r2, A3, hq4, h⟩ := k_pb h
  refine k_callV (pc := 60) (ci := 5) (a := (k_rd A v0 4)) (as := [(0, (k_rd A v0 8))]) (st := []) (st1 := [(0, r2)]) dX7_readRun_60 cbX5_byteAt (k_gt 614 (by decide +kernel) (by decide +kernel)) cvX5_byteAt.1 cvX5_byteAt.2 rfl (by decide) hc5 (by omega) rfl (Nat.le_of_ble_eq_true rfl) (okX5_byteAt hq4) rfl ?_
  refine k_istore_n (pc := 63) dX7_readRun_63 rfl (Nat.le_of_ble_eq_true rfl) rfl ?_
  show k_AW _ _ _ [(1, v0), (0, v1), (0, v2), (0, r2)] _ _ _ _
  refine k_iload_n (pc := 64) (x := r2) dX7_readRun_64 rfl rfl ?_
  obtain ⟨r6, A7, hq8, h⟩ := k_pb h
  refine k_callS (pc := 65) (as := [(0, r2)]) (st := []) (st1 := [(0, r6)]) dX7_readRun_65 cbX7_isLetter (k_gt 618 (by decide +kernel) (by decide +kernel)) (k_gt 619 (by decide +kernel) (by decide +kernel)) (by omega) rfl (Nat.le_of_ble_eq_true rfl) (okX7_isLetter hq8) rfl ?_
  refine k_if_eq (pc := 68) (tgt := 77) dX7_readRun_68 rfl (fun c9 => ?_) (fun c9 => ?_)
  · rw [if_pos c9] at h
    refine k_iload_n (pc := 77) (x := v2) dX7_readRun_77 rfl rfl ?_
    refine k_bipush (pc := 78) dX7_readRun_78 ⟨by decide, by decide⟩ (by decide +kernel) ?_
    refine k_imul (pc := 80) dX7_readRun_80 ?_
    refine k_iload_n (pc := 81) (x := r2) dX7_readRun_81 rfl rfl ?_
    refine k_iadd (pc := 82) dX7_readRun_82 ?_
    refine k_bipush (pc := 83) dX7_readRun_83 ⟨by decide, by decide⟩ (by decide +kernel) ?_
    refine k_isub (pc := 85) dX7_readRun_85 ?_
    refine k_istore_n (pc := 86) dX7_readRun_86 rfl (Nat.le_of_ble_eq_true rfl) rfl ?_
    show k_AW _ _ _ [(1, v0), (0, v1), (0, k_wr (k_wr (k_wr (v2 * 10) + r2) - 48)), (0, r2)] _ _ _ _
    refine k_sub (ls' := [(1, v0), (0, v1), (0, k_wr (k_wr (k_wr (v2 * 10) + r2) - 48)), (3, 0)]) (k_sbl_ok _ _ ⟨Or.inr rfl, Or.inr rfl, Or.inr rfl, Or.inl rfl, trivial⟩) ?_
    exact okX7_readRun_b87 k4 hk4 _ _ _ _ _ _ h
  · rw [if_neg c9] at h
    refine k_iinc (pc := 71) (x := v1) dX7_readRun_71 (Nat.le_of_ble_eq_true rfl) rfl rfl ?_
    show k_AW _ _ _ [(1, v0), (0, k_wr (v1 + 1)), (0, v2), (0, r2)] _ _ _ _
    refine k_goto (pc := 74) (tgt := 87) dX7_readRun_74 rfl ?_
    refine k_sub (ls' := [(1, v0), (0, k_wr (v1 + 1)), (0, v2), (3, 0)]) (k_sbl_ok _ _ ⟨Or.inr rfl, Or.inr rfl, Or.inr rfl, Or.inl rfl, trivial⟩) ?_
    exact okX7_readRun_b87 k4 hk4 _ _ _ _ _ _ h
set_option maxRecDepth 100000 in
theorem okX7_readRun_h4 : ∀ (N : Nat) (A : k_H) (v0 v1 v2 : Int) (r : Int) (A' : k_H), fX7_readRun_h4 N A v0 v1 v2 = some (r, A') → k_AW 2 mX7_readRun 4 [(1, v0), (0, v1), (0, v2), (3, 0)] [] A r A' := by
  intro N
  induction N with
  | zero => intro A v0 v1 v2 r A' h; exact absurd h (by simp [fX7_readRun_h4])
  | succ N ih =>
    intro A v0 v1 v2 r A' h
    rw [fX7_readRun_h4] at h
    refine k_aload_n (pc := 4) (x := v0) dX7_readRun_4 rfl rfl ?_
    obtain ⟨hc1, h⟩ := k_pk h
    refine k_getf (pc := 5) (t := 0) (fi := 8) dX7_readRun_5 flX7_65 rfl rfl hc1 ?_
    refine k_aload_n (pc := 8) (x := v0) dX7_readRun_8 rfl rfl ?_
    refine k_getf (pc := 9) (t := 1) (fi := 4) dX7_readRun_9 flX7_21 rfl rfl hc1 ?_
    obtain ⟨hc2, h⟩ := k_pk h
    refine k_getf (pc := 12) (t := 0) (fi := 1) dX7_readRun_12 flX7_145 rfl rfl hc2 ?_
    refine k_icmp_ge (pc := 15) (tgt := 100) dX7_readRun_15 rfl (fun c3 => ?_) (fun c3 => ?_)
    · rw [if_neg (Int.not_lt.mpr c3)] at h
      refine k_sub (ls' := [(1, v0), (0, v1), (0, v2), (3, 0)]) (k_sbl_ok _ _ ⟨Or.inr rfl, Or.inr rfl, Or.inr rfl, Or.inl rfl, trivial⟩) ?_
      exact okX7_readRun_b100  _ _ _ _ _ _ h
    · rw [if_pos (Int.not_le.mp c3)] at h
      refine k_aload_n (pc := 18) (x := v0) dX7_readRun_18 rfl rfl ?_
      refine k_getf (pc := 19) (t := 1) (fi := 4) dX7_readRun_19 flX7_21 rfl rfl hc1 ?_
      refine k_aload_n (pc := 22) (x := v0) dX7_readRun_22 rfl rfl ?_
      refine k_getf (pc := 23) (t := 0) (fi := 8) dX7_readRun_23 flX7_65 rfl rfl hc1 ?_
      obtain ⟨r4, A5, hq6, h⟩ := k_pb h
      refine k_callV (pc := 26) (ci := 5) (a := (k_rd A v0 4)) (as := [(0, (k_rd A v0 8))]) (st := []) (st1 := [(0, r4)]) dX7_readRun_26 cbX5_byteAt (k_gt 614 (by decide +kernel) (by decide +kernel)) cvX5_byteAt.1 cvX5_byteAt.2 rfl (by decide) hc2 (by omega) rfl (Nat.le_of_ble_eq_true rfl) (okX5_byteAt hq6) rfl ?_
      obtain ⟨r7, A8, hq9, h⟩ := k_pb h
      refine k_callS (pc := 29) (as := [(0, r4)]) (st := []) (st1 := [(0, r7)]) dX7_readRun_29 cbX7_isLetter (k_gt 618 (by decide +kernel) (by decide +kernel)) (k_gt 619 (by decide +kernel) (by decide +kernel)) (by omega) rfl (Nat.le_of_ble_eq_true rfl) (okX7_isLetter hq9) rfl ?_
      refine k_if_ne (pc := 32) (tgt := 52) dX7_readRun_32 rfl (fun c10 => ?_) (fun c10 => ?_)
      · rw [if_neg c10] at h
        refine k_sub (ls' := [(1, v0), (0, v1), (0, v2), (3, 0)]) (k_sbl_ok _ _ ⟨Or.inr rfl, Or.inr rfl, Or.inr rfl, Or.inl rfl, trivial⟩) ?_
        exact okX7_readRun_b52 (fX7_readRun_h4 N) ih _ _ _ _ _ _ h
      · rw [if_pos (Classical.not_not.mp c10)] at h
        refine k_aload_n (pc := 35) (x := v0) dX7_readRun_35 rfl rfl ?_
        obtain ⟨hc11, h⟩ := k_pk h
        refine k_getf (pc := 36) (t := 1) (fi := 4) dX7_readRun_36 flX7_21 rfl rfl hc11 ?_
        refine k_aload_n (pc := 39) (x := v0) dX7_readRun_39 rfl rfl ?_
        refine k_getf (pc := 40) (t := 0) (fi := 8) dX7_readRun_40 flX7_65 rfl rfl hc11 ?_
        obtain ⟨hc15, h⟩ := k_pk h
        obtain ⟨r12, A13, hq14, h⟩ := k_pb h
        refine k_callV (pc := 43) (ci := 5) (a := (k_rd A8 v0 4)) (as := [(0, (k_rd A8 v0 8))]) (st := []) (st1 := [(0, r12)]) dX7_readRun_43 cbX5_byteAt (k_gt 614 (by decide +kernel) (by decide +kernel)) cvX5_byteAt.1 cvX5_byteAt.2 rfl (by decide) hc15 (by omega) rfl (Nat.le_of_ble_eq_true rfl) (okX5_byteAt hq14) rfl ?_
        obtain ⟨r16, A17, hq18, h⟩ := k_pb h
        refine k_callS (pc := 46) (as := [(0, r12)]) (st := []) (st1 := [(0, r16)]) dX7_readRun_46 cbX7_isDigit (k_gt 621 (by decide +kernel) (by decide +kernel)) (k_gt 622 (by decide +kernel) (by decide +kernel)) (by omega) rfl (Nat.le_of_ble_eq_true rfl) (okX7_isDigit hq18) rfl ?_
        refine k_if_eq (pc := 49) (tgt := 100) dX7_readRun_49 rfl (fun c19 => ?_) (fun c19 => ?_)
        · rw [if_pos c19] at h
          refine k_sub (ls' := [(1, v0), (0, v1), (0, v2), (3, 0)]) (k_sbl_ok _ _ ⟨Or.inr rfl, Or.inr rfl, Or.inr rfl, Or.inl rfl, trivial⟩) ?_
          exact okX7_readRun_b100  _ _ _ _ _ _ h
        · rw [if_neg c19] at h
          refine k_sub (ls' := [(1, v0), (0, v1), (0, v2), (3, 0)]) (k_sbl_ok _ _ ⟨Or.inr rfl, Or.inr rfl, Or.inr rfl, Or.inl rfl, trivial⟩) ?_
          exact okX7_readRun_b52 (fX7_readRun_h4 N) ih _ _ _ _ _ _ h
set_option maxRecDepth 100000 in
theorem okX7_readRun_b0 (A : k_H) (v0 : Int) (r : Int) (A' : k_H) (h : fX7_readRun_b0 A v0 = some (r, A')) : k_AW 2 mX7_readRun 0 [(1, v0), (3, 0), (3, 0), (3, 0)] [] A r A' := by
  unfold fX7_readRun_b0 at h
  refine k_iconst (pc := 0) dX7_readRun_0 ⟨by decide, by decide⟩ ?_
  refine k_istore_n (pc := 1) dX7_readRun_1 rfl (Nat.le_of_ble_eq_true rfl) rfl ?_
  show k_AW _ _ _ [(1, v0), (0, 0), (3, 0), (3, 0)] _ _ _ _
  refine k_iconst (pc := 2) dX7_readRun_2 ⟨by decide, by decide⟩ ?_
  refine k_istore_n (pc := 3) dX7_readRun_3 rfl (Nat.le_of_ble_eq_true rfl) rfl ?_
  show k_AW _ _ _ [(1, v0), (0, 0), (0, 0), (3, 0)] _ _ _ _
  refine k_sub (ls' := [(1, v0), (0, 0), (0, 0), (3, 0)]) (k_sbl_ok _ _ ⟨Or.inr rfl, Or.inr rfl, Or.inr rfl, Or.inl rfl, trivial⟩) ?_
  exact okX7_readRun_h4  _ _ _ _ _ _ _ h
theorem okX7_readRun {A : k_H} {x0 : Int} {r : Int} {A1 : k_H} (h : fX7_readRun A x0 = some (r, A1)) : k_AM 2 mX7_readRun [(1, x0)] A r A1 :=
  k_AM_of2 (ls := [(1, x0), (3, 0), (3, 0), (3, 0)]) (Or.inl (by decide +kernel)) (by decide +kernel) (by decide) rfl (Nat.le_of_ble_eq_true rfl) ⟨Or.inr rfl, rfl, rfl, rfl, trivial⟩ (okX7_readRun_b0 A x0 r A1 h)
/-! X8_feed -/
def fX8_feed_b0 (A : k_H) (v0 v1 v2 v3 v4 v5 : Int) : Option (Int × k_H) := if k_isO A v0 8 then (if k_isO A (k_rd A v0 0) 5 then (if 200 < k_wr ((k_rd A (k_rd A v0 0) 1) + 20) then (some ((-1), A)) else (k_bd (fX5_append A (k_rd A v0 0) v1) fun r4 A5 => if k_isO A5 v0 8 then (if k_isO A5 (k_rd A5 v0 0) 5 then (k_bd (fX5_append A5 (k_rd A5 v0 0) v2) fun r8 A9 => if k_isO A9 v0 8 then (if k_isO A9 (k_rd A9 v0 0) 5 then (k_bd (fX5_append A9 (k_rd A9 v0 0) v3) fun r13 A14 => if k_isO A14 v0 8 then (if k_isO A14 (k_rd A14 v0 0) 5 then (k_bd (fX5_append A14 (k_rd A14 v0 0) v4) fun r18 A19 => if k_isO A19 v0 8 then (if k_isO A19 (k_rd A19 v0 0) 5 then (k_bd (fX5_append A19 (k_rd A19 v0 0) v5) fun r23 A24 => if k_isO A24 v0 8 then (if k_isO A24 (k_rd A24 v0 0) 5 then (some ((k_rd A24 (k_rd A24 v0 0) 1), A24)) else none) else none) else none) else none) else none) else none) else none) else none) else none) else none)) else none) else none
def fX8_feed (A : k_H) (x0 x1 x2 x3 x4 x5 : Int) : Option (Int × k_H) := fX8_feed_b0 A x0 x1 x2 x3 x4 x5
set_option maxRecDepth 100000 in
theorem okX8_feed_b0 (A : k_H) (v0 v1 v2 v3 v4 v5 : Int) (r : Int) (A' : k_H) (h : fX8_feed_b0 A v0 v1 v2 v3 v4 v5 = some (r, A')) : k_AW 2 mX8_feed 0 [(1, v0), (0, v1), (0, v2), (0, v3), (0, v4), (0, v5)] [] A r A' := by
  unfold fX8_feed_b0 at h
  refine k_aload_n (pc := 0) (x := v0) dX8_feed_0 rfl rfl ?_
  obtain ⟨hc1, h⟩ := k_pk h
  refine k_getf (pc := 1) (t := 1) (fi := 0) dX8_feed_1 flX8_10 rfl rfl hc1 ?_
  obtain ⟨hc2, h⟩ := k_pk h
  refine k_getf (pc := 4) (t := 0) (fi := 1) dX8_feed_4 flX8_51 rfl rfl hc2 ?_
  refine k_bipush (pc := 7) dX8_feed_7 ⟨by decide, by decide⟩ (by decide +kernel) ?_
  refine k_iadd (pc := 9) dX8_feed_9 ?_
  refine k_sipush (pc := 10) dX8_feed_10 ⟨by decide, by decide⟩ (by decide +kernel) ?_
  refine k_icmp_le (pc := 13) (tgt := 18) dX8_feed_13 rfl (fun c3 => ?_) (fun c3 => ?_)
  · rw [if_neg (Int.not_lt.mpr c3)] at h
    refine k_aload_n (pc := 18) (x := v0) dX8_feed_18 rfl rfl ?_
    refine k_getf (pc := 19) (t := 1) (fi := 0) dX8_feed_19 flX8_10 rfl rfl hc1 ?_
    refine k_iload_n (pc := 22) (x := v1) dX8_feed_22 rfl rfl ?_
    obtain ⟨r4, A5, hq6, h⟩ := k_pb h
    refine k_callV (pc := 23) (ci := 5) (a := (k_rd A v0 0)) (as := [(0, v1)]) (st := []) (st1 := []) dX8_feed_23 cbX5_append (k_gt 343 (by decide +kernel) (by decide +kernel)) cvX5_append.1 cvX5_append.2 rfl (by decide) hc2 (by omega) rfl (Nat.le_of_ble_eq_true rfl) (okX5_append hq6) rfl ?_
    refine k_aload_n (pc := 26) (x := v0) dX8_feed_26 rfl rfl ?_
    obtain ⟨hc7, h⟩ := k_pk h
    refine k_getf (pc := 27) (t := 1) (fi := 0) dX8_feed_27 flX8_10 rfl rfl hc7 ?_
    refine k_iload_n (pc := 30) (x := v2) dX8_feed_30 rfl rfl ?_
    obtain ⟨hc11, h⟩ := k_pk h
    obtain ⟨r8, A9, hq10, h⟩ := k_pb h
    refine k_callV (pc := 31) (ci := 5) (a := (k_rd A5 v0 0)) (as := [(0, v2)]) (st := []) (st1 := []) dX8_feed_31 cbX5_append (k_gt 343 (by decide +kernel) (by decide +kernel)) cvX5_append.1 cvX5_append.2 rfl (by decide) hc11 (by omega) rfl (Nat.le_of_ble_eq_true rfl) (okX5_append hq10) rfl ?_
    refine k_aload_n (pc := 34) (x := v0) dX8_feed_34 rfl rfl ?_
    obtain ⟨hc12, h⟩ := k_pk h
    refine k_getf (pc := 35) (t := 1) (fi := 0) dX8_feed_35 flX8_10 rfl rfl hc12 ?_
    refine k_iload_n (pc := 38) (x := v3) dX8_feed_38 rfl rfl ?_
    obtain ⟨hc16, h⟩ := k_pk h
    obtain ⟨r13, A14, hq15, h⟩ := k_pb h
    refine k_callV (pc := 39) (ci := 5) (a := (k_rd A9 v0 0)) (as := [(0, v3)]) (st := []) (st1 := []) dX8_feed_39 cbX5_append (k_gt 343 (by decide +kernel) (by decide +kernel)) cvX5_append.1 cvX5_append.2 rfl (by decide) hc16 (by omega) rfl (Nat.le_of_ble_eq_true rfl) (okX5_append hq15) rfl ?_
    refine k_aload_n (pc := 42) (x := v0) dX8_feed_42 rfl rfl ?_
    obtain ⟨hc17, h⟩ := k_pk h
    refine k_getf (pc := 43) (t := 1) (fi := 0) dX8_feed_43 flX8_10 rfl rfl hc17 ?_
    refine k_iload (pc := 46) (x := v4) dX8_feed_46 rfl ?_
    obtain ⟨hc21, h⟩ := k_pk h
    obtain ⟨r18, A19, hq20, h⟩ := k_pb h
    refine k_callV (pc := 48) (ci := 5) (a := (k_rd A14 v0 0)) (as := [(0, v4)]) (st := []) (st1 := []) dX8_feed_48 cbX5_append (k_gt 343 (by decide +kernel) (by decide +kernel)) cvX5_append.1 cvX5_append.2 rfl (by decide) hc21 (by omega) rfl (Nat.le_of_ble_eq_true rfl) (okX5_append hq20) rfl ?_
    refine k_aload_n (pc := 51) (x := v0) dX8_feed_51 rfl rfl ?_
    obtain ⟨hc22, h⟩ := k_pk h
    refine k_getf (pc := 52) (t := 1) (fi := 0) dX8_feed_52 flX8_10 rfl rfl hc22 ?_
    refine k_iload (pc := 55) (x := v5) dX8_feed_55 rfl ?_
    obtain ⟨hc26, h⟩ := k_pk h
    obtain ⟨r23, A24, hq25, h⟩ := k_pb h
    refine k_callV (pc := 57) (ci := 5) (a := (k_rd A19 v0 0)) (as := [(0, v5)]) (st := []) (st1 := []) dX8_feed_57 cbX5_append (k_gt 343 (by decide +kernel) (by decide +kernel)) cvX5_append.1 cvX5_append.2 rfl (by decide) hc26 (by omega) rfl (Nat.le_of_ble_eq_true rfl) (okX5_append hq25) rfl ?_
    refine k_aload_n (pc := 60) (x := v0) dX8_feed_60 rfl rfl ?_
    obtain ⟨hc27, h⟩ := k_pk h
    refine k_getf (pc := 61) (t := 1) (fi := 0) dX8_feed_61 flX8_10 rfl rfl hc27 ?_
    obtain ⟨hc28, h⟩ := k_pk h
    refine k_getf (pc := 64) (t := 0) (fi := 1) dX8_feed_64 flX8_51 rfl rfl hc28 ?_
    obtain ⟨rfl, rfl⟩ := k_pr h
    exact k_ret (pc := 67) dX8_feed_67 rfl rfl rfl
  · rw [if_pos (Int.not_le.mp c3)] at h
    refine k_iconst (pc := 16) dX8_feed_16 ⟨by decide, by decide⟩ ?_
    obtain ⟨rfl, rfl⟩ := k_pr h
    exact k_ret (pc := 17) dX8_feed_17 rfl rfl rfl
theorem okX8_feed {A : k_H} {x0 x1 x2 x3 x4 x5 : Int} {r : Int} {A1 : k_H} (h : fX8_feed A x0 x1 x2 x3 x4 x5 = some (r, A1)) : k_AM 2 mX8_feed [(1, x0), (0, x1), (0, x2), (0, x3), (0, x4), (0, x5)] A r A1 :=
  k_AM_of2 (ls := [(1, x0), (0, x1), (0, x2), (0, x3), (0, x4), (0, x5)]) (Or.inl (by decide +kernel)) (by decide +kernel) (by decide) rfl (Nat.le_of_ble_eq_true rfl) ⟨Or.inr rfl, Or.inr rfl, Or.inr rfl, Or.inr rfl, Or.inr rfl, Or.inr rfl, trivial⟩ (okX8_feed_b0 A x0 x1 x2 x3 x4 x5 r A1 h)
/-! X8_give -/
def fX8_give_b0 (A : k_H) (v0 v1 v2 v3 : Int) : Option (Int × k_H) := if k_isO A v0 8 then (k_bd (fX8_isHall A v0 v1) fun r1 A2 => if r1 = 0 then (some (0, A2)) else (if k_isO A2 v0 8 then (k_bd (fX8_isShow A2 v0 v2) fun r6 A7 => if r6 = 0 then (some (0, A7)) else (k_bd (fX8_isWithin A7 v3 0 10) fun r11 A12 => if r11 = 0 then (some (0, A12)) else (if k_isO A12 v0 8 then (if k_isA A12 (k_rd A12 v0 1) 23 v1 then (if k_isO A12 (k_rd A12 (k_rd A12 v0 1) v1) 1 then (k_bd (fX1_givenToOthers A12 (k_rd A12 (k_rd A12 v0 1) v1) v2) fun r17 A18 => if 10 < k_wr (v3 + r17) then (some (0, A18)) else (if k_isO A18 v0 8 then (if k_isA A18 (k_rd A18 v0 1) 23 v1 then (if k_isO A18 (k_rd A18 (k_rd A18 v0 1) v1) 1 then (if k_isA A18 (k_rd A18 (k_rd A18 (k_rd A18 v0 1) v1) 1) 21 v2 then (k_lt (k_wt A18 (k_rd A18 (k_rd A18 (k_rd A18 v0 1) v1) 1) v2 v3) fun A26 => some (1, A26)) else none) else none) else none) else none)) else none) else none) else none))) else none)) else none
def fX8_give (A : k_H) (x0 x1 x2 x3 : Int) : Option (Int × k_H) := fX8_give_b0 A x0 x1 x2 x3
set_option maxRecDepth 100000 in
theorem okX8_give_b0 (A : k_H) (v0 v1 v2 v3 : Int) (r : Int) (A' : k_H) (h : fX8_give_b0 A v0 v1 v2 v3 = some (r, A')) : k_AW 2 mX8_give 0 [(1, v0), (0, v1), (0, v2), (0, v3)] [] A r A' := by
  unfold fX8_give_b0 at h
  refine k_aload_n (pc := 0) (x := v0) dX8_give_0 rfl rfl ?_
  refine k_iload_n (pc := 1) (x := v1) dX8_give_1 rfl rfl ?_
  obtain ⟨hc4, h⟩ := k_pk h
  obtain ⟨r1, A2, hq3, h⟩ := k_pb h
  refine k_callV (pc := 2) (ci := 8) (a := v0) (as := [(0, v1)]) (st := []) (st1 := [(0, r1)]) dX8_give_2 cbX8_isHall (k_gt 404 (by decide +kernel) (by decide +kernel)) cvX8_isHall.1 cvX8_isHall.2 rfl (by decide) hc4 (by omega) rfl (Nat.le_of_ble_eq_true rfl) (okX8_isHall hq3) rfl ?_
  refine k_if_eq (pc := 5) (tgt := 26) dX8_give_5 rfl (fun c5 => ?_) (fun c5 => ?_)
  · rw [if_pos c5] at h
    refine k_iconst (pc := 26) dX8_give_26 ⟨by decide, by decide⟩ ?_
    obtain ⟨rfl, rfl⟩ := k_pr h
    exact k_ret (pc := 27) dX8_give_27 rfl rfl (by decide +kernel)
  · rw [if_neg c5] at h
    refine k_aload_n (pc := 8) (x := v0) dX8_give_8 rfl rfl ?_
    refine k_iload_n (pc := 9) (x := v2) dX8_give_9 rfl rfl ?_
    obtain ⟨hc9, h⟩ := k_pk h
    obtain ⟨r6, A7, hq8, h⟩ := k_pb h
    refine k_callV (pc := 10) (ci := 8) (a := v0) (as := [(0, v2)]) (st := []) (st1 := [(0, r6)]) dX8_give_10 cbX8_isShow (k_gt 412 (by decide +kernel) (by decide +kernel)) cvX8_isShow.1 cvX8_isShow.2 rfl (by decide) hc9 (by omega) rfl (Nat.le_of_ble_eq_true rfl) (okX8_isShow hq8) rfl ?_
    refine k_if_eq (pc := 13) (tgt := 26) dX8_give_13 rfl (fun c10 => ?_) (fun c10 => ?_)
    · rw [if_pos c10] at h
      refine k_iconst (pc := 26) dX8_give_26 ⟨by decide, by decide⟩ ?_
      obtain ⟨rfl, rfl⟩ := k_pr h
      exact k_ret (pc := 27) dX8_give_27 rfl rfl (by decide +kernel)
    · rw [if_neg c10] at h
      refine k_iload_n (pc := 16) (x := v3) dX8_give_16 rfl rfl ?_
      refine k_iconst (pc := 17) dX8_give_17 ⟨by decide, by decide⟩ ?_
      refine k_bipush (pc := 18) dX8_give_18 ⟨by decide, by decide⟩ (by decide +kernel) ?_
      obtain ⟨r11, A12, hq13, h⟩ := k_pb h
      refine k_callS (pc := 20) (as := [(0, v3), (0, 0), (0, 10)]) (st := []) (st1 := [(0, r11)]) dX8_give_20 cbX8_isWithin (k_gt 355 (by decide +kernel) (by decide +kernel)) (k_gt 356 (by decide +kernel) (by decide +kernel)) (by omega) rfl (Nat.le_of_ble_eq_true rfl) (okX8_isWithin hq13) rfl ?_
      refine k_if_ne (pc := 23) (tgt := 28) dX8_give_23 rfl (fun c14 => ?_) (fun c14 => ?_)
      · rw [if_neg c14] at h
        refine k_iload_n (pc := 28) (x := v3) dX8_give_28 rfl rfl ?_
        refine k_aload_n (pc := 29) (x := v0) dX8_give_29 rfl rfl ?_
        obtain ⟨hc15, h⟩ := k_pk h
        refine k_getf (pc := 30) (t := 1) (fi := 1) dX8_give_30 flX8_18 rfl rfl hc15 ?_
        refine k_iload_n (pc := 33) (x := v1) dX8_give_33 rfl rfl ?_
        obtain ⟨hc16, h⟩ := k_pk h
        refine k_aaload (pc := 34) (K := 23) dX8_give_34 (by decide) hc16 ?_
        refine k_iload_n (pc := 35) (x := v2) dX8_give_35 rfl rfl ?_
        obtain ⟨hc20, h⟩ := k_pk h
        obtain ⟨r17, A18, hq19, h⟩ := k_pb h
        refine k_callV (pc := 36) (ci := 1) (a := (k_rd A12 (k_rd A12 v0 1) v1)) (as := [(0, v2)]) (st := [(0, v3)]) (st1 := [(0, r17), (0, v3)]) dX8_give_36 cbX1_givenToOthers (k_gt 416 (by decide +kernel) (by decide +kernel)) cvX1_givenToOthers.1 cvX1_givenToOthers.2 rfl (by decide) hc20 (by omega) rfl (Nat.le_of_ble_eq_true rfl) (okX1_givenToOthers hq19) rfl ?_
        refine k_iadd (pc := 39) dX8_give_39 ?_
        refine k_bipush (pc := 40) dX8_give_40 ⟨by decide, by decide⟩ (by decide +kernel) ?_
        refine k_icmp_le (pc := 42) (tgt := 47) dX8_give_42 rfl (fun c21 => ?_) (fun c21 => ?_)
        · rw [if_neg (Int.not_lt.mpr c21)] at h
          refine k_aload_n (pc := 47) (x := v0) dX8_give_47 rfl rfl ?_
          obtain ⟨hc22, h⟩ := k_pk h
          refine k_getf (pc := 48) (t := 1) (fi := 1) dX8_give_48 flX8_18 rfl rfl hc22 ?_
          refine k_iload_n (pc := 51) (x := v1) dX8_give_51 rfl rfl ?_
          obtain ⟨hc23, h⟩ := k_pk h
          refine k_aaload (pc := 52) (K := 23) dX8_give_52 (by decide) hc23 ?_
          obtain ⟨hc24, h⟩ := k_pk h
          refine k_getf (pc := 53) (t := 1) (fi := 1) dX8_give_53 flX8_108 rfl rfl hc24 ?_
          refine k_iload_n (pc := 56) (x := v2) dX8_give_56 rfl rfl ?_
          refine k_iload_n (pc := 57) (x := v3) dX8_give_57 rfl rfl ?_
          obtain ⟨hc25, h⟩ := k_pk h
          refine k_iastore (pc := 58) dX8_give_58 hc25 ?_
          obtain ⟨A26, eA27, h⟩ := k_pl h
          refine k_hq eA27 ?_
          refine k_iconst (pc := 59) dX8_give_59 ⟨by decide, by decide⟩ ?_
          obtain ⟨rfl, rfl⟩ := k_pr h
          exact k_ret (pc := 60) dX8_give_60 rfl rfl (by decide +kernel)
        · rw [if_pos (Int.not_le.mp c21)] at h
          refine k_iconst (pc := 45) dX8_give_45 ⟨by decide, by decide⟩ ?_
          obtain ⟨rfl, rfl⟩ := k_pr h
          exact k_ret (pc := 46) dX8_give_46 rfl rfl (by decide +kernel)
      · rw [if_pos (Classical.not_not.mp c14)] at h
        refine k_iconst (pc := 26) dX8_give_26 ⟨by decide, by decide⟩ ?_
        obtain ⟨rfl, rfl⟩ := k_pr h
        exact k_ret (pc := 27) dX8_give_27 rfl rfl (by decide +kernel)
theorem okX8_give {A : k_H} {x0 x1 x2 x3 : Int} {r : Int} {A1 : k_H} (h : fX8_give A x0 x1 x2 x3 = some (r, A1)) : k_AM 2 mX8_give [(1, x0), (0, x1), (0, x2), (0, x3)] A r A1 :=
  k_AM_of2 (ls := [(1, x0), (0, x1), (0, x2), (0, x3)]) (Or.inl (by decide +kernel)) (by decide +kernel) (by decide) rfl (Nat.le_of_ble_eq_true rfl) ⟨Or.inr rfl, Or.inr rfl, Or.inr rfl, Or.inr rfl, trivial⟩ (okX8_give_b0 A x0 x1 x2 x3 r A1 h)
/-! X8_count -/
def fX8_count_b0 (A : k_H) (v0 v1 : Int) : Option (Int × k_H) := if v1 < 0 ∨ 3 < v1 then (some ((-1), A)) else (if v1 = 0 then (if k_isO A v0 8 then (some ((k_rd A v0 6), A)) else none) else (if v1 = 1 then (if k_isO A v0 8 then (some ((k_rd A v0 7), A)) else none) else (if v1 = 2 then (if k_isO A v0 8 then (k_bd (fX8_nightsOnTours A v0) fun r6 A7 => some (r6, A7)) else none) else (if k_isO A v0 8 then (if k_isO A (k_rd A v0 0) 5 then (some ((k_rd A (k_rd A v0 0) 1), A)) else none) else none))))
def fX8_count (A : k_H) (x0 x1 : Int) : Option (Int × k_H) := fX8_count_b0 A x0 x1
set_option maxRecDepth 100000 in
theorem okX8_count_b0 (A : k_H) (v0 v1 : Int) (r : Int) (A' : k_H) (h : fX8_count_b0 A v0 v1 = some (r, A')) : k_AW 2 mX8_count 0 [(1, v0), (0, v1)] [] A r A' := by
  unfold fX8_count_b0 at h
  refine k_iload_n (pc := 0) (x := v1) dX8_count_0 rfl rfl ?_
  by_cases c1 : v1 < 0 ∨ 3 < v1
  · rw [if_pos c1] at h
    refine k_swout (pc := 1) (tgt := 55) dX8_count_1 c1 rfl ?_
    refine k_iconst (pc := 55) dX8_count_55 ⟨by decide, by decide⟩ ?_
    obtain ⟨rfl, rfl⟩ := k_pr h
    exact k_ret (pc := 56) dX8_count_56 rfl rfl rfl
  · rw [if_neg c1] at h
    by_cases c3 : v1 = 0
    · rw [if_pos c3] at h
      refine k_swin (pc := 1) (off := 31) (tgt := 32) dX8_count_1 (by omega) (by omega) (by rw [show v1 = 0 by omega]; rfl) rfl ?_
      refine k_aload_n (pc := 32) (x := v0) dX8_count_32 rfl rfl ?_
      obtain ⟨hc2, h⟩ := k_pk h
      refine k_getf (pc := 33) (t := 0) (fi := 6) dX8_count_33 flX8_59 rfl rfl hc2 ?_
      obtain ⟨rfl, rfl⟩ := k_pr h
      exact k_ret (pc := 36) dX8_count_36 rfl rfl rfl
    · rw [if_neg c3] at h
      by_cases c5 : v1 = 1
      · rw [if_pos c5] at h
        refine k_swin (pc := 1) (off := 36) (tgt := 37) dX8_count_1 (by omega) (by omega) (by rw [show v1 = 1 by omega]; rfl) rfl ?_
        refine k_aload_n (pc := 37) (x := v0) dX8_count_37 rfl rfl ?_
        obtain ⟨hc4, h⟩ := k_pk h
        refine k_getf (pc := 38) (t := 0) (fi := 7) dX8_count_38 flX8_80 rfl rfl hc4 ?_
        obtain ⟨rfl, rfl⟩ := k_pr h
        exact k_ret (pc := 41) dX8_count_41 rfl rfl rfl
      · rw [if_neg c5] at h
        by_cases c10 : v1 = 2
        · rw [if_pos c10] at h
          refine k_swin (pc := 1) (off := 41) (tgt := 42) dX8_count_1 (by omega) (by omega) (by rw [show v1 = 2 by omega]; rfl) rfl ?_
          refine k_aload_n (pc := 42) (x := v0) dX8_count_42 rfl rfl ?_
          obtain ⟨hc9, h⟩ := k_pk h
          obtain ⟨r6, A7, hq8, h⟩ := k_pb h
          refine k_callV (pc := 43) (ci := 8) (a := v0) (as := []) (st := []) (st1 := [(0, r6)]) dX8_count_43 cbX8_nightsOnTours (k_gt 781 (by decide +kernel) (by decide +kernel)) cvX8_nightsOnTours.1 cvX8_nightsOnTours.2 rfl (by decide) hc9 (by omega) rfl (Nat.le_of_ble_eq_true rfl) (okX8_nightsOnTours hq8) rfl ?_
          obtain ⟨rfl, rfl⟩ := k_pr h
          exact k_ret (pc := 46) dX8_count_46 rfl rfl rfl
        · rw [if_neg c10] at h
          refine k_swin (pc := 1) (off := 46) (tgt := 47) dX8_count_1 (by omega) (by omega) (by rw [show v1 = 3 by omega]; rfl) rfl ?_
          refine k_aload_n (pc := 47) (x := v0) dX8_count_47 rfl rfl ?_
          obtain ⟨hc11, h⟩ := k_pk h
          refine k_getf (pc := 48) (t := 1) (fi := 0) dX8_count_48 flX8_10 rfl rfl hc11 ?_
          obtain ⟨hc12, h⟩ := k_pk h
          refine k_getf (pc := 51) (t := 0) (fi := 1) dX8_count_51 flX8_51 rfl rfl hc12 ?_
          obtain ⟨rfl, rfl⟩ := k_pr h
          exact k_ret (pc := 54) dX8_count_54 rfl rfl rfl
theorem okX8_count {A : k_H} {x0 x1 : Int} {r : Int} {A1 : k_H} (h : fX8_count A x0 x1 = some (r, A1)) : k_AM 2 mX8_count [(1, x0), (0, x1)] A r A1 :=
  k_AM_of2 (ls := [(1, x0), (0, x1)]) (Or.inl (by decide +kernel)) (by decide +kernel) (by decide) rfl (Nat.le_of_ble_eq_true rfl) ⟨Or.inr rfl, Or.inr rfl, trivial⟩ (okX8_count_b0 A x0 x1 r A1 h)
/-! X8_isSize -/
def fX8_isSize_b0 (A : k_H) (v0 : Int) : Option (Int × k_H) := k_bd (fX8_isWithin A v0 0 99) fun r1 A2 => if r1 = 0 ∨ r1 = 1 then (some (r1, A2)) else none
def fX8_isSize (A : k_H) (x0 : Int) : Option (Int × k_H) := fX8_isSize_b0 A x0
set_option maxRecDepth 100000 in
theorem okX8_isSize_b0 (A : k_H) (v0 : Int) (r : Int) (A' : k_H) (h : fX8_isSize_b0 A v0 = some (r, A')) : k_AW 2 mX8_isSize 0 [(0, v0)] [] A r A' := by
  unfold fX8_isSize_b0 at h
  refine k_iload_n (pc := 0) (x := v0) dX8_isSize_0 rfl rfl ?_
  refine k_iconst (pc := 1) dX8_isSize_1 ⟨by decide, by decide⟩ ?_
  refine k_bipush (pc := 2) dX8_isSize_2 ⟨by decide, by decide⟩ (by decide +kernel) ?_
  obtain ⟨r1, A2, hq3, h⟩ := k_pb h
  refine k_callS (pc := 4) (as := [(0, v0), (0, 0), (0, 99)]) (st := []) (st1 := [(0, r1)]) dX8_isSize_4 cbX8_isWithin (k_gt 355 (by decide +kernel) (by decide +kernel)) (k_gt 356 (by decide +kernel) (by decide +kernel)) (by omega) rfl (Nat.le_of_ble_eq_true rfl) (okX8_isWithin hq3) rfl ?_
  obtain ⟨hc4, h⟩ := k_pk h
  obtain ⟨rfl, rfl⟩ := k_pr h
  exact k_ret (pc := 7) dX8_isSize_7 rfl rfl (k_nz hc4)
theorem okX8_isSize {A : k_H} {x0 : Int} {r : Int} {A1 : k_H} (h : fX8_isSize A x0 = some (r, A1)) : k_AM 2 mX8_isSize [(0, x0)] A r A1 :=
  k_AM_of2 (ls := [(0, x0)]) (Or.inl (by decide +kernel)) (by decide +kernel) (by decide) rfl (Nat.le_of_ble_eq_true rfl) ⟨Or.inr rfl, trivial⟩ (okX8_isSize_b0 A x0 r A1 h)
/-! X8_isNight -/
def fX8_isNight_b0 (A : k_H) (v0 : Int) : Option (Int × k_H) := k_bd (fX8_isWithin A v0 0 13) fun r1 A2 => if r1 = 0 ∨ r1 = 1 then (some (r1, A2)) else none
def fX8_isNight (A : k_H) (x0 : Int) : Option (Int × k_H) := fX8_isNight_b0 A x0
set_option maxRecDepth 100000 in
theorem okX8_isNight_b0 (A : k_H) (v0 : Int) (r : Int) (A' : k_H) (h : fX8_isNight_b0 A v0 = some (r, A')) : k_AW 2 mX8_isNight 0 [(0, v0)] [] A r A' := by
  unfold fX8_isNight_b0 at h
  refine k_iload_n (pc := 0) (x := v0) dX8_isNight_0 rfl rfl ?_
  refine k_iconst (pc := 1) dX8_isNight_1 ⟨by decide, by decide⟩ ?_
  refine k_bipush (pc := 2) dX8_isNight_2 ⟨by decide, by decide⟩ (by decide +kernel) ?_
  obtain ⟨r1, A2, hq3, h⟩ := k_pb h
  refine k_callS (pc := 4) (as := [(0, v0), (0, 0), (0, 13)]) (st := []) (st1 := [(0, r1)]) dX8_isNight_4 cbX8_isWithin (k_gt 355 (by decide +kernel) (by decide +kernel)) (k_gt 356 (by decide +kernel) (by decide +kernel)) (by omega) rfl (Nat.le_of_ble_eq_true rfl) (okX8_isWithin hq3) rfl ?_
  obtain ⟨hc4, h⟩ := k_pk h
  obtain ⟨rfl, rfl⟩ := k_pr h
  exact k_ret (pc := 7) dX8_isNight_7 rfl rfl (k_nz hc4)
theorem okX8_isNight {A : k_H} {x0 : Int} {r : Int} {A1 : k_H} (h : fX8_isNight A x0 = some (r, A1)) : k_AM 2 mX8_isNight [(0, x0)] A r A1 :=
  k_AM_of2 (ls := [(0, x0)]) (Or.inl (by decide +kernel)) (by decide +kernel) (by decide) rfl (Nat.le_of_ble_eq_true rfl) ⟨Or.inr rfl, trivial⟩ (okX8_isNight_b0 A x0 r A1 h)
/-! X8_closeTakenNights -/
def fX8_closeTakenNights_b26 (k2 : k_H → Int → Int → Int → Option (Int × k_H)) (A : k_H) (v0 v1 v2 : Int) : Option (Int × k_H) := k2 A v0 v1 (k_wr (v2 + 1))
def fX8_closeTakenNights_h2 : Nat → k_H → Int → Int → Int → Option (Int × k_H)
  | 0, _, _, _, _ => none
  | N + 1, A, v0, v1, v2 => if v2 < 14 then (if k_isO A v0 8 then (k_bd (fX8_showAt A v0 v1 v2) fun r2 A3 => if r2 = (-1) then (fX8_closeTakenNights_b26 (fX8_closeTakenNights_h2 N) A3 v0 v1 v2) else (if k_isO A3 v0 8 then (if k_isO A3 (k_rd A3 v0 4) 2 then (k_bd (fX2_close A3 (k_rd A3 v0 4) v2) fun r8 A9 => fX8_closeTakenNights_b26 (fX8_closeTakenNights_h2 N) A9 v0 v1 v2) else none) else none)) else none) else (some (0, A))
def fX8_closeTakenNights_b0 (A : k_H) (v0 v1 : Int) : Option (Int × k_H) := fX8_closeTakenNights_h2 k_FU A v0 v1 0
def fX8_closeTakenNights (A : k_H) (x0 x1 : Int) : Option (Int × k_H) := fX8_closeTakenNights_b0 A x0 x1
set_option maxRecDepth 100000 in
theorem okX8_closeTakenNights_b26 (k2 : k_H → Int → Int → Int → Option (Int × k_H)) (hk2 : ∀ (A : k_H) (v0 v1 v2 : Int) (r : Int) (A' : k_H), k2 A v0 v1 v2 = some (r, A') → k_AW 2 mX8_closeTakenNights 2 [(1, v0), (0, v1), (0, v2)] [] A r A') (A : k_H) (v0 v1 v2 : Int) (r : Int) (A' : k_H) (h : fX8_closeTakenNights_b26 k2 A v0 v1 v2 = some (r, A')) : k_AW 2 mX8_closeTakenNights 26 [(1, v0), (0, v1), (0, v2)] [] A r A' := by
  unfold fX8_closeTakenNights_b26 at h
  refine k_iinc (pc := 26) (x := v2) dX8_closeTakenNights_26 (Nat.le_of_ble_eq_true rfl) rfl rfl ?_
  show k_AW _ _ _ [(1, v0), (0, v1), (0, k_wr (v2 + 1))] _ _ _ _
  refine k_goto (pc := 29) (tgt := 2) dX8_closeTakenNights_29 rfl ?_
  refine k_sub (ls' := [(1, v0), (0, v1), (0, k_wr (v2 + 1))]) (k_sbl_ok _ _ ⟨Or.inr rfl, Or.inr rfl, Or.inr rfl, trivial⟩) ?_
  exact hk2 _ _ _ _ _ _ h
set_option maxRecDepth 100000 in
theorem okX8_closeTakenNights_h2 : ∀ (N : Nat) (A : k_H) (v0 v1 v2 : Int) (r : Int) (A' : k_H), fX8_closeTakenNights_h2 N A v0 v1 v2 = some (r, A') → k_AW 2 mX8_closeTakenNights 2 [(1, v0), (0, v1), (0, v2)] [] A r A' := by
  intro N
  induction N with
  | zero => intro A v0 v1 v2 r A' h; exact absurd h (by simp [fX8_closeTakenNights_h2])
  | succ N ih =>
    intro A v0 v1 v2 r A' h
    rw [fX8_closeTakenNights_h2] at h
    refine k_iload_n (pc := 2) (x := v2) dX8_closeTakenNights_2 rfl rfl ?_
    refine k_bipush (pc := 3) dX8_closeTakenNights_3 ⟨by decide, by decide⟩ (by decide +kernel) ?_
    refine k_icmp_ge (pc := 5) (tgt := 32) dX8_closeTakenNights_5 rfl (fun c1 => ?_) (fun c1 => ?_)
    · rw [if_neg (Int.not_lt.mpr c1)] at h
      obtain ⟨rfl, rfl⟩ := k_pr h
      exact k_retv (pc := 32) dX8_closeTakenNights_32 rfl
    · rw [if_pos (Int.not_le.mp c1)] at h
      refine k_aload_n (pc := 8) (x := v0) dX8_closeTakenNights_8 rfl rfl ?_
      refine k_iload_n (pc := 9) (x := v1) dX8_closeTakenNights_9 rfl rfl ?_
      refine k_iload_n (pc := 10) (x := v2) dX8_closeTakenNights_10 rfl rfl ?_
      obtain ⟨hc5, h⟩ := k_pk h
      obtain ⟨r2, A3, hq4, h⟩ := k_pb h
      refine k_callV (pc := 11) (ci := 8) (a := v0) (as := [(0, v1), (0, v2)]) (st := []) (st1 := [(0, r2)]) dX8_closeTakenNights_11 cbX8_showAt (k_gt 506 (by decide +kernel) (by decide +kernel)) cvX8_showAt.1 cvX8_showAt.2 rfl (by decide) hc5 (by omega) rfl (Nat.le_of_ble_eq_true rfl) (okX8_showAt hq4) rfl ?_
      refine k_iconst (pc := 14) dX8_closeTakenNights_14 ⟨by decide, by decide⟩ ?_
      refine k_icmp_eq (pc := 15) (tgt := 26) dX8_closeTakenNights_15 rfl (fun c6 => ?_) (fun c6 => ?_)
      · rw [if_pos c6] at h
        refine k_sub (ls' := [(1, v0), (0, v1), (0, v2)]) (k_sbl_ok _ _ ⟨Or.inr rfl, Or.inr rfl, Or.inr rfl, trivial⟩) ?_
        exact okX8_closeTakenNights_b26 (fX8_closeTakenNights_h2 N) ih _ _ _ _ _ _ h
      · rw [if_neg c6] at h
        refine k_aload_n (pc := 18) (x := v0) dX8_closeTakenNights_18 rfl rfl ?_
        obtain ⟨hc7, h⟩ := k_pk h
        refine k_getf (pc := 19) (t := 1) (fi := 4) dX8_closeTakenNights_19 flX8_38 rfl rfl hc7 ?_
        refine k_iload_n (pc := 22) (x := v2) dX8_closeTakenNights_22 rfl rfl ?_
        obtain ⟨hc11, h⟩ := k_pk h
        obtain ⟨r8, A9, hq10, h⟩ := k_pb h
        refine k_callV (pc := 23) (ci := 2) (a := (k_rd A3 v0 4)) (as := [(0, v2)]) (st := []) (st1 := []) dX8_closeTakenNights_23 cbX2_close (k_gt 510 (by decide +kernel) (by decide +kernel)) cvX2_close.1 cvX2_close.2 rfl (by decide) hc11 (by omega) rfl (Nat.le_of_ble_eq_true rfl) (okX2_close hq10) rfl ?_
        refine k_sub (ls' := [(1, v0), (0, v1), (0, v2)]) (k_sbl_ok _ _ ⟨Or.inr rfl, Or.inr rfl, Or.inr rfl, trivial⟩) ?_
        exact okX8_closeTakenNights_b26 (fX8_closeTakenNights_h2 N) ih _ _ _ _ _ _ h
set_option maxRecDepth 100000 in
theorem okX8_closeTakenNights_b0 (A : k_H) (v0 v1 : Int) (r : Int) (A' : k_H) (h : fX8_closeTakenNights_b0 A v0 v1 = some (r, A')) : k_AW 2 mX8_closeTakenNights 0 [(1, v0), (0, v1), (3, 0)] [] A r A' := by
  unfold fX8_closeTakenNights_b0 at h
  refine k_iconst (pc := 0) dX8_closeTakenNights_0 ⟨by decide, by decide⟩ ?_
  refine k_istore_n (pc := 1) dX8_closeTakenNights_1 rfl (Nat.le_of_ble_eq_true rfl) rfl ?_
  show k_AW _ _ _ [(1, v0), (0, v1), (0, 0)] _ _ _ _
  refine k_sub (ls' := [(1, v0), (0, v1), (0, 0)]) (k_sbl_ok _ _ ⟨Or.inr rfl, Or.inr rfl, Or.inr rfl, trivial⟩) ?_
  exact okX8_closeTakenNights_h2  _ _ _ _ _ _ _ h
theorem okX8_closeTakenNights {A : k_H} {x0 x1 : Int} {r : Int} {A1 : k_H} (h : fX8_closeTakenNights A x0 x1 = some (r, A1)) : k_AM 2 mX8_closeTakenNights [(1, x0), (0, x1)] A r A1 :=
  k_AM_of2 (ls := [(1, x0), (0, x1), (3, 0)]) (Or.inl (by decide +kernel)) (by decide +kernel) (by decide) rfl (Nat.le_of_ble_eq_true rfl) ⟨Or.inr rfl, Or.inr rfl, rfl, trivial⟩ (okX8_closeTakenNights_b0 A x0 x1 r A1 h)
/-! X8_worthOfTour -/
def fX8_worthOfTour_b47 (k4 : k_H → Int → Int → Int → Int → Option (Int × k_H)) (A : k_H) (v0 v1 v2 v3 : Int) : Option (Int × k_H) := k4 A v0 v1 v2 (k_wr (v3 + 1))
def fX8_worthOfTour_h4 : Nat → k_H → Int → Int → Int → Int → Option (Int × k_H)
  | 0, _, _, _, _, _ => none
  | N + 1, A, v0, v1, v2, v3 => if v3 < 14 then (if k_isO A v0 8 then (if k_isA A (k_rd A v0 2) 24 v1 then (if k_isO A (k_rd A (k_rd A v0 2) v1) 4 then (if k_isA A (k_rd A (k_rd A (k_rd A v0 2) v1) 1) 21 v3 then (k_bd (fX8_isHall A v0 (k_rd A (k_rd A (k_rd A (k_rd A v0 2) v1) 1) v3)) fun r6 A7 => if r6 = 0 then (fX8_worthOfTour_b47 (fX8_worthOfTour_h4 N) A7 v0 v1 v2 v3) else (if k_isO A7 v0 8 then (if k_isA A7 (k_rd A7 v0 1) 23 (k_rd A (k_rd A (k_rd A (k_rd A v0 2) v1) 1) v3) then (if k_isO A7 (k_rd A7 (k_rd A7 v0 1) (k_rd A (k_rd A (k_rd A (k_rd A v0 2) v1) 1) v3)) 1 then (if k_isA A7 (k_rd A7 (k_rd A7 (k_rd A7 v0 1) (k_rd A (k_rd A (k_rd A (k_rd A v0 2) v1) 1) v3)) 1) 21 v1 then (fX8_worthOfTour_b47 (fX8_worthOfTour_h4 N) A7 v0 v1 (k_wr (v2 + (k_rd A7 (k_rd A7 (k_rd A7 (k_rd A7 v0 1) (k_rd A (k_rd A (k_rd A (k_rd A v0 2) v1) 1) v3)) 1) v1))) v3) else none) else none) else none) else none)) else none) else none) else none) else none) else (some (v2, A))
def fX8_worthOfTour_b0 (A : k_H) (v0 v1 : Int) : Option (Int × k_H) := fX8_worthOfTour_h4 k_FU A v0 v1 0 0
def fX8_worthOfTour (A : k_H) (x0 x1 : Int) : Option (Int × k_H) := fX8_worthOfTour_b0 A x0 x1
set_option maxRecDepth 100000 in
theorem okX8_worthOfTour_b47 (k4 : k_H → Int → Int → Int → Int → Option (Int × k_H)) (hk4 : ∀ (A : k_H) (v0 v1 v2 v3 : Int) (r : Int) (A' : k_H), k4 A v0 v1 v2 v3 = some (r, A') → k_AW 2 mX8_worthOfTour 4 [(1, v0), (0, v1), (0, v2), (0, v3), (3, 0)] [] A r A') (A : k_H) (v0 v1 v2 v3 : Int) (r : Int) (A' : k_H) (h : fX8_worthOfTour_b47 k4 A v0 v1 v2 v3 = some (r, A')) : k_AW 2 mX8_worthOfTour 47 [(1, v0), (0, v1), (0, v2), (0, v3), (3, 0)] [] A r A' := by
  unfold fX8_worthOfTour_b47 at h
  refine k_iinc (pc := 47) (x := v3) dX8_worthOfTour_47 (Nat.le_of_ble_eq_true rfl) rfl rfl ?_
  show k_AW _ _ _ [(1, v0), (0, v1), (0, v2), (0, k_wr (v3 + 1)), (3, 0)] _ _ _ _
  refine k_goto (pc := 50) (tgt := 4) dX8_worthOfTour_50 rfl ?_
  refine k_sub (ls' := [(1, v0), (0, v1), (0, v2), (0, k_wr (v3 + 1)), (3, 0)]) (k_sbl_ok _ _ ⟨Or.inr rfl, Or.inr rfl, Or.inr rfl, Or.inr rfl, Or.inl rfl, trivial⟩) ?_
  exact hk4 _ _ _ _ _ _ _ h
set_option maxRecDepth 100000 in
theorem okX8_worthOfTour_h4 : ∀ (N : Nat) (A : k_H) (v0 v1 v2 v3 : Int) (r : Int) (A' : k_H), fX8_worthOfTour_h4 N A v0 v1 v2 v3 = some (r, A') → k_AW 2 mX8_worthOfTour 4 [(1, v0), (0, v1), (0, v2), (0, v3), (3, 0)] [] A r A' := by
  intro N
  induction N with
  | zero => intro A v0 v1 v2 v3 r A' h; exact absurd h (by simp [fX8_worthOfTour_h4])
  | succ N ih =>
    intro A v0 v1 v2 v3 r A' h
    rw [fX8_worthOfTour_h4] at h
    refine k_iload_n (pc := 4) (x := v3) dX8_worthOfTour_4 rfl rfl ?_
    refine k_bipush (pc := 5) dX8_worthOfTour_5 ⟨by decide, by decide⟩ (by decide +kernel) ?_
    refine k_icmp_ge (pc := 7) (tgt := 53) dX8_worthOfTour_7 rfl (fun c1 => ?_) (fun c1 => ?_)
    · rw [if_neg (Int.not_lt.mpr c1)] at h
      refine k_iload_n (pc := 53) (x := v2) dX8_worthOfTour_53 rfl rfl ?_
      obtain ⟨rfl, rfl⟩ := k_pr h
      exact k_ret (pc := 54) dX8_worthOfTour_54 rfl rfl rfl
    · rw [if_pos (Int.not_le.mp c1)] at h
      refine k_aload_n (pc := 10) (x := v0) dX8_worthOfTour_10 rfl rfl ?_
      obtain ⟨hc2, h⟩ := k_pk h
      refine k_getf (pc := 11) (t := 1) (fi := 2) dX8_worthOfTour_11 flX8_24 rfl rfl hc2 ?_
      refine k_iload_n (pc := 14) (x := v1) dX8_worthOfTour_14 rfl rfl ?_
      obtain ⟨hc3, h⟩ := k_pk h
      refine k_aaload (pc := 15) (K := 24) dX8_worthOfTour_15 (by decide) hc3 ?_
      obtain ⟨hc4, h⟩ := k_pk h
      refine k_getf (pc := 16) (t := 1) (fi := 1) dX8_worthOfTour_16 flX8_163 rfl rfl hc4 ?_
      refine k_iload_n (pc := 19) (x := v3) dX8_worthOfTour_19 rfl rfl ?_
      obtain ⟨hc5, h⟩ := k_pk h
      refine k_iaload (pc := 20) dX8_worthOfTour_20 hc5 ?_
      refine k_istore (pc := 21) dX8_worthOfTour_21 (Nat.le_of_ble_eq_true rfl) rfl ?_
      show k_AW _ _ _ [(1, v0), (0, v1), (0, v2), (0, v3), (0, (k_rd A (k_rd A (k_rd A (k_rd A v0 2) v1) 1) v3))] _ _ _ _
      refine k_aload_n (pc := 23) (x := v0) dX8_worthOfTour_23 rfl rfl ?_
      refine k_iload (pc := 24) (x := (k_rd A (k_rd A (k_rd A (k_rd A v0 2) v1) 1) v3)) dX8_worthOfTour_24 rfl ?_
      obtain ⟨r6, A7, hq8, h⟩ := k_pb h
      refine k_callV (pc := 26) (ci := 8) (a := v0) (as := [(0, (k_rd A (k_rd A (k_rd A (k_rd A v0 2) v1) 1) v3))]) (st := []) (st1 := [(0, r6)]) dX8_worthOfTour_26 cbX8_isHall (k_gt 404 (by decide +kernel) (by decide +kernel)) cvX8_isHall.1 cvX8_isHall.2 rfl (by decide) hc2 (by omega) rfl (Nat.le_of_ble_eq_true rfl) (okX8_isHall hq8) rfl ?_
      refine k_if_eq (pc := 29) (tgt := 47) dX8_worthOfTour_29 rfl (fun c9 => ?_) (fun c9 => ?_)
      · rw [if_pos c9] at h
        refine k_sub (ls' := [(1, v0), (0, v1), (0, v2), (0, v3), (3, 0)]) (k_sbl_ok _ _ ⟨Or.inr rfl, Or.inr rfl, Or.inr rfl, Or.inr rfl, Or.inl rfl, trivial⟩) ?_
        exact okX8_worthOfTour_b47 (fX8_worthOfTour_h4 N) ih _ _ _ _ _ _ _ h
      · rw [if_neg c9] at h
        refine k_iload_n (pc := 32) (x := v2) dX8_worthOfTour_32 rfl rfl ?_
        refine k_aload_n (pc := 33) (x := v0) dX8_worthOfTour_33 rfl rfl ?_
        obtain ⟨hc10, h⟩ := k_pk h
        refine k_getf (pc := 34) (t := 1) (fi := 1) dX8_worthOfTour_34 flX8_18 rfl rfl hc10 ?_
        refine k_iload (pc := 37) (x := (k_rd A (k_rd A (k_rd A (k_rd A v0 2) v1) 1) v3)) dX8_worthOfTour_37 rfl ?_
        obtain ⟨hc11, h⟩ := k_pk h
        refine k_aaload (pc := 39) (K := 23) dX8_worthOfTour_39 (by decide) hc11 ?_
        obtain ⟨hc12, h⟩ := k_pk h
        refine k_getf (pc := 40) (t := 1) (fi := 1) dX8_worthOfTour_40 flX8_108 rfl rfl hc12 ?_
        refine k_iload_n (pc := 43) (x := v1) dX8_worthOfTour_43 rfl rfl ?_
        obtain ⟨hc13, h⟩ := k_pk h
        refine k_iaload (pc := 44) dX8_worthOfTour_44 hc13 ?_
        refine k_iadd (pc := 45) dX8_worthOfTour_45 ?_
        refine k_istore_n (pc := 46) dX8_worthOfTour_46 rfl (Nat.le_of_ble_eq_true rfl) rfl ?_
        show k_AW _ _ _ [(1, v0), (0, v1), (0, k_wr (v2 + (k_rd A7 (k_rd A7 (k_rd A7 (k_rd A7 v0 1) (k_rd A (k_rd A (k_rd A (k_rd A v0 2) v1) 1) v3)) 1) v1))), (0, v3), (0, (k_rd A (k_rd A (k_rd A (k_rd A v0 2) v1) 1) v3))] _ _ _ _
        refine k_sub (ls' := [(1, v0), (0, v1), (0, k_wr (v2 + (k_rd A7 (k_rd A7 (k_rd A7 (k_rd A7 v0 1) (k_rd A (k_rd A (k_rd A (k_rd A v0 2) v1) 1) v3)) 1) v1))), (0, v3), (3, 0)]) (k_sbl_ok _ _ ⟨Or.inr rfl, Or.inr rfl, Or.inr rfl, Or.inr rfl, Or.inl rfl, trivial⟩) ?_
        exact okX8_worthOfTour_b47 (fX8_worthOfTour_h4 N) ih _ _ _ _ _ _ _ h
set_option maxRecDepth 100000 in
theorem okX8_worthOfTour_b0 (A : k_H) (v0 v1 : Int) (r : Int) (A' : k_H) (h : fX8_worthOfTour_b0 A v0 v1 = some (r, A')) : k_AW 2 mX8_worthOfTour 0 [(1, v0), (0, v1), (3, 0), (3, 0), (3, 0)] [] A r A' := by
  unfold fX8_worthOfTour_b0 at h
  refine k_iconst (pc := 0) dX8_worthOfTour_0 ⟨by decide, by decide⟩ ?_
  refine k_istore_n (pc := 1) dX8_worthOfTour_1 rfl (Nat.le_of_ble_eq_true rfl) rfl ?_
  show k_AW _ _ _ [(1, v0), (0, v1), (0, 0), (3, 0), (3, 0)] _ _ _ _
  refine k_iconst (pc := 2) dX8_worthOfTour_2 ⟨by decide, by decide⟩ ?_
  refine k_istore_n (pc := 3) dX8_worthOfTour_3 rfl (Nat.le_of_ble_eq_true rfl) rfl ?_
  show k_AW _ _ _ [(1, v0), (0, v1), (0, 0), (0, 0), (3, 0)] _ _ _ _
  refine k_sub (ls' := [(1, v0), (0, v1), (0, 0), (0, 0), (3, 0)]) (k_sbl_ok _ _ ⟨Or.inr rfl, Or.inr rfl, Or.inr rfl, Or.inr rfl, Or.inl rfl, trivial⟩) ?_
  exact okX8_worthOfTour_h4  _ _ _ _ _ _ _ _ h
theorem okX8_worthOfTour {A : k_H} {x0 x1 : Int} {r : Int} {A1 : k_H} (h : fX8_worthOfTour A x0 x1 = some (r, A1)) : k_AM 2 mX8_worthOfTour [(1, x0), (0, x1)] A r A1 :=
  k_AM_of2 (ls := [(1, x0), (0, x1), (3, 0), (3, 0), (3, 0)]) (Or.inl (by decide +kernel)) (by decide +kernel) (by decide) rfl (Nat.le_of_ble_eq_true rfl) ⟨Or.inr rfl, Or.inr rfl, rfl, rfl, rfl, trivial⟩ (okX8_worthOfTour_b0 A x0 x1 r A1 h)
/-! X8_keepsWaysAndRests -/
def fX8_keepsWaysAndRests_b109 (k10 : k_H → Int → Int → Int → Int → Int → Int → Option (Int × k_H)) (A : k_H) (v0 v1 v2 v3 v4 v5 : Int) : Option (Int × k_H) := k10 A v0 v1 v2 v3 v4 (k_wr (v5 + 1))
def fX8_keepsWaysAndRests_b85 (k10 : k_H → Int → Int → Int → Int → Int → Int → Option (Int × k_H)) (A : k_H) (v0 v1 v4 v5 v6 s0 : Int) : Option (Int × k_H) := if k_isO A v1 4 then (if v4 ≤ (k_rd A v1 9) then (if s0 = 0 then (some (0, A)) else (fX8_keepsWaysAndRests_b109 k10 A v0 v1 v6 v5 v4 v5)) else (some (0, A))) else none
def fX8_keepsWaysAndRests_b80 (k10 : k_H → Int → Int → Int → Int → Int → Int → Option (Int × k_H)) (A : k_H) (v0 v1 v4 v5 v6 : Int) : Option (Int × k_H) := fX8_keepsWaysAndRests_b85 k10 A v0 v1 v4 v5 v6 1
def fX8_keepsWaysAndRests_h10 : Nat → k_H → Int → Int → Int → Int → Int → Int → Option (Int × k_H)
  | 0, _, _, _, _, _, _, _ => none
  | N + 1, A, v0, v1, v2, v3, v4, v5 => if v5 < 14 then (if k_isO A v1 4 then (if k_isA A (k_rd A v1 1) 21 v5 then (if k_isO A v0 8 then (k_bd (fX8_isHall A v0 (k_rd A (k_rd A v1 1) v5)) fun r4 A5 => if r4 = 0 then (fX8_keepsWaysAndRests_b109 (fX8_keepsWaysAndRests_h10 N) A5 v0 v1 v2 v3 0 v5) else (if k_isO A5 v0 8 then (k_bd (fX8_isHall A5 v0 v2) fun r9 A10 => if r9 = 0 then (fX8_keepsWaysAndRests_b80 (fX8_keepsWaysAndRests_h10 N) A10 v0 v1 (k_wr (v4 + 1)) v5 (k_rd A (k_rd A v1 1) v5)) else (if k_isO A10 v0 8 then (if k_isA A10 (k_rd A10 v0 1) 23 v2 then (if k_isA A10 (k_rd A10 v0 1) 23 (k_rd A (k_rd A v1 1) v5) then (if k_isO A10 (k_rd A10 (k_rd A10 v0 1) v2) 1 then (k_bd (fX1_milesTo A10 (k_rd A10 (k_rd A10 v0 1) v2) (k_rd A10 (k_rd A10 v0 1) (k_rd A (k_rd A v1 1) v5))) fun r17 A18 => if k_isO A18 v1 4 then (if r17 ≤ k_wr ((k_rd A18 v1 8) * k_wr (v5 - v3)) then (fX8_keepsWaysAndRests_b80 (fX8_keepsWaysAndRests_h10 N) A18 v0 v1 (k_wr (v4 + 1)) v5 (k_rd A (k_rd A v1 1) v5)) else (fX8_keepsWaysAndRests_b85 (fX8_keepsWaysAndRests_h10 N) A18 v0 v1 (k_wr (v4 + 1)) v5 (k_rd A (k_rd A v1 1) v5) 0)) else none) else none) else none) else none) else none)) else none)) else none) else none) else none) else (some (1, A))
def fX8_keepsWaysAndRests_b0 (A : k_H) (v0 v1 : Int) : Option (Int × k_H) := fX8_keepsWaysAndRests_h10 k_FU A v0 v1 (-1) (-1) 0 0
def fX8_keepsWaysAndRests (A : k_H) (x0 x1 : Int) : Option (Int × k_H) := fX8_keepsWaysAndRests_b0 A x0 x1
set_option maxRecDepth 100000 in
theorem okX8_keepsWaysAndRests_b109 (k10 : k_H → Int → Int → Int → Int → Int → Int → Option (Int × k_H)) (hk10 : ∀ (A : k_H) (v0 v1 v2 v3 v4 v5 : Int) (r : Int) (A' : k_H), k10 A v0 v1 v2 v3 v4 v5 = some (r, A') → k_AW 3 mX8_keepsWaysAndRests 10 [(1, v0), (1, v1), (0, v2), (0, v3), (0, v4), (0, v5), (3, 0), (3, 0)] [] A r A') (A : k_H) (v0 v1 v2 v3 v4 v5 : Int) (r : Int) (A' : k_H) (h : fX8_keepsWaysAndRests_b109 k10 A v0 v1 v2 v3 v4 v5 = some (r, A')) : k_AW 3 mX8_keepsWaysAndRests 109 [(1, v0), (1, v1), (0, v2), (0, v3), (0, v4), (0, v5), (3, 0), (3, 0)] [] A r A' := by
  unfold fX8_keepsWaysAndRests_b109 at h
  refine k_iinc (pc := 109) (x := v5) dX8_keepsWaysAndRests_109 (Nat.le_of_ble_eq_true rfl) rfl rfl ?_
  show k_AW _ _ _ [(1, v0), (1, v1), (0, v2), (0, v3), (0, v4), (0, k_wr (v5 + 1)), (3, 0), (3, 0)] _ _ _ _
  refine k_goto (pc := 112) (tgt := 10) dX8_keepsWaysAndRests_112 rfl ?_
  refine k_sub (ls' := [(1, v0), (1, v1), (0, v2), (0, v3), (0, v4), (0, k_wr (v5 + 1)), (3, 0), (3, 0)]) (k_sbl_ok _ _ ⟨Or.inr rfl, Or.inr rfl, Or.inr rfl, Or.inr rfl, Or.inr rfl, Or.inr rfl, Or.inl rfl, Or.inl rfl, trivial⟩) ?_
  exact hk10 _ _ _ _ _ _ _ _ _ h
set_option maxRecDepth 100000 in
theorem okX8_keepsWaysAndRests_b85 (k10 : k_H → Int → Int → Int → Int → Int → Int → Option (Int × k_H)) (hk10 : ∀ (A : k_H) (v0 v1 v2 v3 v4 v5 : Int) (r : Int) (A' : k_H), k10 A v0 v1 v2 v3 v4 v5 = some (r, A') → k_AW 3 mX8_keepsWaysAndRests 10 [(1, v0), (1, v1), (0, v2), (0, v3), (0, v4), (0, v5), (3, 0), (3, 0)] [] A r A') (A : k_H) (v0 v1 v4 v5 v6 s0 : Int) (r : Int) (A' : k_H) (h : fX8_keepsWaysAndRests_b85 k10 A v0 v1 v4 v5 v6 s0 = some (r, A')) : k_AW 3 mX8_keepsWaysAndRests 85 [(1, v0), (1, v1), (3, 0), (3, 0), (0, v4), (0, v5), (0, v6), (3, 0)] [(0, s0)] A r A' := by
  unfold fX8_keepsWaysAndRests_b85 at h
  refine k_istore (pc := 85) dX8_keepsWaysAndRests_85 (Nat.le_of_ble_eq_true rfl) rfl ?_
  show k_AW _ _ _ [(1, v0), (1, v1), (3, 0), (3, 0), (0, v4), (0, v5), (0, v6), (0, s0)] _ _ _ _
  refine k_iload (pc := 87) (x := v4) dX8_keepsWaysAndRests_87 rfl ?_
  refine k_aload_n (pc := 89) (x := v1) dX8_keepsWaysAndRests_89 rfl rfl ?_
  obtain ⟨hc1, h⟩ := k_pk h
  refine k_getf (pc := 90) (t := 0) (fi := 9) dX8_keepsWaysAndRests_90 flX8_247 rfl rfl hc1 ?_
  refine k_icmp_gt (pc := 93) (tgt := 101) dX8_keepsWaysAndRests_93 rfl (fun c2 => ?_) (fun c2 => ?_)
  · rw [if_neg (Int.not_le.mpr c2)] at h
    refine k_iconst (pc := 101) dX8_keepsWaysAndRests_101 ⟨by decide, by decide⟩ ?_
    obtain ⟨rfl, rfl⟩ := k_pr h
    exact k_ret (pc := 102) dX8_keepsWaysAndRests_102 rfl rfl (by decide +kernel)
  · rw [if_pos (Int.not_lt.mp c2)] at h
    refine k_iload (pc := 96) (x := s0) dX8_keepsWaysAndRests_96 rfl ?_
    refine k_if_ne (pc := 98) (tgt := 103) dX8_keepsWaysAndRests_98 rfl (fun c3 => ?_) (fun c3 => ?_)
    · rw [if_neg c3] at h
      refine k_iload (pc := 103) (x := v6) dX8_keepsWaysAndRests_103 rfl ?_
      refine k_istore_n (pc := 105) dX8_keepsWaysAndRests_105 rfl (Nat.le_of_ble_eq_true rfl) rfl ?_
      show k_AW _ _ _ [(1, v0), (1, v1), (0, v6), (3, 0), (0, v4), (0, v5), (0, v6), (0, s0)] _ _ _ _
      refine k_iload (pc := 106) (x := v5) dX8_keepsWaysAndRests_106 rfl ?_
      refine k_istore_n (pc := 108) dX8_keepsWaysAndRests_108 rfl (Nat.le_of_ble_eq_true rfl) rfl ?_
      show k_AW _ _ _ [(1, v0), (1, v1), (0, v6), (0, v5), (0, v4), (0, v5), (0, v6), (0, s0)] _ _ _ _
      refine k_sub (ls' := [(1, v0), (1, v1), (0, v6), (0, v5), (0, v4), (0, v5), (3, 0), (3, 0)]) (k_sbl_ok _ _ ⟨Or.inr rfl, Or.inr rfl, Or.inr rfl, Or.inr rfl, Or.inr rfl, Or.inr rfl, Or.inl rfl, Or.inl rfl, trivial⟩) ?_
      exact okX8_keepsWaysAndRests_b109 k10 hk10 _ _ _ _ _ _ _ _ _ h
    · rw [if_pos (Classical.not_not.mp c3)] at h
      refine k_iconst (pc := 101) dX8_keepsWaysAndRests_101 ⟨by decide, by decide⟩ ?_
      obtain ⟨rfl, rfl⟩ := k_pr h
      exact k_ret (pc := 102) dX8_keepsWaysAndRests_102 rfl rfl (by decide +kernel)
set_option maxRecDepth 100000 in
theorem okX8_keepsWaysAndRests_b80 (k10 : k_H → Int → Int → Int → Int → Int → Int → Option (Int × k_H)) (hk10 : ∀ (A : k_H) (v0 v1 v2 v3 v4 v5 : Int) (r : Int) (A' : k_H), k10 A v0 v1 v2 v3 v4 v5 = some (r, A') → k_AW 3 mX8_keepsWaysAndRests 10 [(1, v0), (1, v1), (0, v2), (0, v3), (0, v4), (0, v5), (3, 0), (3, 0)] [] A r A') (A : k_H) (v0 v1 v4 v5 v6 : Int) (r : Int) (A' : k_H) (h : fX8_keepsWaysAndRests_b80 k10 A v0 v1 v4 v5 v6 = some (r, A')) : k_AW 3 mX8_keepsWaysAndRests 80 [(1, v0), (1, v1), (3, 0), (3, 0), (0, v4), (0, v5), (0, v6), (3, 0)] [] A r A' := by
  unfold fX8_keepsWaysAndRests_b80 at h
  refine k_iconst (pc := 80) dX8_keepsWaysAndRests_80 ⟨by decide, by decide⟩ ?_
  refine k_goto (pc := 81) (tgt := 85) dX8_keepsWaysAndRests_81 rfl ?_
  refine k_sub (ls' := [(1, v0), (1, v1), (3, 0), (3, 0), (0, v4), (0, v5), (0, v6), (3, 0)]) (k_sbl_ok _ _ ⟨Or.inr rfl, Or.inr rfl, Or.inl rfl, Or.inl rfl, Or.inr rfl, Or.inr rfl, Or.inr rfl, Or.inl rfl, trivial⟩) ?_
  exact okX8_keepsWaysAndRests_b85 k10 hk10 _ _ _ _ _ _ _ _ _ h
set_option maxRecDepth 100000 in
theorem okX8_keepsWaysAndRests_h10 : ∀ (N : Nat) (A : k_H) (v0 v1 v2 v3 v4 v5 : Int) (r : Int) (A' : k_H), fX8_keepsWaysAndRests_h10 N A v0 v1 v2 v3 v4 v5 = some (r, A') → k_AW 3 mX8_keepsWaysAndRests 10 [(1, v0), (1, v1), (0, v2), (0, v3), (0, v4), (0, v5), (3, 0), (3, 0)] [] A r A' := by
  intro N
  induction N with
  | zero => intro A v0 v1 v2 v3 v4 v5 r A' h; exact absurd h (by simp [fX8_keepsWaysAndRests_h10])
  | succ N ih =>
    intro A v0 v1 v2 v3 v4 v5 r A' h
    rw [fX8_keepsWaysAndRests_h10] at h
    refine k_iload (pc := 10) (x := v5) dX8_keepsWaysAndRests_10 rfl ?_
    refine k_bipush (pc := 12) dX8_keepsWaysAndRests_12 ⟨by decide, by decide⟩ (by decide +kernel) ?_
    refine k_icmp_ge (pc := 14) (tgt := 115) dX8_keepsWaysAndRests_14 rfl (fun c1 => ?_) (fun c1 => ?_)
    · rw [if_neg (Int.not_lt.mpr c1)] at h
      refine k_iconst (pc := 115) dX8_keepsWaysAndRests_115 ⟨by decide, by decide⟩ ?_
      obtain ⟨rfl, rfl⟩ := k_pr h
      exact k_ret (pc := 116) dX8_keepsWaysAndRests_116 rfl rfl (by decide +kernel)
    · rw [if_pos (Int.not_le.mp c1)] at h
      refine k_aload_n (pc := 17) (x := v1) dX8_keepsWaysAndRests_17 rfl rfl ?_
      obtain ⟨hc2, h⟩ := k_pk h
      refine k_getf (pc := 18) (t := 1) (fi := 1) dX8_keepsWaysAndRests_18 flX8_163 rfl rfl hc2 ?_
      refine k_iload (pc := 21) (x := v5) dX8_keepsWaysAndRests_21 rfl ?_
      obtain ⟨hc3, h⟩ := k_pk h
      refine k_iaload (pc := 23) dX8_keepsWaysAndRests_23 hc3 ?_
      refine k_istore (pc := 24) dX8_keepsWaysAndRests_24 (Nat.le_of_ble_eq_true rfl) rfl ?_
      show k_AW _ _ _ [(1, v0), (1, v1), (0, v2), (0, v3), (0, v4), (0, v5), (0, (k_rd A (k_rd A v1 1) v5)), (3, 0)] _ _ _ _
      refine k_aload_n (pc := 26) (x := v0) dX8_keepsWaysAndRests_26 rfl rfl ?_
      refine k_iload (pc := 27) (x := (k_rd A (k_rd A v1 1) v5)) dX8_keepsWaysAndRests_27 rfl ?_
      obtain ⟨hc7, h⟩ := k_pk h
      obtain ⟨r4, A5, hq6, h⟩ := k_pb h
      refine k_callV (pc := 29) (ci := 8) (a := v0) (as := [(0, (k_rd A (k_rd A v1 1) v5))]) (st := []) (st1 := [(0, r4)]) dX8_keepsWaysAndRests_29 cbX8_isHall (k_gt 404 (by decide +kernel) (by decide +kernel)) cvX8_isHall.1 cvX8_isHall.2 rfl (by decide) hc7 (by omega) rfl (Nat.le_of_ble_eq_true rfl) (okX8_isHall hq6) rfl ?_
      refine k_if_ne (pc := 32) (tgt := 41) dX8_keepsWaysAndRests_32 rfl (fun c8 => ?_) (fun c8 => ?_)
      · rw [if_neg c8] at h
        refine k_iinc (pc := 41) (x := v4) dX8_keepsWaysAndRests_41 (Nat.le_of_ble_eq_true rfl) rfl rfl ?_
        show k_AW _ _ _ [(1, v0), (1, v1), (0, v2), (0, v3), (0, k_wr (v4 + 1)), (0, v5), (0, (k_rd A (k_rd A v1 1) v5)), (3, 0)] _ _ _ _
        refine k_aload_n (pc := 44) (x := v0) dX8_keepsWaysAndRests_44 rfl rfl ?_
        refine k_iload_n (pc := 45) (x := v2) dX8_keepsWaysAndRests_45 rfl rfl ?_
        obtain ⟨hc12, h⟩ := k_pk h
        obtain ⟨r9, A10, hq11, h⟩ := k_pb h
        refine k_callV (pc := 46) (ci := 8) (a := v0) (as := [(0, v2)]) (st := []) (st1 := [(0, r9)]) dX8_keepsWaysAndRests_46 cbX8_isHall (k_gt 404 (by decide +kernel) (by decide +kernel)) cvX8_isHall.1 cvX8_isHall.2 rfl (by decide) hc12 (by omega) rfl (Nat.le_of_ble_eq_true rfl) (okX8_isHall hq11) rfl ?_
        refine k_if_eq (pc := 49) (tgt := 80) dX8_keepsWaysAndRests_49 rfl (fun c13 => ?_) (fun c13 => ?_)
        · rw [if_pos c13] at h
          refine k_sub (ls' := [(1, v0), (1, v1), (3, 0), (3, 0), (0, k_wr (v4 + 1)), (0, v5), (0, (k_rd A (k_rd A v1 1) v5)), (3, 0)]) (k_sbl_ok _ _ ⟨Or.inr rfl, Or.inr rfl, Or.inl rfl, Or.inl rfl, Or.inr rfl, Or.inr rfl, Or.inr rfl, Or.inl rfl, trivial⟩) ?_
          exact okX8_keepsWaysAndRests_b80 (fX8_keepsWaysAndRests_h10 N) ih _ _ _ _ _ _ _ _ h
        · rw [if_neg c13] at h
          refine k_aload_n (pc := 52) (x := v0) dX8_keepsWaysAndRests_52 rfl rfl ?_
          obtain ⟨hc14, h⟩ := k_pk h
          refine k_getf (pc := 53) (t := 1) (fi := 1) dX8_keepsWaysAndRests_53 flX8_18 rfl rfl hc14 ?_
          refine k_iload_n (pc := 56) (x := v2) dX8_keepsWaysAndRests_56 rfl rfl ?_
          obtain ⟨hc15, h⟩ := k_pk h
          refine k_aaload (pc := 57) (K := 23) dX8_keepsWaysAndRests_57 (by decide) hc15 ?_
          refine k_aload_n (pc := 58) (x := v0) dX8_keepsWaysAndRests_58 rfl rfl ?_
          refine k_getf (pc := 59) (t := 1) (fi := 1) dX8_keepsWaysAndRests_59 flX8_18 rfl rfl hc14 ?_
          refine k_iload (pc := 62) (x := (k_rd A (k_rd A v1 1) v5)) dX8_keepsWaysAndRests_62 rfl ?_
          obtain ⟨hc16, h⟩ := k_pk h
          refine k_aaload (pc := 64) (K := 23) dX8_keepsWaysAndRests_64 (by decide) hc16 ?_
          obtain ⟨hc20, h⟩ := k_pk h
          obtain ⟨r17, A18, hq19, h⟩ := k_pb h
          refine k_callV (pc := 65) (ci := 1) (a := (k_rd A10 (k_rd A10 v0 1) v2)) (as := [(1, (k_rd A10 (k_rd A10 v0 1) (k_rd A (k_rd A v1 1) v5)))]) (st := []) (st1 := [(0, r17)]) dX8_keepsWaysAndRests_65 cbX1_milesTo (k_gt 584 (by decide +kernel) (by decide +kernel)) cvX1_milesTo.1 cvX1_milesTo.2 rfl (by decide) hc20 (by omega) rfl (Nat.le_of_ble_eq_true rfl) (okX1_milesTo hq19) rfl ?_
          refine k_aload_n (pc := 68) (x := v1) dX8_keepsWaysAndRests_68 rfl rfl ?_
          obtain ⟨hc21, h⟩ := k_pk h
          refine k_getf (pc := 69) (t := 0) (fi := 8) dX8_keepsWaysAndRests_69 flX8_244 rfl rfl hc21 ?_
          refine k_iload (pc := 72) (x := v5) dX8_keepsWaysAndRests_72 rfl ?_
          refine k_iload_n (pc := 74) (x := v3) dX8_keepsWaysAndRests_74 rfl rfl ?_
          refine k_isub (pc := 75) dX8_keepsWaysAndRests_75 ?_
          refine k_imul (pc := 76) dX8_keepsWaysAndRests_76 ?_
          refine k_icmp_gt (pc := 77) (tgt := 84) dX8_keepsWaysAndRests_77 rfl (fun c22 => ?_) (fun c22 => ?_)
          · rw [if_neg (Int.not_le.mpr c22)] at h
            refine k_iconst (pc := 84) dX8_keepsWaysAndRests_84 ⟨by decide, by decide⟩ ?_
            refine k_sub (ls' := [(1, v0), (1, v1), (3, 0), (3, 0), (0, k_wr (v4 + 1)), (0, v5), (0, (k_rd A (k_rd A v1 1) v5)), (3, 0)]) (k_sbl_ok _ _ ⟨Or.inr rfl, Or.inr rfl, Or.inl rfl, Or.inl rfl, Or.inr rfl, Or.inr rfl, Or.inr rfl, Or.inl rfl, trivial⟩) ?_
            exact okX8_keepsWaysAndRests_b85 (fX8_keepsWaysAndRests_h10 N) ih _ _ _ _ _ _ _ _ _ h
          · rw [if_pos (Int.not_lt.mp c22)] at h
            refine k_sub (ls' := [(1, v0), (1, v1), (3, 0), (3, 0), (0, k_wr (v4 + 1)), (0, v5), (0, (k_rd A (k_rd A v1 1) v5)), (3, 0)]) (k_sbl_ok _ _ ⟨Or.inr rfl, Or.inr rfl, Or.inl rfl, Or.inl rfl, Or.inr rfl, Or.inr rfl, Or.inr rfl, Or.inl rfl, trivial⟩) ?_
            exact okX8_keepsWaysAndRests_b80 (fX8_keepsWaysAndRests_h10 N) ih _ _ _ _ _ _ _ _ h
      · rw [if_pos (Classical.not_not.mp c8)] at h
        refine k_iconst (pc := 35) dX8_keepsWaysAndRests_35 ⟨by decide, by decide⟩ ?_
        refine k_istore (pc := 36) dX8_keepsWaysAndRests_36 (Nat.le_of_ble_eq_true rfl) rfl ?_
        show k_AW _ _ _ [(1, v0), (1, v1), (0, v2), (0, v3), (0, 0), (0, v5), (0, (k_rd A (k_rd A v1 1) v5)), (3, 0)] _ _ _ _
        refine k_goto (pc := 38) (tgt := 109) dX8_keepsWaysAndRests_38 rfl ?_
        refine k_sub (ls' := [(1, v0), (1, v1), (0, v2), (0, v3), (0, 0), (0, v5), (3, 0), (3, 0)]) (k_sbl_ok _ _ ⟨Or.inr rfl, Or.inr rfl, Or.inr rfl, Or.inr rfl, Or.inr rfl, Or.inr rfl, Or.inl rfl, Or.inl rfl, trivial⟩) ?_
        exact okX8_keepsWaysAndRests_b109 (fX8_keepsWaysAndRests_h10 N) ih _ _ _ _ _ _ _ _ _ h
set_option maxRecDepth 100000 in
theorem okX8_keepsWaysAndRests_b0 (A : k_H) (v0 v1 : Int) (r : Int) (A' : k_H) (h : fX8_keepsWaysAndRests_b0 A v0 v1 = some (r, A')) : k_AW 3 mX8_keepsWaysAndRests 0 [(1, v0), (1, v1), (3, 0), (3, 0), (3, 0), (3, 0), (3, 0), (3, 0)] [] A r A' := by
  unfold fX8_keepsWaysAndRests_b0 at h
  refine k_iconst (pc := 0) dX8_keepsWaysAndRests_0 ⟨by decide, by decide⟩ ?_
  refine k_istore_n (pc := 1) dX8_keepsWaysAndRests_1 rfl (Nat.le_of_ble_eq_true rfl) rfl ?_
  show k_AW _ _ _ [(1, v0), (1, v1), (0, (-1)), (3, 0), (3, 0), (3, 0), (3, 0), (3, 0)] _ _ _ _
  refine k_iconst (pc := 2) dX8_keepsWaysAndRests_2 ⟨by decide, by decide⟩ ?_
  refine k_istore_n (pc := 3) dX8_keepsWaysAndRests_3 rfl (Nat.le_of_ble_eq_true rfl) rfl ?_
  show k_AW _ _ _ [(1, v0), (1, v1), (0, (-1)), (0, (-1)), (3, 0), (3, 0), (3, 0), (3, 0)] _ _ _ _
  refine k_iconst (pc := 4) dX8_keepsWaysAndRests_4 ⟨by decide, by decide⟩ ?_
  refine k_istore (pc := 5) dX8_keepsWaysAndRests_5 (Nat.le_of_ble_eq_true rfl) rfl ?_
  show k_AW _ _ _ [(1, v0), (1, v1), (0, (-1)), (0, (-1)), (0, 0), (3, 0), (3, 0), (3, 0)] _ _ _ _
  refine k_iconst (pc := 7) dX8_keepsWaysAndRests_7 ⟨by decide, by decide⟩ ?_
  refine k_istore (pc := 8) dX8_keepsWaysAndRests_8 (Nat.le_of_ble_eq_true rfl) rfl ?_
  show k_AW _ _ _ [(1, v0), (1, v1), (0, (-1)), (0, (-1)), (0, 0), (0, 0), (3, 0), (3, 0)] _ _ _ _
  refine k_sub (ls' := [(1, v0), (1, v1), (0, (-1)), (0, (-1)), (0, 0), (0, 0), (3, 0), (3, 0)]) (k_sbl_ok _ _ ⟨Or.inr rfl, Or.inr rfl, Or.inr rfl, Or.inr rfl, Or.inr rfl, Or.inr rfl, Or.inl rfl, Or.inl rfl, trivial⟩) ?_
  exact okX8_keepsWaysAndRests_h10  _ _ _ _ _ _ _ _ _ _ h
theorem okX8_keepsWaysAndRests {A : k_H} {x0 x1 : Int} {r : Int} {A1 : k_H} (h : fX8_keepsWaysAndRests A x0 x1 = some (r, A1)) : k_AM 3 mX8_keepsWaysAndRests [(1, x0), (1, x1)] A r A1 :=
  k_AM_of2 (ls := [(1, x0), (1, x1), (3, 0), (3, 0), (3, 0), (3, 0), (3, 0), (3, 0)]) (Or.inl (by decide +kernel)) (by decide +kernel) (by decide) rfl (Nat.le_of_ble_eq_true rfl) ⟨Or.inr rfl, Or.inr rfl, rfl, rfl, rfl, rfl, rfl, rfl, trivial⟩ (okX8_keepsWaysAndRests_b0 A x0 x1 r A1 h)
/-! X7_nextToken -/
def fX7_nextToken_b120 (A : k_H) (s0 s1 : Int) : Option (Int × k_H) := if k_isO A s0 7 then (k_lt (k_wt A s0 10 s1) fun A2 => some (0, A2)) else none
def fX7_nextToken_b91 (A : k_H) (v0 : Int) : Option (Int × k_H) := if k_isO A v0 7 then (k_bd (fX7_readRun A v0) fun r1 A2 => some (0, A2)) else none
def fX7_nextToken_b44 (A : k_H) (v0 : Int) : Option (Int × k_H) := if k_isO A v0 7 then (k_lt (k_wt A v0 9 (k_rd A v0 8)) fun A2 => if k_isO A2 (k_rd A2 v0 4) 5 then (k_bd (fX5_byteAt A2 (k_rd A2 v0 4) (k_rd A2 v0 8)) fun r5 A6 => if r5 = (-1) then (if k_isO A6 v0 7 then (k_lt (k_wt A6 v0 10 4) fun A23 => some (0, A23)) else none) else (k_bd (fX7_isLetter A6 r5) fun r10 A11 => if r10 = 0 then (k_bd (fX7_isDigit A11 r5) fun r14 A15 => if r14 = 0 then (if k_isO A15 v0 7 then (k_lt (k_wt A15 v0 8 (k_wr ((k_rd A15 v0 8) + 1))) fun A19 => if r5 = 59 then (fX7_nextToken_b120 A19 v0 3) else (fX7_nextToken_b120 A19 v0 0)) else none) else (fX7_nextToken_b91 A15 v0)) else (fX7_nextToken_b91 A11 v0))) else none) else none
def fX7_nextToken_h0 : Nat → k_H → Int → Option (Int × k_H)
  | 0, _, _ => none
  | N + 1, A, v0 => if k_isO A v0 7 then (if k_isO A (k_rd A v0 4) 5 then (if (k_rd A v0 8) < (k_rd A (k_rd A v0 4) 1) then (k_bd (fX5_byteAt A (k_rd A v0 4) (k_rd A v0 8)) fun r4 A5 => k_bd (fX7_isBlank A5 r4) fun r7 A8 => if r7 = 0 then (fX7_nextToken_b44 A8 v0) else (if k_isO A8 v0 7 then (k_lt (k_wt A8 v0 8 (k_wr ((k_rd A8 v0 8) + 1))) fun A12 => (fX7_nextToken_h0 N) A12 v0) else none)) else (fX7_nextToken_b44 A v0)) else none) else none
def fX7_nextToken (A : k_H) (x0 : Int) : Option (Int × k_H) := fX7_nextToken_h0 k_FU A x0
set_option maxRecDepth 100000 in
theorem okX7_nextToken_b120 (A : k_H) (s0 s1 : Int) (r : Int) (A' : k_H) (h : fX7_nextToken_b120 A s0 s1 = some (r, A')) : k_AW 3 mX7_nextToken 120 [(3, 0), (3, 0)] [(0, s1), (1, s0)] A r A' := by
  unfold fX7_nextToken_b120 at h
  obtain ⟨hc1, h⟩ := k_pk h
  refine k_putf (pc := 120) (t := 0) (fi := 10) dX7_nextToken_120 flX7_32 rfl rfl hc1 rfl ?_
  obtain ⟨A2, eA3, h⟩ := k_pl h
  refine k_hq eA3 ?_
  obtain ⟨rfl, rfl⟩ := k_pr h
  exact k_retv (pc := 123) dX7_nextToken_123 rfl
set_option maxRecDepth 100000 in
theorem okX7_nextToken_b91 (A : k_H) (v0 : Int) (r : Int) (A' : k_H) (h : fX7_nextToken_b91 A v0 = some (r, A')) : k_AW 3 mX7_nextToken 91 [(1, v0), (3, 0)] [] A r A' := by
  unfold fX7_nextToken_b91 at h
  refine k_aload_n (pc := 91) (x := v0) dX7_nextToken_91 rfl rfl ?_
  obtain ⟨hc4, h⟩ := k_pk h
  obtain ⟨r1, A2, hq3, h⟩ := k_pb h
  refine k_callV (pc := 92) (ci := 7) (a := v0) (as := []) (st := []) (st1 := []) dX7_nextToken_92 cbX7_readRun (k_gt 624 (by decide +kernel) (by decide +kernel)) cvX7_readRun.1 cvX7_readRun.2 rfl (by decide) hc4 (by omega) rfl (Nat.le_of_ble_eq_true rfl) (okX7_readRun hq3) rfl ?_
  refine k_goto (pc := 95) (tgt := 123) dX7_nextToken_95 rfl ?_
  obtain ⟨rfl, rfl⟩ := k_pr h
  exact k_retv (pc := 123) dX7_nextToken_123 rfl
set_option maxRecDepth 100000 in
theorem okX7_nextToken_b44 (A : k_H) (v0 : Int) (r : Int) (A' : k_H) (h : fX7_nextToken_b44 A v0 = some (r, A')) : k_AW 3 mX7_nextToken 44 [(1, v0), (3, 0)] [] A r A' := by
  unfold fX7_nextToken_b44 at h
  refine k_aload_n (pc := 44) (x := v0) dX7_nextToken_44 rfl rfl ?_
  refine k_aload_n (pc := 45) (x := v0) dX7_nextToken_45 rfl rfl ?_
  obtain ⟨hc1, h⟩ := k_pk h
  refine k_getf (pc := 46) (t := 0) (fi := 8) dX7_nextToken_46 flX7_65 rfl rfl hc1 ?_
  refine k_putf (pc := 49) (t := 0) (fi := 9) dX7_nextToken_49 flX7_142 rfl rfl hc1 rfl ?_
  obtain ⟨A2, eA3, h⟩ := k_pl h
  refine k_hq eA3 ?_
  refine k_aload_n (pc := 52) (x := v0) dX7_nextToken_52 rfl rfl ?_
  have hf4 := k_oW eA3 hc1
  refine k_getf (pc := 53) (t := 1) (fi := 4) dX7_nextToken_53 flX7_21 rfl rfl hf4 ?_
  refine k_aload_n (pc := 56) (x := v0) dX7_nextToken_56 rfl rfl ?_
  refine k_getf (pc := 57) (t := 0) (fi := 8) dX7_nextToken_57 flX7_65 rfl rfl hf4 ?_
  obtain ⟨hc8, h⟩ := k_pk h
  obtain ⟨r5, A6, hq7, h⟩ := k_pb h
  refine k_callV (pc := 60) (ci := 5) (a := (k_rd A2 v0 4)) (as := [(0, (k_rd A2 v0 8))]) (st := []) (st1 := [(0, r5)]) dX7_nextToken_60 cbX5_byteAt (k_gt 614 (by decide +kernel) (by decide +kernel)) cvX5_byteAt.1 cvX5_byteAt.2 rfl (by decide) hc8 (by omega) rfl (Nat.le_of_ble_eq_true rfl) (okX5_byteAt hq7) rfl ?_
  refine k_istore_n (pc := 63) dX7_nextToken_63 rfl (Nat.le_of_ble_eq_true rfl) rfl ?_
  show k_AW _ _ _ [(1, v0), (0, r5)] _ _ _ _
  refine k_iload_n (pc := 64) (x := r5) dX7_nextToken_64 rfl rfl ?_
  refine k_iconst (pc := 65) dX7_nextToken_65 ⟨by decide, by decide⟩ ?_
  refine k_icmp_ne (pc := 66) (tgt := 77) dX7_nextToken_66 rfl (fun c9 => ?_) (fun c9 => ?_)
  · rw [if_neg c9] at h
    refine k_iload_n (pc := 77) (x := r5) dX7_nextToken_77 rfl rfl ?_
    obtain ⟨r10, A11, hq12, h⟩ := k_pb h
    refine k_callS (pc := 78) (as := [(0, r5)]) (st := []) (st1 := [(0, r10)]) dX7_nextToken_78 cbX7_isLetter (k_gt 618 (by decide +kernel) (by decide +kernel)) (k_gt 619 (by decide +kernel) (by decide +kernel)) (by omega) rfl (Nat.le_of_ble_eq_true rfl) (okX7_isLetter hq12) rfl ?_
    refine k_if_ne (pc := 81) (tgt := 91) dX7_nextToken_81 rfl (fun c13 => ?_) (fun c13 => ?_)
    · rw [if_neg c13] at h
      refine k_sub (ls' := [(1, v0), (3, 0)]) (k_sbl_ok _ _ ⟨Or.inr rfl, Or.inl rfl, trivial⟩) ?_
      exact okX7_nextToken_b91  _ _ _ _ h
    · rw [if_pos (Classical.not_not.mp c13)] at h
      refine k_iload_n (pc := 84) (x := r5) dX7_nextToken_84 rfl rfl ?_
      obtain ⟨r14, A15, hq16, h⟩ := k_pb h
      refine k_callS (pc := 85) (as := [(0, r5)]) (st := []) (st1 := [(0, r14)]) dX7_nextToken_85 cbX7_isDigit (k_gt 621 (by decide +kernel) (by decide +kernel)) (k_gt 622 (by decide +kernel) (by decide +kernel)) (by omega) rfl (Nat.le_of_ble_eq_true rfl) (okX7_isDigit hq16) rfl ?_
      refine k_if_eq (pc := 88) (tgt := 98) dX7_nextToken_88 rfl (fun c17 => ?_) (fun c17 => ?_)
      · rw [if_pos c17] at h
        refine k_aload_n (pc := 98) (x := v0) dX7_nextToken_98 rfl rfl ?_
        refine k_dup (pc := 99) dX7_nextToken_99 (Nat.le_of_ble_eq_true rfl) ?_
        obtain ⟨hc18, h⟩ := k_pk h
        refine k_getf (pc := 100) (t := 0) (fi := 8) dX7_nextToken_100 flX7_65 rfl rfl hc18 ?_
        refine k_iconst (pc := 103) dX7_nextToken_103 ⟨by decide, by decide⟩ ?_
        refine k_iadd (pc := 104) dX7_nextToken_104 ?_
        refine k_putf (pc := 105) (t := 0) (fi := 8) dX7_nextToken_105 flX7_65 rfl rfl hc18 rfl ?_
        obtain ⟨A19, eA20, h⟩ := k_pl h
        refine k_hq eA20 ?_
        refine k_aload_n (pc := 108) (x := v0) dX7_nextToken_108 rfl rfl ?_
        refine k_iload_n (pc := 109) (x := r5) dX7_nextToken_109 rfl rfl ?_
        refine k_bipush (pc := 110) dX7_nextToken_110 ⟨by decide, by decide⟩ (by decide +kernel) ?_
        refine k_icmp_ne (pc := 112) (tgt := 119) dX7_nextToken_112 rfl (fun c21 => ?_) (fun c21 => ?_)
        · rw [if_neg c21] at h
          refine k_iconst (pc := 119) dX7_nextToken_119 ⟨by decide, by decide⟩ ?_
          refine k_sub (ls' := [(3, 0), (3, 0)]) (k_sbl_ok _ _ ⟨Or.inl rfl, Or.inl rfl, trivial⟩) ?_
          exact okX7_nextToken_b120  _ _ _ _ _ h
        · rw [if_pos (Classical.not_not.mp c21)] at h
          refine k_iconst (pc := 115) dX7_nextToken_115 ⟨by decide, by decide⟩ ?_
          refine k_goto (pc := 116) (tgt := 120) dX7_nextToken_116 rfl ?_
          refine k_sub (ls' := [(3, 0), (3, 0)]) (k_sbl_ok _ _ ⟨Or.inl rfl, Or.inl rfl, trivial⟩) ?_
          exact okX7_nextToken_b120  _ _ _ _ _ h
      · rw [if_neg c17] at h
        refine k_sub (ls' := [(1, v0), (3, 0)]) (k_sbl_ok _ _ ⟨Or.inr rfl, Or.inl rfl, trivial⟩) ?_
        exact okX7_nextToken_b91  _ _ _ _ h
  · rw [if_pos (Classical.not_not.mp c9)] at h
    refine k_aload_n (pc := 69) (x := v0) dX7_nextToken_69 rfl rfl ?_
    refine k_iconst (pc := 70) dX7_nextToken_70 ⟨by decide, by decide⟩ ?_
    obtain ⟨hc22, h⟩ := k_pk h
    refine k_putf (pc := 71) (t := 0) (fi := 10) dX7_nextToken_71 flX7_32 rfl rfl hc22 rfl ?_
    obtain ⟨A23, eA24, h⟩ := k_pl h
    refine k_hq eA24 ?_
    refine k_goto (pc := 74) (tgt := 123) dX7_nextToken_74 rfl ?_
    obtain ⟨rfl, rfl⟩ := k_pr h
    exact k_retv (pc := 123) dX7_nextToken_123 rfl
set_option maxRecDepth 100000 in
theorem okX7_nextToken_h0 : ∀ (N : Nat) (A : k_H) (v0 : Int) (r : Int) (A' : k_H), fX7_nextToken_h0 N A v0 = some (r, A') → k_AW 3 mX7_nextToken 0 [(1, v0), (3, 0)] [] A r A' := by
  intro N
  induction N with
  | zero => intro A v0 r A' h; exact absurd h (by simp [fX7_nextToken_h0])
  | succ N ih =>
    intro A v0 r A' h
    rw [fX7_nextToken_h0] at h
    refine k_aload_n (pc := 0) (x := v0) dX7_nextToken_0 rfl rfl ?_
    obtain ⟨hc1, h⟩ := k_pk h
    refine k_getf (pc := 1) (t := 0) (fi := 8) dX7_nextToken_1 flX7_65 rfl rfl hc1 ?_
    refine k_aload_n (pc := 4) (x := v0) dX7_nextToken_4 rfl rfl ?_
    refine k_getf (pc := 5) (t := 1) (fi := 4) dX7_nextToken_5 flX7_21 rfl rfl hc1 ?_
    obtain ⟨hc2, h⟩ := k_pk h
    refine k_getf (pc := 8) (t := 0) (fi := 1) dX7_nextToken_8 flX7_145 rfl rfl hc2 ?_
    refine k_icmp_ge (pc := 11) (tgt := 44) dX7_nextToken_11 rfl (fun c3 => ?_) (fun c3 => ?_)
    · rw [if_neg (Int.not_lt.mpr c3)] at h
      refine k_sub (ls' := [(1, v0), (3, 0)]) (k_sbl_ok _ _ ⟨Or.inr rfl, Or.inl rfl, trivial⟩) ?_
      exact okX7_nextToken_b44  _ _ _ _ h
    · rw [if_pos (Int.not_le.mp c3)] at h
      refine k_aload_n (pc := 14) (x := v0) dX7_nextToken_14 rfl rfl ?_
      refine k_getf (pc := 15) (t := 1) (fi := 4) dX7_nextToken_15 flX7_21 rfl rfl hc1 ?_
      refine k_aload_n (pc := 18) (x := v0) dX7_nextToken_18 rfl rfl ?_
      refine k_getf (pc := 19) (t := 0) (fi := 8) dX7_nextToken_19 flX7_65 rfl rfl hc1 ?_
      obtain ⟨r4, A5, hq6, h⟩ := k_pb h
      refine k_callV (pc := 22) (ci := 5) (a := (k_rd A v0 4)) (as := [(0, (k_rd A v0 8))]) (st := []) (st1 := [(0, r4)]) dX7_nextToken_22 cbX5_byteAt (k_gt 614 (by decide +kernel) (by decide +kernel)) cvX5_byteAt.1 cvX5_byteAt.2 rfl (by decide) hc2 (by omega) rfl (Nat.le_of_ble_eq_true rfl) (okX5_byteAt hq6) rfl ?_
      obtain ⟨r7, A8, hq9, h⟩ := k_pb h
      refine k_callS (pc := 25) (as := [(0, r4)]) (st := []) (st1 := [(0, r7)]) dX7_nextToken_25 cbX7_isBlank (k_gt 615 (by decide +kernel) (by decide +kernel)) (k_gt 616 (by decide +kernel) (by decide +kernel)) (by omega) rfl (Nat.le_of_ble_eq_true rfl) (okX7_isBlank hq9) rfl ?_
      refine k_if_eq (pc := 28) (tgt := 44) dX7_nextToken_28 rfl (fun c10 => ?_) (fun c10 => ?_)
      · rw [if_pos c10] at h
        refine k_sub (ls' := [(1, v0), (3, 0)]) (k_sbl_ok _ _ ⟨Or.inr rfl, Or.inl rfl, trivial⟩) ?_
        exact okX7_nextToken_b44  _ _ _ _ h
      · rw [if_neg c10] at h
        refine k_aload_n (pc := 31) (x := v0) dX7_nextToken_31 rfl rfl ?_
        refine k_dup (pc := 32) dX7_nextToken_32 (Nat.le_of_ble_eq_true rfl) ?_
        obtain ⟨hc11, h⟩ := k_pk h
        refine k_getf (pc := 33) (t := 0) (fi := 8) dX7_nextToken_33 flX7_65 rfl rfl hc11 ?_
        refine k_iconst (pc := 36) dX7_nextToken_36 ⟨by decide, by decide⟩ ?_
        refine k_iadd (pc := 37) dX7_nextToken_37 ?_
        refine k_putf (pc := 38) (t := 0) (fi := 8) dX7_nextToken_38 flX7_65 rfl rfl hc11 rfl ?_
        obtain ⟨A12, eA13, h⟩ := k_pl h
        refine k_hq eA13 ?_
        refine k_goto (pc := 41) (tgt := 0) dX7_nextToken_41 rfl ?_
        refine k_sub (ls' := [(1, v0), (3, 0)]) (k_sbl_ok _ _ ⟨Or.inr rfl, Or.inl rfl, trivial⟩) ?_
        exact ih _ _ _ _ h
theorem okX7_nextToken {A : k_H} {x0 : Int} {r : Int} {A1 : k_H} (h : fX7_nextToken A x0 = some (r, A1)) : k_AM 3 mX7_nextToken [(1, x0)] A r A1 :=
  k_AM_of2 (ls := [(1, x0), (3, 0)]) (Or.inl (by decide +kernel)) (by decide +kernel) (by decide) rfl (Nat.le_of_ble_eq_true rfl) ⟨Or.inr rfl, rfl, trivial⟩ (okX7_nextToken_h0 k_FU A x0 r A1 h)
/-! X8_init -/
def fX8_init_h95 : Nat → k_H → Int → Int → Option (Int × k_H)
  | 0, _, _, _ => none
  | N + 1, A, v0, v1 => if v1 < 6 then (if k_isO A v0 8 then (k_lt (k_mk A 4 10) fun A3 => if 0 ≤ (k_N A : Int) then (k_bd (fX4_init A3 (k_N A : Int)) fun r5 A6 => if k_isA A6 (k_rd A v0 2) 24 v1 then (if k_isO A6 (k_N A : Int) 4 then (k_lt (k_wt A6 (k_rd A v0 2) v1 (k_N A : Int)) fun A11 => (fX8_init_h95 N) A11 v0 (k_wr (v1 + 1))) else none) else none) else none) else none) else (some (0, A))
def fX8_init_h68 : Nat → k_H → Int → Int → Option (Int × k_H)
  | 0, _, _, _ => none
  | N + 1, A, v0, v1 => if v1 < 12 then (if k_isO A v0 8 then (k_lt (k_mk A 1 6) fun A3 => if 0 ≤ (k_N A : Int) then (k_bd (fX1_init A3 (k_N A : Int)) fun r5 A6 => if k_isA A6 (k_rd A v0 1) 23 v1 then (if k_isO A6 (k_N A : Int) 1 then (k_lt (k_wt A6 (k_rd A v0 1) v1 (k_N A : Int)) fun A11 => (fX8_init_h68 N) A11 v0 (k_wr (v1 + 1))) else none) else none) else none) else none) else (fX8_init_h95 k_FU A v0 0)
def fX8_init_b0 (A : k_H) (v0 : Int) : Option (Int × k_H) := if 0 ≤ v0 then (k_lt (k_mk A 5 2) fun A2 => if 0 ≤ (k_N A : Int) then (k_bd (fX5_init A2 (k_N A : Int)) fun r4 A5 => if k_isO A5 v0 8 then (k_lt (k_wt A5 v0 0 (k_N A : Int)) fun A9 => k_lt (k_mk A9 23 12) fun A11 => if k_isO A11 v0 8 then (k_lt (k_wt A11 v0 1 (k_N A9 : Int)) fun A14 => k_lt (k_mk A14 24 6) fun A16 => if k_isO A16 v0 8 then (k_lt (k_wt A16 v0 2 (k_N A14 : Int)) fun A19 => k_lt (k_mk A19 3 9) fun A21 => if 0 ≤ (k_N A19 : Int) then (k_bd (fX3_init A21 (k_N A19 : Int)) fun r23 A24 => if k_isO A24 v0 8 then (k_lt (k_wt A24 v0 3 (k_N A19 : Int)) fun A28 => k_lt (k_mk A28 2 10) fun A30 => if 0 ≤ (k_N A28 : Int) then (k_bd (fX2_init A30 (k_N A28 : Int)) fun r32 A33 => if k_isO A33 v0 8 then (k_lt (k_wt A33 v0 4 (k_N A28 : Int)) fun A37 => k_lt (k_mk A37 7 12) fun A39 => if 0 ≤ (k_N A37 : Int) then (k_bd (fX7_init A39 (k_N A37 : Int)) fun r41 A42 => if k_isO A42 v0 8 then (k_lt (k_wt A42 v0 5 (k_N A37 : Int)) fun A46 => fX8_init_h68 k_FU A46 v0 0) else none) else none) else none) else none) else none) else none) else none) else none) else none) else none) else none
def fX8_init (A : k_H) (x0 : Int) : Option (Int × k_H) := fX8_init_b0 A x0
set_option maxRecDepth 100000 in
theorem okX8_init_h95 : ∀ (N : Nat) (A : k_H) (v0 v1 : Int) (r : Int) (A' : k_H), fX8_init_h95 N A v0 v1 = some (r, A') → k_AW 4 mX8_init 95 [(1, v0), (0, v1)] [] A r A' := by
  intro N
  induction N with
  | zero => intro A v0 v1 r A' h; exact absurd h (by simp [fX8_init_h95])
  | succ N ih =>
    intro A v0 v1 r A' h
    rw [fX8_init_h95] at h
    refine k_iload_n (pc := 95) (x := v1) dX8_init_95 rfl rfl ?_
    refine k_bipush (pc := 96) dX8_init_96 ⟨by decide, by decide⟩ (by decide +kernel) ?_
    refine k_icmp_ge (pc := 98) (tgt := 120) dX8_init_98 rfl (fun c1 => ?_) (fun c1 => ?_)
    · rw [if_neg (Int.not_lt.mpr c1)] at h
      obtain ⟨rfl, rfl⟩ := k_pr h
      exact k_retv (pc := 120) dX8_init_120 rfl
    · rw [if_pos (Int.not_le.mp c1)] at h
      refine k_aload_n (pc := 101) (x := v0) dX8_init_101 rfl rfl ?_
      obtain ⟨hc2, h⟩ := k_pk h
      refine k_getf (pc := 102) (t := 1) (fi := 2) dX8_init_102 flX8_24 rfl rfl hc2 ?_
      refine k_iload_n (pc := 105) (x := v1) dX8_init_105 rfl rfl ?_
      refine k_new (pc := 106) (ci := 4) (n := 10) dX8_init_106 ncX8_22 rfl ?_
      obtain ⟨A3, eA4, h⟩ := k_pl h
      refine k_hq eA4 ?_
      refine k_dup (pc := 109) dX8_init_109 (Nat.le_of_ble_eq_true rfl) ?_
      obtain ⟨hc8, h⟩ := k_pk h
      obtain ⟨r5, A6, hq7, h⟩ := k_pb h
      refine k_callI (pc := 110) (a := (k_N A : Int)) (as := []) (st := [(1, (k_N A : Int)), (0, v1), (1, (k_rd A v0 2))]) (st1 := [(1, (k_N A : Int)), (0, v1), (1, (k_rd A v0 2))]) dX8_init_110 cbX4_init (k_gt 258 (by decide +kernel) (by decide +kernel)) (k_gt 259 (by decide +kernel) (by decide +kernel)) rfl rfl hc8 (by omega) rfl (Nat.le_of_ble_eq_true rfl) (okX4_init hq7) rfl ?_
      obtain ⟨hc9, h⟩ := k_pk h
      obtain ⟨hc10, h⟩ := k_pk h
      refine k_aastore (pc := 113) (K := 24) (ci := 4) dX8_init_113 (by decide) hc9 hc10 ?_
      obtain ⟨A11, eA12, h⟩ := k_pl h
      refine k_hq eA12 ?_
      refine k_iinc (pc := 114) (x := v1) dX8_init_114 (Nat.le_of_ble_eq_true rfl) rfl rfl ?_
      show k_AW _ _ _ [(1, v0), (0, k_wr (v1 + 1))] _ _ _ _
      refine k_goto (pc := 117) (tgt := 95) dX8_init_117 rfl ?_
      refine k_sub (ls' := [(1, v0), (0, k_wr (v1 + 1))]) (k_sbl_ok _ _ ⟨Or.inr rfl, Or.inr rfl, trivial⟩) ?_
      exact ih _ _ _ _ _ h
set_option maxRecDepth 100000 in
theorem okX8_init_h68 : ∀ (N : Nat) (A : k_H) (v0 v1 : Int) (r : Int) (A' : k_H), fX8_init_h68 N A v0 v1 = some (r, A') → k_AW 4 mX8_init 68 [(1, v0), (0, v1)] [] A r A' := by
  intro N
  induction N with
  | zero => intro A v0 v1 r A' h; exact absurd h (by simp [fX8_init_h68])
  | succ N ih =>
    intro A v0 v1 r A' h
    rw [fX8_init_h68] at h
    refine k_iload_n (pc := 68) (x := v1) dX8_init_68 rfl rfl ?_
    refine k_bipush (pc := 69) dX8_init_69 ⟨by decide, by decide⟩ (by decide +kernel) ?_
    refine k_icmp_ge (pc := 71) (tgt := 93) dX8_init_71 rfl (fun c1 => ?_) (fun c1 => ?_)
    · rw [if_neg (Int.not_lt.mpr c1)] at h
      refine k_iconst (pc := 93) dX8_init_93 ⟨by decide, by decide⟩ ?_
      refine k_istore_n (pc := 94) dX8_init_94 rfl (Nat.le_of_ble_eq_true rfl) rfl ?_
      show k_AW _ _ _ [(1, v0), (0, 0)] _ _ _ _
      refine k_sub (ls' := [(1, v0), (0, 0)]) (k_sbl_ok _ _ ⟨Or.inr rfl, Or.inr rfl, trivial⟩) ?_
      exact okX8_init_h95  _ _ _ _ _ _ h
    · rw [if_pos (Int.not_le.mp c1)] at h
      refine k_aload_n (pc := 74) (x := v0) dX8_init_74 rfl rfl ?_
      obtain ⟨hc2, h⟩ := k_pk h
      refine k_getf (pc := 75) (t := 1) (fi := 1) dX8_init_75 flX8_18 rfl rfl hc2 ?_
      refine k_iload_n (pc := 78) (x := v1) dX8_init_78 rfl rfl ?_
      refine k_new (pc := 79) (ci := 1) (n := 6) dX8_init_79 ncX8_16 rfl ?_
      obtain ⟨A3, eA4, h⟩ := k_pl h
      refine k_hq eA4 ?_
      refine k_dup (pc := 82) dX8_init_82 (Nat.le_of_ble_eq_true rfl) ?_
      obtain ⟨hc8, h⟩ := k_pk h
      obtain ⟨r5, A6, hq7, h⟩ := k_pb h
      refine k_callIN (pc := 83) (a := (k_N A : Int)) (host := "VanPlays") (as := []) (st := [(1, (k_N A : Int)), (0, v1), (1, (k_rd A v0 1))]) (st1 := [(1, (k_N A : Int)), (0, v1), (1, (k_rd A v0 1))]) dX8_init_83 cbX1_init (by decide +kernel) (k_gt 210 (by decide +kernel) (by decide +kernel)) rfl rfl hc8 (by omega) rfl (Nat.le_of_ble_eq_true rfl) (okX1_init hq7) rfl ?_
      obtain ⟨hc9, h⟩ := k_pk h
      obtain ⟨hc10, h⟩ := k_pk h
      refine k_aastore (pc := 86) (K := 23) (ci := 1) dX8_init_86 (by decide) hc9 hc10 ?_
      obtain ⟨A11, eA12, h⟩ := k_pl h
      refine k_hq eA12 ?_
      refine k_iinc (pc := 87) (x := v1) dX8_init_87 (Nat.le_of_ble_eq_true rfl) rfl rfl ?_
      show k_AW _ _ _ [(1, v0), (0, k_wr (v1 + 1))] _ _ _ _
      refine k_goto (pc := 90) (tgt := 68) dX8_init_90 rfl ?_
      refine k_sub (ls' := [(1, v0), (0, k_wr (v1 + 1))]) (k_sbl_ok _ _ ⟨Or.inr rfl, Or.inr rfl, trivial⟩) ?_
      exact ih _ _ _ _ _ h
set_option maxRecDepth 100000 in
theorem okX8_init_b0 (A : k_H) (v0 : Int) (r : Int) (A' : k_H) (h : fX8_init_b0 A v0 = some (r, A')) : k_AW 4 mX8_init 0 [(1, v0), (3, 0)] [] A r A' := by
  unfold fX8_init_b0 at h
  refine k_aload_n (pc := 0) (x := v0) dX8_init_0 rfl rfl ?_
  obtain ⟨hc1, h⟩ := k_pk h
  refine k_objInit (pc := 1) dX8_init_1 (k_gt 28 (by decide +kernel) (by decide +kernel)) (by omega) hc1 (Nat.le_of_ble_eq_true rfl) ?_
  refine k_aload_n (pc := 4) (x := v0) dX8_init_4 rfl rfl ?_
  refine k_new (pc := 5) (ci := 5) (n := 2) dX8_init_5 ncX8_7 rfl ?_
  obtain ⟨A2, eA3, h⟩ := k_pl h
  refine k_hq eA3 ?_
  refine k_dup (pc := 8) dX8_init_8 (Nat.le_of_ble_eq_true rfl) ?_
  obtain ⟨hc7, h⟩ := k_pk h
  obtain ⟨r4, A5, hq6, h⟩ := k_pb h
  refine k_callIN (pc := 9) (a := (k_N A : Int)) (host := "VanPlays") (as := []) (st := [(1, (k_N A : Int)), (1, v0)]) (st1 := [(1, (k_N A : Int)), (1, v0)]) dX8_init_9 cbX5_init (by decide +kernel) (k_gt 34 (by decide +kernel) (by decide +kernel)) rfl rfl hc7 (by omega) rfl (Nat.le_of_ble_eq_true rfl) (okX5_init hq6) rfl ?_
  obtain ⟨hc8, h⟩ := k_pk h
  refine k_putF (pc := 12) (t := 1) (fi := 0) dX8_init_12 flX8_10 rfl (fun Cn Tt Nn h9 => by cases h9; rfl) rfl rfl hc8 rfl ?_
  obtain ⟨A9, eA10, h⟩ := k_pl h
  refine k_hq eA10 ?_
  refine k_aload_n (pc := 15) (x := v0) dX8_init_15 rfl rfl ?_
  refine k_bipush (pc := 16) dX8_init_16 ⟨by decide, by decide⟩ (by decide +kernel) ?_
  refine k_anewa (pc := 18) (K := 23) (t0 := 3) (n := 12) dX8_init_18 (by first | exact Or.inl ⟨rfl, rfl, rfl⟩ | exact Or.inr ⟨rfl, rfl, rfl⟩) (k_gt 48 (by decide +kernel) (by decide +kernel)) rfl (by decide) ?_
  obtain ⟨A11, eA12, h⟩ := k_pl h
  refine k_hq eA12 ?_
  obtain ⟨hc13, h⟩ := k_pk h
  refine k_putF (pc := 21) (t := 1) (fi := 1) dX8_init_21 flX8_18 rfl (fun Cn Tt Nn h9 => by cases h9; rfl) rfl rfl hc13 rfl ?_
  obtain ⟨A14, eA15, h⟩ := k_pl h
  refine k_hq eA15 ?_
  refine k_aload_n (pc := 24) (x := v0) dX8_init_24 rfl rfl ?_
  refine k_bipush (pc := 25) dX8_init_25 ⟨by decide, by decide⟩ (by decide +kernel) ?_
  refine k_anewa (pc := 27) (K := 24) (t0 := 4) (n := 6) dX8_init_27 (by first | exact Or.inl ⟨rfl, rfl, rfl⟩ | exact Or.inr ⟨rfl, rfl, rfl⟩) (k_gt 50 (by decide +kernel) (by decide +kernel)) rfl (by decide) ?_
  obtain ⟨A16, eA17, h⟩ := k_pl h
  refine k_hq eA17 ?_
  obtain ⟨hc18, h⟩ := k_pk h
  refine k_putF (pc := 30) (t := 1) (fi := 2) dX8_init_30 flX8_24 rfl (fun Cn Tt Nn h9 => by cases h9; rfl) rfl rfl hc18 rfl ?_
  obtain ⟨A19, eA20, h⟩ := k_pl h
  refine k_hq eA20 ?_
  refine k_aload_n (pc := 33) (x := v0) dX8_init_33 rfl rfl ?_
  refine k_new (pc := 34) (ci := 3) (n := 9) dX8_init_34 ncX8_28 rfl ?_
  obtain ⟨A21, eA22, h⟩ := k_pl h
  refine k_hq eA22 ?_
  refine k_dup (pc := 37) dX8_init_37 (Nat.le_of_ble_eq_true rfl) ?_
  obtain ⟨hc26, h⟩ := k_pk h
  obtain ⟨r23, A24, hq25, h⟩ := k_pb h
  refine k_callIN (pc := 38) (a := (k_N A19 : Int)) (host := "VanPlays") (as := []) (st := [(1, (k_N A19 : Int)), (1, v0)]) (st1 := [(1, (k_N A19 : Int)), (1, v0)]) dX8_init_38 cbX3_init (by decide +kernel) (k_gt 55 (by decide +kernel) (by decide +kernel)) rfl rfl hc26 (by omega) rfl (Nat.le_of_ble_eq_true rfl) (okX3_init hq25) rfl ?_
  obtain ⟨hc27, h⟩ := k_pk h
  refine k_putF (pc := 41) (t := 1) (fi := 3) dX8_init_41 flX8_31 rfl (fun Cn Tt Nn h9 => by cases h9; rfl) rfl rfl hc27 rfl ?_
  obtain ⟨A28, eA29, h⟩ := k_pl h
  refine k_hq eA29 ?_
  refine k_aload_n (pc := 44) (x := v0) dX8_init_44 rfl rfl ?_
  refine k_new (pc := 45) (ci := 2) (n := 10) dX8_init_45 ncX8_35 rfl ?_
  obtain ⟨A30, eA31, h⟩ := k_pl h
  refine k_hq eA31 ?_
  refine k_dup (pc := 48) dX8_init_48 (Nat.le_of_ble_eq_true rfl) ?_
  obtain ⟨hc35, h⟩ := k_pk h
  obtain ⟨r32, A33, hq34, h⟩ := k_pb h
  refine k_callIN (pc := 49) (a := (k_N A28 : Int)) (host := "VanPlays") (as := []) (st := [(1, (k_N A28 : Int)), (1, v0)]) (st1 := [(1, (k_N A28 : Int)), (1, v0)]) dX8_init_49 cbX2_init (by decide +kernel) (k_gt 89 (by decide +kernel) (by decide +kernel)) rfl rfl hc35 (by omega) rfl (Nat.le_of_ble_eq_true rfl) (okX2_init hq34) rfl ?_
  obtain ⟨hc36, h⟩ := k_pk h
  refine k_putF (pc := 52) (t := 1) (fi := 4) dX8_init_52 flX8_38 rfl (fun Cn Tt Nn h9 => by cases h9; rfl) rfl rfl hc36 rfl ?_
  obtain ⟨A37, eA38, h⟩ := k_pl h
  refine k_hq eA38 ?_
  refine k_aload_n (pc := 55) (x := v0) dX8_init_55 rfl rfl ?_
  refine k_new (pc := 56) (ci := 7) (n := 12) dX8_init_56 ncX8_42 rfl ?_
  obtain ⟨A39, eA40, h⟩ := k_pl h
  refine k_hq eA40 ?_
  refine k_dup (pc := 59) dX8_init_59 (Nat.le_of_ble_eq_true rfl) ?_
  obtain ⟨hc44, h⟩ := k_pk h
  obtain ⟨r41, A42, hq43, h⟩ := k_pb h
  refine k_callIN (pc := 60) (a := (k_N A37 : Int)) (host := "VanPlays") (as := []) (st := [(1, (k_N A37 : Int)), (1, v0)]) (st1 := [(1, (k_N A37 : Int)), (1, v0)]) dX8_init_60 cbX7_init (by decide +kernel) (k_gt 127 (by decide +kernel) (by decide +kernel)) rfl rfl hc44 (by omega) rfl (Nat.le_of_ble_eq_true rfl) (okX7_init hq43) rfl ?_
  obtain ⟨hc45, h⟩ := k_pk h
  refine k_putF (pc := 63) (t := 1) (fi := 5) dX8_init_63 flX8_45 rfl (fun Cn Tt Nn h9 => by cases h9; rfl) rfl rfl hc45 rfl ?_
  obtain ⟨A46, eA47, h⟩ := k_pl h
  refine k_hq eA47 ?_
  refine k_iconst (pc := 66) dX8_init_66 ⟨by decide, by decide⟩ ?_
  refine k_istore_n (pc := 67) dX8_init_67 rfl (Nat.le_of_ble_eq_true rfl) rfl ?_
  show k_AW _ _ _ [(1, v0), (0, 0)] _ _ _ _
  refine k_sub (ls' := [(1, v0), (0, 0)]) (k_sbl_ok _ _ ⟨Or.inr rfl, Or.inr rfl, trivial⟩) ?_
  exact okX8_init_h68  _ _ _ _ _ _ h
theorem okX8_init {A : k_H} {x0 : Int} {r : Int} {A1 : k_H} (h : fX8_init A x0 = some (r, A1)) : k_AM 4 mX8_init [(1, x0)] A r A1 :=
  k_AM_of2 (ls := [(1, x0), (3, 0)]) (Or.inl (by decide +kernel)) (by decide +kernel) (by decide) rfl (Nat.le_of_ble_eq_true rfl) ⟨Or.inr rfl, rfl, trivial⟩ (okX8_init_b0 A x0 r A1 h)
/-! X8_on -/
def fX8_on_b0 (A : k_H) (v0 v1 v2 : Int) : Option (Int × k_H) := if k_isO A v0 8 then (k_bd (fX8_isShow A v0 v1) fun r1 A2 => if r1 = 0 then (some ((-1), A2)) else (k_bd (fX8_isNight A2 v2) fun r6 A7 => if r6 = 0 then (some ((-1), A7)) else (if k_isO A7 v0 8 then (if k_isA A7 (k_rd A7 v0 2) 24 v1 then (if k_isO A7 (k_rd A7 (k_rd A7 v0 2) v1) 4 then (if k_isA A7 (k_rd A7 (k_rd A7 (k_rd A7 v0 2) v1) 1) 21 v2 then (some ((k_rd A7 (k_rd A7 (k_rd A7 (k_rd A7 v0 2) v1) 1) v2), A7)) else none) else none) else none) else none))) else none
def fX8_on (A : k_H) (x0 x1 x2 : Int) : Option (Int × k_H) := fX8_on_b0 A x0 x1 x2
set_option maxRecDepth 100000 in
theorem okX8_on_b0 (A : k_H) (v0 v1 v2 : Int) (r : Int) (A' : k_H) (h : fX8_on_b0 A v0 v1 v2 = some (r, A')) : k_AW 3 mX8_on 0 [(1, v0), (0, v1), (0, v2)] [] A r A' := by
  unfold fX8_on_b0 at h
  refine k_aload_n (pc := 0) (x := v0) dX8_on_0 rfl rfl ?_
  refine k_iload_n (pc := 1) (x := v1) dX8_on_1 rfl rfl ?_
  obtain ⟨hc4, h⟩ := k_pk h
  obtain ⟨r1, A2, hq3, h⟩ := k_pb h
  refine k_callV (pc := 2) (ci := 8) (a := v0) (as := [(0, v1)]) (st := []) (st1 := [(0, r1)]) dX8_on_2 cbX8_isShow (k_gt 412 (by decide +kernel) (by decide +kernel)) cvX8_isShow.1 cvX8_isShow.2 rfl (by decide) hc4 (by omega) rfl (Nat.le_of_ble_eq_true rfl) (okX8_isShow hq3) rfl ?_
  refine k_if_eq (pc := 5) (tgt := 15) dX8_on_5 rfl (fun c5 => ?_) (fun c5 => ?_)
  · rw [if_pos c5] at h
    refine k_iconst (pc := 15) dX8_on_15 ⟨by decide, by decide⟩ ?_
    obtain ⟨rfl, rfl⟩ := k_pr h
    exact k_ret (pc := 16) dX8_on_16 rfl rfl rfl
  · rw [if_neg c5] at h
    refine k_iload_n (pc := 8) (x := v2) dX8_on_8 rfl rfl ?_
    obtain ⟨r6, A7, hq8, h⟩ := k_pb h
    refine k_callS (pc := 9) (as := [(0, v2)]) (st := []) (st1 := [(0, r6)]) dX8_on_9 cbX8_isNight (k_gt 388 (by decide +kernel) (by decide +kernel)) (k_gt 389 (by decide +kernel) (by decide +kernel)) (by omega) rfl (Nat.le_of_ble_eq_true rfl) (okX8_isNight hq8) rfl ?_
    refine k_if_ne (pc := 12) (tgt := 17) dX8_on_12 rfl (fun c9 => ?_) (fun c9 => ?_)
    · rw [if_neg c9] at h
      refine k_aload_n (pc := 17) (x := v0) dX8_on_17 rfl rfl ?_
      obtain ⟨hc10, h⟩ := k_pk h
      refine k_getf (pc := 18) (t := 1) (fi := 2) dX8_on_18 flX8_24 rfl rfl hc10 ?_
      refine k_iload_n (pc := 21) (x := v1) dX8_on_21 rfl rfl ?_
      obtain ⟨hc11, h⟩ := k_pk h
      refine k_aaload (pc := 22) (K := 24) dX8_on_22 (by decide) hc11 ?_
      obtain ⟨hc12, h⟩ := k_pk h
      refine k_getf (pc := 23) (t := 1) (fi := 1) dX8_on_23 flX8_163 rfl rfl hc12 ?_
      refine k_iload_n (pc := 26) (x := v2) dX8_on_26 rfl rfl ?_
      obtain ⟨hc13, h⟩ := k_pk h
      refine k_iaload (pc := 27) dX8_on_27 hc13 ?_
      obtain ⟨rfl, rfl⟩ := k_pr h
      exact k_ret (pc := 28) dX8_on_28 rfl rfl rfl
    · rw [if_pos (Classical.not_not.mp c9)] at h
      refine k_iconst (pc := 15) dX8_on_15 ⟨by decide, by decide⟩ ?_
      obtain ⟨rfl, rfl⟩ := k_pr h
      exact k_ret (pc := 16) dX8_on_16 rfl rfl rfl
theorem okX8_on {A : k_H} {x0 x1 x2 : Int} {r : Int} {A1 : k_H} (h : fX8_on A x0 x1 x2 = some (r, A1)) : k_AM 3 mX8_on [(1, x0), (0, x1), (0, x2)] A r A1 :=
  k_AM_of2 (ls := [(1, x0), (0, x1), (0, x2)]) (Or.inl (by decide +kernel)) (by decide +kernel) (by decide) rfl (Nat.le_of_ble_eq_true rfl) ⟨Or.inr rfl, Or.inr rfl, Or.inr rfl, trivial⟩ (okX8_on_b0 A x0 x1 x2 r A1 h)
/-! X8_worth -/
def fX8_worth_b0 (A : k_H) (v0 v1 : Int) : Option (Int × k_H) := if k_isO A v0 8 then (k_bd (fX8_isShow A v0 v1) fun r1 A2 => if r1 = 0 then (some ((-1), A2)) else (if k_isO A2 v0 8 then (k_bd (fX8_worthOfTour A2 v0 v1) fun r6 A7 => some (r6, A7)) else none)) else none
def fX8_worth (A : k_H) (x0 x1 : Int) : Option (Int × k_H) := fX8_worth_b0 A x0 x1
set_option maxRecDepth 100000 in
theorem okX8_worth_b0 (A : k_H) (v0 v1 : Int) (r : Int) (A' : k_H) (h : fX8_worth_b0 A v0 v1 = some (r, A')) : k_AW 3 mX8_worth 0 [(1, v0), (0, v1)] [] A r A' := by
  unfold fX8_worth_b0 at h
  refine k_aload_n (pc := 0) (x := v0) dX8_worth_0 rfl rfl ?_
  refine k_iload_n (pc := 1) (x := v1) dX8_worth_1 rfl rfl ?_
  obtain ⟨hc4, h⟩ := k_pk h
  obtain ⟨r1, A2, hq3, h⟩ := k_pb h
  refine k_callV (pc := 2) (ci := 8) (a := v0) (as := [(0, v1)]) (st := []) (st1 := [(0, r1)]) dX8_worth_2 cbX8_isShow (k_gt 412 (by decide +kernel) (by decide +kernel)) cvX8_isShow.1 cvX8_isShow.2 rfl (by decide) hc4 (by omega) rfl (Nat.le_of_ble_eq_true rfl) (okX8_isShow hq3) rfl ?_
  refine k_if_eq (pc := 5) (tgt := 16) dX8_worth_5 rfl (fun c5 => ?_) (fun c5 => ?_)
  · rw [if_pos c5] at h
    refine k_iconst (pc := 16) dX8_worth_16 ⟨by decide, by decide⟩ ?_
    obtain ⟨rfl, rfl⟩ := k_pr h
    exact k_ret (pc := 17) dX8_worth_17 rfl rfl rfl
  · rw [if_neg c5] at h
    refine k_aload_n (pc := 8) (x := v0) dX8_worth_8 rfl rfl ?_
    refine k_iload_n (pc := 9) (x := v1) dX8_worth_9 rfl rfl ?_
    obtain ⟨hc9, h⟩ := k_pk h
    obtain ⟨r6, A7, hq8, h⟩ := k_pb h
    refine k_callV (pc := 10) (ci := 8) (a := v0) (as := [(0, v1)]) (st := []) (st1 := [(0, r6)]) dX8_worth_10 cbX8_worthOfTour (k_gt 564 (by decide +kernel) (by decide +kernel)) cvX8_worthOfTour.1 cvX8_worthOfTour.2 rfl (by decide) hc9 (by omega) rfl (Nat.le_of_ble_eq_true rfl) (okX8_worthOfTour hq8) rfl ?_
    refine k_goto (pc := 13) (tgt := 17) dX8_worth_13 rfl ?_
    obtain ⟨rfl, rfl⟩ := k_pr h
    exact k_ret (pc := 17) dX8_worth_17 rfl rfl rfl
theorem okX8_worth {A : k_H} {x0 x1 : Int} {r : Int} {A1 : k_H} (h : fX8_worth A x0 x1 = some (r, A1)) : k_AM 3 mX8_worth [(1, x0), (0, x1)] A r A1 :=
  k_AM_of2 (ls := [(1, x0), (0, x1)]) (Or.inl (by decide +kernel)) (by decide +kernel) (by decide) rfl (Nat.le_of_ble_eq_true rfl) ⟨Or.inr rfl, Or.inr rfl, trivial⟩ (okX8_worth_b0 A x0 x1 r A1 h)
/-! X8_door -/
def fX8_door_b0 (A : k_H) (v0 v1 v2 v3 : Int) : Option (Int × k_H) := if k_isO A v0 8 then (k_bd (fX8_isShow A v0 v1) fun r1 A2 => if r1 = 0 then (some (0, A2)) else (k_bd (fX8_isNight A2 v2) fun r6 A7 => if r6 = 0 then (some (0, A7)) else (k_bd (fX8_isWithin A7 v3 0 1000000) fun r10 A11 => if r10 = 0 then (some (0, A11)) else (if k_isO A11 v0 8 then (if k_isA A11 (k_rd A11 v0 2) 24 v1 then (if k_isO A11 (k_rd A11 (k_rd A11 v0 2) v1) 4 then (if k_isA A11 (k_rd A11 (k_rd A11 (k_rd A11 v0 2) v1) 1) 21 v2 then (if (k_rd A11 (k_rd A11 (k_rd A11 (k_rd A11 v0 2) v1) 1) v2) = (-1) then (some (0, A11)) else (if k_isA A11 (k_rd A11 (k_rd A11 (k_rd A11 v0 2) v1) 2) 21 v2 then (k_lt (k_wt A11 (k_rd A11 (k_rd A11 (k_rd A11 v0 2) v1) 2) v2 v3) fun A20 => some (1, A20)) else none)) else none) else none) else none) else none)))) else none
def fX8_door (A : k_H) (x0 x1 x2 x3 : Int) : Option (Int × k_H) := fX8_door_b0 A x0 x1 x2 x3
set_option maxRecDepth 100000 in
theorem okX8_door_b0 (A : k_H) (v0 v1 v2 v3 : Int) (r : Int) (A' : k_H) (h : fX8_door_b0 A v0 v1 v2 v3 = some (r, A')) : k_AW 3 mX8_door 0 [(1, v0), (0, v1), (0, v2), (0, v3)] [] A r A' := by
  unfold fX8_door_b0 at h
  refine k_aload_n (pc := 0) (x := v0) dX8_door_0 rfl rfl ?_
  refine k_iload_n (pc := 1) (x := v1) dX8_door_1 rfl rfl ?_
  obtain ⟨hc4, h⟩ := k_pk h
  obtain ⟨r1, A2, hq3, h⟩ := k_pb h
  refine k_callV (pc := 2) (ci := 8) (a := v0) (as := [(0, v1)]) (st := []) (st1 := [(0, r1)]) dX8_door_2 cbX8_isShow (k_gt 412 (by decide +kernel) (by decide +kernel)) cvX8_isShow.1 cvX8_isShow.2 rfl (by decide) hc4 (by omega) rfl (Nat.le_of_ble_eq_true rfl) (okX8_isShow hq3) rfl ?_
  refine k_if_eq (pc := 5) (tgt := 25) dX8_door_5 rfl (fun c5 => ?_) (fun c5 => ?_)
  · rw [if_pos c5] at h
    refine k_iconst (pc := 25) dX8_door_25 ⟨by decide, by decide⟩ ?_
    obtain ⟨rfl, rfl⟩ := k_pr h
    exact k_ret (pc := 26) dX8_door_26 rfl rfl (by decide +kernel)
  · rw [if_neg c5] at h
    refine k_iload_n (pc := 8) (x := v2) dX8_door_8 rfl rfl ?_
    obtain ⟨r6, A7, hq8, h⟩ := k_pb h
    refine k_callS (pc := 9) (as := [(0, v2)]) (st := []) (st1 := [(0, r6)]) dX8_door_9 cbX8_isNight (k_gt 388 (by decide +kernel) (by decide +kernel)) (k_gt 389 (by decide +kernel) (by decide +kernel)) (by omega) rfl (Nat.le_of_ble_eq_true rfl) (okX8_isNight hq8) rfl ?_
    refine k_if_eq (pc := 12) (tgt := 25) dX8_door_12 rfl (fun c9 => ?_) (fun c9 => ?_)
    · rw [if_pos c9] at h
      refine k_iconst (pc := 25) dX8_door_25 ⟨by decide, by decide⟩ ?_
      obtain ⟨rfl, rfl⟩ := k_pr h
      exact k_ret (pc := 26) dX8_door_26 rfl rfl (by decide +kernel)
    · rw [if_neg c9] at h
      refine k_iload_n (pc := 15) (x := v3) dX8_door_15 rfl rfl ?_
      refine k_iconst (pc := 16) dX8_door_16 ⟨by decide, by decide⟩ ?_
      refine k_ldci (pc := 17) (n := 1000000) dX8_door_17 (k_gt 744 (by decide +kernel) (by decide +kernel)) ⟨by decide, by decide⟩ ?_
      obtain ⟨r10, A11, hq12, h⟩ := k_pb h
      refine k_callS (pc := 19) (as := [(0, v3), (0, 0), (0, 1000000)]) (st := []) (st1 := [(0, r10)]) dX8_door_19 cbX8_isWithin (k_gt 355 (by decide +kernel) (by decide +kernel)) (k_gt 356 (by decide +kernel) (by decide +kernel)) (by omega) rfl (Nat.le_of_ble_eq_true rfl) (okX8_isWithin hq12) rfl ?_
      refine k_if_ne (pc := 22) (tgt := 27) dX8_door_22 rfl (fun c13 => ?_) (fun c13 => ?_)
      · rw [if_neg c13] at h
        refine k_aload_n (pc := 27) (x := v0) dX8_door_27 rfl rfl ?_
        obtain ⟨hc14, h⟩ := k_pk h
        refine k_getf (pc := 28) (t := 1) (fi := 2) dX8_door_28 flX8_24 rfl rfl hc14 ?_
        refine k_iload_n (pc := 31) (x := v1) dX8_door_31 rfl rfl ?_
        obtain ⟨hc15, h⟩ := k_pk h
        refine k_aaload (pc := 32) (K := 24) dX8_door_32 (by decide) hc15 ?_
        obtain ⟨hc16, h⟩ := k_pk h
        refine k_getf (pc := 33) (t := 1) (fi := 1) dX8_door_33 flX8_163 rfl rfl hc16 ?_
        refine k_iload_n (pc := 36) (x := v2) dX8_door_36 rfl rfl ?_
        obtain ⟨hc17, h⟩ := k_pk h
        refine k_iaload (pc := 37) dX8_door_37 hc17 ?_
        refine k_iconst (pc := 38) dX8_door_38 ⟨by decide, by decide⟩ ?_
        refine k_icmp_ne (pc := 39) (tgt := 44) dX8_door_39 rfl (fun c18 => ?_) (fun c18 => ?_)
        · rw [if_neg c18] at h
          refine k_aload_n (pc := 44) (x := v0) dX8_door_44 rfl rfl ?_
          refine k_getf (pc := 45) (t := 1) (fi := 2) dX8_door_45 flX8_24 rfl rfl hc14 ?_
          refine k_iload_n (pc := 48) (x := v1) dX8_door_48 rfl rfl ?_
          refine k_aaload (pc := 49) (K := 24) dX8_door_49 (by decide) hc15 ?_
          refine k_getf (pc := 50) (t := 1) (fi := 2) dX8_door_50 flX8_170 rfl rfl hc16 ?_
          refine k_iload_n (pc := 53) (x := v2) dX8_door_53 rfl rfl ?_
          refine k_iload_n (pc := 54) (x := v3) dX8_door_54 rfl rfl ?_
          obtain ⟨hc19, h⟩ := k_pk h
          refine k_iastore (pc := 55) dX8_door_55 hc19 ?_
          obtain ⟨A20, eA21, h⟩ := k_pl h
          refine k_hq eA21 ?_
          refine k_iconst (pc := 56) dX8_door_56 ⟨by decide, by decide⟩ ?_
          obtain ⟨rfl, rfl⟩ := k_pr h
          exact k_ret (pc := 57) dX8_door_57 rfl rfl (by decide +kernel)
        · rw [if_pos (Classical.not_not.mp c18)] at h
          refine k_iconst (pc := 42) dX8_door_42 ⟨by decide, by decide⟩ ?_
          obtain ⟨rfl, rfl⟩ := k_pr h
          exact k_ret (pc := 43) dX8_door_43 rfl rfl (by decide +kernel)
      · rw [if_pos (Classical.not_not.mp c13)] at h
        refine k_iconst (pc := 25) dX8_door_25 ⟨by decide, by decide⟩ ?_
        obtain ⟨rfl, rfl⟩ := k_pr h
        exact k_ret (pc := 26) dX8_door_26 rfl rfl (by decide +kernel)
theorem okX8_door {A : k_H} {x0 x1 x2 x3 : Int} {r : Int} {A1 : k_H} (h : fX8_door A x0 x1 x2 x3 = some (r, A1)) : k_AM 3 mX8_door [(1, x0), (0, x1), (0, x2), (0, x3)] A r A1 :=
  k_AM_of2 (ls := [(1, x0), (0, x1), (0, x2), (0, x3)]) (Or.inl (by decide +kernel)) (by decide +kernel) (by decide) rfl (Nat.le_of_ble_eq_true rfl) ⟨Or.inr rfl, Or.inr rfl, Or.inr rfl, Or.inr rfl, trivial⟩ (okX8_door_b0 A x0 x1 x2 x3 r A1 h)
/-! X8_isHallBuild -/
def fX8_isHallBuild_b0 (A : k_H) (v0 v1 v2 : Int) : Option (Int × k_H) := k_bd (fX8_isSize A v1) fun r1 A2 => if r1 = 0 then (some (0, A2)) else (k_bd (fX8_isSize A2 v2) fun r5 A6 => if r5 = 0 then (some (0, A6)) else (if k_isO A6 v0 8 then (if k_isO A6 (k_rd A6 v0 0) 5 then (k_bd (fX5_holdsAmps A6 (k_rd A6 v0 0) 1 4) fun r10 A11 => if r10 = 0 then (some (0, A11)) else (some (1, A11))) else none) else none))
def fX8_isHallBuild (A : k_H) (x0 x1 x2 : Int) : Option (Int × k_H) := fX8_isHallBuild_b0 A x0 x1 x2
set_option maxRecDepth 100000 in
theorem okX8_isHallBuild_b0 (A : k_H) (v0 v1 v2 : Int) (r : Int) (A' : k_H) (h : fX8_isHallBuild_b0 A v0 v1 v2 = some (r, A')) : k_AW 3 mX8_isHallBuild 0 [(1, v0), (0, v1), (0, v2)] [] A r A' := by
  unfold fX8_isHallBuild_b0 at h
  refine k_iload_n (pc := 0) (x := v1) dX8_isHallBuild_0 rfl rfl ?_
  obtain ⟨r1, A2, hq3, h⟩ := k_pb h
  refine k_callS (pc := 1) (as := [(0, v1)]) (st := []) (st1 := [(0, r1)]) dX8_isHallBuild_1 cbX8_isSize (k_gt 362 (by decide +kernel) (by decide +kernel)) (k_gt 363 (by decide +kernel) (by decide +kernel)) (by omega) rfl (Nat.le_of_ble_eq_true rfl) (okX8_isSize hq3) rfl ?_
  refine k_if_eq (pc := 4) (tgt := 30) dX8_isHallBuild_4 rfl (fun c4 => ?_) (fun c4 => ?_)
  · rw [if_pos c4] at h
    refine k_iconst (pc := 30) dX8_isHallBuild_30 ⟨by decide, by decide⟩ ?_
    obtain ⟨rfl, rfl⟩ := k_pr h
    exact k_ret (pc := 31) dX8_isHallBuild_31 rfl rfl (by decide +kernel)
  · rw [if_neg c4] at h
    refine k_iload_n (pc := 7) (x := v2) dX8_isHallBuild_7 rfl rfl ?_
    obtain ⟨r5, A6, hq7, h⟩ := k_pb h
    refine k_callS (pc := 8) (as := [(0, v2)]) (st := []) (st1 := [(0, r5)]) dX8_isHallBuild_8 cbX8_isSize (k_gt 362 (by decide +kernel) (by decide +kernel)) (k_gt 363 (by decide +kernel) (by decide +kernel)) (by omega) rfl (Nat.le_of_ble_eq_true rfl) (okX8_isSize hq7) rfl ?_
    refine k_if_eq (pc := 11) (tgt := 30) dX8_isHallBuild_11 rfl (fun c8 => ?_) (fun c8 => ?_)
    · rw [if_pos c8] at h
      refine k_iconst (pc := 30) dX8_isHallBuild_30 ⟨by decide, by decide⟩ ?_
      obtain ⟨rfl, rfl⟩ := k_pr h
      exact k_ret (pc := 31) dX8_isHallBuild_31 rfl rfl (by decide +kernel)
    · rw [if_neg c8] at h
      refine k_aload_n (pc := 14) (x := v0) dX8_isHallBuild_14 rfl rfl ?_
      obtain ⟨hc9, h⟩ := k_pk h
      refine k_getf (pc := 15) (t := 1) (fi := 0) dX8_isHallBuild_15 flX8_10 rfl rfl hc9 ?_
      refine k_iconst (pc := 18) dX8_isHallBuild_18 ⟨by decide, by decide⟩ ?_
      refine k_iconst (pc := 19) dX8_isHallBuild_19 ⟨by decide, by decide⟩ ?_
      obtain ⟨hc13, h⟩ := k_pk h
      obtain ⟨r10, A11, hq12, h⟩ := k_pb h
      refine k_callV (pc := 20) (ci := 5) (a := (k_rd A6 v0 0)) (as := [(0, 1), (0, 4)]) (st := []) (st1 := [(0, r10)]) dX8_isHallBuild_20 cbX5_holdsAmps (k_gt 365 (by decide +kernel) (by decide +kernel)) cvX5_holdsAmps.1 cvX5_holdsAmps.2 rfl (by decide) hc13 (by omega) rfl (Nat.le_of_ble_eq_true rfl) (okX5_holdsAmps hq12) rfl ?_
      refine k_if_eq (pc := 23) (tgt := 30) dX8_isHallBuild_23 rfl (fun c14 => ?_) (fun c14 => ?_)
      · rw [if_pos c14] at h
        refine k_iconst (pc := 30) dX8_isHallBuild_30 ⟨by decide, by decide⟩ ?_
        obtain ⟨rfl, rfl⟩ := k_pr h
        exact k_ret (pc := 31) dX8_isHallBuild_31 rfl rfl (by decide +kernel)
      · rw [if_neg c14] at h
        refine k_iconst (pc := 26) dX8_isHallBuild_26 ⟨by decide, by decide⟩ ?_
        refine k_goto (pc := 27) (tgt := 31) dX8_isHallBuild_27 rfl ?_
        obtain ⟨rfl, rfl⟩ := k_pr h
        exact k_ret (pc := 31) dX8_isHallBuild_31 rfl rfl (by decide +kernel)
theorem okX8_isHallBuild {A : k_H} {x0 x1 x2 : Int} {r : Int} {A1 : k_H} (h : fX8_isHallBuild A x0 x1 x2 = some (r, A1)) : k_AM 3 mX8_isHallBuild [(1, x0), (0, x1), (0, x2)] A r A1 :=
  k_AM_of2 (ls := [(1, x0), (0, x1), (0, x2)]) (Or.inl (by decide +kernel)) (by decide +kernel) (by decide) rfl (Nat.le_of_ble_eq_true rfl) ⟨Or.inr rfl, Or.inr rfl, Or.inr rfl, trivial⟩ (okX8_isHallBuild_b0 A x0 x1 x2 r A1 h)
/-! X8_canMove -/
def fX8_canMove_b0 (A : k_H) (v0 v1 v2 v3 : Int) : Option (Int × k_H) := if k_isO A v1 4 then (if k_isA A (k_rd A v1 1) 21 v3 then (if (k_rd A (k_rd A v1 1) v3) = (-1) then (if k_isO A v0 8 then (k_bd (fX8_showAt A v0 v2 v3) fun r4 A5 => if r4 = (-1) then (if k_isO A5 v1 4 then (if k_isA A5 (k_rd A5 v1 1) 21 v3 then (k_lt (k_wt A5 (k_rd A5 v1 1) v3 v2) fun A11 => if k_isO A11 v0 8 then (k_bd (fX8_keepsWaysAndRests A11 v0 v1) fun r13 A14 => if k_isO A14 v1 4 then (if k_isA A14 (k_rd A14 v1 1) 21 v3 then (k_lt (k_wt A14 (k_rd A14 v1 1) v3 (-1)) fun A19 => if r13 = 0 ∨ r13 = 1 then (some (r13, A19)) else none) else none) else none) else none) else none) else none) else (some (0, A5))) else none) else (some (0, A))) else none) else none
def fX8_canMove (A : k_H) (x0 x1 x2 x3 : Int) : Option (Int × k_H) := fX8_canMove_b0 A x0 x1 x2 x3
set_option maxRecDepth 100000 in
theorem okX8_canMove_b0 (A : k_H) (v0 v1 v2 v3 : Int) (r : Int) (A' : k_H) (h : fX8_canMove_b0 A v0 v1 v2 v3 = some (r, A')) : k_AW 4 mX8_canMove 0 [(1, v0), (1, v1), (0, v2), (0, v3), (3, 0)] [] A r A' := by
  unfold fX8_canMove_b0 at h
  refine k_aload_n (pc := 0) (x := v1) dX8_canMove_0 rfl rfl ?_
  obtain ⟨hc1, h⟩ := k_pk h
  refine k_getf (pc := 1) (t := 1) (fi := 1) dX8_canMove_1 flX8_163 rfl rfl hc1 ?_
  refine k_iload_n (pc := 4) (x := v3) dX8_canMove_4 rfl rfl ?_
  obtain ⟨hc2, h⟩ := k_pk h
  refine k_iaload (pc := 5) dX8_canMove_5 hc2 ?_
  refine k_iconst (pc := 6) dX8_canMove_6 ⟨by decide, by decide⟩ ?_
  refine k_icmp_ne (pc := 7) (tgt := 20) dX8_canMove_7 rfl (fun c3 => ?_) (fun c3 => ?_)
  · rw [if_neg c3] at h
    refine k_iconst (pc := 20) dX8_canMove_20 ⟨by decide, by decide⟩ ?_
    obtain ⟨rfl, rfl⟩ := k_pr h
    exact k_ret (pc := 21) dX8_canMove_21 rfl rfl (by decide +kernel)
  · rw [if_pos (Classical.not_not.mp c3)] at h
    refine k_aload_n (pc := 10) (x := v0) dX8_canMove_10 rfl rfl ?_
    refine k_iload_n (pc := 11) (x := v2) dX8_canMove_11 rfl rfl ?_
    refine k_iload_n (pc := 12) (x := v3) dX8_canMove_12 rfl rfl ?_
    obtain ⟨hc7, h⟩ := k_pk h
    obtain ⟨r4, A5, hq6, h⟩ := k_pb h
    refine k_callV (pc := 13) (ci := 8) (a := v0) (as := [(0, v2), (0, v3)]) (st := []) (st1 := [(0, r4)]) dX8_canMove_13 cbX8_showAt (k_gt 506 (by decide +kernel) (by decide +kernel)) cvX8_showAt.1 cvX8_showAt.2 rfl (by decide) hc7 (by omega) rfl (Nat.le_of_ble_eq_true rfl) (okX8_showAt hq6) rfl ?_
    refine k_iconst (pc := 16) dX8_canMove_16 ⟨by decide, by decide⟩ ?_
    refine k_icmp_eq (pc := 17) (tgt := 22) dX8_canMove_17 rfl (fun c8 => ?_) (fun c8 => ?_)
    · rw [if_pos c8] at h
      refine k_aload_n (pc := 22) (x := v1) dX8_canMove_22 rfl rfl ?_
      obtain ⟨hc9, h⟩ := k_pk h
      refine k_getf (pc := 23) (t := 1) (fi := 1) dX8_canMove_23 flX8_163 rfl rfl hc9 ?_
      refine k_iload_n (pc := 26) (x := v3) dX8_canMove_26 rfl rfl ?_
      refine k_iload_n (pc := 27) (x := v2) dX8_canMove_27 rfl rfl ?_
      obtain ⟨hc10, h⟩ := k_pk h
      refine k_iastore (pc := 28) dX8_canMove_28 hc10 ?_
      obtain ⟨A11, eA12, h⟩ := k_pl h
      refine k_hq eA12 ?_
      refine k_aload_n (pc := 29) (x := v0) dX8_canMove_29 rfl rfl ?_
      refine k_aload_n (pc := 30) (x := v1) dX8_canMove_30 rfl rfl ?_
      obtain ⟨hc16, h⟩ := k_pk h
      obtain ⟨r13, A14, hq15, h⟩ := k_pb h
      refine k_callV (pc := 31) (ci := 8) (a := v0) (as := [(1, v1)]) (st := []) (st1 := [(0, r13)]) dX8_canMove_31 cbX8_keepsWaysAndRests (k_gt 580 (by decide +kernel) (by decide +kernel)) cvX8_keepsWaysAndRests.1 cvX8_keepsWaysAndRests.2 rfl (by decide) hc16 (by omega) rfl (Nat.le_of_ble_eq_true rfl) (okX8_keepsWaysAndRests hq15) rfl ?_
      refine k_istore (pc := 34) dX8_canMove_34 (Nat.le_of_ble_eq_true rfl) rfl ?_
      show k_AW _ _ _ [(1, v0), (1, v1), (0, v2), (0, v3), (0, r13)] _ _ _ _
      refine k_aload_n (pc := 36) (x := v1) dX8_canMove_36 rfl rfl ?_
      obtain ⟨hc17, h⟩ := k_pk h
      refine k_getf (pc := 37) (t := 1) (fi := 1) dX8_canMove_37 flX8_163 rfl rfl hc17 ?_
      refine k_iload_n (pc := 40) (x := v3) dX8_canMove_40 rfl rfl ?_
      refine k_iconst (pc := 41) dX8_canMove_41 ⟨by decide, by decide⟩ ?_
      obtain ⟨hc18, h⟩ := k_pk h
      refine k_iastore (pc := 42) dX8_canMove_42 hc18 ?_
      obtain ⟨A19, eA20, h⟩ := k_pl h
      refine k_hq eA20 ?_
      refine k_iload (pc := 43) (x := r13) dX8_canMove_43 rfl ?_
      obtain ⟨hc21, h⟩ := k_pk h
      obtain ⟨rfl, rfl⟩ := k_pr h
      exact k_ret (pc := 45) dX8_canMove_45 rfl rfl (k_nz hc21)
    · rw [if_neg c8] at h
      refine k_iconst (pc := 20) dX8_canMove_20 ⟨by decide, by decide⟩ ?_
      obtain ⟨rfl, rfl⟩ := k_pr h
      exact k_ret (pc := 21) dX8_canMove_21 rfl rfl (by decide +kernel)
theorem okX8_canMove {A : k_H} {x0 x1 x2 x3 : Int} {r : Int} {A1 : k_H} (h : fX8_canMove A x0 x1 x2 x3 = some (r, A1)) : k_AM 4 mX8_canMove [(1, x0), (1, x1), (0, x2), (0, x3)] A r A1 :=
  k_AM_of2 (ls := [(1, x0), (1, x1), (0, x2), (0, x3), (3, 0)]) (Or.inl (by decide +kernel)) (by decide +kernel) (by decide) rfl (Nat.le_of_ble_eq_true rfl) ⟨Or.inr rfl, Or.inr rfl, Or.inr rfl, Or.inr rfl, rfl, trivial⟩ (okX8_canMove_b0 A x0 x1 x2 x3 r A1 h)
/-! X7_readNumber -/
def fX7_readNumber_b37 (A : k_H) : Option (Int × k_H) := some (1, A)
def fX7_readNumber_b0 (A : k_H) (v0 v1 v2 : Int) : Option (Int × k_H) := if k_isO A v0 7 then (k_bd (fX7_nextToken A v0) fun r1 A2 => if k_isO A2 v0 7 then (if (k_rd A2 v0 10) = 2 then (k_bd (fX8_isWithin A2 (k_rd A2 v0 11) v1 v2) fun r7 A8 => if r7 = 0 then (if k_isO A8 v0 7 then (k_bd (fX7_refuse A8 v0 3) fun r11 A12 => if r11 = 0 then (some (0, A12)) else (fX7_readNumber_b37 A12)) else none) else (fX7_readNumber_b37 A8)) else (k_bd (fX7_refuseToken A2 v0) fun r16 A17 => if r16 = 0 ∨ r16 = 1 then (some (r16, A17)) else none)) else none) else none
def fX7_readNumber (A : k_H) (x0 x1 x2 : Int) : Option (Int × k_H) := fX7_readNumber_b0 A x0 x1 x2
set_option maxRecDepth 100000 in
theorem okX7_readNumber_b37 (A : k_H) (r : Int) (A' : k_H) (h : fX7_readNumber_b37 A  = some (r, A')) : k_AW 4 mX7_readNumber 37 [(3, 0), (3, 0), (3, 0)] [] A r A' := by
  unfold fX7_readNumber_b37 at h
  refine k_iconst (pc := 37) dX7_readNumber_37 ⟨by decide, by decide⟩ ?_
  refine k_goto (pc := 38) (tgt := 42) dX7_readNumber_38 rfl ?_
  obtain ⟨rfl, rfl⟩ := k_pr h
  exact k_ret (pc := 42) dX7_readNumber_42 rfl rfl (by decide +kernel)
set_option maxRecDepth 100000 in
theorem okX7_readNumber_b0 (A : k_H) (v0 v1 v2 : Int) (r : Int) (A' : k_H) (h : fX7_readNumber_b0 A v0 v1 v2 = some (r, A')) : k_AW 4 mX7_readNumber 0 [(1, v0), (0, v1), (0, v2)] [] A r A' := by
  unfold fX7_readNumber_b0 at h
  refine k_aload_n (pc := 0) (x := v0) dX7_readNumber_0 rfl rfl ?_
  obtain ⟨hc4, h⟩ := k_pk h
  obtain ⟨r1, A2, hq3, h⟩ := k_pb h
  refine k_callV (pc := 1) (ci := 7) (a := v0) (as := []) (st := []) (st1 := []) dX7_readNumber_1 cbX7_nextToken (k_gt 610 (by decide +kernel) (by decide +kernel)) cvX7_nextToken.1 cvX7_nextToken.2 rfl (by decide) hc4 (by omega) rfl (Nat.le_of_ble_eq_true rfl) (okX7_nextToken hq3) rfl ?_
  refine k_aload_n (pc := 4) (x := v0) dX7_readNumber_4 rfl rfl ?_
  obtain ⟨hc5, h⟩ := k_pk h
  refine k_getf (pc := 5) (t := 0) (fi := 10) dX7_readNumber_5 flX7_32 rfl rfl hc5 ?_
  refine k_iconst (pc := 8) dX7_readNumber_8 ⟨by decide, by decide⟩ ?_
  refine k_icmp_eq (pc := 9) (tgt := 17) dX7_readNumber_9 rfl (fun c6 => ?_) (fun c6 => ?_)
  · rw [if_pos c6] at h
    refine k_aload_n (pc := 17) (x := v0) dX7_readNumber_17 rfl rfl ?_
    refine k_getf (pc := 18) (t := 0) (fi := 11) dX7_readNumber_18 flX7_104 rfl rfl hc5 ?_
    refine k_iload_n (pc := 21) (x := v1) dX7_readNumber_21 rfl rfl ?_
    refine k_iload_n (pc := 22) (x := v2) dX7_readNumber_22 rfl rfl ?_
    obtain ⟨r7, A8, hq9, h⟩ := k_pb h
    refine k_callSN (pc := 23) (host := "VanPlays") (as := [(0, (k_rd A2 v0 11)), (0, v1), (0, v2)]) (st := []) (st1 := [(0, r7)]) dX7_readNumber_23 cbX8_isWithin (by decide +kernel) (k_gt 356 (by decide +kernel) (by decide +kernel)) (by omega) rfl (Nat.le_of_ble_eq_true rfl) (okX8_isWithin hq9) rfl ?_
    refine k_if_ne (pc := 26) (tgt := 37) dX7_readNumber_26 rfl (fun c10 => ?_) (fun c10 => ?_)
    · rw [if_neg c10] at h
      refine k_sub (ls' := [(3, 0), (3, 0), (3, 0)]) (k_sbl_ok _ _ ⟨Or.inl rfl, Or.inl rfl, Or.inl rfl, trivial⟩) ?_
      exact okX7_readNumber_b37  _ _ _ h
    · rw [if_pos (Classical.not_not.mp c10)] at h
      refine k_aload_n (pc := 29) (x := v0) dX7_readNumber_29 rfl rfl ?_
      refine k_iconst (pc := 30) dX7_readNumber_30 ⟨by decide, by decide⟩ ?_
      obtain ⟨hc14, h⟩ := k_pk h
      obtain ⟨r11, A12, hq13, h⟩ := k_pb h
      refine k_callV (pc := 31) (ci := 7) (a := v0) (as := [(0, 3)]) (st := []) (st1 := [(0, r11)]) dX7_readNumber_31 cbX7_refuse (k_gt 689 (by decide +kernel) (by decide +kernel)) cvX7_refuse.1 cvX7_refuse.2 rfl (by decide) hc14 (by omega) rfl (Nat.le_of_ble_eq_true rfl) (okX7_refuse hq13) rfl ?_
      refine k_if_eq (pc := 34) (tgt := 41) dX7_readNumber_34 rfl (fun c15 => ?_) (fun c15 => ?_)
      · rw [if_pos c15] at h
        refine k_iconst (pc := 41) dX7_readNumber_41 ⟨by decide, by decide⟩ ?_
        obtain ⟨rfl, rfl⟩ := k_pr h
        exact k_ret (pc := 42) dX7_readNumber_42 rfl rfl (by decide +kernel)
      · rw [if_neg c15] at h
        refine k_sub (ls' := [(3, 0), (3, 0), (3, 0)]) (k_sbl_ok _ _ ⟨Or.inl rfl, Or.inl rfl, Or.inl rfl, trivial⟩) ?_
        exact okX7_readNumber_b37  _ _ _ h
  · rw [if_neg c6] at h
    refine k_aload_n (pc := 12) (x := v0) dX7_readNumber_12 rfl rfl ?_
    obtain ⟨r16, A17, hq18, h⟩ := k_pb h
    refine k_callV (pc := 13) (ci := 7) (a := v0) (as := []) (st := []) (st1 := [(0, r16)]) dX7_readNumber_13 cbX7_refuseToken (k_gt 698 (by decide +kernel) (by decide +kernel)) cvX7_refuseToken.1 cvX7_refuseToken.2 rfl (by decide) hc5 (by omega) rfl (Nat.le_of_ble_eq_true rfl) (okX7_refuseToken hq18) rfl ?_
    obtain ⟨hc19, h⟩ := k_pk h
    obtain ⟨rfl, rfl⟩ := k_pr h
    exact k_ret (pc := 16) dX7_readNumber_16 rfl rfl (k_nz hc19)
theorem okX7_readNumber {A : k_H} {x0 x1 x2 : Int} {r : Int} {A1 : k_H} (h : fX7_readNumber A x0 x1 x2 = some (r, A1)) : k_AM 4 mX7_readNumber [(1, x0), (0, x1), (0, x2)] A r A1 :=
  k_AM_of2 (ls := [(1, x0), (0, x1), (0, x2)]) (Or.inl (by decide +kernel)) (by decide +kernel) (by decide) rfl (Nat.le_of_ble_eq_true rfl) ⟨Or.inr rfl, Or.inr rfl, Or.inr rfl, trivial⟩ (okX7_readNumber_b0 A x0 x1 x2 r A1 h)
/-! X7_readStop -/
def fX7_readStop_b19 (A : k_H) : Option (Int × k_H) := some (1, A)
def fX7_readStop_b0 (A : k_H) (v0 : Int) : Option (Int × k_H) := if k_isO A v0 7 then (k_bd (fX7_nextToken A v0) fun r1 A2 => if k_isO A2 v0 7 then (if (k_rd A2 v0 10) = 3 then (fX7_readStop_b19 A2) else (k_bd (fX7_refuseToken A2 v0) fun r7 A8 => if r7 = 0 then (some (0, A8)) else (fX7_readStop_b19 A8))) else none) else none
def fX7_readStop (A : k_H) (x0 : Int) : Option (Int × k_H) := fX7_readStop_b0 A x0
set_option maxRecDepth 100000 in
theorem okX7_readStop_b19 (A : k_H) (r : Int) (A' : k_H) (h : fX7_readStop_b19 A  = some (r, A')) : k_AW 4 mX7_readStop 19 [(3, 0)] [] A r A' := by
  unfold fX7_readStop_b19 at h
  refine k_iconst (pc := 19) dX7_readStop_19 ⟨by decide, by decide⟩ ?_
  refine k_goto (pc := 20) (tgt := 24) dX7_readStop_20 rfl ?_
  obtain ⟨rfl, rfl⟩ := k_pr h
  exact k_ret (pc := 24) dX7_readStop_24 rfl rfl (by decide +kernel)
set_option maxRecDepth 100000 in
theorem okX7_readStop_b0 (A : k_H) (v0 : Int) (r : Int) (A' : k_H) (h : fX7_readStop_b0 A v0 = some (r, A')) : k_AW 4 mX7_readStop 0 [(1, v0)] [] A r A' := by
  unfold fX7_readStop_b0 at h
  refine k_aload_n (pc := 0) (x := v0) dX7_readStop_0 rfl rfl ?_
  obtain ⟨hc4, h⟩ := k_pk h
  obtain ⟨r1, A2, hq3, h⟩ := k_pb h
  refine k_callV (pc := 1) (ci := 7) (a := v0) (as := []) (st := []) (st1 := []) dX7_readStop_1 cbX7_nextToken (k_gt 610 (by decide +kernel) (by decide +kernel)) cvX7_nextToken.1 cvX7_nextToken.2 rfl (by decide) hc4 (by omega) rfl (Nat.le_of_ble_eq_true rfl) (okX7_nextToken hq3) rfl ?_
  refine k_aload_n (pc := 4) (x := v0) dX7_readStop_4 rfl rfl ?_
  obtain ⟨hc5, h⟩ := k_pk h
  refine k_getf (pc := 5) (t := 0) (fi := 10) dX7_readStop_5 flX7_32 rfl rfl hc5 ?_
  refine k_iconst (pc := 8) dX7_readStop_8 ⟨by decide, by decide⟩ ?_
  refine k_icmp_eq (pc := 9) (tgt := 19) dX7_readStop_9 rfl (fun c6 => ?_) (fun c6 => ?_)
  · rw [if_pos c6] at h
    refine k_sub (ls' := [(3, 0)]) (k_sbl_ok _ _ ⟨Or.inl rfl, trivial⟩) ?_
    exact okX7_readStop_b19  _ _ _ h
  · rw [if_neg c6] at h
    refine k_aload_n (pc := 12) (x := v0) dX7_readStop_12 rfl rfl ?_
    obtain ⟨r7, A8, hq9, h⟩ := k_pb h
    refine k_callV (pc := 13) (ci := 7) (a := v0) (as := []) (st := []) (st1 := [(0, r7)]) dX7_readStop_13 cbX7_refuseToken (k_gt 698 (by decide +kernel) (by decide +kernel)) cvX7_refuseToken.1 cvX7_refuseToken.2 rfl (by decide) hc5 (by omega) rfl (Nat.le_of_ble_eq_true rfl) (okX7_refuseToken hq9) rfl ?_
    refine k_if_eq (pc := 16) (tgt := 23) dX7_readStop_16 rfl (fun c10 => ?_) (fun c10 => ?_)
    · rw [if_pos c10] at h
      refine k_iconst (pc := 23) dX7_readStop_23 ⟨by decide, by decide⟩ ?_
      obtain ⟨rfl, rfl⟩ := k_pr h
      exact k_ret (pc := 24) dX7_readStop_24 rfl rfl (by decide +kernel)
    · rw [if_neg c10] at h
      refine k_sub (ls' := [(3, 0)]) (k_sbl_ok _ _ ⟨Or.inl rfl, trivial⟩) ?_
      exact okX7_readStop_b19  _ _ _ h
theorem okX7_readStop {A : k_H} {x0 : Int} {r : Int} {A1 : k_H} (h : fX7_readStop A x0 = some (r, A1)) : k_AM 4 mX7_readStop [(1, x0)] A r A1 :=
  k_AM_of2 (ls := [(1, x0)]) (Or.inl (by decide +kernel)) (by decide +kernel) (by decide) rfl (Nat.le_of_ble_eq_true rfl) ⟨Or.inr rfl, trivial⟩ (okX7_readStop_b0 A x0 r A1 h)
/-! X8_hall -/
def fX8_hall_b109 (A : k_H) (v0 v6 : Int) : Option (Int × k_H) := if k_isO A v0 8 then (if k_isO A (k_rd A v0 0) 5 then (k_lt (k_wt A (k_rd A v0 0) 1 0) fun A3 => some (v6, A3)) else none) else none
def fX8_hall_b44 (A : k_H) (v0 v1 v2 v3 v4 s0 : Int) : Option (Int × k_H) := if s0 = 0 then (fX8_hall_b109 A v0 (-1)) else (if k_isO A v0 8 then (if k_isA A (k_rd A v0 1) 23 (k_rd A v0 6) then (if k_isO A (k_rd A (k_rd A v0 1) (k_rd A v0 6)) 1 then (k_lt (k_wt A (k_rd A (k_rd A v0 1) (k_rd A v0 6)) 2 v1) fun A5 => if k_isA A5 (k_rd A5 v0 1) 23 (k_rd A v0 6) then (if k_isO A5 (k_rd A5 (k_rd A5 v0 1) (k_rd A v0 6)) 1 then (k_lt (k_wt A5 (k_rd A5 (k_rd A5 v0 1) (k_rd A v0 6)) 3 v2) fun A10 => if k_isA A10 (k_rd A10 v0 1) 23 (k_rd A v0 6) then (if k_isO A10 (k_rd A10 (k_rd A10 v0 1) (k_rd A v0 6)) 1 then (k_bd (fX1_build A10 (k_rd A10 (k_rd A10 v0 1) (k_rd A v0 6)) v3 v4 (k_rd A10 v0 0)) fun r14 A15 => if k_isO A15 v0 8 then (k_lt (k_wt A15 v0 6 (k_wr ((k_rd A15 v0 6) + 1))) fun A19 => fX8_hall_b109 A19 v0 (k_rd A v0 6)) else none) else none) else none) else none) else none) else none) else none) else none)
def fX8_hall_b43 (A : k_H) (v0 v1 v2 v3 v4 : Int) : Option (Int × k_H) := fX8_hall_b44 A v0 v1 v2 v3 v4 0
def fX8_hall_b0 (A : k_H) (v0 v1 v2 v3 v4 : Int) : Option (Int × k_H) := if k_isO A v0 8 then (if (k_rd A v0 6) < 12 then (k_bd (fX8_isWithin A v1 0 99) fun r3 A4 => if r3 = 0 then (fX8_hall_b43 A4 v0 v1 v2 v3 v4) else (k_bd (fX8_isWithin A4 v2 0 99) fun r7 A8 => if r7 = 0 then (fX8_hall_b43 A8 v0 v1 v2 v3 v4) else (if k_isO A8 v0 8 then (k_bd (fX8_isHallBuild A8 v0 v3 v4) fun r11 A12 => if r11 = 0 then (fX8_hall_b43 A12 v0 v1 v2 v3 v4) else (fX8_hall_b44 A12 v0 v1 v2 v3 v4 1)) else none))) else (fX8_hall_b43 A v0 v1 v2 v3 v4)) else none
def fX8_hall (A : k_H) (x0 x1 x2 x3 x4 : Int) : Option (Int × k_H) := fX8_hall_b0 A x0 x1 x2 x3 x4
set_option maxRecDepth 100000 in
theorem okX8_hall_b109 (A : k_H) (v0 v6 : Int) (r : Int) (A' : k_H) (h : fX8_hall_b109 A v0 v6 = some (r, A')) : k_AW 4 mX8_hall 109 [(1, v0), (3, 0), (3, 0), (3, 0), (3, 0), (3, 0), (0, v6)] [] A r A' := by
  unfold fX8_hall_b109 at h
  refine k_aload_n (pc := 109) (x := v0) dX8_hall_109 rfl rfl ?_
  obtain ⟨hc1, h⟩ := k_pk h
  refine k_getf (pc := 110) (t := 1) (fi := 0) dX8_hall_110 flX8_10 rfl rfl hc1 ?_
  refine k_iconst (pc := 113) dX8_hall_113 ⟨by decide, by decide⟩ ?_
  obtain ⟨hc2, h⟩ := k_pk h
  refine k_putf (pc := 114) (t := 0) (fi := 1) dX8_hall_114 flX8_51 rfl rfl hc2 rfl ?_
  obtain ⟨A3, eA4, h⟩ := k_pl h
  refine k_hq eA4 ?_
  refine k_iload (pc := 117) (x := v6) dX8_hall_117 rfl ?_
  obtain ⟨rfl, rfl⟩ := k_pr h
  exact k_ret (pc := 119) dX8_hall_119 rfl rfl rfl
set_option maxRecDepth 100000 in
theorem okX8_hall_b44 (A : k_H) (v0 v1 v2 v3 v4 s0 : Int) (r : Int) (A' : k_H) (h : fX8_hall_b44 A v0 v1 v2 v3 v4 s0 = some (r, A')) : k_AW 4 mX8_hall 44 [(1, v0), (0, v1), (0, v2), (0, v3), (0, v4), (3, 0), (3, 0)] [(0, s0)] A r A' := by
  unfold fX8_hall_b44 at h
  refine k_istore (pc := 44) dX8_hall_44 (Nat.le_of_ble_eq_true rfl) rfl ?_
  show k_AW _ _ _ [(1, v0), (0, v1), (0, v2), (0, v3), (0, v4), (0, s0), (3, 0)] _ _ _ _
  refine k_iconst (pc := 46) dX8_hall_46 ⟨by decide, by decide⟩ ?_
  refine k_istore (pc := 47) dX8_hall_47 (Nat.le_of_ble_eq_true rfl) rfl ?_
  show k_AW _ _ _ [(1, v0), (0, v1), (0, v2), (0, v3), (0, v4), (0, s0), (0, (-1))] _ _ _ _
  refine k_iload (pc := 49) (x := s0) dX8_hall_49 rfl ?_
  refine k_if_eq (pc := 51) (tgt := 109) dX8_hall_51 rfl (fun c1 => ?_) (fun c1 => ?_)
  · rw [if_pos c1] at h
    refine k_sub (ls' := [(1, v0), (3, 0), (3, 0), (3, 0), (3, 0), (3, 0), (0, (-1))]) (k_sbl_ok _ _ ⟨Or.inr rfl, Or.inl rfl, Or.inl rfl, Or.inl rfl, Or.inl rfl, Or.inl rfl, Or.inr rfl, trivial⟩) ?_
    exact okX8_hall_b109  _ _ _ _ _ h
  · rw [if_neg c1] at h
    refine k_aload_n (pc := 54) (x := v0) dX8_hall_54 rfl rfl ?_
    obtain ⟨hc2, h⟩ := k_pk h
    refine k_getf (pc := 55) (t := 0) (fi := 6) dX8_hall_55 flX8_59 rfl rfl hc2 ?_
    refine k_istore (pc := 58) dX8_hall_58 (Nat.le_of_ble_eq_true rfl) rfl ?_
    show k_AW _ _ _ [(1, v0), (0, v1), (0, v2), (0, v3), (0, v4), (0, s0), (0, (k_rd A v0 6))] _ _ _ _
    refine k_aload_n (pc := 60) (x := v0) dX8_hall_60 rfl rfl ?_
    refine k_getf (pc := 61) (t := 1) (fi := 1) dX8_hall_61 flX8_18 rfl rfl hc2 ?_
    refine k_iload (pc := 64) (x := (k_rd A v0 6)) dX8_hall_64 rfl ?_
    obtain ⟨hc3, h⟩ := k_pk h
    refine k_aaload (pc := 66) (K := 23) dX8_hall_66 (by decide) hc3 ?_
    refine k_iload_n (pc := 67) (x := v1) dX8_hall_67 rfl rfl ?_
    obtain ⟨hc4, h⟩ := k_pk h
    refine k_putf (pc := 68) (t := 0) (fi := 2) dX8_hall_68 flX8_70 rfl rfl hc4 rfl ?_
    obtain ⟨A5, eA6, h⟩ := k_pl h
    refine k_hq eA6 ?_
    refine k_aload_n (pc := 71) (x := v0) dX8_hall_71 rfl rfl ?_
    have hf7 := k_oW eA6 hc2
    refine k_getf (pc := 72) (t := 1) (fi := 1) dX8_hall_72 flX8_18 rfl rfl hf7 ?_
    refine k_iload (pc := 75) (x := (k_rd A v0 6)) dX8_hall_75 rfl ?_
    obtain ⟨hc8, h⟩ := k_pk h
    refine k_aaload (pc := 77) (K := 23) dX8_hall_77 (by decide) hc8 ?_
    refine k_iload_n (pc := 78) (x := v2) dX8_hall_78 rfl rfl ?_
    obtain ⟨hc9, h⟩ := k_pk h
    refine k_putf (pc := 79) (t := 0) (fi := 3) dX8_hall_79 flX8_73 rfl rfl hc9 rfl ?_
    obtain ⟨A10, eA11, h⟩ := k_pl h
    refine k_hq eA11 ?_
    refine k_aload_n (pc := 82) (x := v0) dX8_hall_82 rfl rfl ?_
    have hf12 := k_oW eA11 hf7
    refine k_getf (pc := 83) (t := 1) (fi := 1) dX8_hall_83 flX8_18 rfl rfl hf12 ?_
    refine k_iload (pc := 86) (x := (k_rd A v0 6)) dX8_hall_86 rfl ?_
    obtain ⟨hc13, h⟩ := k_pk h
    refine k_aaload (pc := 88) (K := 23) dX8_hall_88 (by decide) hc13 ?_
    refine k_iload_n (pc := 89) (x := v3) dX8_hall_89 rfl rfl ?_
    refine k_iload (pc := 90) (x := v4) dX8_hall_90 rfl ?_
    refine k_aload_n (pc := 92) (x := v0) dX8_hall_92 rfl rfl ?_
    refine k_getf (pc := 93) (t := 1) (fi := 0) dX8_hall_93 flX8_10 rfl rfl hf12 ?_
    obtain ⟨hc17, h⟩ := k_pk h
    obtain ⟨r14, A15, hq16, h⟩ := k_pb h
    refine k_callV (pc := 96) (ci := 1) (a := (k_rd A10 (k_rd A10 v0 1) (k_rd A v0 6))) (as := [(0, v3), (0, v4), (1, (k_rd A10 v0 0))]) (st := []) (st1 := []) dX8_hall_96 cbX1_build (k_gt 369 (by decide +kernel) (by decide +kernel)) cvX1_build.1 cvX1_build.2 rfl (by decide) hc17 (by omega) rfl (Nat.le_of_ble_eq_true rfl) (okX1_build hq16) rfl ?_
    refine k_aload_n (pc := 99) (x := v0) dX8_hall_99 rfl rfl ?_
    refine k_dup (pc := 100) dX8_hall_100 (Nat.le_of_ble_eq_true rfl) ?_
    obtain ⟨hc18, h⟩ := k_pk h
    refine k_getf (pc := 101) (t := 0) (fi := 6) dX8_hall_101 flX8_59 rfl rfl hc18 ?_
    refine k_iconst (pc := 104) dX8_hall_104 ⟨by decide, by decide⟩ ?_
    refine k_iadd (pc := 105) dX8_hall_105 ?_
    refine k_putf (pc := 106) (t := 0) (fi := 6) dX8_hall_106 flX8_59 rfl rfl hc18 rfl ?_
    obtain ⟨A19, eA20, h⟩ := k_pl h
    refine k_hq eA20 ?_
    refine k_sub (ls' := [(1, v0), (3, 0), (3, 0), (3, 0), (3, 0), (3, 0), (0, (k_rd A v0 6))]) (k_sbl_ok _ _ ⟨Or.inr rfl, Or.inl rfl, Or.inl rfl, Or.inl rfl, Or.inl rfl, Or.inl rfl, Or.inr rfl, trivial⟩) ?_
    exact okX8_hall_b109  _ _ _ _ _ h
set_option maxRecDepth 100000 in
theorem okX8_hall_b43 (A : k_H) (v0 v1 v2 v3 v4 : Int) (r : Int) (A' : k_H) (h : fX8_hall_b43 A v0 v1 v2 v3 v4 = some (r, A')) : k_AW 4 mX8_hall 43 [(1, v0), (0, v1), (0, v2), (0, v3), (0, v4), (3, 0), (3, 0)] [] A r A' := by
  unfold fX8_hall_b43 at h
  refine k_iconst (pc := 43) dX8_hall_43 ⟨by decide, by decide⟩ ?_
  refine k_sub (ls' := [(1, v0), (0, v1), (0, v2), (0, v3), (0, v4), (3, 0), (3, 0)]) (k_sbl_ok _ _ ⟨Or.inr rfl, Or.inr rfl, Or.inr rfl, Or.inr rfl, Or.inr rfl, Or.inl rfl, Or.inl rfl, trivial⟩) ?_
  exact okX8_hall_b44  _ _ _ _ _ _ _ _ _ h
set_option maxRecDepth 100000 in
theorem okX8_hall_b0 (A : k_H) (v0 v1 v2 v3 v4 : Int) (r : Int) (A' : k_H) (h : fX8_hall_b0 A v0 v1 v2 v3 v4 = some (r, A')) : k_AW 4 mX8_hall 0 [(1, v0), (0, v1), (0, v2), (0, v3), (0, v4), (3, 0), (3, 0)] [] A r A' := by
  unfold fX8_hall_b0 at h
  refine k_aload_n (pc := 0) (x := v0) dX8_hall_0 rfl rfl ?_
  obtain ⟨hc1, h⟩ := k_pk h
  refine k_getf (pc := 1) (t := 0) (fi := 6) dX8_hall_1 flX8_59 rfl rfl hc1 ?_
  refine k_bipush (pc := 4) dX8_hall_4 ⟨by decide, by decide⟩ (by decide +kernel) ?_
  refine k_icmp_ge (pc := 6) (tgt := 43) dX8_hall_6 rfl (fun c2 => ?_) (fun c2 => ?_)
  · rw [if_neg (Int.not_lt.mpr c2)] at h
    refine k_sub (ls' := [(1, v0), (0, v1), (0, v2), (0, v3), (0, v4), (3, 0), (3, 0)]) (k_sbl_ok _ _ ⟨Or.inr rfl, Or.inr rfl, Or.inr rfl, Or.inr rfl, Or.inr rfl, Or.inl rfl, Or.inl rfl, trivial⟩) ?_
    exact okX8_hall_b43  _ _ _ _ _ _ _ _ h
  · rw [if_pos (Int.not_le.mp c2)] at h
    refine k_iload_n (pc := 9) (x := v1) dX8_hall_9 rfl rfl ?_
    refine k_iconst (pc := 10) dX8_hall_10 ⟨by decide, by decide⟩ ?_
    refine k_bipush (pc := 11) dX8_hall_11 ⟨by decide, by decide⟩ (by decide +kernel) ?_
    obtain ⟨r3, A4, hq5, h⟩ := k_pb h
    refine k_callS (pc := 13) (as := [(0, v1), (0, 0), (0, 99)]) (st := []) (st1 := [(0, r3)]) dX8_hall_13 cbX8_isWithin (k_gt 355 (by decide +kernel) (by decide +kernel)) (k_gt 356 (by decide +kernel) (by decide +kernel)) (by omega) rfl (Nat.le_of_ble_eq_true rfl) (okX8_isWithin hq5) rfl ?_
    refine k_if_eq (pc := 16) (tgt := 43) dX8_hall_16 rfl (fun c6 => ?_) (fun c6 => ?_)
    · rw [if_pos c6] at h
      refine k_sub (ls' := [(1, v0), (0, v1), (0, v2), (0, v3), (0, v4), (3, 0), (3, 0)]) (k_sbl_ok _ _ ⟨Or.inr rfl, Or.inr rfl, Or.inr rfl, Or.inr rfl, Or.inr rfl, Or.inl rfl, Or.inl rfl, trivial⟩) ?_
      exact okX8_hall_b43  _ _ _ _ _ _ _ _ h
    · rw [if_neg c6] at h
      refine k_iload_n (pc := 19) (x := v2) dX8_hall_19 rfl rfl ?_
      refine k_iconst (pc := 20) dX8_hall_20 ⟨by decide, by decide⟩ ?_
      refine k_bipush (pc := 21) dX8_hall_21 ⟨by decide, by decide⟩ (by decide +kernel) ?_
      obtain ⟨r7, A8, hq9, h⟩ := k_pb h
      refine k_callS (pc := 23) (as := [(0, v2), (0, 0), (0, 99)]) (st := []) (st1 := [(0, r7)]) dX8_hall_23 cbX8_isWithin (k_gt 355 (by decide +kernel) (by decide +kernel)) (k_gt 356 (by decide +kernel) (by decide +kernel)) (by omega) rfl (Nat.le_of_ble_eq_true rfl) (okX8_isWithin hq9) rfl ?_
      refine k_if_eq (pc := 26) (tgt := 43) dX8_hall_26 rfl (fun c10 => ?_) (fun c10 => ?_)
      · rw [if_pos c10] at h
        refine k_sub (ls' := [(1, v0), (0, v1), (0, v2), (0, v3), (0, v4), (3, 0), (3, 0)]) (k_sbl_ok _ _ ⟨Or.inr rfl, Or.inr rfl, Or.inr rfl, Or.inr rfl, Or.inr rfl, Or.inl rfl, Or.inl rfl, trivial⟩) ?_
        exact okX8_hall_b43  _ _ _ _ _ _ _ _ h
      · rw [if_neg c10] at h
        refine k_aload_n (pc := 29) (x := v0) dX8_hall_29 rfl rfl ?_
        refine k_iload_n (pc := 30) (x := v3) dX8_hall_30 rfl rfl ?_
        refine k_iload (pc := 31) (x := v4) dX8_hall_31 rfl ?_
        obtain ⟨hc14, h⟩ := k_pk h
        obtain ⟨r11, A12, hq13, h⟩ := k_pb h
        refine k_callV (pc := 33) (ci := 8) (a := v0) (as := [(0, v3), (0, v4)]) (st := []) (st1 := [(0, r11)]) dX8_hall_33 cbX8_isHallBuild (k_gt 358 (by decide +kernel) (by decide +kernel)) cvX8_isHallBuild.1 cvX8_isHallBuild.2 rfl (by decide) hc14 (by omega) rfl (Nat.le_of_ble_eq_true rfl) (okX8_isHallBuild hq13) rfl ?_
        refine k_if_eq (pc := 36) (tgt := 43) dX8_hall_36 rfl (fun c15 => ?_) (fun c15 => ?_)
        · rw [if_pos c15] at h
          refine k_sub (ls' := [(1, v0), (0, v1), (0, v2), (0, v3), (0, v4), (3, 0), (3, 0)]) (k_sbl_ok _ _ ⟨Or.inr rfl, Or.inr rfl, Or.inr rfl, Or.inr rfl, Or.inr rfl, Or.inl rfl, Or.inl rfl, trivial⟩) ?_
          exact okX8_hall_b43  _ _ _ _ _ _ _ _ h
        · rw [if_neg c15] at h
          refine k_iconst (pc := 39) dX8_hall_39 ⟨by decide, by decide⟩ ?_
          refine k_goto (pc := 40) (tgt := 44) dX8_hall_40 rfl ?_
          refine k_sub (ls' := [(1, v0), (0, v1), (0, v2), (0, v3), (0, v4), (3, 0), (3, 0)]) (k_sbl_ok _ _ ⟨Or.inr rfl, Or.inr rfl, Or.inr rfl, Or.inr rfl, Or.inr rfl, Or.inl rfl, Or.inl rfl, trivial⟩) ?_
          exact okX8_hall_b44  _ _ _ _ _ _ _ _ _ h
theorem okX8_hall {A : k_H} {x0 x1 x2 x3 x4 : Int} {r : Int} {A1 : k_H} (h : fX8_hall A x0 x1 x2 x3 x4 = some (r, A1)) : k_AM 4 mX8_hall [(1, x0), (0, x1), (0, x2), (0, x3), (0, x4)] A r A1 :=
  k_AM_of2 (ls := [(1, x0), (0, x1), (0, x2), (0, x3), (0, x4), (3, 0), (3, 0)]) (Or.inl (by decide +kernel)) (by decide +kernel) (by decide) rfl (Nat.le_of_ble_eq_true rfl) ⟨Or.inr rfl, Or.inr rfl, Or.inr rfl, Or.inr rfl, Or.inr rfl, rfl, rfl, trivial⟩ (okX8_hall_b0 A x0 x1 x2 x3 x4 r A1 h)
/-! X8_show -/
def fX8_show_b144 (A : k_H) (v0 v8 : Int) : Option (Int × k_H) := if k_isO A v0 8 then (if k_isO A (k_rd A v0 0) 5 then (k_lt (k_wt A (k_rd A v0 0) 1 0) fun A3 => some (v8, A3)) else none) else none
def fX8_show_b85 (A : k_H) (v0 v1 v2 v3 v4 v5 v6 s0 : Int) : Option (Int × k_H) := if s0 = 0 then (fX8_show_b144 A v0 (-1)) else (if k_isO A v0 8 then (if k_isA A (k_rd A v0 2) 24 (k_rd A v0 7) then (if k_isO A (k_rd A (k_rd A v0 2) (k_rd A v0 7)) 4 then (k_bd (fX4_build A (k_rd A (k_rd A v0 2) (k_rd A v0 7)) v1 v2 (k_rd A v0 0)) fun r4 A5 => if k_isO A5 v0 8 then (if k_isA A5 (k_rd A5 v0 2) 24 (k_rd A v0 7) then (if k_isO A5 (k_rd A5 (k_rd A5 v0 2) (k_rd A v0 7)) 4 then (k_bd (fX4_plan A5 (k_rd A5 (k_rd A5 v0 2) (k_rd A v0 7)) v3 v4 v5 v6) fun r10 A11 => if k_isO A11 v0 8 then (k_lt (k_wt A11 v0 7 (k_wr ((k_rd A11 v0 7) + 1))) fun A15 => fX8_show_b144 A15 v0 (k_rd A v0 7)) else none) else none) else none) else none) else none) else none) else none)
def fX8_show_b84 (A : k_H) (v0 v1 v2 v3 v4 v5 v6 : Int) : Option (Int × k_H) := fX8_show_b85 A v0 v1 v2 v3 v4 v5 v6 0
def fX8_show_b0 (A : k_H) (v0 v1 v2 v3 v4 v5 v6 : Int) : Option (Int × k_H) := if k_isO A v0 8 then (if (k_rd A v0 7) < 6 then (k_bd (fX8_isSize A v1) fun r3 A4 => if r3 = 0 then (fX8_show_b84 A4 v0 v1 v2 v3 v4 v5 v6) else (k_bd (fX8_isSize A4 v2) fun r7 A8 => if r7 = 0 then (fX8_show_b84 A8 v0 v1 v2 v3 v4 v5 v6) else (k_bd (fX8_isNight A8 v3) fun r11 A12 => if r11 = 0 then (fX8_show_b84 A12 v0 v1 v2 v3 v4 v5 v6) else (k_bd (fX8_isNight A12 v4) fun r15 A16 => if r15 = 0 then (fX8_show_b84 A16 v0 v1 v2 v3 v4 v5 v6) else (if v3 ≤ v4 then (k_bd (fX8_isWithin A16 v5 1 200) fun r20 A21 => if r20 = 0 then (fX8_show_b84 A21 v0 v1 v2 v3 v4 v5 v6) else (k_bd (fX8_isWithin A21 v6 1 14) fun r24 A25 => if r24 = 0 then (fX8_show_b84 A25 v0 v1 v2 v3 v4 v5 v6) else (if k_isO A25 v0 8 then (if k_isO A25 (k_rd A25 v0 0) 5 then (k_bd (fX5_holdsAmps A25 (k_rd A25 v0 0) 0 8) fun r29 A30 => if r29 = 0 then (fX8_show_b84 A30 v0 v1 v2 v3 v4 v5 v6) else (fX8_show_b85 A30 v0 v1 v2 v3 v4 v5 v6 1)) else none) else none))) else (fX8_show_b84 A16 v0 v1 v2 v3 v4 v5 v6)))))) else (fX8_show_b84 A v0 v1 v2 v3 v4 v5 v6)) else none
def fX8_show (A : k_H) (x0 x1 x2 x3 x4 x5 x6 : Int) : Option (Int × k_H) := fX8_show_b0 A x0 x1 x2 x3 x4 x5 x6
set_option maxRecDepth 100000 in
theorem okX8_show_b144 (A : k_H) (v0 v8 : Int) (r : Int) (A' : k_H) (h : fX8_show_b144 A v0 v8 = some (r, A')) : k_AW 4 mX8_show 144 [(1, v0), (3, 0), (3, 0), (3, 0), (3, 0), (3, 0), (3, 0), (3, 0), (0, v8)] [] A r A' := by
  unfold fX8_show_b144 at h
  refine k_aload_n (pc := 144) (x := v0) dX8_show_144 rfl rfl ?_
  obtain ⟨hc1, h⟩ := k_pk h
  refine k_getf (pc := 145) (t := 1) (fi := 0) dX8_show_145 flX8_10 rfl rfl hc1 ?_
  refine k_iconst (pc := 148) dX8_show_148 ⟨by decide, by decide⟩ ?_
  obtain ⟨hc2, h⟩ := k_pk h
  refine k_putf (pc := 149) (t := 0) (fi := 1) dX8_show_149 flX8_51 rfl rfl hc2 rfl ?_
  obtain ⟨A3, eA4, h⟩ := k_pl h
  refine k_hq eA4 ?_
  refine k_iload (pc := 152) (x := v8) dX8_show_152 rfl ?_
  obtain ⟨rfl, rfl⟩ := k_pr h
  exact k_ret (pc := 154) dX8_show_154 rfl rfl rfl
set_option maxRecDepth 100000 in
theorem okX8_show_b85 (A : k_H) (v0 v1 v2 v3 v4 v5 v6 s0 : Int) (r : Int) (A' : k_H) (h : fX8_show_b85 A v0 v1 v2 v3 v4 v5 v6 s0 = some (r, A')) : k_AW 4 mX8_show 85 [(1, v0), (0, v1), (0, v2), (0, v3), (0, v4), (0, v5), (0, v6), (3, 0), (3, 0)] [(0, s0)] A r A' := by
  unfold fX8_show_b85 at h
  refine k_istore (pc := 85) dX8_show_85 (Nat.le_of_ble_eq_true rfl) rfl ?_
  show k_AW _ _ _ [(1, v0), (0, v1), (0, v2), (0, v3), (0, v4), (0, v5), (0, v6), (0, s0), (3, 0)] _ _ _ _
  refine k_iconst (pc := 87) dX8_show_87 ⟨by decide, by decide⟩ ?_
  refine k_istore (pc := 88) dX8_show_88 (Nat.le_of_ble_eq_true rfl) rfl ?_
  show k_AW _ _ _ [(1, v0), (0, v1), (0, v2), (0, v3), (0, v4), (0, v5), (0, v6), (0, s0), (0, (-1))] _ _ _ _
  refine k_iload (pc := 90) (x := s0) dX8_show_90 rfl ?_
  refine k_if_eq (pc := 92) (tgt := 144) dX8_show_92 rfl (fun c1 => ?_) (fun c1 => ?_)
  · rw [if_pos c1] at h
    refine k_sub (ls' := [(1, v0), (3, 0), (3, 0), (3, 0), (3, 0), (3, 0), (3, 0), (3, 0), (0, (-1))]) (k_sbl_ok _ _ ⟨Or.inr rfl, Or.inl rfl, Or.inl rfl, Or.inl rfl, Or.inl rfl, Or.inl rfl, Or.inl rfl, Or.inl rfl, Or.inr rfl, trivial⟩) ?_
    exact okX8_show_b144  _ _ _ _ _ h
  · rw [if_neg c1] at h
    refine k_aload_n (pc := 95) (x := v0) dX8_show_95 rfl rfl ?_
    obtain ⟨hc2, h⟩ := k_pk h
    refine k_getf (pc := 96) (t := 0) (fi := 7) dX8_show_96 flX8_80 rfl rfl hc2 ?_
    refine k_istore (pc := 99) dX8_show_99 (Nat.le_of_ble_eq_true rfl) rfl ?_
    show k_AW _ _ _ [(1, v0), (0, v1), (0, v2), (0, v3), (0, v4), (0, v5), (0, v6), (0, s0), (0, (k_rd A v0 7))] _ _ _ _
    refine k_aload_n (pc := 101) (x := v0) dX8_show_101 rfl rfl ?_
    refine k_getf (pc := 102) (t := 1) (fi := 2) dX8_show_102 flX8_24 rfl rfl hc2 ?_
    refine k_iload (pc := 105) (x := (k_rd A v0 7)) dX8_show_105 rfl ?_
    obtain ⟨hc3, h⟩ := k_pk h
    refine k_aaload (pc := 107) (K := 24) dX8_show_107 (by decide) hc3 ?_
    refine k_iload_n (pc := 108) (x := v1) dX8_show_108 rfl rfl ?_
    refine k_iload_n (pc := 109) (x := v2) dX8_show_109 rfl rfl ?_
    refine k_aload_n (pc := 110) (x := v0) dX8_show_110 rfl rfl ?_
    refine k_getf (pc := 111) (t := 1) (fi := 0) dX8_show_111 flX8_10 rfl rfl hc2 ?_
    obtain ⟨hc7, h⟩ := k_pk h
    obtain ⟨r4, A5, hq6, h⟩ := k_pb h
    refine k_callV (pc := 114) (ci := 4) (a := (k_rd A (k_rd A v0 2) (k_rd A v0 7))) (as := [(0, v1), (0, v2), (1, (k_rd A v0 0))]) (st := []) (st1 := []) dX8_show_114 cbX4_build (k_gt 391 (by decide +kernel) (by decide +kernel)) cvX4_build.1 cvX4_build.2 rfl (by decide) hc7 (by omega) rfl (Nat.le_of_ble_eq_true rfl) (okX4_build hq6) rfl ?_
    refine k_aload_n (pc := 117) (x := v0) dX8_show_117 rfl rfl ?_
    obtain ⟨hc8, h⟩ := k_pk h
    refine k_getf (pc := 118) (t := 1) (fi := 2) dX8_show_118 flX8_24 rfl rfl hc8 ?_
    refine k_iload (pc := 121) (x := (k_rd A v0 7)) dX8_show_121 rfl ?_
    obtain ⟨hc9, h⟩ := k_pk h
    refine k_aaload (pc := 123) (K := 24) dX8_show_123 (by decide) hc9 ?_
    refine k_iload_n (pc := 124) (x := v3) dX8_show_124 rfl rfl ?_
    refine k_iload (pc := 125) (x := v4) dX8_show_125 rfl ?_
    refine k_iload (pc := 127) (x := v5) dX8_show_127 rfl ?_
    refine k_iload (pc := 129) (x := v6) dX8_show_129 rfl ?_
    obtain ⟨hc13, h⟩ := k_pk h
    obtain ⟨r10, A11, hq12, h⟩ := k_pb h
    refine k_callV (pc := 131) (ci := 4) (a := (k_rd A5 (k_rd A5 v0 2) (k_rd A v0 7))) (as := [(0, v3), (0, v4), (0, v5), (0, v6)]) (st := []) (st1 := []) dX8_show_131 cbX4_plan (k_gt 396 (by decide +kernel) (by decide +kernel)) cvX4_plan.1 cvX4_plan.2 rfl (by decide) hc13 (by omega) rfl (Nat.le_of_ble_eq_true rfl) (okX4_plan hq12) rfl ?_
    refine k_aload_n (pc := 134) (x := v0) dX8_show_134 rfl rfl ?_
    refine k_dup (pc := 135) dX8_show_135 (Nat.le_of_ble_eq_true rfl) ?_
    obtain ⟨hc14, h⟩ := k_pk h
    refine k_getf (pc := 136) (t := 0) (fi := 7) dX8_show_136 flX8_80 rfl rfl hc14 ?_
    refine k_iconst (pc := 139) dX8_show_139 ⟨by decide, by decide⟩ ?_
    refine k_iadd (pc := 140) dX8_show_140 ?_
    refine k_putf (pc := 141) (t := 0) (fi := 7) dX8_show_141 flX8_80 rfl rfl hc14 rfl ?_
    obtain ⟨A15, eA16, h⟩ := k_pl h
    refine k_hq eA16 ?_
    refine k_sub (ls' := [(1, v0), (3, 0), (3, 0), (3, 0), (3, 0), (3, 0), (3, 0), (3, 0), (0, (k_rd A v0 7))]) (k_sbl_ok _ _ ⟨Or.inr rfl, Or.inl rfl, Or.inl rfl, Or.inl rfl, Or.inl rfl, Or.inl rfl, Or.inl rfl, Or.inl rfl, Or.inr rfl, trivial⟩) ?_
    exact okX8_show_b144  _ _ _ _ _ h
set_option maxRecDepth 100000 in
theorem okX8_show_b84 (A : k_H) (v0 v1 v2 v3 v4 v5 v6 : Int) (r : Int) (A' : k_H) (h : fX8_show_b84 A v0 v1 v2 v3 v4 v5 v6 = some (r, A')) : k_AW 4 mX8_show 84 [(1, v0), (0, v1), (0, v2), (0, v3), (0, v4), (0, v5), (0, v6), (3, 0), (3, 0)] [] A r A' := by
  unfold fX8_show_b84 at h
  refine k_iconst (pc := 84) dX8_show_84 ⟨by decide, by decide⟩ ?_
  refine k_sub (ls' := [(1, v0), (0, v1), (0, v2), (0, v3), (0, v4), (0, v5), (0, v6), (3, 0), (3, 0)]) (k_sbl_ok _ _ ⟨Or.inr rfl, Or.inr rfl, Or.inr rfl, Or.inr rfl, Or.inr rfl, Or.inr rfl, Or.inr rfl, Or.inl rfl, Or.inl rfl, trivial⟩) ?_
  exact okX8_show_b85  _ _ _ _ _ _ _ _ _ _ _ h
set_option maxRecDepth 100000 in
theorem okX8_show_b0 (A : k_H) (v0 v1 v2 v3 v4 v5 v6 : Int) (r : Int) (A' : k_H) (h : fX8_show_b0 A v0 v1 v2 v3 v4 v5 v6 = some (r, A')) : k_AW 4 mX8_show 0 [(1, v0), (0, v1), (0, v2), (0, v3), (0, v4), (0, v5), (0, v6), (3, 0), (3, 0)] [] A r A' := by
  unfold fX8_show_b0 at h
  refine k_aload_n (pc := 0) (x := v0) dX8_show_0 rfl rfl ?_
  obtain ⟨hc1, h⟩ := k_pk h
  refine k_getf (pc := 1) (t := 0) (fi := 7) dX8_show_1 flX8_80 rfl rfl hc1 ?_
  refine k_bipush (pc := 4) dX8_show_4 ⟨by decide, by decide⟩ (by decide +kernel) ?_
  refine k_icmp_ge (pc := 6) (tgt := 84) dX8_show_6 rfl (fun c2 => ?_) (fun c2 => ?_)
  · rw [if_neg (Int.not_lt.mpr c2)] at h
    refine k_sub (ls' := [(1, v0), (0, v1), (0, v2), (0, v3), (0, v4), (0, v5), (0, v6), (3, 0), (3, 0)]) (k_sbl_ok _ _ ⟨Or.inr rfl, Or.inr rfl, Or.inr rfl, Or.inr rfl, Or.inr rfl, Or.inr rfl, Or.inr rfl, Or.inl rfl, Or.inl rfl, trivial⟩) ?_
    exact okX8_show_b84  _ _ _ _ _ _ _ _ _ _ h
  · rw [if_pos (Int.not_le.mp c2)] at h
    refine k_iload_n (pc := 9) (x := v1) dX8_show_9 rfl rfl ?_
    obtain ⟨r3, A4, hq5, h⟩ := k_pb h
    refine k_callS (pc := 10) (as := [(0, v1)]) (st := []) (st1 := [(0, r3)]) dX8_show_10 cbX8_isSize (k_gt 362 (by decide +kernel) (by decide +kernel)) (k_gt 363 (by decide +kernel) (by decide +kernel)) (by omega) rfl (Nat.le_of_ble_eq_true rfl) (okX8_isSize hq5) rfl ?_
    refine k_if_eq (pc := 13) (tgt := 84) dX8_show_13 rfl (fun c6 => ?_) (fun c6 => ?_)
    · rw [if_pos c6] at h
      refine k_sub (ls' := [(1, v0), (0, v1), (0, v2), (0, v3), (0, v4), (0, v5), (0, v6), (3, 0), (3, 0)]) (k_sbl_ok _ _ ⟨Or.inr rfl, Or.inr rfl, Or.inr rfl, Or.inr rfl, Or.inr rfl, Or.inr rfl, Or.inr rfl, Or.inl rfl, Or.inl rfl, trivial⟩) ?_
      exact okX8_show_b84  _ _ _ _ _ _ _ _ _ _ h
    · rw [if_neg c6] at h
      refine k_iload_n (pc := 16) (x := v2) dX8_show_16 rfl rfl ?_
      obtain ⟨r7, A8, hq9, h⟩ := k_pb h
      refine k_callS (pc := 17) (as := [(0, v2)]) (st := []) (st1 := [(0, r7)]) dX8_show_17 cbX8_isSize (k_gt 362 (by decide +kernel) (by decide +kernel)) (k_gt 363 (by decide +kernel) (by decide +kernel)) (by omega) rfl (Nat.le_of_ble_eq_true rfl) (okX8_isSize hq9) rfl ?_
      refine k_if_eq (pc := 20) (tgt := 84) dX8_show_20 rfl (fun c10 => ?_) (fun c10 => ?_)
      · rw [if_pos c10] at h
        refine k_sub (ls' := [(1, v0), (0, v1), (0, v2), (0, v3), (0, v4), (0, v5), (0, v6), (3, 0), (3, 0)]) (k_sbl_ok _ _ ⟨Or.inr rfl, Or.inr rfl, Or.inr rfl, Or.inr rfl, Or.inr rfl, Or.inr rfl, Or.inr rfl, Or.inl rfl, Or.inl rfl, trivial⟩) ?_
        exact okX8_show_b84  _ _ _ _ _ _ _ _ _ _ h
      · rw [if_neg c10] at h
        refine k_iload_n (pc := 23) (x := v3) dX8_show_23 rfl rfl ?_
        obtain ⟨r11, A12, hq13, h⟩ := k_pb h
        refine k_callS (pc := 24) (as := [(0, v3)]) (st := []) (st1 := [(0, r11)]) dX8_show_24 cbX8_isNight (k_gt 388 (by decide +kernel) (by decide +kernel)) (k_gt 389 (by decide +kernel) (by decide +kernel)) (by omega) rfl (Nat.le_of_ble_eq_true rfl) (okX8_isNight hq13) rfl ?_
        refine k_if_eq (pc := 27) (tgt := 84) dX8_show_27 rfl (fun c14 => ?_) (fun c14 => ?_)
        · rw [if_pos c14] at h
          refine k_sub (ls' := [(1, v0), (0, v1), (0, v2), (0, v3), (0, v4), (0, v5), (0, v6), (3, 0), (3, 0)]) (k_sbl_ok _ _ ⟨Or.inr rfl, Or.inr rfl, Or.inr rfl, Or.inr rfl, Or.inr rfl, Or.inr rfl, Or.inr rfl, Or.inl rfl, Or.inl rfl, trivial⟩) ?_
          exact okX8_show_b84  _ _ _ _ _ _ _ _ _ _ h
        · rw [if_neg c14] at h
          refine k_iload (pc := 30) (x := v4) dX8_show_30 rfl ?_
          obtain ⟨r15, A16, hq17, h⟩ := k_pb h
          refine k_callS (pc := 32) (as := [(0, v4)]) (st := []) (st1 := [(0, r15)]) dX8_show_32 cbX8_isNight (k_gt 388 (by decide +kernel) (by decide +kernel)) (k_gt 389 (by decide +kernel) (by decide +kernel)) (by omega) rfl (Nat.le_of_ble_eq_true rfl) (okX8_isNight hq17) rfl ?_
          refine k_if_eq (pc := 35) (tgt := 84) dX8_show_35 rfl (fun c18 => ?_) (fun c18 => ?_)
          · rw [if_pos c18] at h
            refine k_sub (ls' := [(1, v0), (0, v1), (0, v2), (0, v3), (0, v4), (0, v5), (0, v6), (3, 0), (3, 0)]) (k_sbl_ok _ _ ⟨Or.inr rfl, Or.inr rfl, Or.inr rfl, Or.inr rfl, Or.inr rfl, Or.inr rfl, Or.inr rfl, Or.inl rfl, Or.inl rfl, trivial⟩) ?_
            exact okX8_show_b84  _ _ _ _ _ _ _ _ _ _ h
          · rw [if_neg c18] at h
            refine k_iload_n (pc := 38) (x := v3) dX8_show_38 rfl rfl ?_
            refine k_iload (pc := 39) (x := v4) dX8_show_39 rfl ?_
            refine k_icmp_gt (pc := 41) (tgt := 84) dX8_show_41 rfl (fun c19 => ?_) (fun c19 => ?_)
            · rw [if_neg (Int.not_le.mpr c19)] at h
              refine k_sub (ls' := [(1, v0), (0, v1), (0, v2), (0, v3), (0, v4), (0, v5), (0, v6), (3, 0), (3, 0)]) (k_sbl_ok _ _ ⟨Or.inr rfl, Or.inr rfl, Or.inr rfl, Or.inr rfl, Or.inr rfl, Or.inr rfl, Or.inr rfl, Or.inl rfl, Or.inl rfl, trivial⟩) ?_
              exact okX8_show_b84  _ _ _ _ _ _ _ _ _ _ h
            · rw [if_pos (Int.not_lt.mp c19)] at h
              refine k_iload (pc := 44) (x := v5) dX8_show_44 rfl ?_
              refine k_iconst (pc := 46) dX8_show_46 ⟨by decide, by decide⟩ ?_
              refine k_sipush (pc := 47) dX8_show_47 ⟨by decide, by decide⟩ (by decide +kernel) ?_
              obtain ⟨r20, A21, hq22, h⟩ := k_pb h
              refine k_callS (pc := 50) (as := [(0, v5), (0, 1), (0, 200)]) (st := []) (st1 := [(0, r20)]) dX8_show_50 cbX8_isWithin (k_gt 355 (by decide +kernel) (by decide +kernel)) (k_gt 356 (by decide +kernel) (by decide +kernel)) (by omega) rfl (Nat.le_of_ble_eq_true rfl) (okX8_isWithin hq22) rfl ?_
              refine k_if_eq (pc := 53) (tgt := 84) dX8_show_53 rfl (fun c23 => ?_) (fun c23 => ?_)
              · rw [if_pos c23] at h
                refine k_sub (ls' := [(1, v0), (0, v1), (0, v2), (0, v3), (0, v4), (0, v5), (0, v6), (3, 0), (3, 0)]) (k_sbl_ok _ _ ⟨Or.inr rfl, Or.inr rfl, Or.inr rfl, Or.inr rfl, Or.inr rfl, Or.inr rfl, Or.inr rfl, Or.inl rfl, Or.inl rfl, trivial⟩) ?_
                exact okX8_show_b84  _ _ _ _ _ _ _ _ _ _ h
              · rw [if_neg c23] at h
                refine k_iload (pc := 56) (x := v6) dX8_show_56 rfl ?_
                refine k_iconst (pc := 58) dX8_show_58 ⟨by decide, by decide⟩ ?_
                refine k_bipush (pc := 59) dX8_show_59 ⟨by decide, by decide⟩ (by decide +kernel) ?_
                obtain ⟨r24, A25, hq26, h⟩ := k_pb h
                refine k_callS (pc := 61) (as := [(0, v6), (0, 1), (0, 14)]) (st := []) (st1 := [(0, r24)]) dX8_show_61 cbX8_isWithin (k_gt 355 (by decide +kernel) (by decide +kernel)) (k_gt 356 (by decide +kernel) (by decide +kernel)) (by omega) rfl (Nat.le_of_ble_eq_true rfl) (okX8_isWithin hq26) rfl ?_
                refine k_if_eq (pc := 64) (tgt := 84) dX8_show_64 rfl (fun c27 => ?_) (fun c27 => ?_)
                · rw [if_pos c27] at h
                  refine k_sub (ls' := [(1, v0), (0, v1), (0, v2), (0, v3), (0, v4), (0, v5), (0, v6), (3, 0), (3, 0)]) (k_sbl_ok _ _ ⟨Or.inr rfl, Or.inr rfl, Or.inr rfl, Or.inr rfl, Or.inr rfl, Or.inr rfl, Or.inr rfl, Or.inl rfl, Or.inl rfl, trivial⟩) ?_
                  exact okX8_show_b84  _ _ _ _ _ _ _ _ _ _ h
                · rw [if_neg c27] at h
                  refine k_aload_n (pc := 67) (x := v0) dX8_show_67 rfl rfl ?_
                  obtain ⟨hc28, h⟩ := k_pk h
                  refine k_getf (pc := 68) (t := 1) (fi := 0) dX8_show_68 flX8_10 rfl rfl hc28 ?_
                  refine k_iconst (pc := 71) dX8_show_71 ⟨by decide, by decide⟩ ?_
                  refine k_bipush (pc := 72) dX8_show_72 ⟨by decide, by decide⟩ (by decide +kernel) ?_
                  obtain ⟨hc32, h⟩ := k_pk h
                  obtain ⟨r29, A30, hq31, h⟩ := k_pb h
                  refine k_callV (pc := 74) (ci := 5) (a := (k_rd A25 v0 0)) (as := [(0, 0), (0, 8)]) (st := []) (st1 := [(0, r29)]) dX8_show_74 cbX5_holdsAmps (k_gt 365 (by decide +kernel) (by decide +kernel)) cvX5_holdsAmps.1 cvX5_holdsAmps.2 rfl (by decide) hc32 (by omega) rfl (Nat.le_of_ble_eq_true rfl) (okX5_holdsAmps hq31) rfl ?_
                  refine k_if_eq (pc := 77) (tgt := 84) dX8_show_77 rfl (fun c33 => ?_) (fun c33 => ?_)
                  · rw [if_pos c33] at h
                    refine k_sub (ls' := [(1, v0), (0, v1), (0, v2), (0, v3), (0, v4), (0, v5), (0, v6), (3, 0), (3, 0)]) (k_sbl_ok _ _ ⟨Or.inr rfl, Or.inr rfl, Or.inr rfl, Or.inr rfl, Or.inr rfl, Or.inr rfl, Or.inr rfl, Or.inl rfl, Or.inl rfl, trivial⟩) ?_
                    exact okX8_show_b84  _ _ _ _ _ _ _ _ _ _ h
                  · rw [if_neg c33] at h
                    refine k_iconst (pc := 80) dX8_show_80 ⟨by decide, by decide⟩ ?_
                    refine k_goto (pc := 81) (tgt := 85) dX8_show_81 rfl ?_
                    refine k_sub (ls' := [(1, v0), (0, v1), (0, v2), (0, v3), (0, v4), (0, v5), (0, v6), (3, 0), (3, 0)]) (k_sbl_ok _ _ ⟨Or.inr rfl, Or.inr rfl, Or.inr rfl, Or.inr rfl, Or.inr rfl, Or.inr rfl, Or.inr rfl, Or.inl rfl, Or.inl rfl, trivial⟩) ?_
                    exact okX8_show_b85  _ _ _ _ _ _ _ _ _ _ _ h
theorem okX8_show {A : k_H} {x0 x1 x2 x3 x4 x5 x6 : Int} {r : Int} {A1 : k_H} (h : fX8_show A x0 x1 x2 x3 x4 x5 x6 = some (r, A1)) : k_AM 4 mX8_show [(1, x0), (0, x1), (0, x2), (0, x3), (0, x4), (0, x5), (0, x6)] A r A1 :=
  k_AM_of2 (ls := [(1, x0), (0, x1), (0, x2), (0, x3), (0, x4), (0, x5), (0, x6), (3, 0), (3, 0)]) (Or.inl (by decide +kernel)) (by decide +kernel) (by decide) rfl (Nat.le_of_ble_eq_true rfl) ⟨Or.inr rfl, Or.inr rfl, Or.inr rfl, Or.inr rfl, Or.inr rfl, Or.inr rfl, Or.inr rfl, rfl, rfl, trivial⟩ (okX8_show_b0 A x0 x1 x2 x3 x4 x5 x6 r A1 h)
/-! X8_rewire -/
def fX8_rewire_b44 (A : k_H) (v0 v4 : Int) : Option (Int × k_H) := if k_isO A v0 8 then (if k_isO A (k_rd A v0 0) 5 then (k_lt (k_wt A (k_rd A v0 0) 1 0) fun A3 => if v4 = 0 ∨ v4 = 1 then (some (v4, A3)) else none) else none) else none
def fX8_rewire_b22 (A : k_H) (v0 v1 v2 v3 s0 : Int) : Option (Int × k_H) := if s0 = 0 then (fX8_rewire_b44 A v0 s0) else (if k_isO A v0 8 then (if k_isA A (k_rd A v0 1) 23 v1 then (if k_isO A (k_rd A (k_rd A v0 1) v1) 1 then (k_bd (fX1_build A (k_rd A (k_rd A v0 1) v1) v2 v3 (k_rd A v0 0)) fun r4 A5 => fX8_rewire_b44 A5 v0 s0) else none) else none) else none)
def fX8_rewire_b21 (A : k_H) (v0 v1 v2 v3 : Int) : Option (Int × k_H) := fX8_rewire_b22 A v0 v1 v2 v3 0
def fX8_rewire_b0 (A : k_H) (v0 v1 v2 v3 : Int) : Option (Int × k_H) := if k_isO A v0 8 then (k_bd (fX8_isHall A v0 v1) fun r1 A2 => if r1 = 0 then (fX8_rewire_b21 A2 v0 v1 v2 v3) else (if k_isO A2 v0 8 then (k_bd (fX8_isHallBuild A2 v0 v2 v3) fun r6 A7 => if r6 = 0 then (fX8_rewire_b21 A7 v0 v1 v2 v3) else (fX8_rewire_b22 A7 v0 v1 v2 v3 1)) else none)) else none
def fX8_rewire (A : k_H) (x0 x1 x2 x3 : Int) : Option (Int × k_H) := fX8_rewire_b0 A x0 x1 x2 x3
set_option maxRecDepth 100000 in
theorem okX8_rewire_b44 (A : k_H) (v0 v4 : Int) (r : Int) (A' : k_H) (h : fX8_rewire_b44 A v0 v4 = some (r, A')) : k_AW 4 mX8_rewire 44 [(1, v0), (3, 0), (3, 0), (3, 0), (0, v4)] [] A r A' := by
  unfold fX8_rewire_b44 at h
  refine k_aload_n (pc := 44) (x := v0) dX8_rewire_44 rfl rfl ?_
  obtain ⟨hc1, h⟩ := k_pk h
  refine k_getf (pc := 45) (t := 1) (fi := 0) dX8_rewire_45 flX8_10 rfl rfl hc1 ?_
  refine k_iconst (pc := 48) dX8_rewire_48 ⟨by decide, by decide⟩ ?_
  obtain ⟨hc2, h⟩ := k_pk h
  refine k_putf (pc := 49) (t := 0) (fi := 1) dX8_rewire_49 flX8_51 rfl rfl hc2 rfl ?_
  obtain ⟨A3, eA4, h⟩ := k_pl h
  refine k_hq eA4 ?_
  refine k_iload (pc := 52) (x := v4) dX8_rewire_52 rfl ?_
  obtain ⟨hc5, h⟩ := k_pk h
  obtain ⟨rfl, rfl⟩ := k_pr h
  exact k_ret (pc := 54) dX8_rewire_54 rfl rfl (k_nz hc5)
set_option maxRecDepth 100000 in
theorem okX8_rewire_b22 (A : k_H) (v0 v1 v2 v3 s0 : Int) (r : Int) (A' : k_H) (h : fX8_rewire_b22 A v0 v1 v2 v3 s0 = some (r, A')) : k_AW 4 mX8_rewire 22 [(1, v0), (0, v1), (0, v2), (0, v3), (3, 0)] [(0, s0)] A r A' := by
  unfold fX8_rewire_b22 at h
  refine k_istore (pc := 22) dX8_rewire_22 (Nat.le_of_ble_eq_true rfl) rfl ?_
  show k_AW _ _ _ [(1, v0), (0, v1), (0, v2), (0, v3), (0, s0)] _ _ _ _
  refine k_iload (pc := 24) (x := s0) dX8_rewire_24 rfl ?_
  refine k_if_eq (pc := 26) (tgt := 44) dX8_rewire_26 rfl (fun c1 => ?_) (fun c1 => ?_)
  · rw [if_pos c1] at h
    refine k_sub (ls' := [(1, v0), (3, 0), (3, 0), (3, 0), (0, s0)]) (k_sbl_ok _ _ ⟨Or.inr rfl, Or.inl rfl, Or.inl rfl, Or.inl rfl, Or.inr rfl, trivial⟩) ?_
    exact okX8_rewire_b44  _ _ _ _ _ h
  · rw [if_neg c1] at h
    refine k_aload_n (pc := 29) (x := v0) dX8_rewire_29 rfl rfl ?_
    obtain ⟨hc2, h⟩ := k_pk h
    refine k_getf (pc := 30) (t := 1) (fi := 1) dX8_rewire_30 flX8_18 rfl rfl hc2 ?_
    refine k_iload_n (pc := 33) (x := v1) dX8_rewire_33 rfl rfl ?_
    obtain ⟨hc3, h⟩ := k_pk h
    refine k_aaload (pc := 34) (K := 23) dX8_rewire_34 (by decide) hc3 ?_
    refine k_iload_n (pc := 35) (x := v2) dX8_rewire_35 rfl rfl ?_
    refine k_iload_n (pc := 36) (x := v3) dX8_rewire_36 rfl rfl ?_
    refine k_aload_n (pc := 37) (x := v0) dX8_rewire_37 rfl rfl ?_
    refine k_getf (pc := 38) (t := 1) (fi := 0) dX8_rewire_38 flX8_10 rfl rfl hc2 ?_
    obtain ⟨hc7, h⟩ := k_pk h
    obtain ⟨r4, A5, hq6, h⟩ := k_pb h
    refine k_callV (pc := 41) (ci := 1) (a := (k_rd A (k_rd A v0 1) v1)) (as := [(0, v2), (0, v3), (1, (k_rd A v0 0))]) (st := []) (st1 := []) dX8_rewire_41 cbX1_build (k_gt 369 (by decide +kernel) (by decide +kernel)) cvX1_build.1 cvX1_build.2 rfl (by decide) hc7 (by omega) rfl (Nat.le_of_ble_eq_true rfl) (okX1_build hq6) rfl ?_
    refine k_sub (ls' := [(1, v0), (3, 0), (3, 0), (3, 0), (0, s0)]) (k_sbl_ok _ _ ⟨Or.inr rfl, Or.inl rfl, Or.inl rfl, Or.inl rfl, Or.inr rfl, trivial⟩) ?_
    exact okX8_rewire_b44  _ _ _ _ _ h
set_option maxRecDepth 100000 in
theorem okX8_rewire_b21 (A : k_H) (v0 v1 v2 v3 : Int) (r : Int) (A' : k_H) (h : fX8_rewire_b21 A v0 v1 v2 v3 = some (r, A')) : k_AW 4 mX8_rewire 21 [(1, v0), (0, v1), (0, v2), (0, v3), (3, 0)] [] A r A' := by
  unfold fX8_rewire_b21 at h
  refine k_iconst (pc := 21) dX8_rewire_21 ⟨by decide, by decide⟩ ?_
  refine k_sub (ls' := [(1, v0), (0, v1), (0, v2), (0, v3), (3, 0)]) (k_sbl_ok _ _ ⟨Or.inr rfl, Or.inr rfl, Or.inr rfl, Or.inr rfl, Or.inl rfl, trivial⟩) ?_
  exact okX8_rewire_b22  _ _ _ _ _ _ _ _ h
set_option maxRecDepth 100000 in
theorem okX8_rewire_b0 (A : k_H) (v0 v1 v2 v3 : Int) (r : Int) (A' : k_H) (h : fX8_rewire_b0 A v0 v1 v2 v3 = some (r, A')) : k_AW 4 mX8_rewire 0 [(1, v0), (0, v1), (0, v2), (0, v3), (3, 0)] [] A r A' := by
  unfold fX8_rewire_b0 at h
  refine k_aload_n (pc := 0) (x := v0) dX8_rewire_0 rfl rfl ?_
  refine k_iload_n (pc := 1) (x := v1) dX8_rewire_1 rfl rfl ?_
  obtain ⟨hc4, h⟩ := k_pk h
  obtain ⟨r1, A2, hq3, h⟩ := k_pb h
  refine k_callV (pc := 2) (ci := 8) (a := v0) (as := [(0, v1)]) (st := []) (st1 := [(0, r1)]) dX8_rewire_2 cbX8_isHall (k_gt 404 (by decide +kernel) (by decide +kernel)) cvX8_isHall.1 cvX8_isHall.2 rfl (by decide) hc4 (by omega) rfl (Nat.le_of_ble_eq_true rfl) (okX8_isHall hq3) rfl ?_
  refine k_if_eq (pc := 5) (tgt := 21) dX8_rewire_5 rfl (fun c5 => ?_) (fun c5 => ?_)
  · rw [if_pos c5] at h
    refine k_sub (ls' := [(1, v0), (0, v1), (0, v2), (0, v3), (3, 0)]) (k_sbl_ok _ _ ⟨Or.inr rfl, Or.inr rfl, Or.inr rfl, Or.inr rfl, Or.inl rfl, trivial⟩) ?_
    exact okX8_rewire_b21  _ _ _ _ _ _ _ h
  · rw [if_neg c5] at h
    refine k_aload_n (pc := 8) (x := v0) dX8_rewire_8 rfl rfl ?_
    refine k_iload_n (pc := 9) (x := v2) dX8_rewire_9 rfl rfl ?_
    refine k_iload_n (pc := 10) (x := v3) dX8_rewire_10 rfl rfl ?_
    obtain ⟨hc9, h⟩ := k_pk h
    obtain ⟨r6, A7, hq8, h⟩ := k_pb h
    refine k_callV (pc := 11) (ci := 8) (a := v0) (as := [(0, v2), (0, v3)]) (st := []) (st1 := [(0, r6)]) dX8_rewire_11 cbX8_isHallBuild (k_gt 358 (by decide +kernel) (by decide +kernel)) cvX8_isHallBuild.1 cvX8_isHallBuild.2 rfl (by decide) hc9 (by omega) rfl (Nat.le_of_ble_eq_true rfl) (okX8_isHallBuild hq8) rfl ?_
    refine k_if_eq (pc := 14) (tgt := 21) dX8_rewire_14 rfl (fun c10 => ?_) (fun c10 => ?_)
    · rw [if_pos c10] at h
      refine k_sub (ls' := [(1, v0), (0, v1), (0, v2), (0, v3), (3, 0)]) (k_sbl_ok _ _ ⟨Or.inr rfl, Or.inr rfl, Or.inr rfl, Or.inr rfl, Or.inl rfl, trivial⟩) ?_
      exact okX8_rewire_b21  _ _ _ _ _ _ _ h
    · rw [if_neg c10] at h
      refine k_iconst (pc := 17) dX8_rewire_17 ⟨by decide, by decide⟩ ?_
      refine k_goto (pc := 18) (tgt := 22) dX8_rewire_18 rfl ?_
      refine k_sub (ls' := [(1, v0), (0, v1), (0, v2), (0, v3), (3, 0)]) (k_sbl_ok _ _ ⟨Or.inr rfl, Or.inr rfl, Or.inr rfl, Or.inr rfl, Or.inl rfl, trivial⟩) ?_
      exact okX8_rewire_b22  _ _ _ _ _ _ _ _ h
theorem okX8_rewire {A : k_H} {x0 x1 x2 x3 : Int} {r : Int} {A1 : k_H} (h : fX8_rewire A x0 x1 x2 x3 = some (r, A1)) : k_AM 4 mX8_rewire [(1, x0), (0, x1), (0, x2), (0, x3)] A r A1 :=
  k_AM_of2 (ls := [(1, x0), (0, x1), (0, x2), (0, x3), (3, 0)]) (Or.inl (by decide +kernel)) (by decide +kernel) (by decide) rfl (Nat.le_of_ble_eq_true rfl) ⟨Or.inr rfl, Or.inr rfl, Or.inr rfl, Or.inr rfl, rfl, trivial⟩ (okX8_rewire_b0 A x0 x1 x2 x3 r A1 h)
/-! X8_plugged -/
def fX8_plugged_b0 (A : k_H) (v0 v1 v2 v3 : Int) : Option (Int × k_H) := if k_isO A v0 8 then (k_bd (fX8_isShow A v0 v1) fun r1 A2 => if r1 = 0 then (some ((-1), A2)) else (if k_isO A2 v0 8 then (k_bd (fX8_isHall A2 v0 v2) fun r6 A7 => if r6 = 0 then (some ((-1), A7)) else (if 0 ≤ v3 then (if k_isO A7 v0 8 then (if k_isA A7 (k_rd A7 v0 2) 24 v1 then (if k_isO A7 (k_rd A7 (k_rd A7 v0 2) v1) 4 then (if k_isO A7 (k_rd A7 (k_rd A7 (k_rd A7 v0 2) v1) 0) 0 then (if (k_rd A7 (k_rd A7 (k_rd A7 (k_rd A7 v0 2) v1) 0) 1) ≤ v3 then (some ((-1), A7)) else (if k_isA A7 (k_rd A7 v0 1) 23 v2 then (if k_isO A7 (k_rd A7 (k_rd A7 v0 1) v2) 1 then (if k_isO A7 (k_rd A7 v0 3) 3 then (k_bd (fX3_canPlug A7 (k_rd A7 v0 3) (k_rd A7 (k_rd A7 (k_rd A7 v0 2) v1) 0) (k_rd A7 (k_rd A7 (k_rd A7 v0 1) v2) 0)) fun r19 A20 => if r19 = 0 then (some ((-1), A20)) else (if k_isO A20 v0 8 then (if k_isO A20 (k_rd A20 v0 3) 3 then (k_bd (fX3_circuitOf A20 (k_rd A20 v0 3) v3) fun r25 A26 => some (r25, A26)) else none) else none)) else none) else none) else none)) else none) else none) else none) else none) else (some ((-1), A7)))) else none)) else none
def fX8_plugged (A : k_H) (x0 x1 x2 x3 : Int) : Option (Int × k_H) := fX8_plugged_b0 A x0 x1 x2 x3
set_option maxRecDepth 100000 in
theorem okX8_plugged_b0 (A : k_H) (v0 v1 v2 v3 : Int) (r : Int) (A' : k_H) (h : fX8_plugged_b0 A v0 v1 v2 v3 = some (r, A')) : k_AW 17 mX8_plugged 0 [(1, v0), (0, v1), (0, v2), (0, v3)] [] A r A' := by
  unfold fX8_plugged_b0 at h
  refine k_aload_n (pc := 0) (x := v0) dX8_plugged_0 rfl rfl ?_
  refine k_iload_n (pc := 1) (x := v1) dX8_plugged_1 rfl rfl ?_
  obtain ⟨hc4, h⟩ := k_pk h
  obtain ⟨r1, A2, hq3, h⟩ := k_pb h
  refine k_callV (pc := 2) (ci := 8) (a := v0) (as := [(0, v1)]) (st := []) (st1 := [(0, r1)]) dX8_plugged_2 cbX8_isShow (k_gt 412 (by decide +kernel) (by decide +kernel)) cvX8_isShow.1 cvX8_isShow.2 rfl (by decide) hc4 (by omega) rfl (Nat.le_of_ble_eq_true rfl) (okX8_isShow hq3) rfl ?_
  refine k_if_eq (pc := 5) (tgt := 36) dX8_plugged_5 rfl (fun c5 => ?_) (fun c5 => ?_)
  · rw [if_pos c5] at h
    refine k_iconst (pc := 36) dX8_plugged_36 ⟨by decide, by decide⟩ ?_
    obtain ⟨rfl, rfl⟩ := k_pr h
    exact k_ret (pc := 37) dX8_plugged_37 rfl rfl rfl
  · rw [if_neg c5] at h
    refine k_aload_n (pc := 8) (x := v0) dX8_plugged_8 rfl rfl ?_
    refine k_iload_n (pc := 9) (x := v2) dX8_plugged_9 rfl rfl ?_
    obtain ⟨hc9, h⟩ := k_pk h
    obtain ⟨r6, A7, hq8, h⟩ := k_pb h
    refine k_callV (pc := 10) (ci := 8) (a := v0) (as := [(0, v2)]) (st := []) (st1 := [(0, r6)]) dX8_plugged_10 cbX8_isHall (k_gt 404 (by decide +kernel) (by decide +kernel)) cvX8_isHall.1 cvX8_isHall.2 rfl (by decide) hc9 (by omega) rfl (Nat.le_of_ble_eq_true rfl) (okX8_isHall hq8) rfl ?_
    refine k_if_eq (pc := 13) (tgt := 36) dX8_plugged_13 rfl (fun c10 => ?_) (fun c10 => ?_)
    · rw [if_pos c10] at h
      refine k_iconst (pc := 36) dX8_plugged_36 ⟨by decide, by decide⟩ ?_
      obtain ⟨rfl, rfl⟩ := k_pr h
      exact k_ret (pc := 37) dX8_plugged_37 rfl rfl rfl
    · rw [if_neg c10] at h
      refine k_iload_n (pc := 16) (x := v3) dX8_plugged_16 rfl rfl ?_
      refine k_if_lt (pc := 17) (tgt := 36) dX8_plugged_17 rfl (fun c11 => ?_) (fun c11 => ?_)
      · rw [if_neg (Int.not_le.mpr c11)] at h
        refine k_iconst (pc := 36) dX8_plugged_36 ⟨by decide, by decide⟩ ?_
        obtain ⟨rfl, rfl⟩ := k_pr h
        exact k_ret (pc := 37) dX8_plugged_37 rfl rfl rfl
      · rw [if_pos (Int.not_lt.mp c11)] at h
        refine k_iload_n (pc := 20) (x := v3) dX8_plugged_20 rfl rfl ?_
        refine k_aload_n (pc := 21) (x := v0) dX8_plugged_21 rfl rfl ?_
        obtain ⟨hc12, h⟩ := k_pk h
        refine k_getf (pc := 22) (t := 1) (fi := 2) dX8_plugged_22 flX8_24 rfl rfl hc12 ?_
        refine k_iload_n (pc := 25) (x := v1) dX8_plugged_25 rfl rfl ?_
        obtain ⟨hc13, h⟩ := k_pk h
        refine k_aaload (pc := 26) (K := 24) dX8_plugged_26 (by decide) hc13 ?_
        obtain ⟨hc14, h⟩ := k_pk h
        refine k_getf (pc := 27) (t := 1) (fi := 0) dX8_plugged_27 flX8_116 rfl rfl hc14 ?_
        obtain ⟨hc15, h⟩ := k_pk h
        refine k_getf (pc := 30) (t := 0) (fi := 1) dX8_plugged_30 flX8_120 rfl rfl hc15 ?_
        refine k_icmp_lt (pc := 33) (tgt := 38) dX8_plugged_33 rfl (fun c16 => ?_) (fun c16 => ?_)
        · rw [if_neg (Int.not_le.mpr c16)] at h
          refine k_aload_n (pc := 38) (x := v0) dX8_plugged_38 rfl rfl ?_
          refine k_getf (pc := 39) (t := 1) (fi := 3) dX8_plugged_39 flX8_31 rfl rfl hc12 ?_
          refine k_aload_n (pc := 42) (x := v0) dX8_plugged_42 rfl rfl ?_
          refine k_getf (pc := 43) (t := 1) (fi := 2) dX8_plugged_43 flX8_24 rfl rfl hc12 ?_
          refine k_iload_n (pc := 46) (x := v1) dX8_plugged_46 rfl rfl ?_
          refine k_aaload (pc := 47) (K := 24) dX8_plugged_47 (by decide) hc13 ?_
          refine k_getf (pc := 48) (t := 1) (fi := 0) dX8_plugged_48 flX8_116 rfl rfl hc14 ?_
          refine k_aload_n (pc := 51) (x := v0) dX8_plugged_51 rfl rfl ?_
          refine k_getf (pc := 52) (t := 1) (fi := 1) dX8_plugged_52 flX8_18 rfl rfl hc12 ?_
          refine k_iload_n (pc := 55) (x := v2) dX8_plugged_55 rfl rfl ?_
          obtain ⟨hc17, h⟩ := k_pk h
          refine k_aaload (pc := 56) (K := 23) dX8_plugged_56 (by decide) hc17 ?_
          obtain ⟨hc18, h⟩ := k_pk h
          refine k_getf (pc := 57) (t := 1) (fi := 0) dX8_plugged_57 flX8_125 rfl rfl hc18 ?_
          obtain ⟨hc22, h⟩ := k_pk h
          obtain ⟨r19, A20, hq21, h⟩ := k_pb h
          refine k_callV (pc := 60) (ci := 3) (a := (k_rd A7 v0 3)) (as := [(1, (k_rd A7 (k_rd A7 (k_rd A7 v0 2) v1) 0)), (1, (k_rd A7 (k_rd A7 (k_rd A7 v0 1) v2) 0))]) (st := []) (st1 := [(0, r19)]) dX8_plugged_60 cbX3_canPlug (k_gt 428 (by decide +kernel) (by decide +kernel)) cvX3_canPlug.1 cvX3_canPlug.2 rfl (by decide) hc22 (by omega) rfl (Nat.le_of_ble_eq_true rfl) (okX3_canPlug hq21) rfl ?_
          refine k_if_ne (pc := 63) (tgt := 68) dX8_plugged_63 rfl (fun c23 => ?_) (fun c23 => ?_)
          · rw [if_neg c23] at h
            refine k_aload_n (pc := 68) (x := v0) dX8_plugged_68 rfl rfl ?_
            obtain ⟨hc24, h⟩ := k_pk h
            refine k_getf (pc := 69) (t := 1) (fi := 3) dX8_plugged_69 flX8_31 rfl rfl hc24 ?_
            refine k_iload_n (pc := 72) (x := v3) dX8_plugged_72 rfl rfl ?_
            obtain ⟨hc28, h⟩ := k_pk h
            obtain ⟨r25, A26, hq27, h⟩ := k_pb h
            refine k_callV (pc := 73) (ci := 3) (a := (k_rd A20 v0 3)) (as := [(0, v3)]) (st := []) (st1 := [(0, r25)]) dX8_plugged_73 cbX3_circuitOf (k_gt 461 (by decide +kernel) (by decide +kernel)) cvX3_circuitOf.1 cvX3_circuitOf.2 rfl (by decide) hc28 (by omega) rfl (Nat.le_of_ble_eq_true rfl) (okX3_circuitOf hq27) rfl ?_
            obtain ⟨rfl, rfl⟩ := k_pr h
            exact k_ret (pc := 76) dX8_plugged_76 rfl rfl rfl
          · rw [if_pos (Classical.not_not.mp c23)] at h
            refine k_iconst (pc := 66) dX8_plugged_66 ⟨by decide, by decide⟩ ?_
            obtain ⟨rfl, rfl⟩ := k_pr h
            exact k_ret (pc := 67) dX8_plugged_67 rfl rfl rfl
        · rw [if_pos (Int.not_lt.mp c16)] at h
          refine k_iconst (pc := 36) dX8_plugged_36 ⟨by decide, by decide⟩ ?_
          obtain ⟨rfl, rfl⟩ := k_pr h
          exact k_ret (pc := 37) dX8_plugged_37 rfl rfl rfl
theorem okX8_plugged {A : k_H} {x0 x1 x2 x3 : Int} {r : Int} {A1 : k_H} (h : fX8_plugged A x0 x1 x2 x3 = some (r, A1)) : k_AM 17 mX8_plugged [(1, x0), (0, x1), (0, x2), (0, x3)] A r A1 :=
  k_AM_of2 (ls := [(1, x0), (0, x1), (0, x2), (0, x3)]) (Or.inl (by decide +kernel)) (by decide +kernel) (by decide) rfl (Nat.le_of_ble_eq_true rfl) ⟨Or.inr rfl, Or.inr rfl, Or.inr rfl, Or.inr rfl, trivial⟩ (okX8_plugged_b0 A x0 x1 x2 x3 r A1 h)
/-! X8_lacks -/
def fX8_lacks_b0 (A : k_H) (v0 v1 v2 : Int) : Option (Int × k_H) := if k_isO A v0 8 then (k_bd (fX8_isShow A v0 v1) fun r1 A2 => if r1 = 0 then (some ((-1), A2)) else (if k_isO A2 v0 8 then (k_bd (fX8_isHall A2 v0 v2) fun r6 A7 => if r6 = 0 then (some ((-1), A7)) else (if k_isO A7 v0 8 then (if k_isA A7 (k_rd A7 v0 2) 24 v1 then (if k_isO A7 (k_rd A7 (k_rd A7 v0 2) v1) 4 then (if k_isA A7 (k_rd A7 v0 1) 23 v2 then (if k_isO A7 (k_rd A7 (k_rd A7 v0 1) v2) 1 then (if k_isO A7 (k_rd A7 v0 3) 3 then (k_bd (fX3_leastLack A7 (k_rd A7 v0 3) (k_rd A7 (k_rd A7 (k_rd A7 v0 2) v1) 0) (k_rd A7 (k_rd A7 (k_rd A7 v0 1) v2) 0)) fun r16 A17 => some (r16, A17)) else none) else none) else none) else none) else none) else none)) else none)) else none
def fX8_lacks (A : k_H) (x0 x1 x2 : Int) : Option (Int × k_H) := fX8_lacks_b0 A x0 x1 x2
set_option maxRecDepth 100000 in
theorem okX8_lacks_b0 (A : k_H) (v0 v1 v2 : Int) (r : Int) (A' : k_H) (h : fX8_lacks_b0 A v0 v1 v2 = some (r, A')) : k_AW 17 mX8_lacks 0 [(1, v0), (0, v1), (0, v2)] [] A r A' := by
  unfold fX8_lacks_b0 at h
  refine k_aload_n (pc := 0) (x := v0) dX8_lacks_0 rfl rfl ?_
  refine k_iload_n (pc := 1) (x := v1) dX8_lacks_1 rfl rfl ?_
  obtain ⟨hc4, h⟩ := k_pk h
  obtain ⟨r1, A2, hq3, h⟩ := k_pb h
  refine k_callV (pc := 2) (ci := 8) (a := v0) (as := [(0, v1)]) (st := []) (st1 := [(0, r1)]) dX8_lacks_2 cbX8_isShow (k_gt 412 (by decide +kernel) (by decide +kernel)) cvX8_isShow.1 cvX8_isShow.2 rfl (by decide) hc4 (by omega) rfl (Nat.le_of_ble_eq_true rfl) (okX8_isShow hq3) rfl ?_
  refine k_if_eq (pc := 5) (tgt := 16) dX8_lacks_5 rfl (fun c5 => ?_) (fun c5 => ?_)
  · rw [if_pos c5] at h
    refine k_iconst (pc := 16) dX8_lacks_16 ⟨by decide, by decide⟩ ?_
    obtain ⟨rfl, rfl⟩ := k_pr h
    exact k_ret (pc := 17) dX8_lacks_17 rfl rfl rfl
  · rw [if_neg c5] at h
    refine k_aload_n (pc := 8) (x := v0) dX8_lacks_8 rfl rfl ?_
    refine k_iload_n (pc := 9) (x := v2) dX8_lacks_9 rfl rfl ?_
    obtain ⟨hc9, h⟩ := k_pk h
    obtain ⟨r6, A7, hq8, h⟩ := k_pb h
    refine k_callV (pc := 10) (ci := 8) (a := v0) (as := [(0, v2)]) (st := []) (st1 := [(0, r6)]) dX8_lacks_10 cbX8_isHall (k_gt 404 (by decide +kernel) (by decide +kernel)) cvX8_isHall.1 cvX8_isHall.2 rfl (by decide) hc9 (by omega) rfl (Nat.le_of_ble_eq_true rfl) (okX8_isHall hq8) rfl ?_
    refine k_if_ne (pc := 13) (tgt := 18) dX8_lacks_13 rfl (fun c10 => ?_) (fun c10 => ?_)
    · rw [if_neg c10] at h
      refine k_aload_n (pc := 18) (x := v0) dX8_lacks_18 rfl rfl ?_
      obtain ⟨hc11, h⟩ := k_pk h
      refine k_getf (pc := 19) (t := 1) (fi := 3) dX8_lacks_19 flX8_31 rfl rfl hc11 ?_
      refine k_aload_n (pc := 22) (x := v0) dX8_lacks_22 rfl rfl ?_
      refine k_getf (pc := 23) (t := 1) (fi := 2) dX8_lacks_23 flX8_24 rfl rfl hc11 ?_
      refine k_iload_n (pc := 26) (x := v1) dX8_lacks_26 rfl rfl ?_
      obtain ⟨hc12, h⟩ := k_pk h
      refine k_aaload (pc := 27) (K := 24) dX8_lacks_27 (by decide) hc12 ?_
      obtain ⟨hc13, h⟩ := k_pk h
      refine k_getf (pc := 28) (t := 1) (fi := 0) dX8_lacks_28 flX8_116 rfl rfl hc13 ?_
      refine k_aload_n (pc := 31) (x := v0) dX8_lacks_31 rfl rfl ?_
      refine k_getf (pc := 32) (t := 1) (fi := 1) dX8_lacks_32 flX8_18 rfl rfl hc11 ?_
      refine k_iload_n (pc := 35) (x := v2) dX8_lacks_35 rfl rfl ?_
      obtain ⟨hc14, h⟩ := k_pk h
      refine k_aaload (pc := 36) (K := 23) dX8_lacks_36 (by decide) hc14 ?_
      obtain ⟨hc15, h⟩ := k_pk h
      refine k_getf (pc := 37) (t := 1) (fi := 0) dX8_lacks_37 flX8_125 rfl rfl hc15 ?_
      obtain ⟨hc19, h⟩ := k_pk h
      obtain ⟨r16, A17, hq18, h⟩ := k_pb h
      refine k_callV (pc := 40) (ci := 3) (a := (k_rd A7 v0 3)) (as := [(1, (k_rd A7 (k_rd A7 (k_rd A7 v0 2) v1) 0)), (1, (k_rd A7 (k_rd A7 (k_rd A7 v0 1) v2) 0))]) (st := []) (st1 := [(0, r16)]) dX8_lacks_40 cbX3_leastLack (k_gt 469 (by decide +kernel) (by decide +kernel)) cvX3_leastLack.1 cvX3_leastLack.2 rfl (by decide) hc19 (by omega) rfl (Nat.le_of_ble_eq_true rfl) (okX3_leastLack hq18) rfl ?_
      obtain ⟨rfl, rfl⟩ := k_pr h
      exact k_ret (pc := 43) dX8_lacks_43 rfl rfl rfl
    · rw [if_pos (Classical.not_not.mp c10)] at h
      refine k_iconst (pc := 16) dX8_lacks_16 ⟨by decide, by decide⟩ ?_
      obtain ⟨rfl, rfl⟩ := k_pr h
      exact k_ret (pc := 17) dX8_lacks_17 rfl rfl rfl
theorem okX8_lacks {A : k_H} {x0 x1 x2 : Int} {r : Int} {A1 : k_H} (h : fX8_lacks A x0 x1 x2 = some (r, A1)) : k_AM 17 mX8_lacks [(1, x0), (0, x1), (0, x2)] A r A1 :=
  k_AM_of2 (ls := [(1, x0), (0, x1), (0, x2)]) (Or.inl (by decide +kernel)) (by decide +kernel) (by decide) rfl (Nat.le_of_ble_eq_true rfl) ⟨Or.inr rfl, Or.inr rfl, Or.inr rfl, trivial⟩ (okX8_lacks_b0 A x0 x1 x2 r A1 h)
/-! X8_snow -/
def fX8_snow_h63 : Nat → k_H → Int → Int → Int → Int → Option (Int × k_H)
  | 0, _, _, _, _, _ => none
  | N + 1, A, v0, v1, v3, v4 => if k_isO A v0 8 then (if k_isA A (k_rd A v0 2) 24 v3 then (if k_isO A (k_rd A (k_rd A v0 2) v3) 4 then (if v4 ≤ (k_rd A (k_rd A (k_rd A v0 2) v3) 7) then (k_bd (fX8_canMove A v0 (k_rd A (k_rd A v0 2) v3) v1 v4) fun r5 A6 => if r5 = 0 then ((fX8_snow_h63 N) A6 v0 v1 v3 (k_wr (v4 + 1))) else (if k_isO A6 v0 8 then (if k_isA A6 (k_rd A6 v0 2) 24 v3 then (if k_isO A6 (k_rd A6 (k_rd A6 v0 2) v3) 4 then (if k_isA A6 (k_rd A6 (k_rd A6 (k_rd A6 v0 2) v3) 1) 21 v4 then (k_lt (k_wt A6 (k_rd A6 (k_rd A6 (k_rd A6 v0 2) v3) 1) v4 v1) fun A13 => some (v4, A13)) else none) else none) else none) else none)) else (some ((-2), A))) else none) else none) else none
def fX8_snow_b0 (A : k_H) (v0 v1 v2 : Int) : Option (Int × k_H) := if k_isO A v0 8 then (k_bd (fX8_isHall A v0 v1) fun r1 A2 => if r1 = 0 then (some ((-1), A2)) else (k_bd (fX8_isNight A2 v2) fun r6 A7 => if r6 = 0 then (some ((-1), A7)) else (if k_isO A7 v0 8 then (k_bd (fX8_showAt A7 v0 v1 v2) fun r10 A11 => if k_isO A11 v0 8 then (k_bd (fX8_isShow A11 v0 r10) fun r14 A15 => if r14 = 0 then (some ((-1), A15)) else (if k_isO A15 v0 8 then (if k_isA A15 (k_rd A15 v0 2) 24 r10 then (if k_isO A15 (k_rd A15 (k_rd A15 v0 2) r10) 4 then (if k_isA A15 (k_rd A15 (k_rd A15 (k_rd A15 v0 2) r10) 1) 21 v2 then (k_lt (k_wt A15 (k_rd A15 (k_rd A15 (k_rd A15 v0 2) r10) 1) v2 (-1)) fun A23 => if k_isA A23 (k_rd A23 v0 2) 24 r10 then (if k_isO A23 (k_rd A23 (k_rd A23 v0 2) r10) 4 then (if k_isA A23 (k_rd A23 (k_rd A23 (k_rd A23 v0 2) r10) 2) 21 v2 then (k_lt (k_wt A23 (k_rd A23 (k_rd A23 (k_rd A23 v0 2) r10) 2) v2 (-1)) fun A29 => fX8_snow_h63 k_FU A29 v0 v1 r10 (k_wr (v2 + 1))) else none) else none) else none) else none) else none) else none) else none)) else none) else none))) else none
def fX8_snow (A : k_H) (x0 x1 x2 : Int) : Option (Int × k_H) := fX8_snow_b0 A x0 x1 x2
set_option maxRecDepth 100000 in
theorem okX8_snow_h63 : ∀ (N : Nat) (A : k_H) (v0 v1 v3 v4 : Int) (r : Int) (A' : k_H), fX8_snow_h63 N A v0 v1 v3 v4 = some (r, A') → k_AW 5 mX8_snow 63 [(1, v0), (0, v1), (3, 0), (0, v3), (0, v4)] [] A r A' := by
  intro N
  induction N with
  | zero => intro A v0 v1 v3 v4 r A' h; exact absurd h (by simp [fX8_snow_h63])
  | succ N ih =>
    intro A v0 v1 v3 v4 r A' h
    rw [fX8_snow_h63] at h
    refine k_iload (pc := 63) (x := v4) dX8_snow_63 rfl ?_
    refine k_aload_n (pc := 65) (x := v0) dX8_snow_65 rfl rfl ?_
    obtain ⟨hc1, h⟩ := k_pk h
    refine k_getf (pc := 66) (t := 1) (fi := 2) dX8_snow_66 flX8_24 rfl rfl hc1 ?_
    refine k_iload_n (pc := 69) (x := v3) dX8_snow_69 rfl rfl ?_
    obtain ⟨hc2, h⟩ := k_pk h
    refine k_aaload (pc := 70) (K := 24) dX8_snow_70 (by decide) hc2 ?_
    obtain ⟨hc3, h⟩ := k_pk h
    refine k_getf (pc := 71) (t := 0) (fi := 7) dX8_snow_71 flX8_173 rfl rfl hc3 ?_
    refine k_icmp_gt (pc := 74) (tgt := 115) dX8_snow_74 rfl (fun c4 => ?_) (fun c4 => ?_)
    · rw [if_neg (Int.not_le.mpr c4)] at h
      refine k_bipush (pc := 115) dX8_snow_115 ⟨by decide, by decide⟩ (by decide +kernel) ?_
      obtain ⟨rfl, rfl⟩ := k_pr h
      exact k_ret (pc := 117) dX8_snow_117 rfl rfl rfl
    · rw [if_pos (Int.not_lt.mp c4)] at h
      refine k_aload_n (pc := 77) (x := v0) dX8_snow_77 rfl rfl ?_
      refine k_aload_n (pc := 78) (x := v0) dX8_snow_78 rfl rfl ?_
      refine k_getf (pc := 79) (t := 1) (fi := 2) dX8_snow_79 flX8_24 rfl rfl hc1 ?_
      refine k_iload_n (pc := 82) (x := v3) dX8_snow_82 rfl rfl ?_
      refine k_aaload (pc := 83) (K := 24) dX8_snow_83 (by decide) hc2 ?_
      refine k_iload_n (pc := 84) (x := v1) dX8_snow_84 rfl rfl ?_
      refine k_iload (pc := 85) (x := v4) dX8_snow_85 rfl ?_
      obtain ⟨r5, A6, hq7, h⟩ := k_pb h
      refine k_callV (pc := 87) (ci := 8) (a := v0) (as := [(1, (k_rd A (k_rd A v0 2) v3)), (0, v1), (0, v4)]) (st := []) (st1 := [(0, r5)]) dX8_snow_87 cbX8_canMove (k_gt 576 (by decide +kernel) (by decide +kernel)) cvX8_canMove.1 cvX8_canMove.2 rfl (by decide) hc1 (by omega) rfl (Nat.le_of_ble_eq_true rfl) (okX8_canMove hq7) rfl ?_
      refine k_if_eq (pc := 90) (tgt := 109) dX8_snow_90 rfl (fun c8 => ?_) (fun c8 => ?_)
      · rw [if_pos c8] at h
        refine k_iinc (pc := 109) (x := v4) dX8_snow_109 (Nat.le_of_ble_eq_true rfl) rfl rfl ?_
        show k_AW _ _ _ [(1, v0), (0, v1), (3, 0), (0, v3), (0, k_wr (v4 + 1))] _ _ _ _
        refine k_goto (pc := 112) (tgt := 63) dX8_snow_112 rfl ?_
        refine k_sub (ls' := [(1, v0), (0, v1), (3, 0), (0, v3), (0, k_wr (v4 + 1))]) (k_sbl_ok _ _ ⟨Or.inr rfl, Or.inr rfl, Or.inl rfl, Or.inr rfl, Or.inr rfl, trivial⟩) ?_
        exact ih _ _ _ _ _ _ _ h
      · rw [if_neg c8] at h
        refine k_aload_n (pc := 93) (x := v0) dX8_snow_93 rfl rfl ?_
        obtain ⟨hc9, h⟩ := k_pk h
        refine k_getf (pc := 94) (t := 1) (fi := 2) dX8_snow_94 flX8_24 rfl rfl hc9 ?_
        refine k_iload_n (pc := 97) (x := v3) dX8_snow_97 rfl rfl ?_
        obtain ⟨hc10, h⟩ := k_pk h
        refine k_aaload (pc := 98) (K := 24) dX8_snow_98 (by decide) hc10 ?_
        obtain ⟨hc11, h⟩ := k_pk h
        refine k_getf (pc := 99) (t := 1) (fi := 1) dX8_snow_99 flX8_163 rfl rfl hc11 ?_
        refine k_iload (pc := 102) (x := v4) dX8_snow_102 rfl ?_
        refine k_iload_n (pc := 104) (x := v1) dX8_snow_104 rfl rfl ?_
        obtain ⟨hc12, h⟩ := k_pk h
        refine k_iastore (pc := 105) dX8_snow_105 hc12 ?_
        obtain ⟨A13, eA14, h⟩ := k_pl h
        refine k_hq eA14 ?_
        refine k_iload (pc := 106) (x := v4) dX8_snow_106 rfl ?_
        obtain ⟨rfl, rfl⟩ := k_pr h
        exact k_ret (pc := 108) dX8_snow_108 rfl rfl rfl
set_option maxRecDepth 100000 in
theorem okX8_snow_b0 (A : k_H) (v0 v1 v2 : Int) (r : Int) (A' : k_H) (h : fX8_snow_b0 A v0 v1 v2 = some (r, A')) : k_AW 5 mX8_snow 0 [(1, v0), (0, v1), (0, v2), (3, 0), (3, 0)] [] A r A' := by
  unfold fX8_snow_b0 at h
  refine k_aload_n (pc := 0) (x := v0) dX8_snow_0 rfl rfl ?_
  refine k_iload_n (pc := 1) (x := v1) dX8_snow_1 rfl rfl ?_
  obtain ⟨hc4, h⟩ := k_pk h
  obtain ⟨r1, A2, hq3, h⟩ := k_pb h
  refine k_callV (pc := 2) (ci := 8) (a := v0) (as := [(0, v1)]) (st := []) (st1 := [(0, r1)]) dX8_snow_2 cbX8_isHall (k_gt 404 (by decide +kernel) (by decide +kernel)) cvX8_isHall.1 cvX8_isHall.2 rfl (by decide) hc4 (by omega) rfl (Nat.le_of_ble_eq_true rfl) (okX8_isHall hq3) rfl ?_
  refine k_if_eq (pc := 5) (tgt := 15) dX8_snow_5 rfl (fun c5 => ?_) (fun c5 => ?_)
  · rw [if_pos c5] at h
    refine k_iconst (pc := 15) dX8_snow_15 ⟨by decide, by decide⟩ ?_
    obtain ⟨rfl, rfl⟩ := k_pr h
    exact k_ret (pc := 16) dX8_snow_16 rfl rfl rfl
  · rw [if_neg c5] at h
    refine k_iload_n (pc := 8) (x := v2) dX8_snow_8 rfl rfl ?_
    obtain ⟨r6, A7, hq8, h⟩ := k_pb h
    refine k_callS (pc := 9) (as := [(0, v2)]) (st := []) (st1 := [(0, r6)]) dX8_snow_9 cbX8_isNight (k_gt 388 (by decide +kernel) (by decide +kernel)) (k_gt 389 (by decide +kernel) (by decide +kernel)) (by omega) rfl (Nat.le_of_ble_eq_true rfl) (okX8_isNight hq8) rfl ?_
    refine k_if_ne (pc := 12) (tgt := 17) dX8_snow_12 rfl (fun c9 => ?_) (fun c9 => ?_)
    · rw [if_neg c9] at h
      refine k_aload_n (pc := 17) (x := v0) dX8_snow_17 rfl rfl ?_
      refine k_iload_n (pc := 18) (x := v1) dX8_snow_18 rfl rfl ?_
      refine k_iload_n (pc := 19) (x := v2) dX8_snow_19 rfl rfl ?_
      obtain ⟨hc13, h⟩ := k_pk h
      obtain ⟨r10, A11, hq12, h⟩ := k_pb h
      refine k_callV (pc := 20) (ci := 8) (a := v0) (as := [(0, v1), (0, v2)]) (st := []) (st1 := [(0, r10)]) dX8_snow_20 cbX8_showAt (k_gt 506 (by decide +kernel) (by decide +kernel)) cvX8_showAt.1 cvX8_showAt.2 rfl (by decide) hc13 (by omega) rfl (Nat.le_of_ble_eq_true rfl) (okX8_showAt hq12) rfl ?_
      refine k_istore_n (pc := 23) dX8_snow_23 rfl (Nat.le_of_ble_eq_true rfl) rfl ?_
      show k_AW _ _ _ [(1, v0), (0, v1), (0, v2), (0, r10), (3, 0)] _ _ _ _
      refine k_aload_n (pc := 24) (x := v0) dX8_snow_24 rfl rfl ?_
      refine k_iload_n (pc := 25) (x := r10) dX8_snow_25 rfl rfl ?_
      obtain ⟨hc17, h⟩ := k_pk h
      obtain ⟨r14, A15, hq16, h⟩ := k_pb h
      refine k_callV (pc := 26) (ci := 8) (a := v0) (as := [(0, r10)]) (st := []) (st1 := [(0, r14)]) dX8_snow_26 cbX8_isShow (k_gt 412 (by decide +kernel) (by decide +kernel)) cvX8_isShow.1 cvX8_isShow.2 rfl (by decide) hc17 (by omega) rfl (Nat.le_of_ble_eq_true rfl) (okX8_isShow hq16) rfl ?_
      refine k_if_ne (pc := 29) (tgt := 34) dX8_snow_29 rfl (fun c18 => ?_) (fun c18 => ?_)
      · rw [if_neg c18] at h
        refine k_aload_n (pc := 34) (x := v0) dX8_snow_34 rfl rfl ?_
        obtain ⟨hc19, h⟩ := k_pk h
        refine k_getf (pc := 35) (t := 1) (fi := 2) dX8_snow_35 flX8_24 rfl rfl hc19 ?_
        refine k_iload_n (pc := 38) (x := r10) dX8_snow_38 rfl rfl ?_
        obtain ⟨hc20, h⟩ := k_pk h
        refine k_aaload (pc := 39) (K := 24) dX8_snow_39 (by decide) hc20 ?_
        obtain ⟨hc21, h⟩ := k_pk h
        refine k_getf (pc := 40) (t := 1) (fi := 1) dX8_snow_40 flX8_163 rfl rfl hc21 ?_
        refine k_iload_n (pc := 43) (x := v2) dX8_snow_43 rfl rfl ?_
        refine k_iconst (pc := 44) dX8_snow_44 ⟨by decide, by decide⟩ ?_
        obtain ⟨hc22, h⟩ := k_pk h
        refine k_iastore (pc := 45) dX8_snow_45 hc22 ?_
        obtain ⟨A23, eA24, h⟩ := k_pl h
        refine k_hq eA24 ?_
        refine k_aload_n (pc := 46) (x := v0) dX8_snow_46 rfl rfl ?_
        have hf25 := k_oW eA24 hc19
        refine k_getf (pc := 47) (t := 1) (fi := 2) dX8_snow_47 flX8_24 rfl rfl hf25 ?_
        refine k_iload_n (pc := 50) (x := r10) dX8_snow_50 rfl rfl ?_
        obtain ⟨hc26, h⟩ := k_pk h
        refine k_aaload (pc := 51) (K := 24) dX8_snow_51 (by decide) hc26 ?_
        obtain ⟨hc27, h⟩ := k_pk h
        refine k_getf (pc := 52) (t := 1) (fi := 2) dX8_snow_52 flX8_170 rfl rfl hc27 ?_
        refine k_iload_n (pc := 55) (x := v2) dX8_snow_55 rfl rfl ?_
        refine k_iconst (pc := 56) dX8_snow_56 ⟨by decide, by decide⟩ ?_
        obtain ⟨hc28, h⟩ := k_pk h
        refine k_iastore (pc := 57) dX8_snow_57 hc28 ?_
        obtain ⟨A29, eA30, h⟩ := k_pl h
        refine k_hq eA30 ?_
        refine k_iload_n (pc := 58) (x := v2) dX8_snow_58 rfl rfl ?_
        refine k_iconst (pc := 59) dX8_snow_59 ⟨by decide, by decide⟩ ?_
        refine k_iadd (pc := 60) dX8_snow_60 ?_
        refine k_istore (pc := 61) dX8_snow_61 (Nat.le_of_ble_eq_true rfl) rfl ?_
        show k_AW _ _ _ [(1, v0), (0, v1), (0, v2), (0, r10), (0, k_wr (v2 + 1))] _ _ _ _
        refine k_sub (ls' := [(1, v0), (0, v1), (3, 0), (0, r10), (0, k_wr (v2 + 1))]) (k_sbl_ok _ _ ⟨Or.inr rfl, Or.inr rfl, Or.inl rfl, Or.inr rfl, Or.inr rfl, trivial⟩) ?_
        exact okX8_snow_h63  _ _ _ _ _ _ _ _ h
      · rw [if_pos (Classical.not_not.mp c18)] at h
        refine k_iconst (pc := 32) dX8_snow_32 ⟨by decide, by decide⟩ ?_
        obtain ⟨rfl, rfl⟩ := k_pr h
        exact k_ret (pc := 33) dX8_snow_33 rfl rfl rfl
    · rw [if_pos (Classical.not_not.mp c9)] at h
      refine k_iconst (pc := 15) dX8_snow_15 ⟨by decide, by decide⟩ ?_
      obtain ⟨rfl, rfl⟩ := k_pr h
      exact k_ret (pc := 16) dX8_snow_16 rfl rfl rfl
theorem okX8_snow {A : k_H} {x0 x1 x2 : Int} {r : Int} {A1 : k_H} (h : fX8_snow A x0 x1 x2 = some (r, A1)) : k_AM 5 mX8_snow [(1, x0), (0, x1), (0, x2)] A r A1 :=
  k_AM_of2 (ls := [(1, x0), (0, x1), (0, x2), (3, 0), (3, 0)]) (Or.inl (by decide +kernel)) (by decide +kernel) (by decide) rfl (Nat.le_of_ble_eq_true rfl) ⟨Or.inr rfl, Or.inr rfl, Or.inr rfl, rfl, rfl, trivial⟩ (okX8_snow_b0 A x0 x1 x2 r A1 h)
/-! X8_fitOf -/
def fX8_fitOf_b0 (A : k_H) (v0 v1 v2 : Int) : Option (Int × k_H) := if k_isO A v2 1 then (if k_isO A v1 4 then (if (k_rd A v2 4) < (k_rd A v1 4) then (some (0, A)) else (if (k_rd A v2 5) < (k_rd A v1 5) then (some ((-1), A)) else (if k_isO A v0 8 then (if k_isO A (k_rd A v0 3) 3 then (k_bd (fX3_canPlug A (k_rd A v0 3) (k_rd A v1 0) (k_rd A v2 0)) fun r6 A7 => if r6 = 0 then (some ((-2), A7)) else (some (1, A7))) else none) else none))) else none) else none
def fX8_fitOf (A : k_H) (x0 x1 x2 : Int) : Option (Int × k_H) := fX8_fitOf_b0 A x0 x1 x2
set_option maxRecDepth 100000 in
theorem okX8_fitOf_b0 (A : k_H) (v0 v1 v2 : Int) (r : Int) (A' : k_H) (h : fX8_fitOf_b0 A v0 v1 v2 = some (r, A')) : k_AW 17 mX8_fitOf 0 [(1, v0), (1, v1), (1, v2)] [] A r A' := by
  unfold fX8_fitOf_b0 at h
  refine k_aload_n (pc := 0) (x := v2) dX8_fitOf_0 rfl rfl ?_
  obtain ⟨hc1, h⟩ := k_pk h
  refine k_getf (pc := 1) (t := 0) (fi := 4) dX8_fitOf_1 flX8_225 rfl rfl hc1 ?_
  refine k_aload_n (pc := 4) (x := v1) dX8_fitOf_4 rfl rfl ?_
  obtain ⟨hc2, h⟩ := k_pk h
  refine k_getf (pc := 5) (t := 0) (fi := 4) dX8_fitOf_5 flX8_228 rfl rfl hc2 ?_
  refine k_icmp_ge (pc := 8) (tgt := 13) dX8_fitOf_8 rfl (fun c3 => ?_) (fun c3 => ?_)
  · rw [if_neg (Int.not_lt.mpr c3)] at h
    refine k_aload_n (pc := 13) (x := v2) dX8_fitOf_13 rfl rfl ?_
    refine k_getf (pc := 14) (t := 0) (fi := 5) dX8_fitOf_14 flX8_229 rfl rfl hc1 ?_
    refine k_aload_n (pc := 17) (x := v1) dX8_fitOf_17 rfl rfl ?_
    refine k_getf (pc := 18) (t := 0) (fi := 5) dX8_fitOf_18 flX8_232 rfl rfl hc2 ?_
    refine k_icmp_ge (pc := 21) (tgt := 26) dX8_fitOf_21 rfl (fun c4 => ?_) (fun c4 => ?_)
    · rw [if_neg (Int.not_lt.mpr c4)] at h
      refine k_aload_n (pc := 26) (x := v0) dX8_fitOf_26 rfl rfl ?_
      obtain ⟨hc5, h⟩ := k_pk h
      refine k_getf (pc := 27) (t := 1) (fi := 3) dX8_fitOf_27 flX8_31 rfl rfl hc5 ?_
      refine k_aload_n (pc := 30) (x := v1) dX8_fitOf_30 rfl rfl ?_
      refine k_getf (pc := 31) (t := 1) (fi := 0) dX8_fitOf_31 flX8_116 rfl rfl hc2 ?_
      refine k_aload_n (pc := 34) (x := v2) dX8_fitOf_34 rfl rfl ?_
      refine k_getf (pc := 35) (t := 1) (fi := 0) dX8_fitOf_35 flX8_125 rfl rfl hc1 ?_
      obtain ⟨hc9, h⟩ := k_pk h
      obtain ⟨r6, A7, hq8, h⟩ := k_pb h
      refine k_callV (pc := 38) (ci := 3) (a := (k_rd A v0 3)) (as := [(1, (k_rd A v1 0)), (1, (k_rd A v2 0))]) (st := []) (st1 := [(0, r6)]) dX8_fitOf_38 cbX3_canPlug (k_gt 428 (by decide +kernel) (by decide +kernel)) cvX3_canPlug.1 cvX3_canPlug.2 rfl (by decide) hc9 (by omega) rfl (Nat.le_of_ble_eq_true rfl) (okX3_canPlug hq8) rfl ?_
      refine k_if_eq (pc := 41) (tgt := 48) dX8_fitOf_41 rfl (fun c10 => ?_) (fun c10 => ?_)
      · rw [if_pos c10] at h
        refine k_bipush (pc := 48) dX8_fitOf_48 ⟨by decide, by decide⟩ (by decide +kernel) ?_
        obtain ⟨rfl, rfl⟩ := k_pr h
        exact k_ret (pc := 50) dX8_fitOf_50 rfl rfl rfl
      · rw [if_neg c10] at h
        refine k_iconst (pc := 44) dX8_fitOf_44 ⟨by decide, by decide⟩ ?_
        refine k_goto (pc := 45) (tgt := 50) dX8_fitOf_45 rfl ?_
        obtain ⟨rfl, rfl⟩ := k_pr h
        exact k_ret (pc := 50) dX8_fitOf_50 rfl rfl rfl
    · rw [if_pos (Int.not_le.mp c4)] at h
      refine k_iconst (pc := 24) dX8_fitOf_24 ⟨by decide, by decide⟩ ?_
      obtain ⟨rfl, rfl⟩ := k_pr h
      exact k_ret (pc := 25) dX8_fitOf_25 rfl rfl rfl
  · rw [if_pos (Int.not_le.mp c3)] at h
    refine k_iconst (pc := 11) dX8_fitOf_11 ⟨by decide, by decide⟩ ?_
    obtain ⟨rfl, rfl⟩ := k_pr h
    exact k_ret (pc := 12) dX8_fitOf_12 rfl rfl rfl
theorem okX8_fitOf {A : k_H} {x0 x1 x2 : Int} {r : Int} {A1 : k_H} (h : fX8_fitOf A x0 x1 x2 = some (r, A1)) : k_AM 17 mX8_fitOf [(1, x0), (1, x1), (1, x2)] A r A1 :=
  k_AM_of2 (ls := [(1, x0), (1, x1), (1, x2)]) (Or.inl (by decide +kernel)) (by decide +kernel) (by decide) rfl (Nat.le_of_ble_eq_true rfl) ⟨Or.inr rfl, Or.inr rfl, Or.inr rfl, trivial⟩ (okX8_fitOf_b0 A x0 x1 x2 r A1 h)
/-! X7_readFee -/
def fX7_readFee_b0 (A : k_H) (v0 : Int) : Option (Int × k_H) := if k_isO A v0 7 then (if (k_rd A v0 5) = 0 then (k_lt (k_wt A v0 5 1) fun A3 => k_bd (fX7_readNumber A3 v0 0 99999) fun r5 A6 => if r5 = 0 then (some (0, A6)) else (if k_isO A6 v0 7 then (if k_isO A6 (k_rd A6 v0 0) 6 then (k_lt (k_wt A6 (k_rd A6 v0 0) 3 (k_rd A6 v0 11)) fun A12 => k_bd (fX7_readStop A12 v0) fun r14 A15 => if r14 = 0 ∨ r14 = 1 then (some (r14, A15)) else none) else none) else none)) else (k_bd (fX7_refuse A v0 4) fun r19 A20 => if r19 = 0 ∨ r19 = 1 then (some (r19, A20)) else none)) else none
def fX7_readFee (A : k_H) (x0 : Int) : Option (Int × k_H) := fX7_readFee_b0 A x0
set_option maxRecDepth 100000 in
theorem okX7_readFee_b0 (A : k_H) (v0 : Int) (r : Int) (A' : k_H) (h : fX7_readFee_b0 A v0 = some (r, A')) : k_AW 5 mX7_readFee 0 [(1, v0)] [] A r A' := by
  unfold fX7_readFee_b0 at h
  refine k_aload_n (pc := 0) (x := v0) dX7_readFee_0 rfl rfl ?_
  obtain ⟨hc1, h⟩ := k_pk h
  refine k_getf (pc := 1) (t := 0) (fi := 5) dX7_readFee_1 flX7_55 rfl rfl hc1 ?_
  refine k_if_eq (pc := 4) (tgt := 13) dX7_readFee_4 rfl (fun c2 => ?_) (fun c2 => ?_)
  · rw [if_pos c2] at h
    refine k_aload_n (pc := 13) (x := v0) dX7_readFee_13 rfl rfl ?_
    refine k_iconst (pc := 14) dX7_readFee_14 ⟨by decide, by decide⟩ ?_
    refine k_putf (pc := 15) (t := 0) (fi := 5) dX7_readFee_15 flX7_55 rfl rfl hc1 ⟨rfl, Or.inr rfl⟩ ?_
    obtain ⟨A3, eA4, h⟩ := k_pl h
    refine k_hq eA4 ?_
    refine k_aload_n (pc := 18) (x := v0) dX7_readFee_18 rfl rfl ?_
    refine k_iconst (pc := 19) dX7_readFee_19 ⟨by decide, by decide⟩ ?_
    refine k_ldci (pc := 20) (n := 99999) dX7_readFee_20 (k_gt 693 (by decide +kernel) (by decide +kernel)) ⟨by decide, by decide⟩ ?_
    have hf8 := k_oW eA4 hc1
    obtain ⟨r5, A6, hq7, h⟩ := k_pb h
    refine k_callV (pc := 22) (ci := 7) (a := v0) (as := [(0, 0), (0, 99999)]) (st := []) (st1 := [(0, r5)]) dX7_readFee_22 cbX7_readNumber (k_gt 694 (by decide +kernel) (by decide +kernel)) cvX7_readNumber.1 cvX7_readNumber.2 rfl (by decide) hf8 (by omega) rfl (Nat.le_of_ble_eq_true rfl) (okX7_readNumber hq7) rfl ?_
    refine k_if_ne (pc := 25) (tgt := 30) dX7_readFee_25 rfl (fun c9 => ?_) (fun c9 => ?_)
    · rw [if_neg c9] at h
      refine k_aload_n (pc := 30) (x := v0) dX7_readFee_30 rfl rfl ?_
      obtain ⟨hc10, h⟩ := k_pk h
      refine k_getf (pc := 31) (t := 1) (fi := 0) dX7_readFee_31 flX7_12 rfl rfl hc10 ?_
      refine k_aload_n (pc := 34) (x := v0) dX7_readFee_34 rfl rfl ?_
      refine k_getf (pc := 35) (t := 0) (fi := 11) dX7_readFee_35 flX7_104 rfl rfl hc10 ?_
      obtain ⟨hc11, h⟩ := k_pk h
      refine k_putf (pc := 38) (t := 0) (fi := 3) dX7_readFee_38 flX7_107 rfl rfl hc11 rfl ?_
      obtain ⟨A12, eA13, h⟩ := k_pl h
      refine k_hq eA13 ?_
      refine k_aload_n (pc := 41) (x := v0) dX7_readFee_41 rfl rfl ?_
      have hf17 := k_oW eA13 hc10
      obtain ⟨r14, A15, hq16, h⟩ := k_pb h
      refine k_callV (pc := 42) (ci := 7) (a := v0) (as := []) (st := []) (st1 := [(0, r14)]) dX7_readFee_42 cbX7_readStop (k_gt 703 (by decide +kernel) (by decide +kernel)) cvX7_readStop.1 cvX7_readStop.2 rfl (by decide) hf17 (by omega) rfl (Nat.le_of_ble_eq_true rfl) (okX7_readStop hq16) rfl ?_
      obtain ⟨hc18, h⟩ := k_pk h
      obtain ⟨rfl, rfl⟩ := k_pr h
      exact k_ret (pc := 45) dX7_readFee_45 rfl rfl (k_nz hc18)
    · rw [if_pos (Classical.not_not.mp c9)] at h
      refine k_iconst (pc := 28) dX7_readFee_28 ⟨by decide, by decide⟩ ?_
      obtain ⟨rfl, rfl⟩ := k_pr h
      exact k_ret (pc := 29) dX7_readFee_29 rfl rfl (by decide +kernel)
  · rw [if_neg c2] at h
    refine k_aload_n (pc := 7) (x := v0) dX7_readFee_7 rfl rfl ?_
    refine k_iconst (pc := 8) dX7_readFee_8 ⟨by decide, by decide⟩ ?_
    obtain ⟨r19, A20, hq21, h⟩ := k_pb h
    refine k_callV (pc := 9) (ci := 7) (a := v0) (as := [(0, 4)]) (st := []) (st1 := [(0, r19)]) dX7_readFee_9 cbX7_refuse (k_gt 689 (by decide +kernel) (by decide +kernel)) cvX7_refuse.1 cvX7_refuse.2 rfl (by decide) hc1 (by omega) rfl (Nat.le_of_ble_eq_true rfl) (okX7_refuse hq21) rfl ?_
    obtain ⟨hc22, h⟩ := k_pk h
    obtain ⟨rfl, rfl⟩ := k_pr h
    exact k_ret (pc := 12) dX7_readFee_12 rfl rfl (k_nz hc22)
theorem okX7_readFee {A : k_H} {x0 : Int} {r : Int} {A1 : k_H} (h : fX7_readFee A x0 = some (r, A1)) : k_AM 5 mX7_readFee [(1, x0)] A r A1 :=
  k_AM_of2 (ls := [(1, x0)]) (Or.inl (by decide +kernel)) (by decide +kernel) (by decide) rfl (Nat.le_of_ble_eq_true rfl) ⟨Or.inr rfl, trivial⟩ (okX7_readFee_b0 A x0 r A1 h)
/-! X7_isWord -/
def fX7_isWord_h28 : Nat → k_H → Int → Int → Int → Option (Int × k_H)
  | 0, _, _, _, _ => none
  | N + 1, A, v0, v1, v2 => if k_isS v1 then (k_bd (fJ0_length_8abf5 A v1) fun r1 A2 => if v2 < r1 then (if k_isO A2 v0 7 then (if k_isO A2 (k_rd A2 v0 4) 5 then (k_bd (fX5_byteAt A2 (k_rd A2 v0 4) (k_wr ((k_rd A2 v0 9) + v2))) fun r7 A8 => if k_isS v1 then (k_bd (fJ0_charAt_5068e A8 v1 v2) fun r11 A12 => if r7 = r11 then ((fX7_isWord_h28 N) A12 v0 v1 (k_wr (v2 + 1))) else (some (0, A12))) else none) else none) else none) else (some (1, A2))) else none
def fX7_isWord_b0 (A : k_H) (v0 v1 : Int) : Option (Int × k_H) := if k_isO A v0 7 then (if (k_rd A v0 10) = 1 then (if k_isS v1 then (k_bd (fJ0_length_8abf5 A v1) fun r3 A4 => if k_wr ((k_rd A v0 8) - (k_rd A v0 9)) = r3 then (fX7_isWord_h28 k_FU A4 v0 v1 0) else (some (0, A4))) else none) else (some (0, A))) else none
def fX7_isWord (A : k_H) (x0 x1 : Int) : Option (Int × k_H) := fX7_isWord_b0 A x0 x1
set_option maxRecDepth 100000 in
theorem okX7_isWord_h28 : ∀ (N : Nat) (A : k_H) (v0 v1 v2 : Int) (r : Int) (A' : k_H), fX7_isWord_h28 N A v0 v1 v2 = some (r, A') → k_AW 6 mX7_isWord 28 [(1, v0), (1, v1), (0, v2)] [] A r A' := by
  intro N
  induction N with
  | zero => intro A v0 v1 v2 r A' h; exact absurd h (by simp [fX7_isWord_h28])
  | succ N ih =>
    intro A v0 v1 v2 r A' h
    rw [fX7_isWord_h28] at h
    refine k_iload_n (pc := 28) (x := v2) dX7_isWord_28 rfl rfl ?_
    refine k_aload_n (pc := 29) (x := v1) dX7_isWord_29 rfl rfl ?_
    obtain ⟨hc4, h⟩ := k_pk h
    obtain ⟨r1, A2, hq3, h⟩ := k_pb h
    refine k_callT (pc := 30) (a := v1) (as := []) (st := [(0, v2)]) (st1 := [(0, r1), (0, v2)]) dX7_isWord_30 cbJ0_length_8abf5 (k_gt 637 (by decide +kernel) (by decide +kernel)) cvJ0_length_8abf5.1 cvJ0_length_8abf5.2 rfl hc4 (by omega) rfl (Nat.le_of_ble_eq_true rfl) (okJ0_length_8abf5 hq3) rfl ?_
    refine k_icmp_ge (pc := 33) (tgt := 65) dX7_isWord_33 rfl (fun c5 => ?_) (fun c5 => ?_)
    · rw [if_neg (Int.not_lt.mpr c5)] at h
      refine k_iconst (pc := 65) dX7_isWord_65 ⟨by decide, by decide⟩ ?_
      obtain ⟨rfl, rfl⟩ := k_pr h
      exact k_ret (pc := 66) dX7_isWord_66 rfl rfl (by decide +kernel)
    · rw [if_pos (Int.not_le.mp c5)] at h
      refine k_aload_n (pc := 36) (x := v0) dX7_isWord_36 rfl rfl ?_
      obtain ⟨hc6, h⟩ := k_pk h
      refine k_getf (pc := 37) (t := 1) (fi := 4) dX7_isWord_37 flX7_21 rfl rfl hc6 ?_
      refine k_aload_n (pc := 40) (x := v0) dX7_isWord_40 rfl rfl ?_
      refine k_getf (pc := 41) (t := 0) (fi := 9) dX7_isWord_41 flX7_142 rfl rfl hc6 ?_
      refine k_iload_n (pc := 44) (x := v2) dX7_isWord_44 rfl rfl ?_
      refine k_iadd (pc := 45) dX7_isWord_45 ?_
      obtain ⟨hc10, h⟩ := k_pk h
      obtain ⟨r7, A8, hq9, h⟩ := k_pb h
      refine k_callV (pc := 46) (ci := 5) (a := (k_rd A2 v0 4)) (as := [(0, k_wr ((k_rd A2 v0 9) + v2))]) (st := []) (st1 := [(0, r7)]) dX7_isWord_46 cbX5_byteAt (k_gt 614 (by decide +kernel) (by decide +kernel)) cvX5_byteAt.1 cvX5_byteAt.2 rfl (by decide) hc10 (by omega) rfl (Nat.le_of_ble_eq_true rfl) (okX5_byteAt hq9) rfl ?_
      refine k_aload_n (pc := 49) (x := v1) dX7_isWord_49 rfl rfl ?_
      refine k_iload_n (pc := 50) (x := v2) dX7_isWord_50 rfl rfl ?_
      obtain ⟨hc14, h⟩ := k_pk h
      obtain ⟨r11, A12, hq13, h⟩ := k_pb h
      refine k_callT (pc := 51) (a := v1) (as := [(0, v2)]) (st := [(0, r7)]) (st1 := [(0, r11), (0, r7)]) dX7_isWord_51 cbJ0_charAt_5068e (k_gt 647 (by decide +kernel) (by decide +kernel)) cvJ0_charAt_5068e.1 cvJ0_charAt_5068e.2 rfl hc14 (by omega) rfl (Nat.le_of_ble_eq_true rfl) (okJ0_charAt_5068e hq13) rfl ?_
      refine k_icmp_eq (pc := 54) (tgt := 59) dX7_isWord_54 rfl (fun c15 => ?_) (fun c15 => ?_)
      · rw [if_pos c15] at h
        refine k_iinc (pc := 59) (x := v2) dX7_isWord_59 (Nat.le_of_ble_eq_true rfl) rfl rfl ?_
        show k_AW _ _ _ [(1, v0), (1, v1), (0, k_wr (v2 + 1))] _ _ _ _
        refine k_goto (pc := 62) (tgt := 28) dX7_isWord_62 rfl ?_
        refine k_sub (ls' := [(1, v0), (1, v1), (0, k_wr (v2 + 1))]) (k_sbl_ok _ _ ⟨Or.inr rfl, Or.inr rfl, Or.inr rfl, trivial⟩) ?_
        exact ih _ _ _ _ _ _ h
      · rw [if_neg c15] at h
        refine k_iconst (pc := 57) dX7_isWord_57 ⟨by decide, by decide⟩ ?_
        obtain ⟨rfl, rfl⟩ := k_pr h
        exact k_ret (pc := 58) dX7_isWord_58 rfl rfl (by decide +kernel)
set_option maxRecDepth 100000 in
theorem okX7_isWord_b0 (A : k_H) (v0 v1 : Int) (r : Int) (A' : k_H) (h : fX7_isWord_b0 A v0 v1 = some (r, A')) : k_AW 6 mX7_isWord 0 [(1, v0), (1, v1), (3, 0)] [] A r A' := by
  unfold fX7_isWord_b0 at h
  refine k_aload_n (pc := 0) (x := v0) dX7_isWord_0 rfl rfl ?_
  obtain ⟨hc1, h⟩ := k_pk h
  refine k_getf (pc := 1) (t := 0) (fi := 10) dX7_isWord_1 flX7_32 rfl rfl hc1 ?_
  refine k_iconst (pc := 4) dX7_isWord_4 ⟨by decide, by decide⟩ ?_
  refine k_icmp_ne (pc := 5) (tgt := 24) dX7_isWord_5 rfl (fun c2 => ?_) (fun c2 => ?_)
  · rw [if_neg c2] at h
    refine k_iconst (pc := 24) dX7_isWord_24 ⟨by decide, by decide⟩ ?_
    obtain ⟨rfl, rfl⟩ := k_pr h
    exact k_ret (pc := 25) dX7_isWord_25 rfl rfl (by decide +kernel)
  · rw [if_pos (Classical.not_not.mp c2)] at h
    refine k_aload_n (pc := 8) (x := v0) dX7_isWord_8 rfl rfl ?_
    refine k_getf (pc := 9) (t := 0) (fi := 8) dX7_isWord_9 flX7_65 rfl rfl hc1 ?_
    refine k_aload_n (pc := 12) (x := v0) dX7_isWord_12 rfl rfl ?_
    refine k_getf (pc := 13) (t := 0) (fi := 9) dX7_isWord_13 flX7_142 rfl rfl hc1 ?_
    refine k_isub (pc := 16) dX7_isWord_16 ?_
    refine k_aload_n (pc := 17) (x := v1) dX7_isWord_17 rfl rfl ?_
    obtain ⟨hc6, h⟩ := k_pk h
    obtain ⟨r3, A4, hq5, h⟩ := k_pb h
    refine k_callT (pc := 18) (a := v1) (as := []) (st := [(0, k_wr ((k_rd A v0 8) - (k_rd A v0 9)))]) (st1 := [(0, r3), (0, k_wr ((k_rd A v0 8) - (k_rd A v0 9)))]) dX7_isWord_18 cbJ0_length_8abf5 (k_gt 637 (by decide +kernel) (by decide +kernel)) cvJ0_length_8abf5.1 cvJ0_length_8abf5.2 rfl hc6 (by omega) rfl (Nat.le_of_ble_eq_true rfl) (okJ0_length_8abf5 hq5) rfl ?_
    refine k_icmp_eq (pc := 21) (tgt := 26) dX7_isWord_21 rfl (fun c7 => ?_) (fun c7 => ?_)
    · rw [if_pos c7] at h
      refine k_iconst (pc := 26) dX7_isWord_26 ⟨by decide, by decide⟩ ?_
      refine k_istore_n (pc := 27) dX7_isWord_27 rfl (Nat.le_of_ble_eq_true rfl) rfl ?_
      show k_AW _ _ _ [(1, v0), (1, v1), (0, 0)] _ _ _ _
      refine k_sub (ls' := [(1, v0), (1, v1), (0, 0)]) (k_sbl_ok _ _ ⟨Or.inr rfl, Or.inr rfl, Or.inr rfl, trivial⟩) ?_
      exact okX7_isWord_h28  _ _ _ _ _ _ _ h
    · rw [if_neg c7] at h
      refine k_iconst (pc := 24) dX7_isWord_24 ⟨by decide, by decide⟩ ?_
      obtain ⟨rfl, rfl⟩ := k_pr h
      exact k_ret (pc := 25) dX7_isWord_25 rfl rfl (by decide +kernel)
theorem okX7_isWord {A : k_H} {x0 x1 : Int} {r : Int} {A1 : k_H} (h : fX7_isWord A x0 x1 = some (r, A1)) : k_AM 6 mX7_isWord [(1, x0), (1, x1)] A r A1 :=
  k_AM_of2 (ls := [(1, x0), (1, x1), (3, 0)]) (Or.inl (by decide +kernel)) (by decide +kernel) (by decide) rfl (Nat.le_of_ble_eq_true rfl) ⟨Or.inr rfl, Or.inr rfl, rfl, trivial⟩ (okX7_isWord_b0 A x0 x1 r A1 h)
/-! X8_fits -/
def fX8_fits_b0 (A : k_H) (v0 v1 v2 : Int) : Option (Int × k_H) := if k_isO A v0 8 then (k_bd (fX8_isShow A v0 v1) fun r1 A2 => if r1 = 0 then (some ((-3), A2)) else (if k_isO A2 v0 8 then (k_bd (fX8_isHall A2 v0 v2) fun r6 A7 => if r6 = 0 then (some ((-3), A7)) else (if k_isO A7 v0 8 then (if k_isA A7 (k_rd A7 v0 2) 24 v1 then (if k_isA A7 (k_rd A7 v0 1) 23 v2 then (k_bd (fX8_fitOf A7 v0 (k_rd A7 (k_rd A7 v0 2) v1) (k_rd A7 (k_rd A7 v0 1) v2)) fun r14 A15 => some (r14, A15)) else none) else none) else none)) else none)) else none
def fX8_fits (A : k_H) (x0 x1 x2 : Int) : Option (Int × k_H) := fX8_fits_b0 A x0 x1 x2
set_option maxRecDepth 100000 in
theorem okX8_fits_b0 (A : k_H) (v0 v1 v2 : Int) (r : Int) (A' : k_H) (h : fX8_fits_b0 A v0 v1 v2 = some (r, A')) : k_AW 18 mX8_fits 0 [(1, v0), (0, v1), (0, v2)] [] A r A' := by
  unfold fX8_fits_b0 at h
  refine k_aload_n (pc := 0) (x := v0) dX8_fits_0 rfl rfl ?_
  refine k_iload_n (pc := 1) (x := v1) dX8_fits_1 rfl rfl ?_
  obtain ⟨hc4, h⟩ := k_pk h
  obtain ⟨r1, A2, hq3, h⟩ := k_pb h
  refine k_callV (pc := 2) (ci := 8) (a := v0) (as := [(0, v1)]) (st := []) (st1 := [(0, r1)]) dX8_fits_2 cbX8_isShow (k_gt 412 (by decide +kernel) (by decide +kernel)) cvX8_isShow.1 cvX8_isShow.2 rfl (by decide) hc4 (by omega) rfl (Nat.le_of_ble_eq_true rfl) (okX8_isShow hq3) rfl ?_
  refine k_if_eq (pc := 5) (tgt := 16) dX8_fits_5 rfl (fun c5 => ?_) (fun c5 => ?_)
  · rw [if_pos c5] at h
    refine k_bipush (pc := 16) dX8_fits_16 ⟨by decide, by decide⟩ (by decide +kernel) ?_
    obtain ⟨rfl, rfl⟩ := k_pr h
    exact k_ret (pc := 18) dX8_fits_18 rfl rfl rfl
  · rw [if_neg c5] at h
    refine k_aload_n (pc := 8) (x := v0) dX8_fits_8 rfl rfl ?_
    refine k_iload_n (pc := 9) (x := v2) dX8_fits_9 rfl rfl ?_
    obtain ⟨hc9, h⟩ := k_pk h
    obtain ⟨r6, A7, hq8, h⟩ := k_pb h
    refine k_callV (pc := 10) (ci := 8) (a := v0) (as := [(0, v2)]) (st := []) (st1 := [(0, r6)]) dX8_fits_10 cbX8_isHall (k_gt 404 (by decide +kernel) (by decide +kernel)) cvX8_isHall.1 cvX8_isHall.2 rfl (by decide) hc9 (by omega) rfl (Nat.le_of_ble_eq_true rfl) (okX8_isHall hq8) rfl ?_
    refine k_if_ne (pc := 13) (tgt := 19) dX8_fits_13 rfl (fun c10 => ?_) (fun c10 => ?_)
    · rw [if_neg c10] at h
      refine k_aload_n (pc := 19) (x := v0) dX8_fits_19 rfl rfl ?_
      refine k_aload_n (pc := 20) (x := v0) dX8_fits_20 rfl rfl ?_
      obtain ⟨hc11, h⟩ := k_pk h
      refine k_getf (pc := 21) (t := 1) (fi := 2) dX8_fits_21 flX8_24 rfl rfl hc11 ?_
      refine k_iload_n (pc := 24) (x := v1) dX8_fits_24 rfl rfl ?_
      obtain ⟨hc12, h⟩ := k_pk h
      refine k_aaload (pc := 25) (K := 24) dX8_fits_25 (by decide) hc12 ?_
      refine k_aload_n (pc := 26) (x := v0) dX8_fits_26 rfl rfl ?_
      refine k_getf (pc := 27) (t := 1) (fi := 1) dX8_fits_27 flX8_18 rfl rfl hc11 ?_
      refine k_iload_n (pc := 30) (x := v2) dX8_fits_30 rfl rfl ?_
      obtain ⟨hc13, h⟩ := k_pk h
      refine k_aaload (pc := 31) (K := 23) dX8_fits_31 (by decide) hc13 ?_
      obtain ⟨r14, A15, hq16, h⟩ := k_pb h
      refine k_callV (pc := 32) (ci := 8) (a := v0) (as := [(1, (k_rd A7 (k_rd A7 v0 2) v1)), (1, (k_rd A7 (k_rd A7 v0 1) v2))]) (st := []) (st1 := [(0, r14)]) dX8_fits_32 cbX8_fitOf (k_gt 424 (by decide +kernel) (by decide +kernel)) cvX8_fitOf.1 cvX8_fitOf.2 rfl (by decide) hc11 (by omega) rfl (Nat.le_of_ble_eq_true rfl) (okX8_fitOf hq16) rfl ?_
      obtain ⟨rfl, rfl⟩ := k_pr h
      exact k_ret (pc := 35) dX8_fits_35 rfl rfl rfl
    · rw [if_pos (Classical.not_not.mp c10)] at h
      refine k_bipush (pc := 16) dX8_fits_16 ⟨by decide, by decide⟩ (by decide +kernel) ?_
      obtain ⟨rfl, rfl⟩ := k_pr h
      exact k_ret (pc := 18) dX8_fits_18 rfl rfl rfl
theorem okX8_fits {A : k_H} {x0 x1 x2 : Int} {r : Int} {A1 : k_H} (h : fX8_fits A x0 x1 x2 = some (r, A1)) : k_AM 18 mX8_fits [(1, x0), (0, x1), (0, x2)] A r A1 :=
  k_AM_of2 (ls := [(1, x0), (0, x1), (0, x2)]) (Or.inl (by decide +kernel)) (by decide +kernel) (by decide) rfl (Nat.le_of_ble_eq_true rfl) ⟨Or.inr rfl, Or.inr rfl, Or.inr rfl, trivial⟩ (okX8_fits_b0 A x0 x1 x2 r A1 h)
/-! X7_readLoss -/
def fX7_readLoss_b59 (A : k_H) (v0 : Int) : Option (Int × k_H) := if k_isO A v0 7 then (k_bd (fX7_readStop A v0) fun r1 A2 => if r1 = 0 ∨ r1 = 1 then (some (r1, A2)) else none) else none
def fX7_readLoss_b0 (A : k_H) (v0 : Int) : Option (Int × k_H) := if k_isO A v0 7 then (if (k_rd A v0 7) = 0 then (k_lt (k_wt A v0 7 1) fun A3 => k_bd (fX7_nextToken A3 v0) fun r5 A6 => if k_isO A6 v0 7 then (k_bd (fX7_isWord A6 v0 (-16)) fun r10 A11 => if k_isO A11 (k_rd A6 v0 0) 6 then (if r10 = 0 ∨ r10 = 1 then (k_lt (k_wt A11 (k_rd A6 v0 0) 6 r10) fun A15 => if k_isO A15 v0 7 then (if k_isO A15 (k_rd A15 v0 0) 6 then (if (k_rd A15 (k_rd A15 v0 0) 6) = 0 then (k_bd (fX7_isWord A15 v0 (-17)) fun r20 A21 => if r20 = 0 then (if k_isO A21 v0 7 then (k_bd (fX7_refuseToken A21 v0) fun r24 A25 => if r24 = 0 ∨ r24 = 1 then (some (r24, A25)) else none) else none) else (fX7_readLoss_b59 A21 v0)) else (fX7_readLoss_b59 A15 v0)) else none) else none) else none) else none) else none) else (k_bd (fX7_refuse A v0 4) fun r29 A30 => if r29 = 0 ∨ r29 = 1 then (some (r29, A30)) else none)) else none
def fX7_readLoss (A : k_H) (x0 : Int) : Option (Int × k_H) := fX7_readLoss_b0 A x0
set_option maxRecDepth 100000 in
theorem okX7_readLoss_b59 (A : k_H) (v0 : Int) (r : Int) (A' : k_H) (h : fX7_readLoss_b59 A v0 = some (r, A')) : k_AW 7 mX7_readLoss 59 [(1, v0)] [] A r A' := by
  unfold fX7_readLoss_b59 at h
  refine k_aload_n (pc := 59) (x := v0) dX7_readLoss_59 rfl rfl ?_
  obtain ⟨hc4, h⟩ := k_pk h
  obtain ⟨r1, A2, hq3, h⟩ := k_pb h
  refine k_callV (pc := 60) (ci := 7) (a := v0) (as := []) (st := []) (st1 := [(0, r1)]) dX7_readLoss_60 cbX7_readStop (k_gt 703 (by decide +kernel) (by decide +kernel)) cvX7_readStop.1 cvX7_readStop.2 rfl (by decide) hc4 (by omega) rfl (Nat.le_of_ble_eq_true rfl) (okX7_readStop hq3) rfl ?_
  obtain ⟨hc5, h⟩ := k_pk h
  obtain ⟨rfl, rfl⟩ := k_pr h
  exact k_ret (pc := 63) dX7_readLoss_63 rfl rfl (k_nz hc5)
set_option maxRecDepth 100000 in
theorem okX7_readLoss_b0 (A : k_H) (v0 : Int) (r : Int) (A' : k_H) (h : fX7_readLoss_b0 A v0 = some (r, A')) : k_AW 7 mX7_readLoss 0 [(1, v0)] [] A r A' := by
  unfold fX7_readLoss_b0 at h
  refine k_aload_n (pc := 0) (x := v0) dX7_readLoss_0 rfl rfl ?_
  obtain ⟨hc1, h⟩ := k_pk h
  refine k_getf (pc := 1) (t := 0) (fi := 7) dX7_readLoss_1 flX7_62 rfl rfl hc1 ?_
  refine k_if_eq (pc := 4) (tgt := 13) dX7_readLoss_4 rfl (fun c2 => ?_) (fun c2 => ?_)
  · rw [if_pos c2] at h
    refine k_aload_n (pc := 13) (x := v0) dX7_readLoss_13 rfl rfl ?_
    refine k_iconst (pc := 14) dX7_readLoss_14 ⟨by decide, by decide⟩ ?_
    refine k_putf (pc := 15) (t := 0) (fi := 7) dX7_readLoss_15 flX7_62 rfl rfl hc1 ⟨rfl, Or.inr rfl⟩ ?_
    obtain ⟨A3, eA4, h⟩ := k_pl h
    refine k_hq eA4 ?_
    refine k_aload_n (pc := 18) (x := v0) dX7_readLoss_18 rfl rfl ?_
    have hf8 := k_oW eA4 hc1
    obtain ⟨r5, A6, hq7, h⟩ := k_pb h
    refine k_callV (pc := 19) (ci := 7) (a := v0) (as := []) (st := []) (st1 := []) dX7_readLoss_19 cbX7_nextToken (k_gt 610 (by decide +kernel) (by decide +kernel)) cvX7_nextToken.1 cvX7_nextToken.2 rfl (by decide) hf8 (by omega) rfl (Nat.le_of_ble_eq_true rfl) (okX7_nextToken hq7) rfl ?_
    refine k_aload_n (pc := 22) (x := v0) dX7_readLoss_22 rfl rfl ?_
    obtain ⟨hc9, h⟩ := k_pk h
    refine k_getf (pc := 23) (t := 1) (fi := 0) dX7_readLoss_23 flX7_12 rfl rfl hc9 ?_
    refine k_aload_n (pc := 26) (x := v0) dX7_readLoss_26 rfl rfl ?_
    refine k_ldcs (pc := 27) (j := 6) (z := (-16)) dX7_readLoss_27 rfl rfl ?_
    obtain ⟨r10, A11, hq12, h⟩ := k_pb h
    refine k_callV (pc := 29) (ci := 7) (a := v0) (as := [(1, (-16))]) (st := [(1, (k_rd A6 v0 0))]) (st1 := [(0, r10), (1, (k_rd A6 v0 0))]) dX7_readLoss_29 cbX7_isWord (k_gt 633 (by decide +kernel) (by decide +kernel)) cvX7_isWord.1 cvX7_isWord.2 rfl (by decide) hc9 (by omega) rfl (Nat.le_of_ble_eq_true rfl) (okX7_isWord hq12) rfl ?_
    obtain ⟨hc13, h⟩ := k_pk h
    obtain ⟨hc14, h⟩ := k_pk h
    refine k_putf (pc := 32) (t := 0) (fi := 6) dX7_readLoss_32 flX7_133 rfl rfl hc13 ⟨rfl, hc14⟩ ?_
    obtain ⟨A15, eA16, h⟩ := k_pl h
    refine k_hq eA16 ?_
    refine k_aload_n (pc := 35) (x := v0) dX7_readLoss_35 rfl rfl ?_
    obtain ⟨hc17, h⟩ := k_pk h
    refine k_getf (pc := 36) (t := 1) (fi := 0) dX7_readLoss_36 flX7_12 rfl rfl hc17 ?_
    obtain ⟨hc18, h⟩ := k_pk h
    refine k_getf (pc := 39) (t := 0) (fi := 6) dX7_readLoss_39 flX7_133 rfl rfl hc18 ?_
    refine k_if_ne (pc := 42) (tgt := 59) dX7_readLoss_42 rfl (fun c19 => ?_) (fun c19 => ?_)
    · rw [if_neg c19] at h
      refine k_sub (ls' := [(1, v0)]) (k_sbl_ok _ _ ⟨Or.inr rfl, trivial⟩) ?_
      exact okX7_readLoss_b59  _ _ _ _ h
    · rw [if_pos (Classical.not_not.mp c19)] at h
      refine k_aload_n (pc := 45) (x := v0) dX7_readLoss_45 rfl rfl ?_
      refine k_ldcs (pc := 46) (j := 7) (z := (-17)) dX7_readLoss_46 rfl rfl ?_
      obtain ⟨r20, A21, hq22, h⟩ := k_pb h
      refine k_callV (pc := 48) (ci := 7) (a := v0) (as := [(1, (-17))]) (st := []) (st1 := [(0, r20)]) dX7_readLoss_48 cbX7_isWord (k_gt 633 (by decide +kernel) (by decide +kernel)) cvX7_isWord.1 cvX7_isWord.2 rfl (by decide) hc17 (by omega) rfl (Nat.le_of_ble_eq_true rfl) (okX7_isWord hq22) rfl ?_
      refine k_if_ne (pc := 51) (tgt := 59) dX7_readLoss_51 rfl (fun c23 => ?_) (fun c23 => ?_)
      · rw [if_neg c23] at h
        refine k_sub (ls' := [(1, v0)]) (k_sbl_ok _ _ ⟨Or.inr rfl, trivial⟩) ?_
        exact okX7_readLoss_b59  _ _ _ _ h
      · rw [if_pos (Classical.not_not.mp c23)] at h
        refine k_aload_n (pc := 54) (x := v0) dX7_readLoss_54 rfl rfl ?_
        obtain ⟨hc27, h⟩ := k_pk h
        obtain ⟨r24, A25, hq26, h⟩ := k_pb h
        refine k_callV (pc := 55) (ci := 7) (a := v0) (as := []) (st := []) (st1 := [(0, r24)]) dX7_readLoss_55 cbX7_refuseToken (k_gt 698 (by decide +kernel) (by decide +kernel)) cvX7_refuseToken.1 cvX7_refuseToken.2 rfl (by decide) hc27 (by omega) rfl (Nat.le_of_ble_eq_true rfl) (okX7_refuseToken hq26) rfl ?_
        obtain ⟨hc28, h⟩ := k_pk h
        obtain ⟨rfl, rfl⟩ := k_pr h
        exact k_ret (pc := 58) dX7_readLoss_58 rfl rfl (k_nz hc28)
  · rw [if_neg c2] at h
    refine k_aload_n (pc := 7) (x := v0) dX7_readLoss_7 rfl rfl ?_
    refine k_iconst (pc := 8) dX7_readLoss_8 ⟨by decide, by decide⟩ ?_
    obtain ⟨r29, A30, hq31, h⟩ := k_pb h
    refine k_callV (pc := 9) (ci := 7) (a := v0) (as := [(0, 4)]) (st := []) (st1 := [(0, r29)]) dX7_readLoss_9 cbX7_refuse (k_gt 689 (by decide +kernel) (by decide +kernel)) cvX7_refuse.1 cvX7_refuse.2 rfl (by decide) hc1 (by omega) rfl (Nat.le_of_ble_eq_true rfl) (okX7_refuse hq31) rfl ?_
    obtain ⟨hc32, h⟩ := k_pk h
    obtain ⟨rfl, rfl⟩ := k_pr h
    exact k_ret (pc := 12) dX7_readLoss_12 rfl rfl (k_nz hc32)
theorem okX7_readLoss {A : k_H} {x0 : Int} {r : Int} {A1 : k_H} (h : fX7_readLoss A x0 = some (r, A1)) : k_AM 7 mX7_readLoss [(1, x0)] A r A1 :=
  k_AM_of2 (ls := [(1, x0)]) (Or.inl (by decide +kernel)) (by decide +kernel) (by decide) rfl (Nat.le_of_ble_eq_true rfl) ⟨Or.inr rfl, trivial⟩ (okX7_readLoss_b0 A x0 r A1 h)
/-! X7_readWord -/
def fX7_readWord_b19 (A : k_H) : Option (Int × k_H) := some (1, A)
def fX7_readWord_b0 (A : k_H) (v0 v1 : Int) : Option (Int × k_H) := if k_isO A v0 7 then (k_bd (fX7_nextToken A v0) fun r1 A2 => if k_isO A2 v0 7 then (k_bd (fX7_isWord A2 v0 v1) fun r5 A6 => if r5 = 0 then (if k_isO A6 v0 7 then (k_bd (fX7_refuseToken A6 v0) fun r10 A11 => if r10 = 0 then (some (0, A11)) else (fX7_readWord_b19 A11)) else none) else (fX7_readWord_b19 A6)) else none) else none
def fX7_readWord (A : k_H) (x0 x1 : Int) : Option (Int × k_H) := fX7_readWord_b0 A x0 x1
set_option maxRecDepth 100000 in
theorem okX7_readWord_b19 (A : k_H) (r : Int) (A' : k_H) (h : fX7_readWord_b19 A  = some (r, A')) : k_AW 7 mX7_readWord 19 [(3, 0), (3, 0)] [] A r A' := by
  unfold fX7_readWord_b19 at h
  refine k_iconst (pc := 19) dX7_readWord_19 ⟨by decide, by decide⟩ ?_
  refine k_goto (pc := 20) (tgt := 24) dX7_readWord_20 rfl ?_
  obtain ⟨rfl, rfl⟩ := k_pr h
  exact k_ret (pc := 24) dX7_readWord_24 rfl rfl (by decide +kernel)
set_option maxRecDepth 100000 in
theorem okX7_readWord_b0 (A : k_H) (v0 v1 : Int) (r : Int) (A' : k_H) (h : fX7_readWord_b0 A v0 v1 = some (r, A')) : k_AW 7 mX7_readWord 0 [(1, v0), (1, v1)] [] A r A' := by
  unfold fX7_readWord_b0 at h
  refine k_aload_n (pc := 0) (x := v0) dX7_readWord_0 rfl rfl ?_
  obtain ⟨hc4, h⟩ := k_pk h
  obtain ⟨r1, A2, hq3, h⟩ := k_pb h
  refine k_callV (pc := 1) (ci := 7) (a := v0) (as := []) (st := []) (st1 := []) dX7_readWord_1 cbX7_nextToken (k_gt 610 (by decide +kernel) (by decide +kernel)) cvX7_nextToken.1 cvX7_nextToken.2 rfl (by decide) hc4 (by omega) rfl (Nat.le_of_ble_eq_true rfl) (okX7_nextToken hq3) rfl ?_
  refine k_aload_n (pc := 4) (x := v0) dX7_readWord_4 rfl rfl ?_
  refine k_aload_n (pc := 5) (x := v1) dX7_readWord_5 rfl rfl ?_
  obtain ⟨hc8, h⟩ := k_pk h
  obtain ⟨r5, A6, hq7, h⟩ := k_pb h
  refine k_callV (pc := 6) (ci := 7) (a := v0) (as := [(1, v1)]) (st := []) (st1 := [(0, r5)]) dX7_readWord_6 cbX7_isWord (k_gt 633 (by decide +kernel) (by decide +kernel)) cvX7_isWord.1 cvX7_isWord.2 rfl (by decide) hc8 (by omega) rfl (Nat.le_of_ble_eq_true rfl) (okX7_isWord hq7) rfl ?_
  refine k_if_ne (pc := 9) (tgt := 19) dX7_readWord_9 rfl (fun c9 => ?_) (fun c9 => ?_)
  · rw [if_neg c9] at h
    refine k_sub (ls' := [(3, 0), (3, 0)]) (k_sbl_ok _ _ ⟨Or.inl rfl, Or.inl rfl, trivial⟩) ?_
    exact okX7_readWord_b19  _ _ _ h
  · rw [if_pos (Classical.not_not.mp c9)] at h
    refine k_aload_n (pc := 12) (x := v0) dX7_readWord_12 rfl rfl ?_
    obtain ⟨hc13, h⟩ := k_pk h
    obtain ⟨r10, A11, hq12, h⟩ := k_pb h
    refine k_callV (pc := 13) (ci := 7) (a := v0) (as := []) (st := []) (st1 := [(0, r10)]) dX7_readWord_13 cbX7_refuseToken (k_gt 698 (by decide +kernel) (by decide +kernel)) cvX7_refuseToken.1 cvX7_refuseToken.2 rfl (by decide) hc13 (by omega) rfl (Nat.le_of_ble_eq_true rfl) (okX7_refuseToken hq12) rfl ?_
    refine k_if_eq (pc := 16) (tgt := 23) dX7_readWord_16 rfl (fun c14 => ?_) (fun c14 => ?_)
    · rw [if_pos c14] at h
      refine k_iconst (pc := 23) dX7_readWord_23 ⟨by decide, by decide⟩ ?_
      obtain ⟨rfl, rfl⟩ := k_pr h
      exact k_ret (pc := 24) dX7_readWord_24 rfl rfl (by decide +kernel)
    · rw [if_neg c14] at h
      refine k_sub (ls' := [(3, 0), (3, 0)]) (k_sbl_ok _ _ ⟨Or.inl rfl, Or.inl rfl, trivial⟩) ?_
      exact okX7_readWord_b19  _ _ _ h
theorem okX7_readWord {A : k_H} {x0 x1 : Int} {r : Int} {A1 : k_H} (h : fX7_readWord A x0 x1 = some (r, A1)) : k_AM 7 mX7_readWord [(1, x0), (1, x1)] A r A1 :=
  k_AM_of2 (ls := [(1, x0), (1, x1)]) (Or.inl (by decide +kernel)) (by decide +kernel) (by decide) rfl (Nat.le_of_ble_eq_true rfl) ⟨Or.inr rfl, Or.inr rfl, trivial⟩ (okX7_readWord_b0 A x0 x1 r A1 h)
/-! X8_book -/
def fX8_book_b114 (k34 : k_H → Int → Int → Int → Option (Int × k_H)) (A : k_H) (v0 v1 v2 : Int) : Option (Int × k_H) := k34 A v0 v1 (k_wr (v2 + 1))
def fX8_book_h34 : Nat → k_H → Int → Int → Int → Option (Int × k_H)
  | 0, _, _, _, _ => none
  | N + 1, A, v0, v1, v2 => if k_isO A v0 8 then (if v2 < (k_rd A v0 6) then (if k_isA A (k_rd A v0 1) 23 v2 then (if k_isO A (k_rd A (k_rd A v0 1) v2) 1 then (if k_isA A (k_rd A (k_rd A (k_rd A v0 1) v2) 1) 21 v1 then (if 0 < (k_rd A (k_rd A (k_rd A (k_rd A v0 1) v2) 1) v1) then (if k_isO A (k_rd A v0 4) 2 then (k_bd (fX2_asksMore A (k_rd A v0 4)) fun r16 A17 => if r16 = 0 then (fX8_book_b114 (fX8_book_h34 N) A17 v0 v1 v2) else (if k_isO A17 v0 8 then (if k_isA A17 (k_rd A17 v0 2) 24 v1 then (if k_isA A17 (k_rd A17 v0 1) 23 v2 then (k_bd (fX8_fitOf A17 v0 (k_rd A17 (k_rd A17 v0 2) v1) (k_rd A17 (k_rd A17 v0 1) v2)) fun r24 A25 => if r24 = 1 then (if k_isO A25 v0 8 then (if k_isA A25 (k_rd A25 v0 1) 23 v2 then (if k_isO A25 (k_rd A25 (k_rd A25 v0 1) v2) 1 then (if k_isA A25 (k_rd A25 (k_rd A25 (k_rd A25 v0 1) v2) 1) 21 v1 then (if k_isO A25 (k_rd A25 v0 4) 2 then (k_bd (fX2_ask A25 (k_rd A25 v0 4) v2 (k_rd A25 v0 1) (k_rd A25 (k_rd A25 (k_rd A25 (k_rd A25 v0 1) v2) 1) v1)) fun r32 A33 => if k_isO A33 v0 8 then (k_bd (fX8_closeTakenNights A33 v0 v2) fun r36 A37 => fX8_book_b114 (fX8_book_h34 N) A37 v0 v1 v2) else none) else none) else none) else none) else none) else none) else (fX8_book_b114 (fX8_book_h34 N) A25 v0 v1 v2)) else none) else none) else none)) else none) else (fX8_book_b114 (fX8_book_h34 N) A v0 v1 v2)) else none) else none) else none) else (if k_isA A (k_rd A v0 2) 24 v1 then (if k_isO A (k_rd A v0 4) 2 then (k_bd (fX2_bookBest A (k_rd A v0 4) (k_rd A (k_rd A v0 2) v1)) fun r4 A5 => if k_isO A5 v0 8 then (k_bd (fX8_worthOfTour A5 v0 v1) fun r8 A9 => some (r8, A9)) else none) else none) else none)) else none
def fX8_book_b0 (A : k_H) (v0 v1 : Int) : Option (Int × k_H) := if k_isO A v0 8 then (k_bd (fX8_isShow A v0 v1) fun r1 A2 => if r1 = 0 then (some ((-1), A2)) else (if k_isO A2 v0 8 then (if k_isA A2 (k_rd A2 v0 2) 24 v1 then (if k_isO A2 (k_rd A2 (k_rd A2 v0 2) v1) 4 then (k_bd (fX4_forgetTour A2 (k_rd A2 (k_rd A2 v0 2) v1)) fun r8 A9 => if k_isO A9 v0 8 then (if k_isA A9 (k_rd A9 v0 2) 24 v1 then (if k_isO A9 (k_rd A9 v0 4) 2 then (k_bd (fX2_start A9 (k_rd A9 v0 4) (k_rd A9 (k_rd A9 v0 2) v1)) fun r14 A15 => fX8_book_h34 k_FU A15 v0 v1 0) else none) else none) else none) else none) else none) else none)) else none
def fX8_book (A : k_H) (x0 x1 : Int) : Option (Int × k_H) := fX8_book_b0 A x0 x1
set_option maxRecDepth 100000 in
theorem okX8_book_b114 (k34 : k_H → Int → Int → Int → Option (Int × k_H)) (hk34 : ∀ (A : k_H) (v0 v1 v2 : Int) (r : Int) (A' : k_H), k34 A v0 v1 v2 = some (r, A') → k_AW 18 mX8_book 34 [(1, v0), (0, v1), (0, v2)] [] A r A') (A : k_H) (v0 v1 v2 : Int) (r : Int) (A' : k_H) (h : fX8_book_b114 k34 A v0 v1 v2 = some (r, A')) : k_AW 18 mX8_book 114 [(1, v0), (0, v1), (0, v2)] [] A r A' := by
  unfold fX8_book_b114 at h
  refine k_iinc (pc := 114) (x := v2) dX8_book_114 (Nat.le_of_ble_eq_true rfl) rfl rfl ?_
  show k_AW _ _ _ [(1, v0), (0, v1), (0, k_wr (v2 + 1))] _ _ _ _
  refine k_goto (pc := 117) (tgt := 34) dX8_book_117 rfl ?_
  refine k_sub (ls' := [(1, v0), (0, v1), (0, k_wr (v2 + 1))]) (k_sbl_ok _ _ ⟨Or.inr rfl, Or.inr rfl, Or.inr rfl, trivial⟩) ?_
  exact hk34 _ _ _ _ _ _ h
set_option maxRecDepth 100000 in
theorem okX8_book_h34 : ∀ (N : Nat) (A : k_H) (v0 v1 v2 : Int) (r : Int) (A' : k_H), fX8_book_h34 N A v0 v1 v2 = some (r, A') → k_AW 18 mX8_book 34 [(1, v0), (0, v1), (0, v2)] [] A r A' := by
  intro N
  induction N with
  | zero => intro A v0 v1 v2 r A' h; exact absurd h (by simp [fX8_book_h34])
  | succ N ih =>
    intro A v0 v1 v2 r A' h
    rw [fX8_book_h34] at h
    refine k_iload_n (pc := 34) (x := v2) dX8_book_34 rfl rfl ?_
    refine k_aload_n (pc := 35) (x := v0) dX8_book_35 rfl rfl ?_
    obtain ⟨hc1, h⟩ := k_pk h
    refine k_getf (pc := 36) (t := 0) (fi := 6) dX8_book_36 flX8_59 rfl rfl hc1 ?_
    refine k_icmp_ge (pc := 39) (tgt := 120) dX8_book_39 rfl (fun c2 => ?_) (fun c2 => ?_)
    · rw [if_neg (Int.not_lt.mpr c2)] at h
      refine k_aload_n (pc := 120) (x := v0) dX8_book_120 rfl rfl ?_
      refine k_getf (pc := 121) (t := 1) (fi := 4) dX8_book_121 flX8_38 rfl rfl hc1 ?_
      refine k_aload_n (pc := 124) (x := v0) dX8_book_124 rfl rfl ?_
      refine k_getf (pc := 125) (t := 1) (fi := 2) dX8_book_125 flX8_24 rfl rfl hc1 ?_
      refine k_iload_n (pc := 128) (x := v1) dX8_book_128 rfl rfl ?_
      obtain ⟨hc3, h⟩ := k_pk h
      refine k_aaload (pc := 129) (K := 24) dX8_book_129 (by decide) hc3 ?_
      obtain ⟨hc7, h⟩ := k_pk h
      obtain ⟨r4, A5, hq6, h⟩ := k_pb h
      refine k_callV (pc := 130) (ci := 2) (a := (k_rd A v0 4)) (as := [(1, (k_rd A (k_rd A v0 2) v1))]) (st := []) (st1 := []) dX8_book_130 cbX2_bookBest (k_gt 514 (by decide +kernel) (by decide +kernel)) cvX2_bookBest.1 cvX2_bookBest.2 rfl (by decide) hc7 (by omega) rfl (Nat.le_of_ble_eq_true rfl) (okX2_bookBest hq6) rfl ?_
      refine k_aload_n (pc := 133) (x := v0) dX8_book_133 rfl rfl ?_
      refine k_iload_n (pc := 134) (x := v1) dX8_book_134 rfl rfl ?_
      obtain ⟨hc11, h⟩ := k_pk h
      obtain ⟨r8, A9, hq10, h⟩ := k_pb h
      refine k_callV (pc := 135) (ci := 8) (a := v0) (as := [(0, v1)]) (st := []) (st1 := [(0, r8)]) dX8_book_135 cbX8_worthOfTour (k_gt 564 (by decide +kernel) (by decide +kernel)) cvX8_worthOfTour.1 cvX8_worthOfTour.2 rfl (by decide) hc11 (by omega) rfl (Nat.le_of_ble_eq_true rfl) (okX8_worthOfTour hq10) rfl ?_
      obtain ⟨rfl, rfl⟩ := k_pr h
      exact k_ret (pc := 138) dX8_book_138 rfl rfl rfl
    · rw [if_pos (Int.not_le.mp c2)] at h
      refine k_aload_n (pc := 42) (x := v0) dX8_book_42 rfl rfl ?_
      refine k_getf (pc := 43) (t := 1) (fi := 1) dX8_book_43 flX8_18 rfl rfl hc1 ?_
      refine k_iload_n (pc := 46) (x := v2) dX8_book_46 rfl rfl ?_
      obtain ⟨hc12, h⟩ := k_pk h
      refine k_aaload (pc := 47) (K := 23) dX8_book_47 (by decide) hc12 ?_
      obtain ⟨hc13, h⟩ := k_pk h
      refine k_getf (pc := 48) (t := 1) (fi := 1) dX8_book_48 flX8_108 rfl rfl hc13 ?_
      refine k_iload_n (pc := 51) (x := v1) dX8_book_51 rfl rfl ?_
      obtain ⟨hc14, h⟩ := k_pk h
      refine k_iaload (pc := 52) dX8_book_52 hc14 ?_
      refine k_if_le (pc := 53) (tgt := 114) dX8_book_53 rfl (fun c15 => ?_) (fun c15 => ?_)
      · rw [if_neg (Int.not_lt.mpr c15)] at h
        refine k_sub (ls' := [(1, v0), (0, v1), (0, v2)]) (k_sbl_ok _ _ ⟨Or.inr rfl, Or.inr rfl, Or.inr rfl, trivial⟩) ?_
        exact okX8_book_b114 (fX8_book_h34 N) ih _ _ _ _ _ _ h
      · rw [if_pos (Int.not_le.mp c15)] at h
        refine k_aload_n (pc := 56) (x := v0) dX8_book_56 rfl rfl ?_
        refine k_getf (pc := 57) (t := 1) (fi := 4) dX8_book_57 flX8_38 rfl rfl hc1 ?_
        obtain ⟨hc19, h⟩ := k_pk h
        obtain ⟨r16, A17, hq18, h⟩ := k_pb h
        refine k_callV (pc := 60) (ci := 2) (a := (k_rd A v0 4)) (as := []) (st := []) (st1 := [(0, r16)]) dX8_book_60 cbX2_asksMore (k_gt 486 (by decide +kernel) (by decide +kernel)) cvX2_asksMore.1 cvX2_asksMore.2 rfl (by decide) hc19 (by omega) rfl (Nat.le_of_ble_eq_true rfl) (okX2_asksMore hq18) rfl ?_
        refine k_if_eq (pc := 63) (tgt := 114) dX8_book_63 rfl (fun c20 => ?_) (fun c20 => ?_)
        · rw [if_pos c20] at h
          refine k_sub (ls' := [(1, v0), (0, v1), (0, v2)]) (k_sbl_ok _ _ ⟨Or.inr rfl, Or.inr rfl, Or.inr rfl, trivial⟩) ?_
          exact okX8_book_b114 (fX8_book_h34 N) ih _ _ _ _ _ _ h
        · rw [if_neg c20] at h
          refine k_aload_n (pc := 66) (x := v0) dX8_book_66 rfl rfl ?_
          refine k_aload_n (pc := 67) (x := v0) dX8_book_67 rfl rfl ?_
          obtain ⟨hc21, h⟩ := k_pk h
          refine k_getf (pc := 68) (t := 1) (fi := 2) dX8_book_68 flX8_24 rfl rfl hc21 ?_
          refine k_iload_n (pc := 71) (x := v1) dX8_book_71 rfl rfl ?_
          obtain ⟨hc22, h⟩ := k_pk h
          refine k_aaload (pc := 72) (K := 24) dX8_book_72 (by decide) hc22 ?_
          refine k_aload_n (pc := 73) (x := v0) dX8_book_73 rfl rfl ?_
          refine k_getf (pc := 74) (t := 1) (fi := 1) dX8_book_74 flX8_18 rfl rfl hc21 ?_
          refine k_iload_n (pc := 77) (x := v2) dX8_book_77 rfl rfl ?_
          obtain ⟨hc23, h⟩ := k_pk h
          refine k_aaload (pc := 78) (K := 23) dX8_book_78 (by decide) hc23 ?_
          obtain ⟨r24, A25, hq26, h⟩ := k_pb h
          refine k_callV (pc := 79) (ci := 8) (a := v0) (as := [(1, (k_rd A17 (k_rd A17 v0 2) v1)), (1, (k_rd A17 (k_rd A17 v0 1) v2))]) (st := []) (st1 := [(0, r24)]) dX8_book_79 cbX8_fitOf (k_gt 424 (by decide +kernel) (by decide +kernel)) cvX8_fitOf.1 cvX8_fitOf.2 rfl (by decide) hc21 (by omega) rfl (Nat.le_of_ble_eq_true rfl) (okX8_fitOf hq26) rfl ?_
          refine k_iconst (pc := 82) dX8_book_82 ⟨by decide, by decide⟩ ?_
          refine k_icmp_ne (pc := 83) (tgt := 114) dX8_book_83 rfl (fun c27 => ?_) (fun c27 => ?_)
          · rw [if_neg c27] at h
            refine k_sub (ls' := [(1, v0), (0, v1), (0, v2)]) (k_sbl_ok _ _ ⟨Or.inr rfl, Or.inr rfl, Or.inr rfl, trivial⟩) ?_
            exact okX8_book_b114 (fX8_book_h34 N) ih _ _ _ _ _ _ h
          · rw [if_pos (Classical.not_not.mp c27)] at h
            refine k_aload_n (pc := 86) (x := v0) dX8_book_86 rfl rfl ?_
            obtain ⟨hc28, h⟩ := k_pk h
            refine k_getf (pc := 87) (t := 1) (fi := 4) dX8_book_87 flX8_38 rfl rfl hc28 ?_
            refine k_iload_n (pc := 90) (x := v2) dX8_book_90 rfl rfl ?_
            refine k_aload_n (pc := 91) (x := v0) dX8_book_91 rfl rfl ?_
            refine k_getf (pc := 92) (t := 1) (fi := 1) dX8_book_92 flX8_18 rfl rfl hc28 ?_
            refine k_aload_n (pc := 95) (x := v0) dX8_book_95 rfl rfl ?_
            refine k_getf (pc := 96) (t := 1) (fi := 1) dX8_book_96 flX8_18 rfl rfl hc28 ?_
            refine k_iload_n (pc := 99) (x := v2) dX8_book_99 rfl rfl ?_
            obtain ⟨hc29, h⟩ := k_pk h
            refine k_aaload (pc := 100) (K := 23) dX8_book_100 (by decide) hc29 ?_
            obtain ⟨hc30, h⟩ := k_pk h
            refine k_getf (pc := 101) (t := 1) (fi := 1) dX8_book_101 flX8_108 rfl rfl hc30 ?_
            refine k_iload_n (pc := 104) (x := v1) dX8_book_104 rfl rfl ?_
            obtain ⟨hc31, h⟩ := k_pk h
            refine k_iaload (pc := 105) dX8_book_105 hc31 ?_
            obtain ⟨hc35, h⟩ := k_pk h
            obtain ⟨r32, A33, hq34, h⟩ := k_pb h
            refine k_callV (pc := 106) (ci := 2) (a := (k_rd A25 v0 4)) (as := [(0, v2), (1, (k_rd A25 v0 1)), (0, (k_rd A25 (k_rd A25 (k_rd A25 (k_rd A25 v0 1) v2) 1) v1))]) (st := []) (st1 := []) dX8_book_106 cbX2_ask (k_gt 490 (by decide +kernel) (by decide +kernel)) cvX2_ask.1 cvX2_ask.2 rfl (by decide) hc35 (by omega) rfl (Nat.le_of_ble_eq_true rfl) (okX2_ask hq34) rfl ?_
            refine k_aload_n (pc := 109) (x := v0) dX8_book_109 rfl rfl ?_
            refine k_iload_n (pc := 110) (x := v2) dX8_book_110 rfl rfl ?_
            obtain ⟨hc39, h⟩ := k_pk h
            obtain ⟨r36, A37, hq38, h⟩ := k_pb h
            refine k_callV (pc := 111) (ci := 8) (a := v0) (as := [(0, v2)]) (st := []) (st1 := []) dX8_book_111 cbX8_closeTakenNights (k_gt 502 (by decide +kernel) (by decide +kernel)) cvX8_closeTakenNights.1 cvX8_closeTakenNights.2 rfl (by decide) hc39 (by omega) rfl (Nat.le_of_ble_eq_true rfl) (okX8_closeTakenNights hq38) rfl ?_
            refine k_sub (ls' := [(1, v0), (0, v1), (0, v2)]) (k_sbl_ok _ _ ⟨Or.inr rfl, Or.inr rfl, Or.inr rfl, trivial⟩) ?_
            exact okX8_book_b114 (fX8_book_h34 N) ih _ _ _ _ _ _ h
set_option maxRecDepth 100000 in
theorem okX8_book_b0 (A : k_H) (v0 v1 : Int) (r : Int) (A' : k_H) (h : fX8_book_b0 A v0 v1 = some (r, A')) : k_AW 18 mX8_book 0 [(1, v0), (0, v1), (3, 0)] [] A r A' := by
  unfold fX8_book_b0 at h
  refine k_aload_n (pc := 0) (x := v0) dX8_book_0 rfl rfl ?_
  refine k_iload_n (pc := 1) (x := v1) dX8_book_1 rfl rfl ?_
  obtain ⟨hc4, h⟩ := k_pk h
  obtain ⟨r1, A2, hq3, h⟩ := k_pb h
  refine k_callV (pc := 2) (ci := 8) (a := v0) (as := [(0, v1)]) (st := []) (st1 := [(0, r1)]) dX8_book_2 cbX8_isShow (k_gt 412 (by decide +kernel) (by decide +kernel)) cvX8_isShow.1 cvX8_isShow.2 rfl (by decide) hc4 (by omega) rfl (Nat.le_of_ble_eq_true rfl) (okX8_isShow hq3) rfl ?_
  refine k_if_ne (pc := 5) (tgt := 10) dX8_book_5 rfl (fun c5 => ?_) (fun c5 => ?_)
  · rw [if_neg c5] at h
    refine k_aload_n (pc := 10) (x := v0) dX8_book_10 rfl rfl ?_
    obtain ⟨hc6, h⟩ := k_pk h
    refine k_getf (pc := 11) (t := 1) (fi := 2) dX8_book_11 flX8_24 rfl rfl hc6 ?_
    refine k_iload_n (pc := 14) (x := v1) dX8_book_14 rfl rfl ?_
    obtain ⟨hc7, h⟩ := k_pk h
    refine k_aaload (pc := 15) (K := 24) dX8_book_15 (by decide) hc7 ?_
    obtain ⟨hc11, h⟩ := k_pk h
    obtain ⟨r8, A9, hq10, h⟩ := k_pb h
    refine k_callV (pc := 16) (ci := 4) (a := (k_rd A2 (k_rd A2 v0 2) v1)) (as := []) (st := []) (st1 := []) dX8_book_16 cbX4_forgetTour (k_gt 477 (by decide +kernel) (by decide +kernel)) cvX4_forgetTour.1 cvX4_forgetTour.2 rfl (by decide) hc11 (by omega) rfl (Nat.le_of_ble_eq_true rfl) (okX4_forgetTour hq10) rfl ?_
    refine k_aload_n (pc := 19) (x := v0) dX8_book_19 rfl rfl ?_
    obtain ⟨hc12, h⟩ := k_pk h
    refine k_getf (pc := 20) (t := 1) (fi := 4) dX8_book_20 flX8_38 rfl rfl hc12 ?_
    refine k_aload_n (pc := 23) (x := v0) dX8_book_23 rfl rfl ?_
    refine k_getf (pc := 24) (t := 1) (fi := 2) dX8_book_24 flX8_24 rfl rfl hc12 ?_
    refine k_iload_n (pc := 27) (x := v1) dX8_book_27 rfl rfl ?_
    obtain ⟨hc13, h⟩ := k_pk h
    refine k_aaload (pc := 28) (K := 24) dX8_book_28 (by decide) hc13 ?_
    obtain ⟨hc17, h⟩ := k_pk h
    obtain ⟨r14, A15, hq16, h⟩ := k_pb h
    refine k_callV (pc := 29) (ci := 2) (a := (k_rd A9 v0 4)) (as := [(1, (k_rd A9 (k_rd A9 v0 2) v1))]) (st := []) (st1 := []) dX8_book_29 cbX2_start (k_gt 481 (by decide +kernel) (by decide +kernel)) cvX2_start.1 cvX2_start.2 rfl (by decide) hc17 (by omega) rfl (Nat.le_of_ble_eq_true rfl) (okX2_start hq16) rfl ?_
    refine k_iconst (pc := 32) dX8_book_32 ⟨by decide, by decide⟩ ?_
    refine k_istore_n (pc := 33) dX8_book_33 rfl (Nat.le_of_ble_eq_true rfl) rfl ?_
    show k_AW _ _ _ [(1, v0), (0, v1), (0, 0)] _ _ _ _
    refine k_sub (ls' := [(1, v0), (0, v1), (0, 0)]) (k_sbl_ok _ _ ⟨Or.inr rfl, Or.inr rfl, Or.inr rfl, trivial⟩) ?_
    exact okX8_book_h34  _ _ _ _ _ _ _ h
  · rw [if_pos (Classical.not_not.mp c5)] at h
    refine k_iconst (pc := 8) dX8_book_8 ⟨by decide, by decide⟩ ?_
    obtain ⟨rfl, rfl⟩ := k_pr h
    exact k_ret (pc := 9) dX8_book_9 rfl rfl rfl
theorem okX8_book {A : k_H} {x0 x1 : Int} {r : Int} {A1 : k_H} (h : fX8_book A x0 x1 = some (r, A1)) : k_AM 18 mX8_book [(1, x0), (0, x1)] A r A1 :=
  k_AM_of2 (ls := [(1, x0), (0, x1), (3, 0)]) (Or.inl (by decide +kernel)) (by decide +kernel) (by decide) rfl (Nat.le_of_ble_eq_true rfl) ⟨Or.inr rfl, Or.inr rfl, rfl, trivial⟩ (okX8_book_b0 A x0 x1 r A1 h)
/-! X8_shared -/
def fX8_shared_b24 (A : k_H) : Option (Int × k_H) := some (k_EXC, A)
def fX8_shared_b0 (A : k_H) (v0 v1 v2 v3 : Int) : Option (Int × k_H) := if k_isO A v0 8 then (k_bd (fX8_isShow A v0 v1) fun r1 A2 => if r1 = 0 then (fX8_shared_b24 A2) else (k_bd (fX8_isNight A2 v2) fun r6 A7 => if r6 = 0 then (fX8_shared_b24 A7) else (k_bd (fX8_isWithin A7 v3 0 3) fun r10 A11 => if r10 = 0 then (fX8_shared_b24 A11) else (if k_isO A11 v0 8 then (if k_isA A11 (k_rd A11 v0 2) 24 v1 then (if k_isO A11 (k_rd A11 (k_rd A11 v0 2) v1) 4 then (if k_isA A11 (k_rd A11 (k_rd A11 (k_rd A11 v0 2) v1) 2) 21 v2 then (if (k_rd A11 (k_rd A11 (k_rd A11 (k_rd A11 v0 2) v1) 2) v2) = (-1) then (some (k_EXC, A11)) else (k_bd (fX4_partOfDoor A11 (k_rd A11 (k_rd A11 v0 2) v1) v2 v3) fun r19 A20 => some (r19, A20))) else none) else none) else none) else none)))) else none
def fX8_shared (A : k_H) (x0 x1 x2 x3 : Int) : Option (Int × k_H) := fX8_shared_b0 A x0 x1 x2 x3
set_option maxRecDepth 100000 in
theorem okX8_shared_b24 (A : k_H) (r : Int) (A' : k_H) (h : fX8_shared_b24 A  = some (r, A')) : k_AW 8 mX8_shared 24 [(3, 0), (3, 0), (3, 0), (3, 0)] [] A r A' := by
  unfold fX8_shared_b24 at h
  obtain ⟨rfl, rfl⟩ := k_pr h
  exact k_throw (pc := 24) (j := 8) (by decide +kernel) dX8_shared_24 dX8_shared_27 dX8_shared_28 dX8_shared_30 dX8_shared_33 rfl (k_gt 793 (by decide +kernel) (by decide +kernel))
set_option maxRecDepth 100000 in
theorem okX8_shared_b0 (A : k_H) (v0 v1 v2 v3 : Int) (r : Int) (A' : k_H) (h : fX8_shared_b0 A v0 v1 v2 v3 = some (r, A')) : k_AW 8 mX8_shared 0 [(1, v0), (0, v1), (0, v2), (0, v3)] [] A r A' := by
  unfold fX8_shared_b0 at h
  refine k_aload_n (pc := 0) (x := v0) dX8_shared_0 rfl rfl ?_
  refine k_iload_n (pc := 1) (x := v1) dX8_shared_1 rfl rfl ?_
  obtain ⟨hc4, h⟩ := k_pk h
  obtain ⟨r1, A2, hq3, h⟩ := k_pb h
  refine k_callV (pc := 2) (ci := 8) (a := v0) (as := [(0, v1)]) (st := []) (st1 := [(0, r1)]) dX8_shared_2 cbX8_isShow (k_gt 412 (by decide +kernel) (by decide +kernel)) cvX8_isShow.1 cvX8_isShow.2 rfl (by decide) hc4 (by omega) rfl (Nat.le_of_ble_eq_true rfl) (okX8_isShow hq3) rfl ?_
  refine k_if_eq (pc := 5) (tgt := 24) dX8_shared_5 rfl (fun c5 => ?_) (fun c5 => ?_)
  · rw [if_pos c5] at h
    refine k_sub (ls' := [(3, 0), (3, 0), (3, 0), (3, 0)]) (k_sbl_ok _ _ ⟨Or.inl rfl, Or.inl rfl, Or.inl rfl, Or.inl rfl, trivial⟩) ?_
    exact okX8_shared_b24  _ _ _ h
  · rw [if_neg c5] at h
    refine k_iload_n (pc := 8) (x := v2) dX8_shared_8 rfl rfl ?_
    obtain ⟨r6, A7, hq8, h⟩ := k_pb h
    refine k_callS (pc := 9) (as := [(0, v2)]) (st := []) (st1 := [(0, r6)]) dX8_shared_9 cbX8_isNight (k_gt 388 (by decide +kernel) (by decide +kernel)) (k_gt 389 (by decide +kernel) (by decide +kernel)) (by omega) rfl (Nat.le_of_ble_eq_true rfl) (okX8_isNight hq8) rfl ?_
    refine k_if_eq (pc := 12) (tgt := 24) dX8_shared_12 rfl (fun c9 => ?_) (fun c9 => ?_)
    · rw [if_pos c9] at h
      refine k_sub (ls' := [(3, 0), (3, 0), (3, 0), (3, 0)]) (k_sbl_ok _ _ ⟨Or.inl rfl, Or.inl rfl, Or.inl rfl, Or.inl rfl, trivial⟩) ?_
      exact okX8_shared_b24  _ _ _ h
    · rw [if_neg c9] at h
      refine k_iload_n (pc := 15) (x := v3) dX8_shared_15 rfl rfl ?_
      refine k_iconst (pc := 16) dX8_shared_16 ⟨by decide, by decide⟩ ?_
      refine k_iconst (pc := 17) dX8_shared_17 ⟨by decide, by decide⟩ ?_
      obtain ⟨r10, A11, hq12, h⟩ := k_pb h
      refine k_callS (pc := 18) (as := [(0, v3), (0, 0), (0, 3)]) (st := []) (st1 := [(0, r10)]) dX8_shared_18 cbX8_isWithin (k_gt 355 (by decide +kernel) (by decide +kernel)) (k_gt 356 (by decide +kernel) (by decide +kernel)) (by omega) rfl (Nat.le_of_ble_eq_true rfl) (okX8_isWithin hq12) rfl ?_
      refine k_if_ne (pc := 21) (tgt := 34) dX8_shared_21 rfl (fun c13 => ?_) (fun c13 => ?_)
      · rw [if_neg c13] at h
        refine k_aload_n (pc := 34) (x := v0) dX8_shared_34 rfl rfl ?_
        obtain ⟨hc14, h⟩ := k_pk h
        refine k_getf (pc := 35) (t := 1) (fi := 2) dX8_shared_35 flX8_24 rfl rfl hc14 ?_
        refine k_iload_n (pc := 38) (x := v1) dX8_shared_38 rfl rfl ?_
        obtain ⟨hc15, h⟩ := k_pk h
        refine k_aaload (pc := 39) (K := 24) dX8_shared_39 (by decide) hc15 ?_
        obtain ⟨hc16, h⟩ := k_pk h
        refine k_getf (pc := 40) (t := 1) (fi := 2) dX8_shared_40 flX8_170 rfl rfl hc16 ?_
        refine k_iload_n (pc := 43) (x := v2) dX8_shared_43 rfl rfl ?_
        obtain ⟨hc17, h⟩ := k_pk h
        refine k_iaload (pc := 44) dX8_shared_44 hc17 ?_
        refine k_iconst (pc := 45) dX8_shared_45 ⟨by decide, by decide⟩ ?_
        refine k_icmp_ne (pc := 46) (tgt := 59) dX8_shared_46 rfl (fun c18 => ?_) (fun c18 => ?_)
        · rw [if_neg c18] at h
          refine k_aload_n (pc := 59) (x := v0) dX8_shared_59 rfl rfl ?_
          refine k_getf (pc := 60) (t := 1) (fi := 2) dX8_shared_60 flX8_24 rfl rfl hc14 ?_
          refine k_iload_n (pc := 63) (x := v1) dX8_shared_63 rfl rfl ?_
          refine k_aaload (pc := 64) (K := 24) dX8_shared_64 (by decide) hc15 ?_
          refine k_iload_n (pc := 65) (x := v2) dX8_shared_65 rfl rfl ?_
          refine k_iload_n (pc := 66) (x := v3) dX8_shared_66 rfl rfl ?_
          obtain ⟨r19, A20, hq21, h⟩ := k_pb h
          refine k_callV (pc := 67) (ci := 4) (a := (k_rd A11 (k_rd A11 v0 2) v1)) (as := [(0, v2), (0, v3)]) (st := []) (st1 := [(0, r19)]) dX8_shared_67 cbX4_partOfDoor (k_gt 749 (by decide +kernel) (by decide +kernel)) cvX4_partOfDoor.1 cvX4_partOfDoor.2 rfl (by decide) hc16 (by omega) rfl (Nat.le_of_ble_eq_true rfl) (okX4_partOfDoor hq21) rfl ?_
          obtain ⟨rfl, rfl⟩ := k_pr h
          exact k_ret (pc := 70) dX8_shared_70 rfl rfl rfl
        · rw [if_pos (Classical.not_not.mp c18)] at h
          obtain ⟨rfl, rfl⟩ := k_pr h
          exact k_throw (pc := 49) (j := 9) (by decide +kernel) dX8_shared_49 dX8_shared_52 dX8_shared_53 dX8_shared_55 dX8_shared_58 rfl (k_gt 793 (by decide +kernel) (by decide +kernel))
      · rw [if_pos (Classical.not_not.mp c13)] at h
        refine k_sub (ls' := [(3, 0), (3, 0), (3, 0), (3, 0)]) (k_sbl_ok _ _ ⟨Or.inl rfl, Or.inl rfl, Or.inl rfl, Or.inl rfl, trivial⟩) ?_
        exact okX8_shared_b24  _ _ _ h
theorem okX8_shared {A : k_H} {x0 x1 x2 x3 : Int} {r : Int} {A1 : k_H} (hr : r ≠ k_EXC) (h : fX8_shared A x0 x1 x2 x3 = some (r, A1)) : k_AM 8 mX8_shared [(1, x0), (0, x1), (0, x2), (0, x3)] A r A1 :=
  k_AM_of2 (ls := [(1, x0), (0, x1), (0, x2), (0, x3)]) (Or.inr hr) (by decide +kernel) (by decide) rfl (Nat.le_of_ble_eq_true rfl) ⟨Or.inr rfl, Or.inr rfl, Or.inr rfl, Or.inr rfl, trivial⟩ (okX8_shared_b0 A x0 x1 x2 x3 r A1 h)
/-! X8_sum -/
def fX8_sum_b73 (k15 : k_H → Int → Int → Int → Int → Option (Int × k_H)) (k26 : k_H → Int → Int → Int → Int → Int → Option (Int × k_H)) (A : k_H) (v0 v1 v2 v3 v4 : Int) : Option (Int × k_H) := k26 A v0 v1 v2 v3 (k_wr (v4 + 1))
def fX8_sum_b71 (k15 : k_H → Int → Int → Int → Int → Option (Int × k_H)) (k26 : k_H → Int → Int → Int → Int → Int → Option (Int × k_H)) (A : k_H) (v0 v1 v3 v4 s0 s1 : Int) : Option (Int × k_H) := fX8_sum_b73 k15 k26 A v0 v1 (k_wr (s0 + s1)) v3 v4
def fX8_sum_h26 (k15 : k_H → Int → Int → Int → Int → Option (Int × k_H)) : Nat → k_H → Int → Int → Int → Int → Int → Option (Int × k_H)
  | 0, _, _, _, _, _, _ => none
  | N + 1, A, v0, v1, v2, v3, v4 => if v4 < 14 then (if k_isO A v0 8 then (if k_isA A (k_rd A v0 2) 24 v3 then (if k_isO A (k_rd A (k_rd A v0 2) v3) 4 then (if k_isA A (k_rd A (k_rd A (k_rd A v0 2) v3) 2) 21 v4 then (if (k_rd A (k_rd A (k_rd A (k_rd A v0 2) v3) 2) v4) = (-1) then (fX8_sum_b73 k15 (fX8_sum_h26 k15 N) A v0 v1 v2 v3 v4) else (if v1 = 4 then (fX8_sum_b71 k15 (fX8_sum_h26 k15 N) A v0 v1 v3 v4 v2 1) else (k_bd (fX4_partOfDoor A (k_rd A (k_rd A v0 2) v3) v4 v1) fun r8 A9 => fX8_sum_b71 k15 (fX8_sum_h26 k15 N) A9 v0 v1 v3 v4 v2 r8))) else none) else none) else none) else none) else (k15 A v0 v1 v2 (k_wr (v3 + 1)))
def fX8_sum_h15 : Nat → k_H → Int → Int → Int → Int → Option (Int × k_H)
  | 0, _, _, _, _, _ => none
  | N + 1, A, v0, v1, v2, v3 => if k_isO A v0 8 then (if v3 < (k_rd A v0 7) then (fX8_sum_h26 (fX8_sum_h15 N) k_FU A v0 v1 v2 v3 0) else (some (v2, A))) else none
def fX8_sum_b0 (A : k_H) (v0 v1 : Int) : Option (Int × k_H) := k_bd (fX8_isWithin A v1 0 4) fun r1 A2 => if r1 = 0 then (some ((-1), A2)) else (fX8_sum_h15 k_FU A2 v0 v1 0 0)
def fX8_sum (A : k_H) (x0 x1 : Int) : Option (Int × k_H) := fX8_sum_b0 A x0 x1
set_option maxRecDepth 100000 in
theorem okX8_sum_b73 (k15 : k_H → Int → Int → Int → Int → Option (Int × k_H)) (hk15 : ∀ (A : k_H) (v0 v1 v2 v3 : Int) (r : Int) (A' : k_H), k15 A v0 v1 v2 v3 = some (r, A') → k_AW 7 mX8_sum 15 [(1, v0), (0, v1), (0, v2), (0, v3), (3, 0)] [] A r A') (k26 : k_H → Int → Int → Int → Int → Int → Option (Int × k_H)) (hk26 : ∀ (A : k_H) (v0 v1 v2 v3 v4 : Int) (r : Int) (A' : k_H), k26 A v0 v1 v2 v3 v4 = some (r, A') → k_AW 7 mX8_sum 26 [(1, v0), (0, v1), (0, v2), (0, v3), (0, v4)] [] A r A') (A : k_H) (v0 v1 v2 v3 v4 : Int) (r : Int) (A' : k_H) (h : fX8_sum_b73 k15 k26 A v0 v1 v2 v3 v4 = some (r, A')) : k_AW 7 mX8_sum 73 [(1, v0), (0, v1), (0, v2), (0, v3), (0, v4)] [] A r A' := by
  unfold fX8_sum_b73 at h
  refine k_iinc (pc := 73) (x := v4) dX8_sum_73 (Nat.le_of_ble_eq_true rfl) rfl rfl ?_
  show k_AW _ _ _ [(1, v0), (0, v1), (0, v2), (0, v3), (0, k_wr (v4 + 1))] _ _ _ _
  refine k_goto (pc := 76) (tgt := 26) dX8_sum_76 rfl ?_
  refine k_sub (ls' := [(1, v0), (0, v1), (0, v2), (0, v3), (0, k_wr (v4 + 1))]) (k_sbl_ok _ _ ⟨Or.inr rfl, Or.inr rfl, Or.inr rfl, Or.inr rfl, Or.inr rfl, trivial⟩) ?_
  exact hk26 _ _ _ _ _ _ _ _ h
set_option maxRecDepth 100000 in
theorem okX8_sum_b71 (k15 : k_H → Int → Int → Int → Int → Option (Int × k_H)) (hk15 : ∀ (A : k_H) (v0 v1 v2 v3 : Int) (r : Int) (A' : k_H), k15 A v0 v1 v2 v3 = some (r, A') → k_AW 7 mX8_sum 15 [(1, v0), (0, v1), (0, v2), (0, v3), (3, 0)] [] A r A') (k26 : k_H → Int → Int → Int → Int → Int → Option (Int × k_H)) (hk26 : ∀ (A : k_H) (v0 v1 v2 v3 v4 : Int) (r : Int) (A' : k_H), k26 A v0 v1 v2 v3 v4 = some (r, A') → k_AW 7 mX8_sum 26 [(1, v0), (0, v1), (0, v2), (0, v3), (0, v4)] [] A r A') (A : k_H) (v0 v1 v3 v4 s0 s1 : Int) (r : Int) (A' : k_H) (h : fX8_sum_b71 k15 k26 A v0 v1 v3 v4 s0 s1 = some (r, A')) : k_AW 7 mX8_sum 71 [(1, v0), (0, v1), (3, 0), (0, v3), (0, v4)] [(0, s1), (0, s0)] A r A' := by
  unfold fX8_sum_b71 at h
  refine k_iadd (pc := 71) dX8_sum_71 ?_
  refine k_istore_n (pc := 72) dX8_sum_72 rfl (Nat.le_of_ble_eq_true rfl) rfl ?_
  show k_AW _ _ _ [(1, v0), (0, v1), (0, k_wr (s0 + s1)), (0, v3), (0, v4)] _ _ _ _
  refine k_sub (ls' := [(1, v0), (0, v1), (0, k_wr (s0 + s1)), (0, v3), (0, v4)]) (k_sbl_ok _ _ ⟨Or.inr rfl, Or.inr rfl, Or.inr rfl, Or.inr rfl, Or.inr rfl, trivial⟩) ?_
  exact okX8_sum_b73 k15 hk15 k26 hk26 _ _ _ _ _ _ _ _ h
set_option maxRecDepth 100000 in
theorem okX8_sum_h26 (k15 : k_H → Int → Int → Int → Int → Option (Int × k_H)) (hk15 : ∀ (A : k_H) (v0 v1 v2 v3 : Int) (r : Int) (A' : k_H), k15 A v0 v1 v2 v3 = some (r, A') → k_AW 7 mX8_sum 15 [(1, v0), (0, v1), (0, v2), (0, v3), (3, 0)] [] A r A') : ∀ (N : Nat) (A : k_H) (v0 v1 v2 v3 v4 : Int) (r : Int) (A' : k_H), fX8_sum_h26 k15 N A v0 v1 v2 v3 v4 = some (r, A') → k_AW 7 mX8_sum 26 [(1, v0), (0, v1), (0, v2), (0, v3), (0, v4)] [] A r A' := by
  intro N
  induction N with
  | zero => intro A v0 v1 v2 v3 v4 r A' h; exact absurd h (by simp [fX8_sum_h26])
  | succ N ih =>
    intro A v0 v1 v2 v3 v4 r A' h
    rw [fX8_sum_h26] at h
    refine k_iload (pc := 26) (x := v4) dX8_sum_26 rfl ?_
    refine k_bipush (pc := 28) dX8_sum_28 ⟨by decide, by decide⟩ (by decide +kernel) ?_
    refine k_icmp_ge (pc := 30) (tgt := 79) dX8_sum_30 rfl (fun c1 => ?_) (fun c1 => ?_)
    · rw [if_neg (Int.not_lt.mpr c1)] at h
      refine k_iinc (pc := 79) (x := v3) dX8_sum_79 (Nat.le_of_ble_eq_true rfl) rfl rfl ?_
      show k_AW _ _ _ [(1, v0), (0, v1), (0, v2), (0, k_wr (v3 + 1)), (0, v4)] _ _ _ _
      refine k_goto (pc := 82) (tgt := 15) dX8_sum_82 rfl ?_
      refine k_sub (ls' := [(1, v0), (0, v1), (0, v2), (0, k_wr (v3 + 1)), (3, 0)]) (k_sbl_ok _ _ ⟨Or.inr rfl, Or.inr rfl, Or.inr rfl, Or.inr rfl, Or.inl rfl, trivial⟩) ?_
      exact hk15 _ _ _ _ _ _ _ h
    · rw [if_pos (Int.not_le.mp c1)] at h
      refine k_aload_n (pc := 33) (x := v0) dX8_sum_33 rfl rfl ?_
      obtain ⟨hc2, h⟩ := k_pk h
      refine k_getf (pc := 34) (t := 1) (fi := 2) dX8_sum_34 flX8_24 rfl rfl hc2 ?_
      refine k_iload_n (pc := 37) (x := v3) dX8_sum_37 rfl rfl ?_
      obtain ⟨hc3, h⟩ := k_pk h
      refine k_aaload (pc := 38) (K := 24) dX8_sum_38 (by decide) hc3 ?_
      obtain ⟨hc4, h⟩ := k_pk h
      refine k_getf (pc := 39) (t := 1) (fi := 2) dX8_sum_39 flX8_170 rfl rfl hc4 ?_
      refine k_iload (pc := 42) (x := v4) dX8_sum_42 rfl ?_
      obtain ⟨hc5, h⟩ := k_pk h
      refine k_iaload (pc := 44) dX8_sum_44 hc5 ?_
      refine k_iconst (pc := 45) dX8_sum_45 ⟨by decide, by decide⟩ ?_
      refine k_icmp_eq (pc := 46) (tgt := 73) dX8_sum_46 rfl (fun c6 => ?_) (fun c6 => ?_)
      · rw [if_pos c6] at h
        refine k_sub (ls' := [(1, v0), (0, v1), (0, v2), (0, v3), (0, v4)]) (k_sbl_ok _ _ ⟨Or.inr rfl, Or.inr rfl, Or.inr rfl, Or.inr rfl, Or.inr rfl, trivial⟩) ?_
        exact okX8_sum_b73 k15 hk15 (fX8_sum_h26 k15 N) ih _ _ _ _ _ _ _ _ h
      · rw [if_neg c6] at h
        refine k_iload_n (pc := 49) (x := v2) dX8_sum_49 rfl rfl ?_
        refine k_iload_n (pc := 50) (x := v1) dX8_sum_50 rfl rfl ?_
        refine k_iconst (pc := 51) dX8_sum_51 ⟨by decide, by decide⟩ ?_
        refine k_icmp_ne (pc := 52) (tgt := 59) dX8_sum_52 rfl (fun c7 => ?_) (fun c7 => ?_)
        · rw [if_neg c7] at h
          refine k_aload_n (pc := 59) (x := v0) dX8_sum_59 rfl rfl ?_
          refine k_getf (pc := 60) (t := 1) (fi := 2) dX8_sum_60 flX8_24 rfl rfl hc2 ?_
          refine k_iload_n (pc := 63) (x := v3) dX8_sum_63 rfl rfl ?_
          refine k_aaload (pc := 64) (K := 24) dX8_sum_64 (by decide) hc3 ?_
          refine k_iload (pc := 65) (x := v4) dX8_sum_65 rfl ?_
          refine k_iload_n (pc := 67) (x := v1) dX8_sum_67 rfl rfl ?_
          obtain ⟨r8, A9, hq10, h⟩ := k_pb h
          refine k_callV (pc := 68) (ci := 4) (a := (k_rd A (k_rd A v0 2) v3)) (as := [(0, v4), (0, v1)]) (st := [(0, v2)]) (st1 := [(0, r8), (0, v2)]) dX8_sum_68 cbX4_partOfDoor (k_gt 749 (by decide +kernel) (by decide +kernel)) cvX4_partOfDoor.1 cvX4_partOfDoor.2 rfl (by decide) hc4 (by omega) rfl (Nat.le_of_ble_eq_true rfl) (okX4_partOfDoor hq10) rfl ?_
          refine k_sub (ls' := [(1, v0), (0, v1), (3, 0), (0, v3), (0, v4)]) (k_sbl_ok _ _ ⟨Or.inr rfl, Or.inr rfl, Or.inl rfl, Or.inr rfl, Or.inr rfl, trivial⟩) ?_
          exact okX8_sum_b71 k15 hk15 (fX8_sum_h26 k15 N) ih _ _ _ _ _ _ _ _ _ h
        · rw [if_pos (Classical.not_not.mp c7)] at h
          refine k_iconst (pc := 55) dX8_sum_55 ⟨by decide, by decide⟩ ?_
          refine k_goto (pc := 56) (tgt := 71) dX8_sum_56 rfl ?_
          refine k_sub (ls' := [(1, v0), (0, v1), (3, 0), (0, v3), (0, v4)]) (k_sbl_ok _ _ ⟨Or.inr rfl, Or.inr rfl, Or.inl rfl, Or.inr rfl, Or.inr rfl, trivial⟩) ?_
          exact okX8_sum_b71 k15 hk15 (fX8_sum_h26 k15 N) ih _ _ _ _ _ _ _ _ _ h
set_option maxRecDepth 100000 in
theorem okX8_sum_h15 : ∀ (N : Nat) (A : k_H) (v0 v1 v2 v3 : Int) (r : Int) (A' : k_H), fX8_sum_h15 N A v0 v1 v2 v3 = some (r, A') → k_AW 7 mX8_sum 15 [(1, v0), (0, v1), (0, v2), (0, v3), (3, 0)] [] A r A' := by
  intro N
  induction N with
  | zero => intro A v0 v1 v2 v3 r A' h; exact absurd h (by simp [fX8_sum_h15])
  | succ N ih =>
    intro A v0 v1 v2 v3 r A' h
    rw [fX8_sum_h15] at h
    refine k_iload_n (pc := 15) (x := v3) dX8_sum_15 rfl rfl ?_
    refine k_aload_n (pc := 16) (x := v0) dX8_sum_16 rfl rfl ?_
    obtain ⟨hc1, h⟩ := k_pk h
    refine k_getf (pc := 17) (t := 0) (fi := 7) dX8_sum_17 flX8_80 rfl rfl hc1 ?_
    refine k_icmp_ge (pc := 20) (tgt := 85) dX8_sum_20 rfl (fun c2 => ?_) (fun c2 => ?_)
    · rw [if_neg (Int.not_lt.mpr c2)] at h
      refine k_iload_n (pc := 85) (x := v2) dX8_sum_85 rfl rfl ?_
      obtain ⟨rfl, rfl⟩ := k_pr h
      exact k_ret (pc := 86) dX8_sum_86 rfl rfl rfl
    · rw [if_pos (Int.not_le.mp c2)] at h
      refine k_iconst (pc := 23) dX8_sum_23 ⟨by decide, by decide⟩ ?_
      refine k_istore (pc := 24) dX8_sum_24 (Nat.le_of_ble_eq_true rfl) rfl ?_
      show k_AW _ _ _ [(1, v0), (0, v1), (0, v2), (0, v3), (0, 0)] _ _ _ _
      refine k_sub (ls' := [(1, v0), (0, v1), (0, v2), (0, v3), (0, 0)]) (k_sbl_ok _ _ ⟨Or.inr rfl, Or.inr rfl, Or.inr rfl, Or.inr rfl, Or.inr rfl, trivial⟩) ?_
      exact okX8_sum_h26 (fX8_sum_h15 N) ih _ _ _ _ _ _ _ _ _ h
set_option maxRecDepth 100000 in
theorem okX8_sum_b0 (A : k_H) (v0 v1 : Int) (r : Int) (A' : k_H) (h : fX8_sum_b0 A v0 v1 = some (r, A')) : k_AW 7 mX8_sum 0 [(1, v0), (0, v1), (3, 0), (3, 0), (3, 0)] [] A r A' := by
  unfold fX8_sum_b0 at h
  refine k_iload_n (pc := 0) (x := v1) dX8_sum_0 rfl rfl ?_
  refine k_iconst (pc := 1) dX8_sum_1 ⟨by decide, by decide⟩ ?_
  refine k_iconst (pc := 2) dX8_sum_2 ⟨by decide, by decide⟩ ?_
  obtain ⟨r1, A2, hq3, h⟩ := k_pb h
  refine k_callS (pc := 3) (as := [(0, v1), (0, 0), (0, 4)]) (st := []) (st1 := [(0, r1)]) dX8_sum_3 cbX8_isWithin (k_gt 355 (by decide +kernel) (by decide +kernel)) (k_gt 356 (by decide +kernel) (by decide +kernel)) (by omega) rfl (Nat.le_of_ble_eq_true rfl) (okX8_isWithin hq3) rfl ?_
  refine k_if_ne (pc := 6) (tgt := 11) dX8_sum_6 rfl (fun c4 => ?_) (fun c4 => ?_)
  · rw [if_neg c4] at h
    refine k_iconst (pc := 11) dX8_sum_11 ⟨by decide, by decide⟩ ?_
    refine k_istore_n (pc := 12) dX8_sum_12 rfl (Nat.le_of_ble_eq_true rfl) rfl ?_
    show k_AW _ _ _ [(1, v0), (0, v1), (0, 0), (3, 0), (3, 0)] _ _ _ _
    refine k_iconst (pc := 13) dX8_sum_13 ⟨by decide, by decide⟩ ?_
    refine k_istore_n (pc := 14) dX8_sum_14 rfl (Nat.le_of_ble_eq_true rfl) rfl ?_
    show k_AW _ _ _ [(1, v0), (0, v1), (0, 0), (0, 0), (3, 0)] _ _ _ _
    refine k_sub (ls' := [(1, v0), (0, v1), (0, 0), (0, 0), (3, 0)]) (k_sbl_ok _ _ ⟨Or.inr rfl, Or.inr rfl, Or.inr rfl, Or.inr rfl, Or.inl rfl, trivial⟩) ?_
    exact okX8_sum_h15  _ _ _ _ _ _ _ _ h
  · rw [if_pos (Classical.not_not.mp c4)] at h
    refine k_iconst (pc := 9) dX8_sum_9 ⟨by decide, by decide⟩ ?_
    obtain ⟨rfl, rfl⟩ := k_pr h
    exact k_ret (pc := 10) dX8_sum_10 rfl rfl rfl
theorem okX8_sum {A : k_H} {x0 x1 : Int} {r : Int} {A1 : k_H} (h : fX8_sum A x0 x1 = some (r, A1)) : k_AM 7 mX8_sum [(1, x0), (0, x1)] A r A1 :=
  k_AM_of2 (ls := [(1, x0), (0, x1), (3, 0), (3, 0), (3, 0)]) (Or.inl (by decide +kernel)) (by decide +kernel) (by decide) rfl (Nat.le_of_ble_eq_true rfl) ⟨Or.inr rfl, Or.inr rfl, rfl, rfl, rfl, trivial⟩ (okX8_sum_b0 A x0 x1 r A1 h)
/-! X8_keeps -/
def fX8_keeps_b87 (k22 : k_H → Int → Int → Int → Int → Option (Int × k_H)) (k33 : k_H → Int → Int → Int → Int → Int → Option (Int × k_H)) (A : k_H) (v0 v1 v2 v3 v4 : Int) : Option (Int × k_H) := k33 A v0 v1 v2 v3 (k_wr (v4 + 1))
def fX8_keeps_h33 (k22 : k_H → Int → Int → Int → Int → Option (Int × k_H)) : Nat → k_H → Int → Int → Int → Int → Int → Option (Int × k_H)
  | 0, _, _, _, _, _, _ => none
  | N + 1, A, v0, v1, v2, v3, v4 => if v4 < 14 then (if k_isO A v0 8 then (if k_isA A (k_rd A v0 2) 24 v3 then (if k_isO A (k_rd A (k_rd A v0 2) v3) 4 then (if k_isA A (k_rd A (k_rd A (k_rd A v0 2) v3) 1) 21 v4 then (if (k_rd A (k_rd A (k_rd A (k_rd A v0 2) v3) 1) v4) = v1 then (if k_isA A (k_rd A (k_rd A (k_rd A v0 2) v3) 2) 21 v4 then (if (k_rd A (k_rd A (k_rd A (k_rd A v0 2) v3) 2) v4) = (-1) then (fX8_keeps_b87 k22 (fX8_keeps_h33 k22 N) A v0 v1 v2 v3 v4) else (k_bd (fX4_partOfDoor A (k_rd A (k_rd A v0 2) v3) v4 2) fun r9 A10 => fX8_keeps_b87 k22 (fX8_keeps_h33 k22 N) A10 v0 v1 (k_wr (v2 + r9)) v3 v4)) else none) else (fX8_keeps_b87 k22 (fX8_keeps_h33 k22 N) A v0 v1 v2 v3 v4)) else none) else none) else none) else none) else (k22 A v0 v1 v2 (k_wr (v3 + 1)))
def fX8_keeps_h22 : Nat → k_H → Int → Int → Int → Int → Option (Int × k_H)
  | 0, _, _, _, _, _ => none
  | N + 1, A, v0, v1, v2, v3 => if k_isO A v0 8 then (if v3 < (k_rd A v0 7) then (fX8_keeps_h33 (fX8_keeps_h22 N) k_FU A v0 v1 v2 v3 0) else (some (v2, A))) else none
def fX8_keeps_b0 (A : k_H) (v0 v1 : Int) : Option (Int × k_H) := if k_isO A v0 8 then (k_bd (fX8_isHall A v0 v1) fun r1 A2 => if r1 = 0 then (some (k_EXC, A2)) else (fX8_keeps_h22 k_FU A2 v0 v1 0 0)) else none
def fX8_keeps (A : k_H) (x0 x1 : Int) : Option (Int × k_H) := fX8_keeps_b0 A x0 x1
set_option maxRecDepth 100000 in
theorem okX8_keeps_b87 (k22 : k_H → Int → Int → Int → Int → Option (Int × k_H)) (hk22 : ∀ (A : k_H) (v0 v1 v2 v3 : Int) (r : Int) (A' : k_H), k22 A v0 v1 v2 v3 = some (r, A') → k_AW 8 mX8_keeps 22 [(1, v0), (0, v1), (0, v2), (0, v3), (3, 0)] [] A r A') (k33 : k_H → Int → Int → Int → Int → Int → Option (Int × k_H)) (hk33 : ∀ (A : k_H) (v0 v1 v2 v3 v4 : Int) (r : Int) (A' : k_H), k33 A v0 v1 v2 v3 v4 = some (r, A') → k_AW 8 mX8_keeps 33 [(1, v0), (0, v1), (0, v2), (0, v3), (0, v4)] [] A r A') (A : k_H) (v0 v1 v2 v3 v4 : Int) (r : Int) (A' : k_H) (h : fX8_keeps_b87 k22 k33 A v0 v1 v2 v3 v4 = some (r, A')) : k_AW 8 mX8_keeps 87 [(1, v0), (0, v1), (0, v2), (0, v3), (0, v4)] [] A r A' := by
  unfold fX8_keeps_b87 at h
  refine k_iinc (pc := 87) (x := v4) dX8_keeps_87 (Nat.le_of_ble_eq_true rfl) rfl rfl ?_
  show k_AW _ _ _ [(1, v0), (0, v1), (0, v2), (0, v3), (0, k_wr (v4 + 1))] _ _ _ _
  refine k_goto (pc := 90) (tgt := 33) dX8_keeps_90 rfl ?_
  refine k_sub (ls' := [(1, v0), (0, v1), (0, v2), (0, v3), (0, k_wr (v4 + 1))]) (k_sbl_ok _ _ ⟨Or.inr rfl, Or.inr rfl, Or.inr rfl, Or.inr rfl, Or.inr rfl, trivial⟩) ?_
  exact hk33 _ _ _ _ _ _ _ _ h
set_option maxRecDepth 100000 in
theorem okX8_keeps_h33 (k22 : k_H → Int → Int → Int → Int → Option (Int × k_H)) (hk22 : ∀ (A : k_H) (v0 v1 v2 v3 : Int) (r : Int) (A' : k_H), k22 A v0 v1 v2 v3 = some (r, A') → k_AW 8 mX8_keeps 22 [(1, v0), (0, v1), (0, v2), (0, v3), (3, 0)] [] A r A') : ∀ (N : Nat) (A : k_H) (v0 v1 v2 v3 v4 : Int) (r : Int) (A' : k_H), fX8_keeps_h33 k22 N A v0 v1 v2 v3 v4 = some (r, A') → k_AW 8 mX8_keeps 33 [(1, v0), (0, v1), (0, v2), (0, v3), (0, v4)] [] A r A' := by
  intro N
  induction N with
  | zero => intro A v0 v1 v2 v3 v4 r A' h; exact absurd h (by simp [fX8_keeps_h33])
  | succ N ih =>
    intro A v0 v1 v2 v3 v4 r A' h
    rw [fX8_keeps_h33] at h
    refine k_iload (pc := 33) (x := v4) dX8_keeps_33 rfl ?_
    refine k_bipush (pc := 35) dX8_keeps_35 ⟨by decide, by decide⟩ (by decide +kernel) ?_
    refine k_icmp_ge (pc := 37) (tgt := 93) dX8_keeps_37 rfl (fun c1 => ?_) (fun c1 => ?_)
    · rw [if_neg (Int.not_lt.mpr c1)] at h
      refine k_iinc (pc := 93) (x := v3) dX8_keeps_93 (Nat.le_of_ble_eq_true rfl) rfl rfl ?_
      show k_AW _ _ _ [(1, v0), (0, v1), (0, v2), (0, k_wr (v3 + 1)), (0, v4)] _ _ _ _
      refine k_goto (pc := 96) (tgt := 22) dX8_keeps_96 rfl ?_
      refine k_sub (ls' := [(1, v0), (0, v1), (0, v2), (0, k_wr (v3 + 1)), (3, 0)]) (k_sbl_ok _ _ ⟨Or.inr rfl, Or.inr rfl, Or.inr rfl, Or.inr rfl, Or.inl rfl, trivial⟩) ?_
      exact hk22 _ _ _ _ _ _ _ h
    · rw [if_pos (Int.not_le.mp c1)] at h
      refine k_aload_n (pc := 40) (x := v0) dX8_keeps_40 rfl rfl ?_
      obtain ⟨hc2, h⟩ := k_pk h
      refine k_getf (pc := 41) (t := 1) (fi := 2) dX8_keeps_41 flX8_24 rfl rfl hc2 ?_
      refine k_iload_n (pc := 44) (x := v3) dX8_keeps_44 rfl rfl ?_
      obtain ⟨hc3, h⟩ := k_pk h
      refine k_aaload (pc := 45) (K := 24) dX8_keeps_45 (by decide) hc3 ?_
      obtain ⟨hc4, h⟩ := k_pk h
      refine k_getf (pc := 46) (t := 1) (fi := 1) dX8_keeps_46 flX8_163 rfl rfl hc4 ?_
      refine k_iload (pc := 49) (x := v4) dX8_keeps_49 rfl ?_
      obtain ⟨hc5, h⟩ := k_pk h
      refine k_iaload (pc := 51) dX8_keeps_51 hc5 ?_
      refine k_iload_n (pc := 52) (x := v1) dX8_keeps_52 rfl rfl ?_
      refine k_icmp_ne (pc := 53) (tgt := 87) dX8_keeps_53 rfl (fun c6 => ?_) (fun c6 => ?_)
      · rw [if_neg c6] at h
        refine k_sub (ls' := [(1, v0), (0, v1), (0, v2), (0, v3), (0, v4)]) (k_sbl_ok _ _ ⟨Or.inr rfl, Or.inr rfl, Or.inr rfl, Or.inr rfl, Or.inr rfl, trivial⟩) ?_
        exact okX8_keeps_b87 k22 hk22 (fX8_keeps_h33 k22 N) ih _ _ _ _ _ _ _ _ h
      · rw [if_pos (Classical.not_not.mp c6)] at h
        refine k_aload_n (pc := 56) (x := v0) dX8_keeps_56 rfl rfl ?_
        refine k_getf (pc := 57) (t := 1) (fi := 2) dX8_keeps_57 flX8_24 rfl rfl hc2 ?_
        refine k_iload_n (pc := 60) (x := v3) dX8_keeps_60 rfl rfl ?_
        refine k_aaload (pc := 61) (K := 24) dX8_keeps_61 (by decide) hc3 ?_
        refine k_getf (pc := 62) (t := 1) (fi := 2) dX8_keeps_62 flX8_170 rfl rfl hc4 ?_
        refine k_iload (pc := 65) (x := v4) dX8_keeps_65 rfl ?_
        obtain ⟨hc7, h⟩ := k_pk h
        refine k_iaload (pc := 67) dX8_keeps_67 hc7 ?_
        refine k_iconst (pc := 68) dX8_keeps_68 ⟨by decide, by decide⟩ ?_
        refine k_icmp_eq (pc := 69) (tgt := 87) dX8_keeps_69 rfl (fun c8 => ?_) (fun c8 => ?_)
        · rw [if_pos c8] at h
          refine k_sub (ls' := [(1, v0), (0, v1), (0, v2), (0, v3), (0, v4)]) (k_sbl_ok _ _ ⟨Or.inr rfl, Or.inr rfl, Or.inr rfl, Or.inr rfl, Or.inr rfl, trivial⟩) ?_
          exact okX8_keeps_b87 k22 hk22 (fX8_keeps_h33 k22 N) ih _ _ _ _ _ _ _ _ h
        · rw [if_neg c8] at h
          refine k_iload_n (pc := 72) (x := v2) dX8_keeps_72 rfl rfl ?_
          refine k_aload_n (pc := 73) (x := v0) dX8_keeps_73 rfl rfl ?_
          refine k_getf (pc := 74) (t := 1) (fi := 2) dX8_keeps_74 flX8_24 rfl rfl hc2 ?_
          refine k_iload_n (pc := 77) (x := v3) dX8_keeps_77 rfl rfl ?_
          refine k_aaload (pc := 78) (K := 24) dX8_keeps_78 (by decide) hc3 ?_
          refine k_iload (pc := 79) (x := v4) dX8_keeps_79 rfl ?_
          refine k_iconst (pc := 81) dX8_keeps_81 ⟨by decide, by decide⟩ ?_
          obtain ⟨r9, A10, hq11, h⟩ := k_pb h
          refine k_callV (pc := 82) (ci := 4) (a := (k_rd A (k_rd A v0 2) v3)) (as := [(0, v4), (0, 2)]) (st := [(0, v2)]) (st1 := [(0, r9), (0, v2)]) dX8_keeps_82 cbX4_partOfDoor (k_gt 749 (by decide +kernel) (by decide +kernel)) cvX4_partOfDoor.1 cvX4_partOfDoor.2 rfl (by decide) hc4 (by omega) rfl (Nat.le_of_ble_eq_true rfl) (okX4_partOfDoor hq11) rfl ?_
          refine k_iadd (pc := 85) dX8_keeps_85 ?_
          refine k_istore_n (pc := 86) dX8_keeps_86 rfl (Nat.le_of_ble_eq_true rfl) rfl ?_
          show k_AW _ _ _ [(1, v0), (0, v1), (0, k_wr (v2 + r9)), (0, v3), (0, v4)] _ _ _ _
          refine k_sub (ls' := [(1, v0), (0, v1), (0, k_wr (v2 + r9)), (0, v3), (0, v4)]) (k_sbl_ok _ _ ⟨Or.inr rfl, Or.inr rfl, Or.inr rfl, Or.inr rfl, Or.inr rfl, trivial⟩) ?_
          exact okX8_keeps_b87 k22 hk22 (fX8_keeps_h33 k22 N) ih _ _ _ _ _ _ _ _ h
set_option maxRecDepth 100000 in
theorem okX8_keeps_h22 : ∀ (N : Nat) (A : k_H) (v0 v1 v2 v3 : Int) (r : Int) (A' : k_H), fX8_keeps_h22 N A v0 v1 v2 v3 = some (r, A') → k_AW 8 mX8_keeps 22 [(1, v0), (0, v1), (0, v2), (0, v3), (3, 0)] [] A r A' := by
  intro N
  induction N with
  | zero => intro A v0 v1 v2 v3 r A' h; exact absurd h (by simp [fX8_keeps_h22])
  | succ N ih =>
    intro A v0 v1 v2 v3 r A' h
    rw [fX8_keeps_h22] at h
    refine k_iload_n (pc := 22) (x := v3) dX8_keeps_22 rfl rfl ?_
    refine k_aload_n (pc := 23) (x := v0) dX8_keeps_23 rfl rfl ?_
    obtain ⟨hc1, h⟩ := k_pk h
    refine k_getf (pc := 24) (t := 0) (fi := 7) dX8_keeps_24 flX8_80 rfl rfl hc1 ?_
    refine k_icmp_ge (pc := 27) (tgt := 99) dX8_keeps_27 rfl (fun c2 => ?_) (fun c2 => ?_)
    · rw [if_neg (Int.not_lt.mpr c2)] at h
      refine k_iload_n (pc := 99) (x := v2) dX8_keeps_99 rfl rfl ?_
      obtain ⟨rfl, rfl⟩ := k_pr h
      exact k_ret (pc := 100) dX8_keeps_100 rfl rfl rfl
    · rw [if_pos (Int.not_le.mp c2)] at h
      refine k_iconst (pc := 30) dX8_keeps_30 ⟨by decide, by decide⟩ ?_
      refine k_istore (pc := 31) dX8_keeps_31 (Nat.le_of_ble_eq_true rfl) rfl ?_
      show k_AW _ _ _ [(1, v0), (0, v1), (0, v2), (0, v3), (0, 0)] _ _ _ _
      refine k_sub (ls' := [(1, v0), (0, v1), (0, v2), (0, v3), (0, 0)]) (k_sbl_ok _ _ ⟨Or.inr rfl, Or.inr rfl, Or.inr rfl, Or.inr rfl, Or.inr rfl, trivial⟩) ?_
      exact okX8_keeps_h33 (fX8_keeps_h22 N) ih _ _ _ _ _ _ _ _ _ h
set_option maxRecDepth 100000 in
theorem okX8_keeps_b0 (A : k_H) (v0 v1 : Int) (r : Int) (A' : k_H) (h : fX8_keeps_b0 A v0 v1 = some (r, A')) : k_AW 8 mX8_keeps 0 [(1, v0), (0, v1), (3, 0), (3, 0), (3, 0)] [] A r A' := by
  unfold fX8_keeps_b0 at h
  refine k_aload_n (pc := 0) (x := v0) dX8_keeps_0 rfl rfl ?_
  refine k_iload_n (pc := 1) (x := v1) dX8_keeps_1 rfl rfl ?_
  obtain ⟨hc4, h⟩ := k_pk h
  obtain ⟨r1, A2, hq3, h⟩ := k_pb h
  refine k_callV (pc := 2) (ci := 8) (a := v0) (as := [(0, v1)]) (st := []) (st1 := [(0, r1)]) dX8_keeps_2 cbX8_isHall (k_gt 404 (by decide +kernel) (by decide +kernel)) cvX8_isHall.1 cvX8_isHall.2 rfl (by decide) hc4 (by omega) rfl (Nat.le_of_ble_eq_true rfl) (okX8_isHall hq3) rfl ?_
  refine k_if_ne (pc := 5) (tgt := 18) dX8_keeps_5 rfl (fun c5 => ?_) (fun c5 => ?_)
  · rw [if_neg c5] at h
    refine k_iconst (pc := 18) dX8_keeps_18 ⟨by decide, by decide⟩ ?_
    refine k_istore_n (pc := 19) dX8_keeps_19 rfl (Nat.le_of_ble_eq_true rfl) rfl ?_
    show k_AW _ _ _ [(1, v0), (0, v1), (0, 0), (3, 0), (3, 0)] _ _ _ _
    refine k_iconst (pc := 20) dX8_keeps_20 ⟨by decide, by decide⟩ ?_
    refine k_istore_n (pc := 21) dX8_keeps_21 rfl (Nat.le_of_ble_eq_true rfl) rfl ?_
    show k_AW _ _ _ [(1, v0), (0, v1), (0, 0), (0, 0), (3, 0)] _ _ _ _
    refine k_sub (ls' := [(1, v0), (0, v1), (0, 0), (0, 0), (3, 0)]) (k_sbl_ok _ _ ⟨Or.inr rfl, Or.inr rfl, Or.inr rfl, Or.inr rfl, Or.inl rfl, trivial⟩) ?_
    exact okX8_keeps_h22  _ _ _ _ _ _ _ _ h
  · rw [if_pos (Classical.not_not.mp c5)] at h
    obtain ⟨rfl, rfl⟩ := k_pr h
    exact k_throw (pc := 8) (j := 10) (by decide +kernel) dX8_keeps_8 dX8_keeps_11 dX8_keeps_12 dX8_keeps_14 dX8_keeps_17 rfl (k_gt 793 (by decide +kernel) (by decide +kernel))
theorem okX8_keeps {A : k_H} {x0 x1 : Int} {r : Int} {A1 : k_H} (hr : r ≠ k_EXC) (h : fX8_keeps A x0 x1 = some (r, A1)) : k_AM 8 mX8_keeps [(1, x0), (0, x1)] A r A1 :=
  k_AM_of2 (ls := [(1, x0), (0, x1), (3, 0), (3, 0), (3, 0)]) (Or.inr hr) (by decide +kernel) (by decide) rfl (Nat.le_of_ble_eq_true rfl) ⟨Or.inr rfl, Or.inr rfl, rfl, rfl, rfl, trivial⟩ (okX8_keeps_b0 A x0 x1 r A1 h)
/-! X7_readShare -/
def fX7_readShare_b65 (A : k_H) (v0 v1 s0 : Int) : Option (Int × k_H) := if k_isO A v0 7 then (k_bd (fX7_readWord A v0 (-12)) fun r1 A2 => if r1 = 0 then (some (0, A2)) else (if k_isO A2 v0 7 then (k_bd (fX7_readNumber A2 v0 s0 99999) fun r6 A7 => if r6 = 0 then (some (0, A7)) else (if k_isO A7 v0 7 then (if k_isO A7 (k_rd A7 v0 0) 6 then (if k_isA A7 (k_rd A7 (k_rd A7 v0 0) 1) 21 v1 then (k_lt (k_wt A7 (k_rd A7 (k_rd A7 v0 0) 1) v1 (k_rd A7 v0 11)) fun A14 => if k_isO A14 (k_rd A14 v0 0) 6 then (k_lt (k_wt A14 (k_rd A14 v0 0) 2 (k_wr (v1 + 1))) fun A18 => k_bd (fX7_readStop A18 v0) fun r20 A21 => if r20 = 0 ∨ r20 = 1 then (some (r20, A21)) else none) else none) else none) else none) else none)) else none)) else none
def fX7_readShare_b0 (A : k_H) (v0 : Int) : Option (Int × k_H) := if k_isO A v0 7 then (if k_isO A (k_rd A v0 0) 6 then (if 3 ≤ (k_rd A (k_rd A v0 0) 2) then (k_bd (fX7_refuse A v0 4) fun r17 A18 => if r17 = 0 ∨ r17 = 1 then (some (r17, A18)) else none) else (k_bd (fX7_readNumber A v0 0 100) fun r4 A5 => if r4 = 0 then (some (0, A5)) else (if k_isO A5 v0 7 then (if k_isO A5 (k_rd A5 v0 0) 6 then (if k_isA A5 (k_rd A5 (k_rd A5 v0 0) 0) 21 (k_rd A (k_rd A v0 0) 2) then (k_lt (k_wt A5 (k_rd A5 (k_rd A5 v0 0) 0) (k_rd A (k_rd A v0 0) 2) (k_rd A5 v0 11)) fun A11 => if 0 < (k_rd A (k_rd A v0 0) 2) then (if k_isO A11 (k_rd A11 v0 0) 6 then (if k_isA A11 (k_rd A11 (k_rd A11 v0 0) 1) 21 (k_wr ((k_rd A (k_rd A v0 0) 2) - 1)) then (fX7_readShare_b65 A11 v0 (k_rd A (k_rd A v0 0) 2) (k_wr ((k_rd A11 (k_rd A11 (k_rd A11 v0 0) 1) (k_wr ((k_rd A (k_rd A v0 0) 2) - 1))) + 1))) else none) else none) else (fX7_readShare_b65 A11 v0 (k_rd A (k_rd A v0 0) 2) 0)) else none) else none) else none))) else none) else none
def fX7_readShare (A : k_H) (x0 : Int) : Option (Int × k_H) := fX7_readShare_b0 A x0
set_option maxRecDepth 100000 in
theorem okX7_readShare_b65 (A : k_H) (v0 v1 s0 : Int) (r : Int) (A' : k_H) (h : fX7_readShare_b65 A v0 v1 s0 = some (r, A')) : k_AW 8 mX7_readShare 65 [(1, v0), (0, v1), (3, 0)] [(0, s0)] A r A' := by
  unfold fX7_readShare_b65 at h
  refine k_istore_n (pc := 65) dX7_readShare_65 rfl (Nat.le_of_ble_eq_true rfl) rfl ?_
  show k_AW _ _ _ [(1, v0), (0, v1), (0, s0)] _ _ _ _
  refine k_aload_n (pc := 66) (x := v0) dX7_readShare_66 rfl rfl ?_
  refine k_ldcs (pc := 67) (j := 2) (z := (-12)) dX7_readShare_67 rfl rfl ?_
  obtain ⟨hc4, h⟩ := k_pk h
  obtain ⟨r1, A2, hq3, h⟩ := k_pb h
  refine k_callV (pc := 69) (ci := 7) (a := v0) (as := [(1, (-12))]) (st := []) (st1 := [(0, r1)]) dX7_readShare_69 cbX7_readWord (k_gt 713 (by decide +kernel) (by decide +kernel)) cvX7_readWord.1 cvX7_readWord.2 rfl (by decide) hc4 (by omega) rfl (Nat.le_of_ble_eq_true rfl) (okX7_readWord hq3) rfl ?_
  refine k_if_eq (pc := 72) (tgt := 85) dX7_readShare_72 rfl (fun c5 => ?_) (fun c5 => ?_)
  · rw [if_pos c5] at h
    refine k_iconst (pc := 85) dX7_readShare_85 ⟨by decide, by decide⟩ ?_
    obtain ⟨rfl, rfl⟩ := k_pr h
    exact k_ret (pc := 86) dX7_readShare_86 rfl rfl (by decide +kernel)
  · rw [if_neg c5] at h
    refine k_aload_n (pc := 75) (x := v0) dX7_readShare_75 rfl rfl ?_
    refine k_iload_n (pc := 76) (x := s0) dX7_readShare_76 rfl rfl ?_
    refine k_ldci (pc := 77) (n := 99999) dX7_readShare_77 (k_gt 693 (by decide +kernel) (by decide +kernel)) ⟨by decide, by decide⟩ ?_
    obtain ⟨hc9, h⟩ := k_pk h
    obtain ⟨r6, A7, hq8, h⟩ := k_pb h
    refine k_callV (pc := 79) (ci := 7) (a := v0) (as := [(0, s0), (0, 99999)]) (st := []) (st1 := [(0, r6)]) dX7_readShare_79 cbX7_readNumber (k_gt 694 (by decide +kernel) (by decide +kernel)) cvX7_readNumber.1 cvX7_readNumber.2 rfl (by decide) hc9 (by omega) rfl (Nat.le_of_ble_eq_true rfl) (okX7_readNumber hq8) rfl ?_
    refine k_if_ne (pc := 82) (tgt := 87) dX7_readShare_82 rfl (fun c10 => ?_) (fun c10 => ?_)
    · rw [if_neg c10] at h
      refine k_aload_n (pc := 87) (x := v0) dX7_readShare_87 rfl rfl ?_
      obtain ⟨hc11, h⟩ := k_pk h
      refine k_getf (pc := 88) (t := 1) (fi := 0) dX7_readShare_88 flX7_12 rfl rfl hc11 ?_
      obtain ⟨hc12, h⟩ := k_pk h
      refine k_getf (pc := 91) (t := 1) (fi := 1) dX7_readShare_91 flX7_118 rfl rfl hc12 ?_
      refine k_iload_n (pc := 94) (x := v1) dX7_readShare_94 rfl rfl ?_
      refine k_aload_n (pc := 95) (x := v0) dX7_readShare_95 rfl rfl ?_
      refine k_getf (pc := 96) (t := 0) (fi := 11) dX7_readShare_96 flX7_104 rfl rfl hc11 ?_
      obtain ⟨hc13, h⟩ := k_pk h
      refine k_iastore (pc := 99) dX7_readShare_99 hc13 ?_
      obtain ⟨A14, eA15, h⟩ := k_pl h
      refine k_hq eA15 ?_
      refine k_aload_n (pc := 100) (x := v0) dX7_readShare_100 rfl rfl ?_
      have hf16 := k_oW eA15 hc11
      refine k_getf (pc := 101) (t := 1) (fi := 0) dX7_readShare_101 flX7_12 rfl rfl hf16 ?_
      refine k_iload_n (pc := 104) (x := v1) dX7_readShare_104 rfl rfl ?_
      refine k_iconst (pc := 105) dX7_readShare_105 ⟨by decide, by decide⟩ ?_
      refine k_iadd (pc := 106) dX7_readShare_106 ?_
      obtain ⟨hc17, h⟩ := k_pk h
      refine k_putf (pc := 107) (t := 0) (fi := 2) dX7_readShare_107 flX7_112 rfl rfl hc17 rfl ?_
      obtain ⟨A18, eA19, h⟩ := k_pl h
      refine k_hq eA19 ?_
      refine k_aload_n (pc := 110) (x := v0) dX7_readShare_110 rfl rfl ?_
      have hf23 := k_oW eA19 hf16
      obtain ⟨r20, A21, hq22, h⟩ := k_pb h
      refine k_callV (pc := 111) (ci := 7) (a := v0) (as := []) (st := []) (st1 := [(0, r20)]) dX7_readShare_111 cbX7_readStop (k_gt 703 (by decide +kernel) (by decide +kernel)) cvX7_readStop.1 cvX7_readStop.2 rfl (by decide) hf23 (by omega) rfl (Nat.le_of_ble_eq_true rfl) (okX7_readStop hq22) rfl ?_
      obtain ⟨hc24, h⟩ := k_pk h
      obtain ⟨rfl, rfl⟩ := k_pr h
      exact k_ret (pc := 114) dX7_readShare_114 rfl rfl (k_nz hc24)
    · rw [if_pos (Classical.not_not.mp c10)] at h
      refine k_iconst (pc := 85) dX7_readShare_85 ⟨by decide, by decide⟩ ?_
      obtain ⟨rfl, rfl⟩ := k_pr h
      exact k_ret (pc := 86) dX7_readShare_86 rfl rfl (by decide +kernel)
set_option maxRecDepth 100000 in
theorem okX7_readShare_b0 (A : k_H) (v0 : Int) (r : Int) (A' : k_H) (h : fX7_readShare_b0 A v0 = some (r, A')) : k_AW 8 mX7_readShare 0 [(1, v0), (3, 0), (3, 0)] [] A r A' := by
  unfold fX7_readShare_b0 at h
  refine k_aload_n (pc := 0) (x := v0) dX7_readShare_0 rfl rfl ?_
  obtain ⟨hc1, h⟩ := k_pk h
  refine k_getf (pc := 1) (t := 1) (fi := 0) dX7_readShare_1 flX7_12 rfl rfl hc1 ?_
  obtain ⟨hc2, h⟩ := k_pk h
  refine k_getf (pc := 4) (t := 0) (fi := 2) dX7_readShare_4 flX7_112 rfl rfl hc2 ?_
  refine k_istore_n (pc := 7) dX7_readShare_7 rfl (Nat.le_of_ble_eq_true rfl) rfl ?_
  show k_AW _ _ _ [(1, v0), (0, (k_rd A (k_rd A v0 0) 2)), (3, 0)] _ _ _ _
  refine k_iload_n (pc := 8) (x := (k_rd A (k_rd A v0 0) 2)) dX7_readShare_8 rfl rfl ?_
  refine k_iconst (pc := 9) dX7_readShare_9 ⟨by decide, by decide⟩ ?_
  refine k_icmp_lt (pc := 10) (tgt := 19) dX7_readShare_10 rfl (fun c3 => ?_) (fun c3 => ?_)
  · rw [if_neg (Int.not_le.mpr c3)] at h
    refine k_aload_n (pc := 19) (x := v0) dX7_readShare_19 rfl rfl ?_
    refine k_iconst (pc := 20) dX7_readShare_20 ⟨by decide, by decide⟩ ?_
    refine k_bipush (pc := 21) dX7_readShare_21 ⟨by decide, by decide⟩ (by decide +kernel) ?_
    obtain ⟨r4, A5, hq6, h⟩ := k_pb h
    refine k_callV (pc := 23) (ci := 7) (a := v0) (as := [(0, 0), (0, 100)]) (st := []) (st1 := [(0, r4)]) dX7_readShare_23 cbX7_readNumber (k_gt 694 (by decide +kernel) (by decide +kernel)) cvX7_readNumber.1 cvX7_readNumber.2 rfl (by decide) hc1 (by omega) rfl (Nat.le_of_ble_eq_true rfl) (okX7_readNumber hq6) rfl ?_
    refine k_if_ne (pc := 26) (tgt := 31) dX7_readShare_26 rfl (fun c7 => ?_) (fun c7 => ?_)
    · rw [if_neg c7] at h
      refine k_aload_n (pc := 31) (x := v0) dX7_readShare_31 rfl rfl ?_
      obtain ⟨hc8, h⟩ := k_pk h
      refine k_getf (pc := 32) (t := 1) (fi := 0) dX7_readShare_32 flX7_12 rfl rfl hc8 ?_
      obtain ⟨hc9, h⟩ := k_pk h
      refine k_getf (pc := 35) (t := 1) (fi := 0) dX7_readShare_35 flX7_115 rfl rfl hc9 ?_
      refine k_iload_n (pc := 38) (x := (k_rd A (k_rd A v0 0) 2)) dX7_readShare_38 rfl rfl ?_
      refine k_aload_n (pc := 39) (x := v0) dX7_readShare_39 rfl rfl ?_
      refine k_getf (pc := 40) (t := 0) (fi := 11) dX7_readShare_40 flX7_104 rfl rfl hc8 ?_
      obtain ⟨hc10, h⟩ := k_pk h
      refine k_iastore (pc := 43) dX7_readShare_43 hc10 ?_
      obtain ⟨A11, eA12, h⟩ := k_pl h
      refine k_hq eA12 ?_
      refine k_iload_n (pc := 44) (x := (k_rd A (k_rd A v0 0) 2)) dX7_readShare_44 rfl rfl ?_
      refine k_if_le (pc := 45) (tgt := 64) dX7_readShare_45 rfl (fun c13 => ?_) (fun c13 => ?_)
      · rw [if_neg (Int.not_lt.mpr c13)] at h
        refine k_iconst (pc := 64) dX7_readShare_64 ⟨by decide, by decide⟩ ?_
        refine k_sub (ls' := [(1, v0), (0, (k_rd A (k_rd A v0 0) 2)), (3, 0)]) (k_sbl_ok _ _ ⟨Or.inr rfl, Or.inr rfl, Or.inl rfl, trivial⟩) ?_
        exact okX7_readShare_b65  _ _ _ _ _ _ h
      · rw [if_pos (Int.not_le.mp c13)] at h
        refine k_aload_n (pc := 48) (x := v0) dX7_readShare_48 rfl rfl ?_
        have hf14 := k_oW eA12 hc8
        refine k_getf (pc := 49) (t := 1) (fi := 0) dX7_readShare_49 flX7_12 rfl rfl hf14 ?_
        obtain ⟨hc15, h⟩ := k_pk h
        refine k_getf (pc := 52) (t := 1) (fi := 1) dX7_readShare_52 flX7_118 rfl rfl hc15 ?_
        refine k_iload_n (pc := 55) (x := (k_rd A (k_rd A v0 0) 2)) dX7_readShare_55 rfl rfl ?_
        refine k_iconst (pc := 56) dX7_readShare_56 ⟨by decide, by decide⟩ ?_
        refine k_isub (pc := 57) dX7_readShare_57 ?_
        obtain ⟨hc16, h⟩ := k_pk h
        refine k_iaload (pc := 58) dX7_readShare_58 hc16 ?_
        refine k_iconst (pc := 59) dX7_readShare_59 ⟨by decide, by decide⟩ ?_
        refine k_iadd (pc := 60) dX7_readShare_60 ?_
        refine k_goto (pc := 61) (tgt := 65) dX7_readShare_61 rfl ?_
        refine k_sub (ls' := [(1, v0), (0, (k_rd A (k_rd A v0 0) 2)), (3, 0)]) (k_sbl_ok _ _ ⟨Or.inr rfl, Or.inr rfl, Or.inl rfl, trivial⟩) ?_
        exact okX7_readShare_b65  _ _ _ _ _ _ h
    · rw [if_pos (Classical.not_not.mp c7)] at h
      refine k_iconst (pc := 29) dX7_readShare_29 ⟨by decide, by decide⟩ ?_
      obtain ⟨rfl, rfl⟩ := k_pr h
      exact k_ret (pc := 30) dX7_readShare_30 rfl rfl (by decide +kernel)
  · rw [if_pos (Int.not_lt.mp c3)] at h
    refine k_aload_n (pc := 13) (x := v0) dX7_readShare_13 rfl rfl ?_
    refine k_iconst (pc := 14) dX7_readShare_14 ⟨by decide, by decide⟩ ?_
    obtain ⟨r17, A18, hq19, h⟩ := k_pb h
    refine k_callV (pc := 15) (ci := 7) (a := v0) (as := [(0, 4)]) (st := []) (st1 := [(0, r17)]) dX7_readShare_15 cbX7_refuse (k_gt 689 (by decide +kernel) (by decide +kernel)) cvX7_refuse.1 cvX7_refuse.2 rfl (by decide) hc1 (by omega) rfl (Nat.le_of_ble_eq_true rfl) (okX7_refuse hq19) rfl ?_
    obtain ⟨hc20, h⟩ := k_pk h
    obtain ⟨rfl, rfl⟩ := k_pr h
    exact k_ret (pc := 18) dX7_readShare_18 rfl rfl (k_nz hc20)
theorem okX7_readShare {A : k_H} {x0 : Int} {r : Int} {A1 : k_H} (h : fX7_readShare A x0 = some (r, A1)) : k_AM 8 mX7_readShare [(1, x0)] A r A1 :=
  k_AM_of2 (ls := [(1, x0), (3, 0), (3, 0)]) (Or.inl (by decide +kernel)) (by decide +kernel) (by decide) rfl (Nat.le_of_ble_eq_true rfl) ⟨Or.inr rfl, rfl, rfl, trivial⟩ (okX7_readShare_b0 A x0 r A1 h)
/-! X7_readSubsidy -/
def fX7_readSubsidy_b0 (A : k_H) (v0 : Int) : Option (Int × k_H) := if k_isO A v0 7 then (if (k_rd A v0 6) = 0 then (k_lt (k_wt A v0 6 1) fun A3 => k_bd (fX7_readNumber A3 v0 0 100) fun r5 A6 => if r5 = 0 then (some (0, A6)) else (if k_isO A6 v0 7 then (if k_isO A6 (k_rd A6 v0 0) 6 then (k_lt (k_wt A6 (k_rd A6 v0 0) 4 (k_rd A6 v0 11)) fun A12 => k_bd (fX7_readWord A12 v0 (-14)) fun r14 A15 => if r14 = 0 then (some (0, A15)) else (if k_isO A15 v0 7 then (k_bd (fX7_readNumber A15 v0 0 99999) fun r19 A20 => if r19 = 0 then (some (0, A20)) else (if k_isO A20 v0 7 then (if k_isO A20 (k_rd A20 v0 0) 6 then (k_lt (k_wt A20 (k_rd A20 v0 0) 5 (k_rd A20 v0 11)) fun A26 => k_bd (fX7_readStop A26 v0) fun r28 A29 => if r28 = 0 ∨ r28 = 1 then (some (r28, A29)) else none) else none) else none)) else none)) else none) else none)) else (k_bd (fX7_refuse A v0 4) fun r33 A34 => if r33 = 0 ∨ r33 = 1 then (some (r33, A34)) else none)) else none
def fX7_readSubsidy (A : k_H) (x0 : Int) : Option (Int × k_H) := fX7_readSubsidy_b0 A x0
set_option maxRecDepth 100000 in
theorem okX7_readSubsidy_b0 (A : k_H) (v0 : Int) (r : Int) (A' : k_H) (h : fX7_readSubsidy_b0 A v0 = some (r, A')) : k_AW 8 mX7_readSubsidy 0 [(1, v0)] [] A r A' := by
  unfold fX7_readSubsidy_b0 at h
  refine k_aload_n (pc := 0) (x := v0) dX7_readSubsidy_0 rfl rfl ?_
  obtain ⟨hc1, h⟩ := k_pk h
  refine k_getf (pc := 1) (t := 0) (fi := 6) dX7_readSubsidy_1 flX7_59 rfl rfl hc1 ?_
  refine k_if_eq (pc := 4) (tgt := 13) dX7_readSubsidy_4 rfl (fun c2 => ?_) (fun c2 => ?_)
  · rw [if_pos c2] at h
    refine k_aload_n (pc := 13) (x := v0) dX7_readSubsidy_13 rfl rfl ?_
    refine k_iconst (pc := 14) dX7_readSubsidy_14 ⟨by decide, by decide⟩ ?_
    refine k_putf (pc := 15) (t := 0) (fi := 6) dX7_readSubsidy_15 flX7_59 rfl rfl hc1 ⟨rfl, Or.inr rfl⟩ ?_
    obtain ⟨A3, eA4, h⟩ := k_pl h
    refine k_hq eA4 ?_
    refine k_aload_n (pc := 18) (x := v0) dX7_readSubsidy_18 rfl rfl ?_
    refine k_iconst (pc := 19) dX7_readSubsidy_19 ⟨by decide, by decide⟩ ?_
    refine k_bipush (pc := 20) dX7_readSubsidy_20 ⟨by decide, by decide⟩ (by decide +kernel) ?_
    have hf8 := k_oW eA4 hc1
    obtain ⟨r5, A6, hq7, h⟩ := k_pb h
    refine k_callV (pc := 22) (ci := 7) (a := v0) (as := [(0, 0), (0, 100)]) (st := []) (st1 := [(0, r5)]) dX7_readSubsidy_22 cbX7_readNumber (k_gt 694 (by decide +kernel) (by decide +kernel)) cvX7_readNumber.1 cvX7_readNumber.2 rfl (by decide) hf8 (by omega) rfl (Nat.le_of_ble_eq_true rfl) (okX7_readNumber hq7) rfl ?_
    refine k_if_ne (pc := 25) (tgt := 30) dX7_readSubsidy_25 rfl (fun c9 => ?_) (fun c9 => ?_)
    · rw [if_neg c9] at h
      refine k_aload_n (pc := 30) (x := v0) dX7_readSubsidy_30 rfl rfl ?_
      obtain ⟨hc10, h⟩ := k_pk h
      refine k_getf (pc := 31) (t := 1) (fi := 0) dX7_readSubsidy_31 flX7_12 rfl rfl hc10 ?_
      refine k_aload_n (pc := 34) (x := v0) dX7_readSubsidy_34 rfl rfl ?_
      refine k_getf (pc := 35) (t := 0) (fi := 11) dX7_readSubsidy_35 flX7_104 rfl rfl hc10 ?_
      obtain ⟨hc11, h⟩ := k_pk h
      refine k_putf (pc := 38) (t := 0) (fi := 4) dX7_readSubsidy_38 flX7_125 rfl rfl hc11 rfl ?_
      obtain ⟨A12, eA13, h⟩ := k_pl h
      refine k_hq eA13 ?_
      refine k_aload_n (pc := 41) (x := v0) dX7_readSubsidy_41 rfl rfl ?_
      refine k_ldcs (pc := 42) (j := 4) (z := (-14)) dX7_readSubsidy_42 rfl rfl ?_
      have hf17 := k_oW eA13 hc10
      obtain ⟨r14, A15, hq16, h⟩ := k_pb h
      refine k_callV (pc := 44) (ci := 7) (a := v0) (as := [(1, (-14))]) (st := []) (st1 := [(0, r14)]) dX7_readSubsidy_44 cbX7_readWord (k_gt 713 (by decide +kernel) (by decide +kernel)) cvX7_readWord.1 cvX7_readWord.2 rfl (by decide) hf17 (by omega) rfl (Nat.le_of_ble_eq_true rfl) (okX7_readWord hq16) rfl ?_
      refine k_if_eq (pc := 47) (tgt := 60) dX7_readSubsidy_47 rfl (fun c18 => ?_) (fun c18 => ?_)
      · rw [if_pos c18] at h
        refine k_iconst (pc := 60) dX7_readSubsidy_60 ⟨by decide, by decide⟩ ?_
        obtain ⟨rfl, rfl⟩ := k_pr h
        exact k_ret (pc := 61) dX7_readSubsidy_61 rfl rfl (by decide +kernel)
      · rw [if_neg c18] at h
        refine k_aload_n (pc := 50) (x := v0) dX7_readSubsidy_50 rfl rfl ?_
        refine k_iconst (pc := 51) dX7_readSubsidy_51 ⟨by decide, by decide⟩ ?_
        refine k_ldci (pc := 52) (n := 99999) dX7_readSubsidy_52 (k_gt 693 (by decide +kernel) (by decide +kernel)) ⟨by decide, by decide⟩ ?_
        obtain ⟨hc22, h⟩ := k_pk h
        obtain ⟨r19, A20, hq21, h⟩ := k_pb h
        refine k_callV (pc := 54) (ci := 7) (a := v0) (as := [(0, 0), (0, 99999)]) (st := []) (st1 := [(0, r19)]) dX7_readSubsidy_54 cbX7_readNumber (k_gt 694 (by decide +kernel) (by decide +kernel)) cvX7_readNumber.1 cvX7_readNumber.2 rfl (by decide) hc22 (by omega) rfl (Nat.le_of_ble_eq_true rfl) (okX7_readNumber hq21) rfl ?_
        refine k_if_ne (pc := 57) (tgt := 62) dX7_readSubsidy_57 rfl (fun c23 => ?_) (fun c23 => ?_)
        · rw [if_neg c23] at h
          refine k_aload_n (pc := 62) (x := v0) dX7_readSubsidy_62 rfl rfl ?_
          obtain ⟨hc24, h⟩ := k_pk h
          refine k_getf (pc := 63) (t := 1) (fi := 0) dX7_readSubsidy_63 flX7_12 rfl rfl hc24 ?_
          refine k_aload_n (pc := 66) (x := v0) dX7_readSubsidy_66 rfl rfl ?_
          refine k_getf (pc := 67) (t := 0) (fi := 11) dX7_readSubsidy_67 flX7_104 rfl rfl hc24 ?_
          obtain ⟨hc25, h⟩ := k_pk h
          refine k_putf (pc := 70) (t := 0) (fi := 5) dX7_readSubsidy_70 flX7_129 rfl rfl hc25 rfl ?_
          obtain ⟨A26, eA27, h⟩ := k_pl h
          refine k_hq eA27 ?_
          refine k_aload_n (pc := 73) (x := v0) dX7_readSubsidy_73 rfl rfl ?_
          have hf31 := k_oW eA27 hc24
          obtain ⟨r28, A29, hq30, h⟩ := k_pb h
          refine k_callV (pc := 74) (ci := 7) (a := v0) (as := []) (st := []) (st1 := [(0, r28)]) dX7_readSubsidy_74 cbX7_readStop (k_gt 703 (by decide +kernel) (by decide +kernel)) cvX7_readStop.1 cvX7_readStop.2 rfl (by decide) hf31 (by omega) rfl (Nat.le_of_ble_eq_true rfl) (okX7_readStop hq30) rfl ?_
          obtain ⟨hc32, h⟩ := k_pk h
          obtain ⟨rfl, rfl⟩ := k_pr h
          exact k_ret (pc := 77) dX7_readSubsidy_77 rfl rfl (k_nz hc32)
        · rw [if_pos (Classical.not_not.mp c23)] at h
          refine k_iconst (pc := 60) dX7_readSubsidy_60 ⟨by decide, by decide⟩ ?_
          obtain ⟨rfl, rfl⟩ := k_pr h
          exact k_ret (pc := 61) dX7_readSubsidy_61 rfl rfl (by decide +kernel)
    · rw [if_pos (Classical.not_not.mp c9)] at h
      refine k_iconst (pc := 28) dX7_readSubsidy_28 ⟨by decide, by decide⟩ ?_
      obtain ⟨rfl, rfl⟩ := k_pr h
      exact k_ret (pc := 29) dX7_readSubsidy_29 rfl rfl (by decide +kernel)
  · rw [if_neg c2] at h
    refine k_aload_n (pc := 7) (x := v0) dX7_readSubsidy_7 rfl rfl ?_
    refine k_iconst (pc := 8) dX7_readSubsidy_8 ⟨by decide, by decide⟩ ?_
    obtain ⟨r33, A34, hq35, h⟩ := k_pb h
    refine k_callV (pc := 9) (ci := 7) (a := v0) (as := [(0, 4)]) (st := []) (st1 := [(0, r33)]) dX7_readSubsidy_9 cbX7_refuse (k_gt 689 (by decide +kernel) (by decide +kernel)) cvX7_refuse.1 cvX7_refuse.2 rfl (by decide) hc1 (by omega) rfl (Nat.le_of_ble_eq_true rfl) (okX7_refuse hq35) rfl ?_
    obtain ⟨hc36, h⟩ := k_pk h
    obtain ⟨rfl, rfl⟩ := k_pr h
    exact k_ret (pc := 12) dX7_readSubsidy_12 rfl rfl (k_nz hc36)
theorem okX7_readSubsidy {A : k_H} {x0 : Int} {r : Int} {A1 : k_H} (h : fX7_readSubsidy A x0 = some (r, A1)) : k_AM 8 mX7_readSubsidy [(1, x0)] A r A1 :=
  k_AM_of2 (ls := [(1, x0)]) (Or.inl (by decide +kernel)) (by decide +kernel) (by decide) rfl (Nat.le_of_ble_eq_true rfl) ⟨Or.inr rfl, trivial⟩ (okX7_readSubsidy_b0 A x0 r A1 h)
/-! X7_readTerm -/
def fX7_readTerm_b0 (A : k_H) (v0 : Int) : Option (Int × k_H) := if k_isO A v0 7 then (k_bd (fX7_isWord A v0 (-10)) fun r1 A2 => if r1 = 0 then (if k_isO A2 v0 7 then (k_bd (fX7_isWord A2 v0 (-11)) fun r6 A7 => if r6 = 0 then (if k_isO A7 v0 7 then (k_bd (fX7_isWord A7 v0 (-13)) fun r11 A12 => if r11 = 0 then (if k_isO A12 v0 7 then (k_bd (fX7_isWord A12 v0 (-15)) fun r16 A17 => if r16 = 0 then (if k_isO A17 v0 7 then (k_bd (fX7_refuseToken A17 v0) fun r21 A22 => if r21 = 0 ∨ r21 = 1 then (some (r21, A22)) else none) else none) else (if k_isO A17 v0 7 then (k_bd (fX7_readLoss A17 v0) fun r26 A27 => if r26 = 0 ∨ r26 = 1 then (some (r26, A27)) else none) else none)) else none) else (if k_isO A12 v0 7 then (k_bd (fX7_readSubsidy A12 v0) fun r31 A32 => if r31 = 0 ∨ r31 = 1 then (some (r31, A32)) else none) else none)) else none) else (if k_isO A7 v0 7 then (k_bd (fX7_readShare A7 v0) fun r36 A37 => if r36 = 0 ∨ r36 = 1 then (some (r36, A37)) else none) else none)) else none) else (if k_isO A2 v0 7 then (k_bd (fX7_readFee A2 v0) fun r41 A42 => if r41 = 0 ∨ r41 = 1 then (some (r41, A42)) else none) else none)) else none
def fX7_readTerm (A : k_H) (x0 : Int) : Option (Int × k_H) := fX7_readTerm_b0 A x0
set_option maxRecDepth 100000 in
theorem okX7_readTerm_b0 (A : k_H) (v0 : Int) (r : Int) (A' : k_H) (h : fX7_readTerm_b0 A v0 = some (r, A')) : k_AW 9 mX7_readTerm 0 [(1, v0)] [] A r A' := by
  unfold fX7_readTerm_b0 at h
  refine k_aload_n (pc := 0) (x := v0) dX7_readTerm_0 rfl rfl ?_
  refine k_ldcs (pc := 1) (j := 0) (z := (-10)) dX7_readTerm_1 rfl rfl ?_
  obtain ⟨hc4, h⟩ := k_pk h
  obtain ⟨r1, A2, hq3, h⟩ := k_pb h
  refine k_callV (pc := 3) (ci := 7) (a := v0) (as := [(1, (-10))]) (st := []) (st1 := [(0, r1)]) dX7_readTerm_3 cbX7_isWord (k_gt 633 (by decide +kernel) (by decide +kernel)) cvX7_isWord.1 cvX7_isWord.2 rfl (by decide) hc4 (by omega) rfl (Nat.le_of_ble_eq_true rfl) (okX7_isWord hq3) rfl ?_
  refine k_if_eq (pc := 6) (tgt := 14) dX7_readTerm_6 rfl (fun c5 => ?_) (fun c5 => ?_)
  · rw [if_pos c5] at h
    refine k_aload_n (pc := 14) (x := v0) dX7_readTerm_14 rfl rfl ?_
    refine k_ldcs (pc := 15) (j := 1) (z := (-11)) dX7_readTerm_15 rfl rfl ?_
    obtain ⟨hc9, h⟩ := k_pk h
    obtain ⟨r6, A7, hq8, h⟩ := k_pb h
    refine k_callV (pc := 17) (ci := 7) (a := v0) (as := [(1, (-11))]) (st := []) (st1 := [(0, r6)]) dX7_readTerm_17 cbX7_isWord (k_gt 633 (by decide +kernel) (by decide +kernel)) cvX7_isWord.1 cvX7_isWord.2 rfl (by decide) hc9 (by omega) rfl (Nat.le_of_ble_eq_true rfl) (okX7_isWord hq8) rfl ?_
    refine k_if_eq (pc := 20) (tgt := 28) dX7_readTerm_20 rfl (fun c10 => ?_) (fun c10 => ?_)
    · rw [if_pos c10] at h
      refine k_aload_n (pc := 28) (x := v0) dX7_readTerm_28 rfl rfl ?_
      refine k_ldcs (pc := 29) (j := 3) (z := (-13)) dX7_readTerm_29 rfl rfl ?_
      obtain ⟨hc14, h⟩ := k_pk h
      obtain ⟨r11, A12, hq13, h⟩ := k_pb h
      refine k_callV (pc := 31) (ci := 7) (a := v0) (as := [(1, (-13))]) (st := []) (st1 := [(0, r11)]) dX7_readTerm_31 cbX7_isWord (k_gt 633 (by decide +kernel) (by decide +kernel)) cvX7_isWord.1 cvX7_isWord.2 rfl (by decide) hc14 (by omega) rfl (Nat.le_of_ble_eq_true rfl) (okX7_isWord hq13) rfl ?_
      refine k_if_eq (pc := 34) (tgt := 42) dX7_readTerm_34 rfl (fun c15 => ?_) (fun c15 => ?_)
      · rw [if_pos c15] at h
        refine k_aload_n (pc := 42) (x := v0) dX7_readTerm_42 rfl rfl ?_
        refine k_ldcs (pc := 43) (j := 5) (z := (-15)) dX7_readTerm_43 rfl rfl ?_
        obtain ⟨hc19, h⟩ := k_pk h
        obtain ⟨r16, A17, hq18, h⟩ := k_pb h
        refine k_callV (pc := 45) (ci := 7) (a := v0) (as := [(1, (-15))]) (st := []) (st1 := [(0, r16)]) dX7_readTerm_45 cbX7_isWord (k_gt 633 (by decide +kernel) (by decide +kernel)) cvX7_isWord.1 cvX7_isWord.2 rfl (by decide) hc19 (by omega) rfl (Nat.le_of_ble_eq_true rfl) (okX7_isWord hq18) rfl ?_
        refine k_if_eq (pc := 48) (tgt := 56) dX7_readTerm_48 rfl (fun c20 => ?_) (fun c20 => ?_)
        · rw [if_pos c20] at h
          refine k_aload_n (pc := 56) (x := v0) dX7_readTerm_56 rfl rfl ?_
          obtain ⟨hc24, h⟩ := k_pk h
          obtain ⟨r21, A22, hq23, h⟩ := k_pb h
          refine k_callV (pc := 57) (ci := 7) (a := v0) (as := []) (st := []) (st1 := [(0, r21)]) dX7_readTerm_57 cbX7_refuseToken (k_gt 698 (by decide +kernel) (by decide +kernel)) cvX7_refuseToken.1 cvX7_refuseToken.2 rfl (by decide) hc24 (by omega) rfl (Nat.le_of_ble_eq_true rfl) (okX7_refuseToken hq23) rfl ?_
          obtain ⟨hc25, h⟩ := k_pk h
          obtain ⟨rfl, rfl⟩ := k_pr h
          exact k_ret (pc := 60) dX7_readTerm_60 rfl rfl (k_nz hc25)
        · rw [if_neg c20] at h
          refine k_aload_n (pc := 51) (x := v0) dX7_readTerm_51 rfl rfl ?_
          obtain ⟨hc29, h⟩ := k_pk h
          obtain ⟨r26, A27, hq28, h⟩ := k_pb h
          refine k_callV (pc := 52) (ci := 7) (a := v0) (as := []) (st := []) (st1 := [(0, r26)]) dX7_readTerm_52 cbX7_readLoss (k_gt 724 (by decide +kernel) (by decide +kernel)) cvX7_readLoss.1 cvX7_readLoss.2 rfl (by decide) hc29 (by omega) rfl (Nat.le_of_ble_eq_true rfl) (okX7_readLoss hq28) rfl ?_
          obtain ⟨hc30, h⟩ := k_pk h
          obtain ⟨rfl, rfl⟩ := k_pr h
          exact k_ret (pc := 55) dX7_readTerm_55 rfl rfl (k_nz hc30)
      · rw [if_neg c15] at h
        refine k_aload_n (pc := 37) (x := v0) dX7_readTerm_37 rfl rfl ?_
        obtain ⟨hc34, h⟩ := k_pk h
        obtain ⟨r31, A32, hq33, h⟩ := k_pb h
        refine k_callV (pc := 38) (ci := 7) (a := v0) (as := []) (st := []) (st1 := [(0, r31)]) dX7_readTerm_38 cbX7_readSubsidy (k_gt 718 (by decide +kernel) (by decide +kernel)) cvX7_readSubsidy.1 cvX7_readSubsidy.2 rfl (by decide) hc34 (by omega) rfl (Nat.le_of_ble_eq_true rfl) (okX7_readSubsidy hq33) rfl ?_
        obtain ⟨hc35, h⟩ := k_pk h
        obtain ⟨rfl, rfl⟩ := k_pr h
        exact k_ret (pc := 41) dX7_readTerm_41 rfl rfl (k_nz hc35)
    · rw [if_neg c10] at h
      refine k_aload_n (pc := 23) (x := v0) dX7_readTerm_23 rfl rfl ?_
      obtain ⟨hc39, h⟩ := k_pk h
      obtain ⟨r36, A37, hq38, h⟩ := k_pb h
      refine k_callV (pc := 24) (ci := 7) (a := v0) (as := []) (st := []) (st1 := [(0, r36)]) dX7_readTerm_24 cbX7_readShare (k_gt 708 (by decide +kernel) (by decide +kernel)) cvX7_readShare.1 cvX7_readShare.2 rfl (by decide) hc39 (by omega) rfl (Nat.le_of_ble_eq_true rfl) (okX7_readShare hq38) rfl ?_
      obtain ⟨hc40, h⟩ := k_pk h
      obtain ⟨rfl, rfl⟩ := k_pr h
      exact k_ret (pc := 27) dX7_readTerm_27 rfl rfl (k_nz hc40)
  · rw [if_neg c5] at h
    refine k_aload_n (pc := 9) (x := v0) dX7_readTerm_9 rfl rfl ?_
    obtain ⟨hc44, h⟩ := k_pk h
    obtain ⟨r41, A42, hq43, h⟩ := k_pb h
    refine k_callV (pc := 10) (ci := 7) (a := v0) (as := []) (st := []) (st1 := [(0, r41)]) dX7_readTerm_10 cbX7_readFee (k_gt 685 (by decide +kernel) (by decide +kernel)) cvX7_readFee.1 cvX7_readFee.2 rfl (by decide) hc44 (by omega) rfl (Nat.le_of_ble_eq_true rfl) (okX7_readFee hq43) rfl ?_
    obtain ⟨hc45, h⟩ := k_pk h
    obtain ⟨rfl, rfl⟩ := k_pr h
    exact k_ret (pc := 13) dX7_readTerm_13 rfl rfl (k_nz hc45)
theorem okX7_readTerm {A : k_H} {x0 : Int} {r : Int} {A1 : k_H} (h : fX7_readTerm A x0 = some (r, A1)) : k_AM 9 mX7_readTerm [(1, x0)] A r A1 :=
  k_AM_of2 (ls := [(1, x0)]) (Or.inl (by decide +kernel)) (by decide +kernel) (by decide) rfl (Nat.le_of_ble_eq_true rfl) ⟨Or.inr rfl, trivial⟩ (okX7_readTerm_b0 A x0 r A1 h)
/-! X7_readText -/
def fX7_readText_h7 : Nat → k_H → Int → Int → Option (Int × k_H)
  | 0, _, _, _ => none
  | N + 1, A, v0, v2 => if v2 ≤ 200 then (if k_isO A v0 7 then (k_bd (fX7_nextToken A v0) fun r2 A3 => if k_isO A3 v0 7 then (if (k_rd A3 v0 10) = 4 then (some (1, A3)) else (k_bd (fX7_readTerm A3 v0) fun r8 A9 => if r8 = 0 then (some (0, A9)) else (if k_isO A9 v0 7 then (k_lt (k_wt A9 v0 1 (k_wr ((k_rd A9 v0 1) + 1))) fun A13 => (fX7_readText_h7 N) A13 v0 (k_wr (v2 + 1))) else none))) else none) else none) else (some (1, A))
def fX7_readText_b0 (A : k_H) (v0 v1 : Int) : Option (Int × k_H) := if k_isO A v0 7 then (k_bd (fX7_start A v0 v1) fun r1 A2 => fX7_readText_h7 k_FU A2 v0 0) else none
def fX7_readText (A : k_H) (x0 x1 : Int) : Option (Int × k_H) := fX7_readText_b0 A x0 x1
set_option maxRecDepth 100000 in
theorem okX7_readText_h7 : ∀ (N : Nat) (A : k_H) (v0 v2 : Int) (r : Int) (A' : k_H), fX7_readText_h7 N A v0 v2 = some (r, A') → k_AW 10 mX7_readText 7 [(1, v0), (3, 0), (0, v2)] [] A r A' := by
  intro N
  induction N with
  | zero => intro A v0 v2 r A' h; exact absurd h (by simp [fX7_readText_h7])
  | succ N ih =>
    intro A v0 v2 r A' h
    rw [fX7_readText_h7] at h
    refine k_iload_n (pc := 7) (x := v2) dX7_readText_7 rfl rfl ?_
    refine k_sipush (pc := 8) dX7_readText_8 ⟨by decide, by decide⟩ (by decide +kernel) ?_
    refine k_icmp_gt (pc := 11) (tgt := 53) dX7_readText_11 rfl (fun c1 => ?_) (fun c1 => ?_)
    · rw [if_neg (Int.not_le.mpr c1)] at h
      refine k_iconst (pc := 53) dX7_readText_53 ⟨by decide, by decide⟩ ?_
      obtain ⟨rfl, rfl⟩ := k_pr h
      exact k_ret (pc := 54) dX7_readText_54 rfl rfl (by decide +kernel)
    · rw [if_pos (Int.not_lt.mp c1)] at h
      refine k_aload_n (pc := 14) (x := v0) dX7_readText_14 rfl rfl ?_
      obtain ⟨hc5, h⟩ := k_pk h
      obtain ⟨r2, A3, hq4, h⟩ := k_pb h
      refine k_callV (pc := 15) (ci := 7) (a := v0) (as := []) (st := []) (st1 := []) dX7_readText_15 cbX7_nextToken (k_gt 610 (by decide +kernel) (by decide +kernel)) cvX7_nextToken.1 cvX7_nextToken.2 rfl (by decide) hc5 (by omega) rfl (Nat.le_of_ble_eq_true rfl) (okX7_nextToken hq4) rfl ?_
      refine k_aload_n (pc := 18) (x := v0) dX7_readText_18 rfl rfl ?_
      obtain ⟨hc6, h⟩ := k_pk h
      refine k_getf (pc := 19) (t := 0) (fi := 10) dX7_readText_19 flX7_32 rfl rfl hc6 ?_
      refine k_iconst (pc := 22) dX7_readText_22 ⟨by decide, by decide⟩ ?_
      refine k_icmp_ne (pc := 23) (tgt := 28) dX7_readText_23 rfl (fun c7 => ?_) (fun c7 => ?_)
      · rw [if_neg c7] at h
        refine k_aload_n (pc := 28) (x := v0) dX7_readText_28 rfl rfl ?_
        obtain ⟨r8, A9, hq10, h⟩ := k_pb h
        refine k_callV (pc := 29) (ci := 7) (a := v0) (as := []) (st := []) (st1 := [(0, r8)]) dX7_readText_29 cbX7_readTerm (k_gt 628 (by decide +kernel) (by decide +kernel)) cvX7_readTerm.1 cvX7_readTerm.2 rfl (by decide) hc6 (by omega) rfl (Nat.le_of_ble_eq_true rfl) (okX7_readTerm hq10) rfl ?_
        refine k_if_ne (pc := 32) (tgt := 37) dX7_readText_32 rfl (fun c11 => ?_) (fun c11 => ?_)
        · rw [if_neg c11] at h
          refine k_aload_n (pc := 37) (x := v0) dX7_readText_37 rfl rfl ?_
          refine k_dup (pc := 38) dX7_readText_38 (Nat.le_of_ble_eq_true rfl) ?_
          obtain ⟨hc12, h⟩ := k_pk h
          refine k_getf (pc := 39) (t := 0) (fi := 1) dX7_readText_39 flX7_40 rfl rfl hc12 ?_
          refine k_iconst (pc := 42) dX7_readText_42 ⟨by decide, by decide⟩ ?_
          refine k_iadd (pc := 43) dX7_readText_43 ?_
          refine k_putf (pc := 44) (t := 0) (fi := 1) dX7_readText_44 flX7_40 rfl rfl hc12 rfl ?_
          obtain ⟨A13, eA14, h⟩ := k_pl h
          refine k_hq eA14 ?_
          refine k_iinc (pc := 47) (x := v2) dX7_readText_47 (Nat.le_of_ble_eq_true rfl) rfl rfl ?_
          show k_AW _ _ _ [(1, v0), (3, 0), (0, k_wr (v2 + 1))] _ _ _ _
          refine k_goto (pc := 50) (tgt := 7) dX7_readText_50 rfl ?_
          refine k_sub (ls' := [(1, v0), (3, 0), (0, k_wr (v2 + 1))]) (k_sbl_ok _ _ ⟨Or.inr rfl, Or.inl rfl, Or.inr rfl, trivial⟩) ?_
          exact ih _ _ _ _ _ h
        · rw [if_pos (Classical.not_not.mp c11)] at h
          refine k_iconst (pc := 35) dX7_readText_35 ⟨by decide, by decide⟩ ?_
          obtain ⟨rfl, rfl⟩ := k_pr h
          exact k_ret (pc := 36) dX7_readText_36 rfl rfl (by decide +kernel)
      · rw [if_pos (Classical.not_not.mp c7)] at h
        refine k_iconst (pc := 26) dX7_readText_26 ⟨by decide, by decide⟩ ?_
        obtain ⟨rfl, rfl⟩ := k_pr h
        exact k_ret (pc := 27) dX7_readText_27 rfl rfl (by decide +kernel)
set_option maxRecDepth 100000 in
theorem okX7_readText_b0 (A : k_H) (v0 v1 : Int) (r : Int) (A' : k_H) (h : fX7_readText_b0 A v0 v1 = some (r, A')) : k_AW 10 mX7_readText 0 [(1, v0), (1, v1), (3, 0)] [] A r A' := by
  unfold fX7_readText_b0 at h
  refine k_aload_n (pc := 0) (x := v0) dX7_readText_0 rfl rfl ?_
  refine k_aload_n (pc := 1) (x := v1) dX7_readText_1 rfl rfl ?_
  obtain ⟨hc4, h⟩ := k_pk h
  obtain ⟨r1, A2, hq3, h⟩ := k_pb h
  refine k_callV (pc := 2) (ci := 7) (a := v0) (as := [(1, v1)]) (st := []) (st1 := []) dX7_readText_2 cbX7_start (k_gt 597 (by decide +kernel) (by decide +kernel)) cvX7_start.1 cvX7_start.2 rfl (by decide) hc4 (by omega) rfl (Nat.le_of_ble_eq_true rfl) (okX7_start hq3) rfl ?_
  refine k_iconst (pc := 5) dX7_readText_5 ⟨by decide, by decide⟩ ?_
  refine k_istore_n (pc := 6) dX7_readText_6 rfl (Nat.le_of_ble_eq_true rfl) rfl ?_
  show k_AW _ _ _ [(1, v0), (1, v1), (0, 0)] _ _ _ _
  refine k_sub (ls' := [(1, v0), (3, 0), (0, 0)]) (k_sbl_ok _ _ ⟨Or.inr rfl, Or.inl rfl, Or.inr rfl, trivial⟩) ?_
  exact okX7_readText_h7  _ _ _ _ _ _ h
theorem okX7_readText {A : k_H} {x0 x1 : Int} {r : Int} {A1 : k_H} (h : fX7_readText A x0 x1 = some (r, A1)) : k_AM 10 mX7_readText [(1, x0), (1, x1)] A r A1 :=
  k_AM_of2 (ls := [(1, x0), (1, x1), (3, 0)]) (Or.inl (by decide +kernel)) (by decide +kernel) (by decide) rfl (Nat.le_of_ble_eq_true rfl) ⟨Or.inr rfl, Or.inr rfl, rfl, trivial⟩ (okX7_readText_b0 A x0 x1 r A1 h)
/-! X8_terms -/
def fX8_terms_b66 (A : k_H) (v0 v2 : Int) : Option (Int × k_H) := if k_isO A v0 8 then (if k_isO A (k_rd A v0 0) 5 then (k_lt (k_wt A (k_rd A v0 0) 1 0) fun A3 => some (v2, A3)) else none) else none
def fX8_terms_b0 (A : k_H) (v0 v1 : Int) : Option (Int × k_H) := if k_isO A v0 8 then (k_bd (fX8_isShow A v0 v1) fun r1 A2 => if r1 = 0 then (fX8_terms_b66 A2 v0 (-300)) else (if k_isO A2 v0 8 then (if k_isO A2 (k_rd A2 v0 5) 7 then (k_bd (fX7_readText A2 (k_rd A2 v0 5) (k_rd A2 v0 0)) fun r7 A8 => if r7 = 0 then (if k_isO A8 v0 8 then (if k_isO A8 (k_rd A8 v0 5) 7 then (fX8_terms_b66 A8 v0 (k_wr ((-1) - (k_rd A8 (k_rd A8 v0 5) 3)))) else none) else none) else (if k_isO A8 v0 8 then (if k_isA A8 (k_rd A8 v0 2) 24 v1 then (if k_isO A8 (k_rd A8 (k_rd A8 v0 2) v1) 4 then (if k_isO A8 (k_rd A8 v0 5) 7 then (if k_isO A8 (k_rd A8 (k_rd A8 (k_rd A8 v0 2) v1) 3) 6 then (k_bd (fX6_copyFrom A8 (k_rd A8 (k_rd A8 (k_rd A8 v0 2) v1) 3) (k_rd A8 (k_rd A8 v0 5) 0)) fun r18 A19 => if k_isO A19 v0 8 then (if k_isO A19 (k_rd A19 v0 5) 7 then (fX8_terms_b66 A19 v0 (k_rd A19 (k_rd A19 v0 5) 1)) else none) else none) else none) else none) else none) else none) else none)) else none) else none)) else none
def fX8_terms (A : k_H) (x0 x1 : Int) : Option (Int × k_H) := fX8_terms_b0 A x0 x1
set_option maxRecDepth 100000 in
theorem okX8_terms_b66 (A : k_H) (v0 v2 : Int) (r : Int) (A' : k_H) (h : fX8_terms_b66 A v0 v2 = some (r, A')) : k_AW 11 mX8_terms 66 [(1, v0), (3, 0), (0, v2)] [] A r A' := by
  unfold fX8_terms_b66 at h
  refine k_aload_n (pc := 66) (x := v0) dX8_terms_66 rfl rfl ?_
  obtain ⟨hc1, h⟩ := k_pk h
  refine k_getf (pc := 67) (t := 1) (fi := 0) dX8_terms_67 flX8_10 rfl rfl hc1 ?_
  refine k_iconst (pc := 70) dX8_terms_70 ⟨by decide, by decide⟩ ?_
  obtain ⟨hc2, h⟩ := k_pk h
  refine k_putf (pc := 71) (t := 0) (fi := 1) dX8_terms_71 flX8_51 rfl rfl hc2 rfl ?_
  obtain ⟨A3, eA4, h⟩ := k_pl h
  refine k_hq eA4 ?_
  refine k_iload_n (pc := 74) (x := v2) dX8_terms_74 rfl rfl ?_
  obtain ⟨rfl, rfl⟩ := k_pr h
  exact k_ret (pc := 75) dX8_terms_75 rfl rfl rfl
set_option maxRecDepth 100000 in
theorem okX8_terms_b0 (A : k_H) (v0 v1 : Int) (r : Int) (A' : k_H) (h : fX8_terms_b0 A v0 v1 = some (r, A')) : k_AW 11 mX8_terms 0 [(1, v0), (0, v1), (3, 0)] [] A r A' := by
  unfold fX8_terms_b0 at h
  refine k_sipush (pc := 0) dX8_terms_0 ⟨by decide, by decide⟩ (by decide +kernel) ?_
  refine k_istore_n (pc := 3) dX8_terms_3 rfl (Nat.le_of_ble_eq_true rfl) rfl ?_
  show k_AW _ _ _ [(1, v0), (0, v1), (0, (-300))] _ _ _ _
  refine k_aload_n (pc := 4) (x := v0) dX8_terms_4 rfl rfl ?_
  refine k_iload_n (pc := 5) (x := v1) dX8_terms_5 rfl rfl ?_
  obtain ⟨hc4, h⟩ := k_pk h
  obtain ⟨r1, A2, hq3, h⟩ := k_pb h
  refine k_callV (pc := 6) (ci := 8) (a := v0) (as := [(0, v1)]) (st := []) (st1 := [(0, r1)]) dX8_terms_6 cbX8_isShow (k_gt 412 (by decide +kernel) (by decide +kernel)) cvX8_isShow.1 cvX8_isShow.2 rfl (by decide) hc4 (by omega) rfl (Nat.le_of_ble_eq_true rfl) (okX8_isShow hq3) rfl ?_
  refine k_if_eq (pc := 9) (tgt := 66) dX8_terms_9 rfl (fun c5 => ?_) (fun c5 => ?_)
  · rw [if_pos c5] at h
    refine k_sub (ls' := [(1, v0), (3, 0), (0, (-300))]) (k_sbl_ok _ _ ⟨Or.inr rfl, Or.inl rfl, Or.inr rfl, trivial⟩) ?_
    exact okX8_terms_b66  _ _ _ _ _ h
  · rw [if_neg c5] at h
    refine k_aload_n (pc := 12) (x := v0) dX8_terms_12 rfl rfl ?_
    obtain ⟨hc6, h⟩ := k_pk h
    refine k_getf (pc := 13) (t := 1) (fi := 5) dX8_terms_13 flX8_45 rfl rfl hc6 ?_
    refine k_aload_n (pc := 16) (x := v0) dX8_terms_16 rfl rfl ?_
    refine k_getf (pc := 17) (t := 1) (fi := 0) dX8_terms_17 flX8_10 rfl rfl hc6 ?_
    obtain ⟨hc10, h⟩ := k_pk h
    obtain ⟨r7, A8, hq9, h⟩ := k_pb h
    refine k_callV (pc := 20) (ci := 7) (a := (k_rd A2 v0 5)) (as := [(1, (k_rd A2 v0 0))]) (st := []) (st1 := [(0, r7)]) dX8_terms_20 cbX7_readText (k_gt 593 (by decide +kernel) (by decide +kernel)) cvX7_readText.1 cvX7_readText.2 rfl (by decide) hc10 (by omega) rfl (Nat.le_of_ble_eq_true rfl) (okX7_readText hq9) rfl ?_
    refine k_if_eq (pc := 23) (tgt := 56) dX8_terms_23 rfl (fun c11 => ?_) (fun c11 => ?_)
    · rw [if_pos c11] at h
      refine k_iconst (pc := 56) dX8_terms_56 ⟨by decide, by decide⟩ ?_
      refine k_aload_n (pc := 57) (x := v0) dX8_terms_57 rfl rfl ?_
      obtain ⟨hc12, h⟩ := k_pk h
      refine k_getf (pc := 58) (t := 1) (fi := 5) dX8_terms_58 flX8_45 rfl rfl hc12 ?_
      obtain ⟨hc13, h⟩ := k_pk h
      refine k_getf (pc := 61) (t := 0) (fi := 3) dX8_terms_61 flX8_200 rfl rfl hc13 ?_
      refine k_isub (pc := 64) dX8_terms_64 ?_
      refine k_istore_n (pc := 65) dX8_terms_65 rfl (Nat.le_of_ble_eq_true rfl) rfl ?_
      show k_AW _ _ _ [(1, v0), (0, v1), (0, k_wr ((-1) - (k_rd A8 (k_rd A8 v0 5) 3)))] _ _ _ _
      refine k_sub (ls' := [(1, v0), (3, 0), (0, k_wr ((-1) - (k_rd A8 (k_rd A8 v0 5) 3)))]) (k_sbl_ok _ _ ⟨Or.inr rfl, Or.inl rfl, Or.inr rfl, trivial⟩) ?_
      exact okX8_terms_b66  _ _ _ _ _ h
    · rw [if_neg c11] at h
      refine k_aload_n (pc := 26) (x := v0) dX8_terms_26 rfl rfl ?_
      obtain ⟨hc14, h⟩ := k_pk h
      refine k_getf (pc := 27) (t := 1) (fi := 2) dX8_terms_27 flX8_24 rfl rfl hc14 ?_
      refine k_iload_n (pc := 30) (x := v1) dX8_terms_30 rfl rfl ?_
      obtain ⟨hc15, h⟩ := k_pk h
      refine k_aaload (pc := 31) (K := 24) dX8_terms_31 (by decide) hc15 ?_
      obtain ⟨hc16, h⟩ := k_pk h
      refine k_getf (pc := 32) (t := 1) (fi := 3) dX8_terms_32 flX8_184 rfl rfl hc16 ?_
      refine k_aload_n (pc := 35) (x := v0) dX8_terms_35 rfl rfl ?_
      refine k_getf (pc := 36) (t := 1) (fi := 5) dX8_terms_36 flX8_45 rfl rfl hc14 ?_
      obtain ⟨hc17, h⟩ := k_pk h
      refine k_getf (pc := 39) (t := 1) (fi := 0) dX8_terms_39 flX8_188 rfl rfl hc17 ?_
      obtain ⟨hc21, h⟩ := k_pk h
      obtain ⟨r18, A19, hq20, h⟩ := k_pb h
      refine k_callV (pc := 42) (ci := 6) (a := (k_rd A8 (k_rd A8 (k_rd A8 v0 2) v1) 3)) (as := [(1, (k_rd A8 (k_rd A8 v0 5) 0))]) (st := []) (st1 := []) dX8_terms_42 cbX6_copyFrom (k_gt 730 (by decide +kernel) (by decide +kernel)) cvX6_copyFrom.1 cvX6_copyFrom.2 rfl (by decide) hc21 (by omega) rfl (Nat.le_of_ble_eq_true rfl) (okX6_copyFrom hq20) rfl ?_
      refine k_aload_n (pc := 45) (x := v0) dX8_terms_45 rfl rfl ?_
      obtain ⟨hc22, h⟩ := k_pk h
      refine k_getf (pc := 46) (t := 1) (fi := 5) dX8_terms_46 flX8_45 rfl rfl hc22 ?_
      obtain ⟨hc23, h⟩ := k_pk h
      refine k_getf (pc := 49) (t := 0) (fi := 1) dX8_terms_49 flX8_197 rfl rfl hc23 ?_
      refine k_istore_n (pc := 52) dX8_terms_52 rfl (Nat.le_of_ble_eq_true rfl) rfl ?_
      show k_AW _ _ _ [(1, v0), (0, v1), (0, (k_rd A19 (k_rd A19 v0 5) 1))] _ _ _ _
      refine k_goto (pc := 53) (tgt := 66) dX8_terms_53 rfl ?_
      refine k_sub (ls' := [(1, v0), (3, 0), (0, (k_rd A19 (k_rd A19 v0 5) 1))]) (k_sbl_ok _ _ ⟨Or.inr rfl, Or.inl rfl, Or.inr rfl, trivial⟩) ?_
      exact okX8_terms_b66  _ _ _ _ _ h
theorem okX8_terms {A : k_H} {x0 x1 : Int} {r : Int} {A1 : k_H} (h : fX8_terms A x0 x1 = some (r, A1)) : k_AM 11 mX8_terms [(1, x0), (0, x1)] A r A1 :=
  k_AM_of2 (ls := [(1, x0), (0, x1), (3, 0)]) (Or.inl (by decide +kernel)) (by decide +kernel) (by decide) rfl (Nat.le_of_ble_eq_true rfl) ⟨Or.inr rfl, Or.inr rfl, rfl, trivial⟩ (okX8_terms_b0 A x0 x1 r A1 h)
