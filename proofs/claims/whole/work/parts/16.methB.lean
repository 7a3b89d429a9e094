/-! X2_init -/
def fX2_init_b0 (A : k_H) (v0 : Int) : Option (Int × k_H) := if 0 ≤ v0 then (k_lt (k_mk A 21 6) fun A2 => if k_isO A2 v0 2 then (k_lt (k_wt A2 v0 0 (k_N A : Int)) fun A5 => k_lt (k_mk A5 21 6) fun A7 => if k_isO A7 v0 2 then (k_lt (k_wt A7 v0 1 (k_N A5 : Int)) fun A10 => k_lt (k_mk A10 21 36) fun A12 => if k_isO A12 v0 2 then (k_lt (k_wt A12 v0 2 (k_N A10 : Int)) fun A15 => k_lt (k_mk A15 21 6) fun A17 => if k_isO A17 v0 2 then (k_lt (k_wt A17 v0 3 (k_N A15 : Int)) fun A20 => k_lt (k_mk A20 22 5376) fun A22 => if k_isO A22 v0 2 then (k_lt (k_wt A22 v0 4 (k_N A20 : Int)) fun A25 => some (0, A25)) else none) else none) else none) else none) else none) else none
def fX2_init (A : k_H) (x0 : Int) : Option (Int × k_H) := fX2_init_b0 A x0
set_option maxRecDepth 100000 in
theorem okX2_init_b0 (A : k_H) (v0 : Int) (r : Int) (A' : k_H) (h : fX2_init_b0 A v0 = some (r, A')) : k_AW 1 mX2_init 0 [(1, v0)] [] A r A' := by
  unfold fX2_init_b0 at h
  refine k_aload_n (pc := 0) (x := v0) dX2_init_0 rfl rfl ?_
  obtain ⟨hc1, h⟩ := k_pk h
  refine k_objInit (pc := 1) dX2_init_1 (k_gt 91 (by decide +kernel) (by decide +kernel)) (by omega) hc1 (Nat.le_of_ble_eq_true rfl) ?_
  refine k_aload_n (pc := 4) (x := v0) dX2_init_4 rfl rfl ?_
  refine k_bipush (pc := 5) dX2_init_5 ⟨by decide, by decide⟩ (by decide +kernel) ?_
  refine k_newa (pc := 7) (n := 6) dX2_init_7 k_atI rfl (by decide) ?_
  obtain ⟨A2, eA3, h⟩ := k_pl h
  refine k_hq eA3 ?_
  obtain ⟨hc4, h⟩ := k_pk h
  refine k_putF (pc := 9) (t := 1) (fi := 0) dX2_init_9 flX2_11 rfl (fun Cn Tt Nn h9 => by cases h9; rfl) rfl rfl hc4 rfl ?_
  obtain ⟨A5, eA6, h⟩ := k_pl h
  refine k_hq eA6 ?_
  refine k_aload_n (pc := 12) (x := v0) dX2_init_12 rfl rfl ?_
  refine k_bipush (pc := 13) dX2_init_13 ⟨by decide, by decide⟩ (by decide +kernel) ?_
  refine k_newa (pc := 15) (n := 6) dX2_init_15 k_atI rfl (by decide) ?_
  obtain ⟨A7, eA8, h⟩ := k_pl h
  refine k_hq eA8 ?_
  obtain ⟨hc9, h⟩ := k_pk h
  refine k_putF (pc := 17) (t := 1) (fi := 1) dX2_init_17 flX2_15 rfl (fun Cn Tt Nn h9 => by cases h9; rfl) rfl rfl hc9 rfl ?_
  obtain ⟨A10, eA11, h⟩ := k_pl h
  refine k_hq eA11 ?_
  refine k_aload_n (pc := 20) (x := v0) dX2_init_20 rfl rfl ?_
  refine k_bipush (pc := 21) dX2_init_21 ⟨by decide, by decide⟩ (by decide +kernel) ?_
  refine k_newa (pc := 23) (n := 36) dX2_init_23 k_atI rfl (by decide) ?_
  obtain ⟨A12, eA13, h⟩ := k_pl h
  refine k_hq eA13 ?_
  obtain ⟨hc14, h⟩ := k_pk h
  refine k_putF (pc := 25) (t := 1) (fi := 2) dX2_init_25 flX2_18 rfl (fun Cn Tt Nn h9 => by cases h9; rfl) rfl rfl hc14 rfl ?_
  obtain ⟨A15, eA16, h⟩ := k_pl h
  refine k_hq eA16 ?_
  refine k_aload_n (pc := 28) (x := v0) dX2_init_28 rfl rfl ?_
  refine k_bipush (pc := 29) dX2_init_29 ⟨by decide, by decide⟩ (by decide +kernel) ?_
  refine k_newa (pc := 31) (n := 6) dX2_init_31 k_atI rfl (by decide) ?_
  obtain ⟨A17, eA18, h⟩ := k_pl h
  refine k_hq eA18 ?_
  obtain ⟨hc19, h⟩ := k_pk h
  refine k_putF (pc := 33) (t := 1) (fi := 3) dX2_init_33 flX2_21 rfl (fun Cn Tt Nn h9 => by cases h9; rfl) rfl rfl hc19 rfl ?_
  obtain ⟨A20, eA21, h⟩ := k_pl h
  refine k_hq eA21 ?_
  refine k_aload_n (pc := 36) (x := v0) dX2_init_36 rfl rfl ?_
  refine k_sipush (pc := 37) dX2_init_37 ⟨by decide, by decide⟩ (by decide +kernel) ?_
  refine k_newa (pc := 40) (n := 5376) dX2_init_40 k_atL rfl (by decide) ?_
  obtain ⟨A22, eA23, h⟩ := k_pl h
  refine k_hq eA23 ?_
  obtain ⟨hc24, h⟩ := k_pk h
  refine k_putF (pc := 42) (t := 1) (fi := 4) dX2_init_42 flX2_24 rfl (fun Cn Tt Nn h9 => by cases h9; rfl) rfl rfl hc24 rfl ?_
  obtain ⟨A25, eA26, h⟩ := k_pl h
  refine k_hq eA26 ?_
  obtain ⟨rfl, rfl⟩ := k_pr h
  exact k_retv (pc := 45) dX2_init_45 rfl
theorem okX2_init {A : k_H} {x0 : Int} {r : Int} {A1 : k_H} (h : fX2_init A x0 = some (r, A1)) : k_AM 1 mX2_init [(1, x0)] A r A1 :=
  k_AM_of2 (ls := [(1, x0)]) (Or.inl (by decide +kernel)) (by decide +kernel) (by decide) rfl (Nat.le_of_ble_eq_true rfl) ⟨Or.inr rfl, trivial⟩ (okX2_init_b0 A x0 r A1 h)
/-! X2_start -/
def fX2_start_b0 (A : k_H) (v0 v1 : Int) : Option (Int × k_H) := if k_isO A v0 2 then (k_lt (k_wt A v0 5 0) fun A2 => if k_isO A2 v1 4 then (k_lt (k_wt A2 v0 6 (k_rd A2 v1 6)) fun A6 => k_lt (k_wt A6 v0 7 (k_rd A6 v1 7)) fun A10 => k_lt (k_wt A10 v0 8 (max 1 (k_rd A10 v1 8))) fun A14 => k_lt (k_wt A14 v0 9 (k_rd A14 v1 9)) fun A18 => some (0, A18)) else none) else none
def fX2_start (A : k_H) (x0 x1 : Int) : Option (Int × k_H) := fX2_start_b0 A x0 x1
set_option maxRecDepth 100000 in
theorem okX2_start_b0 (A : k_H) (v0 v1 : Int) (r : Int) (A' : k_H) (h : fX2_start_b0 A v0 v1 = some (r, A')) : k_AW 2 mX2_start 0 [(1, v0), (1, v1)] [] A r A' := by
  unfold fX2_start_b0 at h
  refine k_aload_n (pc := 0) (x := v0) dX2_start_0 rfl rfl ?_
  refine k_iconst (pc := 1) dX2_start_1 ⟨by decide, by decide⟩ ?_
  obtain ⟨hc1, h⟩ := k_pk h
  refine k_putf (pc := 2) (t := 0) (fi := 5) dX2_start_2 flX2_28 rfl rfl hc1 rfl ?_
  obtain ⟨A2, eA3, h⟩ := k_pl h
  refine k_hq eA3 ?_
  refine k_aload_n (pc := 5) (x := v0) dX2_start_5 rfl rfl ?_
  refine k_aload_n (pc := 6) (x := v1) dX2_start_6 rfl rfl ?_
  obtain ⟨hc4, h⟩ := k_pk h
  refine k_getf (pc := 7) (t := 0) (fi := 6) dX2_start_7 flX2_32 rfl rfl hc4 ?_
  have hf5 := k_oW eA3 hc1
  refine k_putf (pc := 10) (t := 0) (fi := 6) dX2_start_10 flX2_37 rfl rfl hf5 rfl ?_
  obtain ⟨A6, eA7, h⟩ := k_pl h
  refine k_hq eA7 ?_
  refine k_aload_n (pc := 13) (x := v0) dX2_start_13 rfl rfl ?_
  refine k_aload_n (pc := 14) (x := v1) dX2_start_14 rfl rfl ?_
  have hf8 := k_oW eA7 hc4
  refine k_getf (pc := 15) (t := 0) (fi := 7) dX2_start_15 flX2_38 rfl rfl hf8 ?_
  have hf9 := k_oW eA7 hf5
  refine k_putf (pc := 18) (t := 0) (fi := 7) dX2_start_18 flX2_41 rfl rfl hf9 rfl ?_
  obtain ⟨A10, eA11, h⟩ := k_pl h
  refine k_hq eA11 ?_
  refine k_aload_n (pc := 21) (x := v0) dX2_start_21 rfl rfl ?_
  refine k_iconst (pc := 22) dX2_start_22 ⟨by decide, by decide⟩ ?_
  refine k_aload_n (pc := 23) (x := v1) dX2_start_23 rfl rfl ?_
  have hf12 := k_oW eA11 hf8
  refine k_getf (pc := 24) (t := 0) (fi := 8) dX2_start_24 flX2_42 rfl rfl hf12 ?_
  refine k_mmax (pc := 27) dX2_start_27 (k_gt 485 (by decide +kernel) (by decide +kernel)) (by omega) (Nat.le_of_ble_eq_true rfl) ?_
  have hf13 := k_oW eA11 hf9
  refine k_putf (pc := 30) (t := 0) (fi := 8) dX2_start_30 flX2_51 rfl rfl hf13 rfl ?_
  obtain ⟨A14, eA15, h⟩ := k_pl h
  refine k_hq eA15 ?_
  refine k_aload_n (pc := 33) (x := v0) dX2_start_33 rfl rfl ?_
  refine k_aload_n (pc := 34) (x := v1) dX2_start_34 rfl rfl ?_
  have hf16 := k_oW eA15 hf12
  refine k_getf (pc := 35) (t := 0) (fi := 9) dX2_start_35 flX2_52 rfl rfl hf16 ?_
  have hf17 := k_oW eA15 hf13
  refine k_putf (pc := 38) (t := 0) (fi := 9) dX2_start_38 flX2_55 rfl rfl hf17 rfl ?_
  obtain ⟨A18, eA19, h⟩ := k_pl h
  refine k_hq eA19 ?_
  obtain ⟨rfl, rfl⟩ := k_pr h
  exact k_retv (pc := 41) dX2_start_41 rfl
theorem okX2_start {A : k_H} {x0 x1 : Int} {r : Int} {A1 : k_H} (h : fX2_start A x0 x1 = some (r, A1)) : k_AM 2 mX2_start [(1, x0), (1, x1)] A r A1 :=
  k_AM_of2 (ls := [(1, x0), (1, x1)]) (Or.inl (by decide +kernel)) (by decide +kernel) (by decide) rfl (Nat.le_of_ble_eq_true rfl) ⟨Or.inr rfl, Or.inr rfl, trivial⟩ (okX2_start_b0 A x0 x1 r A1 h)
/-! X2_asksMore -/
def fX2_asksMore_b0 (A : k_H) (v0 : Int) : Option (Int × k_H) := if k_isO A v0 2 then (if (k_rd A v0 5) < 6 then (some (1, A)) else (some (0, A))) else none
def fX2_asksMore (A : k_H) (x0 : Int) : Option (Int × k_H) := fX2_asksMore_b0 A x0
set_option maxRecDepth 100000 in
theorem okX2_asksMore_b0 (A : k_H) (v0 : Int) (r : Int) (A' : k_H) (h : fX2_asksMore_b0 A v0 = some (r, A')) : k_AW 1 mX2_asksMore 0 [(1, v0)] [] A r A' := by
  unfold fX2_asksMore_b0 at h
  refine k_aload_n (pc := 0) (x := v0) dX2_asksMore_0 rfl rfl ?_
  obtain ⟨hc1, h⟩ := k_pk h
  refine k_getf (pc := 1) (t := 0) (fi := 5) dX2_asksMore_1 flX2_28 rfl rfl hc1 ?_
  refine k_bipush (pc := 4) dX2_asksMore_4 ⟨by decide, by decide⟩ (by decide +kernel) ?_
  refine k_icmp_ge (pc := 6) (tgt := 13) dX2_asksMore_6 rfl (fun c2 => ?_) (fun c2 => ?_)
  · rw [if_neg (Int.not_lt.mpr c2)] at h
    refine k_iconst (pc := 13) dX2_asksMore_13 ⟨by decide, by decide⟩ ?_
    obtain ⟨rfl, rfl⟩ := k_pr h
    exact k_ret (pc := 14) dX2_asksMore_14 rfl rfl (by decide +kernel)
  · rw [if_pos (Int.not_le.mp c2)] at h
    refine k_iconst (pc := 9) dX2_asksMore_9 ⟨by decide, by decide⟩ ?_
    refine k_goto (pc := 10) (tgt := 14) dX2_asksMore_10 rfl ?_
    obtain ⟨rfl, rfl⟩ := k_pr h
    exact k_ret (pc := 14) dX2_asksMore_14 rfl rfl (by decide +kernel)
theorem okX2_asksMore {A : k_H} {x0 : Int} {r : Int} {A1 : k_H} (h : fX2_asksMore A x0 = some (r, A1)) : k_AM 1 mX2_asksMore [(1, x0)] A r A1 :=
  k_AM_of2 (ls := [(1, x0)]) (Or.inl (by decide +kernel)) (by decide +kernel) (by decide) rfl (Nat.le_of_ble_eq_true rfl) ⟨Or.inr rfl, trivial⟩ (okX2_asksMore_b0 A x0 r A1 h)
/-! X2_close -/
def fX2_close_b0 (A : k_H) (v0 v1 : Int) : Option (Int × k_H) := if k_isO A v0 2 then (if 0 < (k_rd A v0 5) then (if k_isA A (k_rd A v0 3) 21 (k_wr ((k_rd A v0 5) - 1)) then (k_lt (k_wt A (k_rd A v0 3) (k_wr ((k_rd A v0 5) - 1)) (k_or (k_rd A (k_rd A v0 3) (k_wr ((k_rd A v0 5) - 1))) (k_shl 1 v1))) fun A4 => some (0, A4)) else none) else (some (0, A))) else none
def fX2_close (A : k_H) (x0 x1 : Int) : Option (Int × k_H) := fX2_close_b0 A x0 x1
set_option maxRecDepth 100000 in
theorem okX2_close_b0 (A : k_H) (v0 v1 : Int) (r : Int) (A' : k_H) (h : fX2_close_b0 A v0 v1 = some (r, A')) : k_AW 1 mX2_close 0 [(1, v0), (0, v1)] [] A r A' := by
  unfold fX2_close_b0 at h
  refine k_aload_n (pc := 0) (x := v0) dX2_close_0 rfl rfl ?_
  obtain ⟨hc1, h⟩ := k_pk h
  refine k_getf (pc := 1) (t := 0) (fi := 5) dX2_close_1 flX2_28 rfl rfl hc1 ?_
  refine k_if_le (pc := 4) (tgt := 24) dX2_close_4 rfl (fun c2 => ?_) (fun c2 => ?_)
  · rw [if_neg (Int.not_lt.mpr c2)] at h
    obtain ⟨rfl, rfl⟩ := k_pr h
    exact k_retv (pc := 24) dX2_close_24 rfl
  · rw [if_pos (Int.not_le.mp c2)] at h
    refine k_aload_n (pc := 7) (x := v0) dX2_close_7 rfl rfl ?_
    refine k_getf (pc := 8) (t := 1) (fi := 3) dX2_close_8 flX2_21 rfl rfl hc1 ?_
    refine k_aload_n (pc := 11) (x := v0) dX2_close_11 rfl rfl ?_
    refine k_getf (pc := 12) (t := 0) (fi := 5) dX2_close_12 flX2_28 rfl rfl hc1 ?_
    refine k_iconst (pc := 15) dX2_close_15 ⟨by decide, by decide⟩ ?_
    refine k_isub (pc := 16) dX2_close_16 ?_
    refine k_dup2 (pc := 17) dX2_close_17 (Nat.le_of_ble_eq_true rfl) (Nat.le_of_ble_eq_true rfl) ?_
    obtain ⟨hc3, h⟩ := k_pk h
    refine k_iaload (pc := 18) dX2_close_18 hc3 ?_
    refine k_iconst (pc := 19) dX2_close_19 ⟨by decide, by decide⟩ ?_
    refine k_iload_n (pc := 20) (x := v1) dX2_close_20 rfl rfl ?_
    refine k_ishl (pc := 21) dX2_close_21 ?_
    refine k_ior (pc := 22) dX2_close_22 ?_
    refine k_iastore (pc := 23) dX2_close_23 hc3 ?_
    obtain ⟨A4, eA5, h⟩ := k_pl h
    refine k_hq eA5 ?_
    obtain ⟨rfl, rfl⟩ := k_pr h
    exact k_retv (pc := 24) dX2_close_24 rfl
theorem okX2_close {A : k_H} {x0 x1 : Int} {r : Int} {A1 : k_H} (h : fX2_close A x0 x1 = some (r, A1)) : k_AM 1 mX2_close [(1, x0), (0, x1)] A r A1 :=
  k_AM_of2 (ls := [(1, x0), (0, x1)]) (Or.inl (by decide +kernel)) (by decide +kernel) (by decide) rfl (Nat.le_of_ble_eq_true rfl) ⟨Or.inr rfl, Or.inr rfl, trivial⟩ (okX2_close_b0 A x0 x1 r A1 h)
/-! X2_has -/
def fX2_has_b0 (A : k_H) (v0 v1 : Int) : Option (Int × k_H) := if (k_and (k_shr v0 v1) 1) = 0 then (some (0, A)) else (some (1, A))
def fX2_has (A : k_H) (x0 x1 : Int) : Option (Int × k_H) := fX2_has_b0 A x0 x1
set_option maxRecDepth 100000 in
theorem okX2_has_b0 (A : k_H) (v0 v1 : Int) (r : Int) (A' : k_H) (h : fX2_has_b0 A v0 v1 = some (r, A')) : k_AW 1 mX2_has 0 [(0, v0), (0, v1)] [] A r A' := by
  unfold fX2_has_b0 at h
  refine k_iload_n (pc := 0) (x := v0) dX2_has_0 rfl rfl ?_
  refine k_iload_n (pc := 1) (x := v1) dX2_has_1 rfl rfl ?_
  refine k_ishr (pc := 2) dX2_has_2 ?_
  refine k_iconst (pc := 3) dX2_has_3 ⟨by decide, by decide⟩ ?_
  refine k_iand (pc := 4) dX2_has_4 ?_
  refine k_if_eq (pc := 5) (tgt := 12) dX2_has_5 rfl (fun c1 => ?_) (fun c1 => ?_)
  · rw [if_pos c1] at h
    refine k_iconst (pc := 12) dX2_has_12 ⟨by decide, by decide⟩ ?_
    obtain ⟨rfl, rfl⟩ := k_pr h
    exact k_ret (pc := 13) dX2_has_13 rfl rfl (by decide +kernel)
  · rw [if_neg c1] at h
    refine k_iconst (pc := 8) dX2_has_8 ⟨by decide, by decide⟩ ?_
    refine k_goto (pc := 9) (tgt := 13) dX2_has_9 rfl ?_
    obtain ⟨rfl, rfl⟩ := k_pr h
    exact k_ret (pc := 13) dX2_has_13 rfl rfl (by decide +kernel)
theorem okX2_has {A : k_H} {x0 x1 : Int} {r : Int} {A1 : k_H} (h : fX2_has A x0 x1 = some (r, A1)) : k_AM 1 mX2_has [(0, x0), (0, x1)] A r A1 :=
  k_AM_of2 (ls := [(0, x0), (0, x1)]) (Or.inl (by decide +kernel)) (by decide +kernel) (by decide) rfl (Nat.le_of_ble_eq_true rfl) ⟨Or.inr rfl, Or.inr rfl, trivial⟩ (okX2_has_b0 A x0 x1 r A1 h)
/-! X2_cell -/
def fX2_cell_b0 (A : k_H) (v0 v1 v2 : Int) : Option (Int × k_H) := some (k_wr (k_wr (k_wr (k_wr (v0 * 64) + v1) * 6) + v2), A)
def fX2_cell (A : k_H) (x0 x1 x2 : Int) : Option (Int × k_H) := fX2_cell_b0 A x0 x1 x2
set_option maxRecDepth 100000 in
theorem okX2_cell_b0 (A : k_H) (v0 v1 v2 : Int) (r : Int) (A' : k_H) (h : fX2_cell_b0 A v0 v1 v2 = some (r, A')) : k_AW 1 mX2_cell 0 [(0, v0), (0, v1), (0, v2)] [] A r A' := by
  unfold fX2_cell_b0 at h
  refine k_iload_n (pc := 0) (x := v0) dX2_cell_0 rfl rfl ?_
  refine k_bipush (pc := 1) dX2_cell_1 ⟨by decide, by decide⟩ (by decide +kernel) ?_
  refine k_imul (pc := 3) dX2_cell_3 ?_
  refine k_iload_n (pc := 4) (x := v1) dX2_cell_4 rfl rfl ?_
  refine k_iadd (pc := 5) dX2_cell_5 ?_
  refine k_bipush (pc := 6) dX2_cell_6 ⟨by decide, by decide⟩ (by decide +kernel) ?_
  refine k_imul (pc := 8) dX2_cell_8 ?_
  refine k_iload_n (pc := 9) (x := v2) dX2_cell_9 rfl rfl ?_
  refine k_iadd (pc := 10) dX2_cell_10 ?_
  obtain ⟨rfl, rfl⟩ := k_pr h
  exact k_ret (pc := 11) dX2_cell_11 rfl rfl rfl
theorem okX2_cell {A : k_H} {x0 x1 x2 : Int} {r : Int} {A1 : k_H} (h : fX2_cell A x0 x1 x2 = some (r, A1)) : k_AM 1 mX2_cell [(0, x0), (0, x1), (0, x2)] A r A1 :=
  k_AM_of2 (ls := [(0, x0), (0, x1), (0, x2)]) (Or.inl (by decide +kernel)) (by decide +kernel) (by decide) rfl (Nat.le_of_ble_eq_true rfl) ⟨Or.inr rfl, Or.inr rfl, Or.inr rfl, trivial⟩ (okX2_cell_b0 A x0 x1 x2 r A1 h)
/-! X2_pack -/
def fX2_pack_b0 (A : k_H) (v0 v1 : Int) : Option (Int × k_H) := some ((k_lshl v0 (k_wr (6 * v1))), A)
def fX2_pack (A : k_H) (x0 x1 : Int) : Option (Int × k_H) := fX2_pack_b0 A x0 x1
set_option maxRecDepth 100000 in
theorem okX2_pack_b0 (A : k_H) (v0 v1 : Int) (r : Int) (A' : k_H) (h : fX2_pack_b0 A v0 v1 = some (r, A')) : k_AW 1 mX2_pack 0 [(0, v0), (0, v1)] [] A r A' := by
  unfold fX2_pack_b0 at h
  refine k_iload_n (pc := 0) (x := v0) dX2_pack_0 rfl rfl ?_
  refine k_i2l (pc := 1) dX2_pack_1 ?_
  refine k_bipush (pc := 2) dX2_pack_2 ⟨by decide, by decide⟩ (by decide +kernel) ?_
  refine k_iload_n (pc := 4) (x := v1) dX2_pack_4 rfl rfl ?_
  refine k_imul (pc := 5) dX2_pack_5 ?_
  refine k_lshl_ (pc := 6) dX2_pack_6 ?_
  obtain ⟨rfl, rfl⟩ := k_pr h
  exact k_retl (pc := 7) dX2_pack_7 rfl (by decide +kernel)
theorem okX2_pack {A : k_H} {x0 x1 : Int} {r : Int} {A1 : k_H} (h : fX2_pack A x0 x1 = some (r, A1)) : k_AM 1 mX2_pack [(0, x0), (0, x1)] A r A1 :=
  k_AM_of2 (ls := [(0, x0), (0, x1)]) (Or.inl (by decide +kernel)) (by decide +kernel) (by decide) rfl (Nat.le_of_ble_eq_true rfl) ⟨Or.inr rfl, Or.inr rfl, trivial⟩ (okX2_pack_b0 A x0 x1 r A1 h)
/-! X2_unpack -/
def fX2_unpack_b0 (A : k_H) (v0 v2 : Int) : Option (Int × k_H) := some ((k_and (k_l2i (k_lushr v0 (k_wr (6 * v2)))) 63), A)
def fX2_unpack (A : k_H) (x0 x1 : Int) : Option (Int × k_H) := fX2_unpack_b0 A x0 x1
set_option maxRecDepth 100000 in
theorem okX2_unpack_b0 (A : k_H) (v0 v2 : Int) (r : Int) (A' : k_H) (h : fX2_unpack_b0 A v0 v2 = some (r, A')) : k_AW 1 mX2_unpack 0 [(2, v0), (3, 0), (0, v2)] [] A r A' := by
  unfold fX2_unpack_b0 at h
  refine k_lload_n (pc := 0) (x := v0) dX2_unpack_0 rfl rfl ?_
  refine k_bipush (pc := 1) dX2_unpack_1 ⟨by decide, by decide⟩ (by decide +kernel) ?_
  refine k_iload_n (pc := 3) (x := v2) dX2_unpack_3 rfl rfl ?_
  refine k_imul (pc := 4) dX2_unpack_4 ?_
  refine k_lushr_ (pc := 5) dX2_unpack_5 ?_
  refine k_l2i_ (pc := 6) dX2_unpack_6 ?_
  refine k_bipush (pc := 7) dX2_unpack_7 ⟨by decide, by decide⟩ (by decide +kernel) ?_
  refine k_iand (pc := 9) dX2_unpack_9 ?_
  obtain ⟨rfl, rfl⟩ := k_pr h
  exact k_ret (pc := 10) dX2_unpack_10 rfl rfl rfl
theorem okX2_unpack {A : k_H} {x0 x1 : Int} {r : Int} {A1 : k_H} (h : fX2_unpack A x0 x1 = some (r, A1)) : k_AM 1 mX2_unpack [(2, x0), (0, x1)] A r A1 :=
  k_AM_of2 (ls := [(2, x0), (3, 0), (0, x1)]) (Or.inl (by decide +kernel)) (by decide +kernel) (by decide) rfl (Nat.le_of_ble_eq_true rfl) ⟨Or.inr rfl, Or.inl rfl, Or.inr rfl, trivial⟩ (okX2_unpack_b0 A x0 x1 r A1 h)
/-! X2_ask -/
def fX2_ask_h41 : Nat → k_H → Int → Int → Int → Int → Option (Int × k_H)
  | 0, _, _, _, _, _ => none
  | N + 1, A, v0, v1, v2, v4 => if k_isO A v0 2 then (if v4 < (k_rd A v0 5) then (if k_isA A (k_rd A v0 0) 21 v4 then (if k_isA A v2 23 (k_rd A (k_rd A v0 0) v4) then (if k_isA A v2 23 v1 then (if k_isO A (k_rd A v2 (k_rd A (k_rd A v0 0) v4)) 1 then (k_bd (fX1_milesTo A (k_rd A v2 (k_rd A (k_rd A v0 0) v4)) (k_rd A v2 v1)) fun r8 A9 => if k_isO A9 v0 2 then (if (k_rd A9 v0 8) ≠ 0 then (if k_isA A9 (k_rd A9 v0 2) 21 (k_wr (k_wr (v4 * 6) + (k_rd A9 v0 5))) then (k_lt (k_wt A9 (k_rd A9 v0 2) (k_wr (k_wr (v4 * 6) + (k_rd A9 v0 5))) (k_wr (Int.tdiv (k_wr (k_wr (r8 + (k_rd A9 v0 8)) - 1)) (k_rd A9 v0 8)))) fun A15 => if k_isA A15 (k_rd A15 v0 2) 21 (k_wr (k_wr ((k_rd A15 v0 5) * 6) + v4)) then (k_lt (k_wt A15 (k_rd A15 v0 2) (k_wr (k_wr ((k_rd A15 v0 5) * 6) + v4)) (k_wr (Int.tdiv (k_wr (k_wr (r8 + (k_rd A9 v0 8)) - 1)) (k_rd A9 v0 8)))) fun A19 => (fX2_ask_h41 N) A19 v0 v1 v2 (k_wr (v4 + 1))) else none) else none) else none) else none) else none) else none) else none) else none) else (k_lt (k_wt A v0 5 (k_wr ((k_rd A v0 5) + 1))) fun A3 => some (0, A3))) else none
def fX2_ask_b0 (A : k_H) (v0 v1 v2 v3 : Int) : Option (Int × k_H) := if k_isO A v0 2 then (k_bd (fX2_asksMore A v0) fun r1 A2 => if r1 = 0 then (some (0, A2)) else (if k_isO A2 v0 2 then (if k_isA A2 (k_rd A2 v0 0) 21 (k_rd A2 v0 5) then (k_lt (k_wt A2 (k_rd A2 v0 0) (k_rd A2 v0 5) v1) fun A8 => if k_isA A8 (k_rd A8 v0 1) 21 (k_rd A8 v0 5) then (k_lt (k_wt A8 (k_rd A8 v0 1) (k_rd A8 v0 5) v3) fun A12 => if k_isA A12 (k_rd A12 v0 3) 21 (k_rd A12 v0 5) then (k_lt (k_wt A12 (k_rd A12 v0 3) (k_rd A12 v0 5) 0) fun A16 => fX2_ask_h41 k_FU A16 v0 v1 v2 0) else none) else none) else none) else none)) else none
def fX2_ask (A : k_H) (x0 x1 x2 x3 : Int) : Option (Int × k_H) := fX2_ask_b0 A x0 x1 x2 x3
set_option maxRecDepth 100000 in
theorem okX2_ask_h41 : ∀ (N : Nat) (A : k_H) (v0 v1 v2 v4 : Int) (r : Int) (A' : k_H), fX2_ask_h41 N A v0 v1 v2 v4 = some (r, A') → k_AW 3 mX2_ask 41 [(1, v0), (0, v1), (1, v2), (3, 0), (0, v4), (3, 0)] [] A r A' := by
  intro N
  induction N with
  | zero => intro A v0 v1 v2 v4 r A' h; exact absurd h (by simp [fX2_ask_h41])
  | succ N ih =>
    intro A v0 v1 v2 v4 r A' h
    rw [fX2_ask_h41] at h
    refine k_iload (pc := 41) (x := v4) dX2_ask_41 rfl ?_
    refine k_aload_n (pc := 43) (x := v0) dX2_ask_43 rfl rfl ?_
    obtain ⟨hc1, h⟩ := k_pk h
    refine k_getf (pc := 44) (t := 0) (fi := 5) dX2_ask_44 flX2_28 rfl rfl hc1 ?_
    refine k_icmp_ge (pc := 47) (tgt := 119) dX2_ask_47 rfl (fun c2 => ?_) (fun c2 => ?_)
    · rw [if_neg (Int.not_lt.mpr c2)] at h
      refine k_aload_n (pc := 119) (x := v0) dX2_ask_119 rfl rfl ?_
      refine k_dup (pc := 120) dX2_ask_120 (Nat.le_of_ble_eq_true rfl) ?_
      refine k_getf (pc := 121) (t := 0) (fi := 5) dX2_ask_121 flX2_28 rfl rfl hc1 ?_
      refine k_iconst (pc := 124) dX2_ask_124 ⟨by decide, by decide⟩ ?_
      refine k_iadd (pc := 125) dX2_ask_125 ?_
      refine k_putf (pc := 126) (t := 0) (fi := 5) dX2_ask_126 flX2_28 rfl rfl hc1 rfl ?_
      obtain ⟨A3, eA4, h⟩ := k_pl h
      refine k_hq eA4 ?_
      obtain ⟨rfl, rfl⟩ := k_pr h
      exact k_retv (pc := 129) dX2_ask_129 rfl
    · rw [if_pos (Int.not_le.mp c2)] at h
      refine k_aload_n (pc := 50) (x := v2) dX2_ask_50 rfl rfl ?_
      refine k_aload_n (pc := 51) (x := v0) dX2_ask_51 rfl rfl ?_
      refine k_getf (pc := 52) (t := 1) (fi := 0) dX2_ask_52 flX2_11 rfl rfl hc1 ?_
      refine k_iload (pc := 55) (x := v4) dX2_ask_55 rfl ?_
      obtain ⟨hc5, h⟩ := k_pk h
      refine k_iaload (pc := 57) dX2_ask_57 hc5 ?_
      obtain ⟨hc6, h⟩ := k_pk h
      refine k_aaload (pc := 58) (K := 23) dX2_ask_58 (by decide) hc6 ?_
      refine k_aload_n (pc := 59) (x := v2) dX2_ask_59 rfl rfl ?_
      refine k_iload_n (pc := 60) (x := v1) dX2_ask_60 rfl rfl ?_
      obtain ⟨hc7, h⟩ := k_pk h
      refine k_aaload (pc := 61) (K := 23) dX2_ask_61 (by decide) hc7 ?_
      obtain ⟨hc11, h⟩ := k_pk h
      obtain ⟨r8, A9, hq10, h⟩ := k_pb h
      refine k_callV (pc := 62) (ci := 1) (a := (k_rd A v2 (k_rd A (k_rd A v0 0) v4))) (as := [(1, (k_rd A v2 v1))]) (st := []) (st1 := [(0, r8)]) dX2_ask_62 cbX1_milesTo (k_gt 495 (by decide +kernel) (by decide +kernel)) cvX1_milesTo.1 cvX1_milesTo.2 rfl (by decide) hc11 (by omega) rfl (Nat.le_of_ble_eq_true rfl) (okX1_milesTo hq10) rfl ?_
      refine k_aload_n (pc := 65) (x := v0) dX2_ask_65 rfl rfl ?_
      obtain ⟨hc12, h⟩ := k_pk h
      refine k_getf (pc := 66) (t := 0) (fi := 8) dX2_ask_66 flX2_51 rfl rfl hc12 ?_
      refine k_iadd (pc := 69) dX2_ask_69 ?_
      refine k_iconst (pc := 70) dX2_ask_70 ⟨by decide, by decide⟩ ?_
      refine k_isub (pc := 71) dX2_ask_71 ?_
      refine k_aload_n (pc := 72) (x := v0) dX2_ask_72 rfl rfl ?_
      refine k_getf (pc := 73) (t := 0) (fi := 8) dX2_ask_73 flX2_51 rfl rfl hc12 ?_
      obtain ⟨hc13, h⟩ := k_pk h
      refine k_idiv (pc := 76) dX2_ask_76 hc13 ?_
      refine k_istore (pc := 77) dX2_ask_77 (Nat.le_of_ble_eq_true rfl) rfl ?_
      show k_AW _ _ _ [(1, v0), (0, v1), (1, v2), (3, 0), (0, v4), (0, k_wr (Int.tdiv (k_wr (k_wr (r8 + (k_rd A9 v0 8)) - 1)) (k_rd A9 v0 8)))] _ _ _ _
      refine k_aload_n (pc := 79) (x := v0) dX2_ask_79 rfl rfl ?_
      refine k_getf (pc := 80) (t := 1) (fi := 2) dX2_ask_80 flX2_18 rfl rfl hc12 ?_
      refine k_iload (pc := 83) (x := v4) dX2_ask_83 rfl ?_
      refine k_bipush (pc := 85) dX2_ask_85 ⟨by decide, by decide⟩ (by decide +kernel) ?_
      refine k_imul (pc := 87) dX2_ask_87 ?_
      refine k_aload_n (pc := 88) (x := v0) dX2_ask_88 rfl rfl ?_
      refine k_getf (pc := 89) (t := 0) (fi := 5) dX2_ask_89 flX2_28 rfl rfl hc12 ?_
      refine k_iadd (pc := 92) dX2_ask_92 ?_
      refine k_iload (pc := 93) (x := k_wr (Int.tdiv (k_wr (k_wr (r8 + (k_rd A9 v0 8)) - 1)) (k_rd A9 v0 8))) dX2_ask_93 rfl ?_
      obtain ⟨hc14, h⟩ := k_pk h
      refine k_iastore (pc := 95) dX2_ask_95 hc14 ?_
      obtain ⟨A15, eA16, h⟩ := k_pl h
      refine k_hq eA16 ?_
      refine k_aload_n (pc := 96) (x := v0) dX2_ask_96 rfl rfl ?_
      have hf17 := k_oW eA16 hc12
      refine k_getf (pc := 97) (t := 1) (fi := 2) dX2_ask_97 flX2_18 rfl rfl hf17 ?_
      refine k_aload_n (pc := 100) (x := v0) dX2_ask_100 rfl rfl ?_
      refine k_getf (pc := 101) (t := 0) (fi := 5) dX2_ask_101 flX2_28 rfl rfl hf17 ?_
      refine k_bipush (pc := 104) dX2_ask_104 ⟨by decide, by decide⟩ (by decide +kernel) ?_
      refine k_imul (pc := 106) dX2_ask_106 ?_
      refine k_iload (pc := 107) (x := v4) dX2_ask_107 rfl ?_
      refine k_iadd (pc := 109) dX2_ask_109 ?_
      refine k_iload (pc := 110) (x := k_wr (Int.tdiv (k_wr (k_wr (r8 + (k_rd A9 v0 8)) - 1)) (k_rd A9 v0 8))) dX2_ask_110 rfl ?_
      obtain ⟨hc18, h⟩ := k_pk h
      refine k_iastore (pc := 112) dX2_ask_112 hc18 ?_
      obtain ⟨A19, eA20, h⟩ := k_pl h
      refine k_hq eA20 ?_
      refine k_iinc (pc := 113) (x := v4) dX2_ask_113 (Nat.le_of_ble_eq_true rfl) rfl rfl ?_
      show k_AW _ _ _ [(1, v0), (0, v1), (1, v2), (3, 0), (0, k_wr (v4 + 1)), (0, k_wr (Int.tdiv (k_wr (k_wr (r8 + (k_rd A9 v0 8)) - 1)) (k_rd A9 v0 8)))] _ _ _ _
      refine k_goto (pc := 116) (tgt := 41) dX2_ask_116 rfl ?_
      refine k_sub (ls' := [(1, v0), (0, v1), (1, v2), (3, 0), (0, k_wr (v4 + 1)), (3, 0)]) (k_sbl_ok _ _ ⟨Or.inr rfl, Or.inr rfl, Or.inr rfl, Or.inl rfl, Or.inr rfl, Or.inl rfl, trivial⟩) ?_
      exact ih _ _ _ _ _ _ _ h
set_option maxRecDepth 100000 in
theorem okX2_ask_b0 (A : k_H) (v0 v1 v2 v3 : Int) (r : Int) (A' : k_H) (h : fX2_ask_b0 A v0 v1 v2 v3 = some (r, A')) : k_AW 3 mX2_ask 0 [(1, v0), (0, v1), (1, v2), (0, v3), (3, 0), (3, 0)] [] A r A' := by
  unfold fX2_ask_b0 at h
  refine k_aload_n (pc := 0) (x := v0) dX2_ask_0 rfl rfl ?_
  obtain ⟨hc4, h⟩ := k_pk h
  obtain ⟨r1, A2, hq3, h⟩ := k_pb h
  refine k_callV (pc := 1) (ci := 2) (a := v0) (as := []) (st := []) (st1 := [(0, r1)]) dX2_ask_1 cbX2_asksMore (k_gt 494 (by decide +kernel) (by decide +kernel)) cvX2_asksMore.1 cvX2_asksMore.2 rfl (by decide) hc4 (by omega) rfl (Nat.le_of_ble_eq_true rfl) (okX2_asksMore hq3) rfl ?_
  refine k_if_ne (pc := 4) (tgt := 8) dX2_ask_4 rfl (fun c5 => ?_) (fun c5 => ?_)
  · rw [if_neg c5] at h
    refine k_aload_n (pc := 8) (x := v0) dX2_ask_8 rfl rfl ?_
    obtain ⟨hc6, h⟩ := k_pk h
    refine k_getf (pc := 9) (t := 1) (fi := 0) dX2_ask_9 flX2_11 rfl rfl hc6 ?_
    refine k_aload_n (pc := 12) (x := v0) dX2_ask_12 rfl rfl ?_
    refine k_getf (pc := 13) (t := 0) (fi := 5) dX2_ask_13 flX2_28 rfl rfl hc6 ?_
    refine k_iload_n (pc := 16) (x := v1) dX2_ask_16 rfl rfl ?_
    obtain ⟨hc7, h⟩ := k_pk h
    refine k_iastore (pc := 17) dX2_ask_17 hc7 ?_
    obtain ⟨A8, eA9, h⟩ := k_pl h
    refine k_hq eA9 ?_
    refine k_aload_n (pc := 18) (x := v0) dX2_ask_18 rfl rfl ?_
    have hf10 := k_oW eA9 hc6
    refine k_getf (pc := 19) (t := 1) (fi := 1) dX2_ask_19 flX2_15 rfl rfl hf10 ?_
    refine k_aload_n (pc := 22) (x := v0) dX2_ask_22 rfl rfl ?_
    refine k_getf (pc := 23) (t := 0) (fi := 5) dX2_ask_23 flX2_28 rfl rfl hf10 ?_
    refine k_iload_n (pc := 26) (x := v3) dX2_ask_26 rfl rfl ?_
    obtain ⟨hc11, h⟩ := k_pk h
    refine k_iastore (pc := 27) dX2_ask_27 hc11 ?_
    obtain ⟨A12, eA13, h⟩ := k_pl h
    refine k_hq eA13 ?_
    refine k_aload_n (pc := 28) (x := v0) dX2_ask_28 rfl rfl ?_
    have hf14 := k_oW eA13 hf10
    refine k_getf (pc := 29) (t := 1) (fi := 3) dX2_ask_29 flX2_21 rfl rfl hf14 ?_
    refine k_aload_n (pc := 32) (x := v0) dX2_ask_32 rfl rfl ?_
    refine k_getf (pc := 33) (t := 0) (fi := 5) dX2_ask_33 flX2_28 rfl rfl hf14 ?_
    refine k_iconst (pc := 36) dX2_ask_36 ⟨by decide, by decide⟩ ?_
    obtain ⟨hc15, h⟩ := k_pk h
    refine k_iastore (pc := 37) dX2_ask_37 hc15 ?_
    obtain ⟨A16, eA17, h⟩ := k_pl h
    refine k_hq eA17 ?_
    refine k_iconst (pc := 38) dX2_ask_38 ⟨by decide, by decide⟩ ?_
    refine k_istore (pc := 39) dX2_ask_39 (Nat.le_of_ble_eq_true rfl) rfl ?_
    show k_AW _ _ _ [(1, v0), (0, v1), (1, v2), (0, v3), (0, 0), (3, 0)] _ _ _ _
    refine k_sub (ls' := [(1, v0), (0, v1), (1, v2), (3, 0), (0, 0), (3, 0)]) (k_sbl_ok _ _ ⟨Or.inr rfl, Or.inr rfl, Or.inr rfl, Or.inl rfl, Or.inr rfl, Or.inl rfl, trivial⟩) ?_
    exact okX2_ask_h41  _ _ _ _ _ _ _ _ h
  · rw [if_pos (Classical.not_not.mp c5)] at h
    obtain ⟨rfl, rfl⟩ := k_pr h
    exact k_retv (pc := 7) dX2_ask_7 rfl
theorem okX2_ask {A : k_H} {x0 x1 x2 x3 : Int} {r : Int} {A1 : k_H} (h : fX2_ask A x0 x1 x2 x3 = some (r, A1)) : k_AM 3 mX2_ask [(1, x0), (0, x1), (1, x2), (0, x3)] A r A1 :=
  k_AM_of2 (ls := [(1, x0), (0, x1), (1, x2), (0, x3), (3, 0), (3, 0)]) (Or.inl (by decide +kernel)) (by decide +kernel) (by decide) rfl (Nat.le_of_ble_eq_true rfl) ⟨Or.inr rfl, Or.inr rfl, Or.inr rfl, Or.inr rfl, rfl, rfl, trivial⟩ (okX2_ask_b0 A x0 x1 x2 x3 r A1 h)
/-! X2_gain -/
def fX2_gain_b0 (A : k_H) (v0 v1 v2 v3 v4 : Int) : Option (Int × k_H) := if k_isO A v0 2 then (k_bd (fX2_cell A v1 v2 v3) fun r2 A3 => if k_isA A3 (k_rd A v0 4) 22 r2 then (k_bd (fX2_unpack A3 (k_rd A3 (k_rd A v0 4) r2) v4) fun r6 A7 => some (r6, A7)) else none) else none
def fX2_gain (A : k_H) (x0 x1 x2 x3 x4 : Int) : Option (Int × k_H) := fX2_gain_b0 A x0 x1 x2 x3 x4
set_option maxRecDepth 100000 in
theorem okX2_gain_b0 (A : k_H) (v0 v1 v2 v3 v4 : Int) (r : Int) (A' : k_H) (h : fX2_gain_b0 A v0 v1 v2 v3 v4 = some (r, A')) : k_AW 2 mX2_gain 0 [(1, v0), (0, v1), (0, v2), (0, v3), (0, v4)] [] A r A' := by
  unfold fX2_gain_b0 at h
  refine k_aload_n (pc := 0) (x := v0) dX2_gain_0 rfl rfl ?_
  obtain ⟨hc1, h⟩ := k_pk h
  refine k_getf (pc := 1) (t := 1) (fi := 4) dX2_gain_1 flX2_24 rfl rfl hc1 ?_
  refine k_iload_n (pc := 4) (x := v1) dX2_gain_4 rfl rfl ?_
  refine k_iload_n (pc := 5) (x := v2) dX2_gain_5 rfl rfl ?_
  refine k_iload_n (pc := 6) (x := v3) dX2_gain_6 rfl rfl ?_
  obtain ⟨r2, A3, hq4, h⟩ := k_pb h
  refine k_callS (pc := 7) (as := [(0, v1), (0, v2), (0, v3)]) (st := [(1, (k_rd A v0 4))]) (st1 := [(0, r2), (1, (k_rd A v0 4))]) dX2_gain_7 cbX2_cell (k_gt 533 (by decide +kernel) (by decide +kernel)) (k_gt 534 (by decide +kernel) (by decide +kernel)) (by omega) rfl (Nat.le_of_ble_eq_true rfl) (okX2_cell hq4) rfl ?_
  obtain ⟨hc5, h⟩ := k_pk h
  refine k_laload (pc := 10) dX2_gain_10 hc5 ?_
  refine k_iload (pc := 11) (x := v4) dX2_gain_11 rfl ?_
  obtain ⟨r6, A7, hq8, h⟩ := k_pb h
  refine k_callS (pc := 13) (as := [(2, (k_rd A3 (k_rd A v0 4) r2)), (0, v4)]) (st := []) (st1 := [(0, r6)]) dX2_gain_13 cbX2_unpack (k_gt 536 (by decide +kernel) (by decide +kernel)) (k_gt 537 (by decide +kernel) (by decide +kernel)) (by omega) rfl (Nat.le_of_ble_eq_true rfl) (okX2_unpack hq8) rfl ?_
  obtain ⟨rfl, rfl⟩ := k_pr h
  exact k_ret (pc := 16) dX2_gain_16 rfl rfl rfl
theorem okX2_gain {A : k_H} {x0 x1 x2 x3 x4 : Int} {r : Int} {A1 : k_H} (h : fX2_gain A x0 x1 x2 x3 x4 = some (r, A1)) : k_AM 2 mX2_gain [(1, x0), (0, x1), (0, x2), (0, x3), (0, x4)] A r A1 :=
  k_AM_of2 (ls := [(1, x0), (0, x1), (0, x2), (0, x3), (0, x4)]) (Or.inl (by decide +kernel)) (by decide +kernel) (by decide) rfl (Nat.le_of_ble_eq_true rfl) ⟨Or.inr rfl, Or.inr rfl, Or.inr rfl, Or.inr rfl, Or.inr rfl, trivial⟩ (okX2_gain_b0 A x0 x1 x2 x3 x4 r A1 h)
/-! X2_gainRested -/
def fX2_gainRested_b75 (k6 : k_H → Int → Int → Int → Int → Int → Int → Option (Int × k_H)) (A : k_H) (v0 v1 v2 v3 v4 v5 : Int) : Option (Int × k_H) := k6 A v0 v1 v2 v3 v4 (k_wr (v5 + 1))
def fX2_gainRested_h6 : Nat → k_H → Int → Int → Int → Int → Int → Int → Option (Int × k_H)
  | 0, _, _, _, _, _, _, _ => none
  | N + 1, A, v0, v1, v2, v3, v4, v5 => if k_isO A v0 2 then (if v5 < (k_rd A v0 5) then (if k_isA A (k_rd A v0 2) 21 (k_wr (k_wr (v3 * 6) + v5)) then (k_bd (fX2_has A v2 v5) fun r4 A5 => if r4 = 0 then (if k_isO A5 v0 2 then (if k_wr (v1 + (max 2 (k_rd A (k_rd A v0 2) (k_wr (k_wr (v3 * 6) + v5))))) ≤ (k_rd A5 v0 7) then (k_bd (fX2_gain A5 v0 (k_wr (v1 + (max 2 (k_rd A (k_rd A v0 2) (k_wr (k_wr (v3 * 6) + v5)))))) (k_or v2 (k_shl 1 v5)) v5 0) fun r10 A11 => fX2_gainRested_b75 (fX2_gainRested_h6 N) A11 v0 v1 v2 v3 (max v4 r10) v5) else (fX2_gainRested_b75 (fX2_gainRested_h6 N) A5 v0 v1 v2 v3 v4 v5)) else none) else (fX2_gainRested_b75 (fX2_gainRested_h6 N) A5 v0 v1 v2 v3 v4 v5)) else none) else (some (v4, A))) else none
def fX2_gainRested_b0 (A : k_H) (v0 v1 v2 v3 : Int) : Option (Int × k_H) := fX2_gainRested_h6 k_FU A v0 v1 v2 v3 0 0
def fX2_gainRested (A : k_H) (x0 x1 x2 x3 : Int) : Option (Int × k_H) := fX2_gainRested_b0 A x0 x1 x2 x3
set_option maxRecDepth 100000 in
theorem okX2_gainRested_b75 (k6 : k_H → Int → Int → Int → Int → Int → Int → Option (Int × k_H)) (hk6 : ∀ (A : k_H) (v0 v1 v2 v3 v4 v5 : Int) (r : Int) (A' : k_H), k6 A v0 v1 v2 v3 v4 v5 = some (r, A') → k_AW 3 mX2_gainRested 6 [(1, v0), (0, v1), (0, v2), (0, v3), (0, v4), (0, v5), (3, 0)] [] A r A') (A : k_H) (v0 v1 v2 v3 v4 v5 : Int) (r : Int) (A' : k_H) (h : fX2_gainRested_b75 k6 A v0 v1 v2 v3 v4 v5 = some (r, A')) : k_AW 3 mX2_gainRested 75 [(1, v0), (0, v1), (0, v2), (0, v3), (0, v4), (0, v5), (3, 0)] [] A r A' := by
  unfold fX2_gainRested_b75 at h
  refine k_iinc (pc := 75) (x := v5) dX2_gainRested_75 (Nat.le_of_ble_eq_true rfl) rfl rfl ?_
  show k_AW _ _ _ [(1, v0), (0, v1), (0, v2), (0, v3), (0, v4), (0, k_wr (v5 + 1)), (3, 0)] _ _ _ _
  refine k_goto (pc := 78) (tgt := 6) dX2_gainRested_78 rfl ?_
  refine k_sub (ls' := [(1, v0), (0, v1), (0, v2), (0, v3), (0, v4), (0, k_wr (v5 + 1)), (3, 0)]) (k_sbl_ok _ _ ⟨Or.inr rfl, Or.inr rfl, Or.inr rfl, Or.inr rfl, Or.inr rfl, Or.inr rfl, Or.inl rfl, trivial⟩) ?_
  exact hk6 _ _ _ _ _ _ _ _ _ h
set_option maxRecDepth 100000 in
theorem okX2_gainRested_h6 : ∀ (N : Nat) (A : k_H) (v0 v1 v2 v3 v4 v5 : Int) (r : Int) (A' : k_H), fX2_gainRested_h6 N A v0 v1 v2 v3 v4 v5 = some (r, A') → k_AW 3 mX2_gainRested 6 [(1, v0), (0, v1), (0, v2), (0, v3), (0, v4), (0, v5), (3, 0)] [] A r A' := by
  intro N
  induction N with
  | zero => intro A v0 v1 v2 v3 v4 v5 r A' h; exact absurd h (by simp [fX2_gainRested_h6])
  | succ N ih =>
    intro A v0 v1 v2 v3 v4 v5 r A' h
    rw [fX2_gainRested_h6] at h
    refine k_iload (pc := 6) (x := v5) dX2_gainRested_6 rfl ?_
    refine k_aload_n (pc := 8) (x := v0) dX2_gainRested_8 rfl rfl ?_
    obtain ⟨hc1, h⟩ := k_pk h
    refine k_getf (pc := 9) (t := 0) (fi := 5) dX2_gainRested_9 flX2_28 rfl rfl hc1 ?_
    refine k_icmp_ge (pc := 12) (tgt := 81) dX2_gainRested_12 rfl (fun c2 => ?_) (fun c2 => ?_)
    · rw [if_neg (Int.not_lt.mpr c2)] at h
      refine k_iload (pc := 81) (x := v4) dX2_gainRested_81 rfl ?_
      obtain ⟨rfl, rfl⟩ := k_pr h
      exact k_ret (pc := 83) dX2_gainRested_83 rfl rfl rfl
    · rw [if_pos (Int.not_le.mp c2)] at h
      refine k_iload_n (pc := 15) (x := v1) dX2_gainRested_15 rfl rfl ?_
      refine k_iconst (pc := 16) dX2_gainRested_16 ⟨by decide, by decide⟩ ?_
      refine k_aload_n (pc := 17) (x := v0) dX2_gainRested_17 rfl rfl ?_
      refine k_getf (pc := 18) (t := 1) (fi := 2) dX2_gainRested_18 flX2_18 rfl rfl hc1 ?_
      refine k_iload_n (pc := 21) (x := v3) dX2_gainRested_21 rfl rfl ?_
      refine k_bipush (pc := 22) dX2_gainRested_22 ⟨by decide, by decide⟩ (by decide +kernel) ?_
      refine k_imul (pc := 24) dX2_gainRested_24 ?_
      refine k_iload (pc := 25) (x := v5) dX2_gainRested_25 rfl ?_
      refine k_iadd (pc := 27) dX2_gainRested_27 ?_
      obtain ⟨hc3, h⟩ := k_pk h
      refine k_iaload (pc := 28) dX2_gainRested_28 hc3 ?_
      refine k_mmax (pc := 29) dX2_gainRested_29 (k_gt 485 (by decide +kernel) (by decide +kernel)) (by omega) (Nat.le_of_ble_eq_true rfl) ?_
      refine k_iadd (pc := 32) dX2_gainRested_32 ?_
      refine k_istore (pc := 33) dX2_gainRested_33 (Nat.le_of_ble_eq_true rfl) rfl ?_
      show k_AW _ _ _ [(1, v0), (0, v1), (0, v2), (0, v3), (0, v4), (0, v5), (0, k_wr (v1 + (max 2 (k_rd A (k_rd A v0 2) (k_wr (k_wr (v3 * 6) + v5))))))] _ _ _ _
      refine k_iload_n (pc := 35) (x := v2) dX2_gainRested_35 rfl rfl ?_
      refine k_iload (pc := 36) (x := v5) dX2_gainRested_36 rfl ?_
      obtain ⟨r4, A5, hq6, h⟩ := k_pb h
      refine k_callS (pc := 38) (as := [(0, v2), (0, v5)]) (st := []) (st1 := [(0, r4)]) dX2_gainRested_38 cbX2_has (k_gt 518 (by decide +kernel) (by decide +kernel)) (k_gt 519 (by decide +kernel) (by decide +kernel)) (by omega) rfl (Nat.le_of_ble_eq_true rfl) (okX2_has hq6) rfl ?_
      refine k_if_ne (pc := 41) (tgt := 75) dX2_gainRested_41 rfl (fun c7 => ?_) (fun c7 => ?_)
      · rw [if_neg c7] at h
        refine k_sub (ls' := [(1, v0), (0, v1), (0, v2), (0, v3), (0, v4), (0, v5), (3, 0)]) (k_sbl_ok _ _ ⟨Or.inr rfl, Or.inr rfl, Or.inr rfl, Or.inr rfl, Or.inr rfl, Or.inr rfl, Or.inl rfl, trivial⟩) ?_
        exact okX2_gainRested_b75 (fX2_gainRested_h6 N) ih _ _ _ _ _ _ _ _ _ h
      · rw [if_pos (Classical.not_not.mp c7)] at h
        refine k_iload (pc := 44) (x := k_wr (v1 + (max 2 (k_rd A (k_rd A v0 2) (k_wr (k_wr (v3 * 6) + v5)))))) dX2_gainRested_44 rfl ?_
        refine k_aload_n (pc := 46) (x := v0) dX2_gainRested_46 rfl rfl ?_
        obtain ⟨hc8, h⟩ := k_pk h
        refine k_getf (pc := 47) (t := 0) (fi := 7) dX2_gainRested_47 flX2_41 rfl rfl hc8 ?_
        refine k_icmp_gt (pc := 50) (tgt := 75) dX2_gainRested_50 rfl (fun c9 => ?_) (fun c9 => ?_)
        · rw [if_neg (Int.not_le.mpr c9)] at h
          refine k_sub (ls' := [(1, v0), (0, v1), (0, v2), (0, v3), (0, v4), (0, v5), (3, 0)]) (k_sbl_ok _ _ ⟨Or.inr rfl, Or.inr rfl, Or.inr rfl, Or.inr rfl, Or.inr rfl, Or.inr rfl, Or.inl rfl, trivial⟩) ?_
          exact okX2_gainRested_b75 (fX2_gainRested_h6 N) ih _ _ _ _ _ _ _ _ _ h
        · rw [if_pos (Int.not_lt.mp c9)] at h
          refine k_iload (pc := 53) (x := v4) dX2_gainRested_53 rfl ?_
          refine k_aload_n (pc := 55) (x := v0) dX2_gainRested_55 rfl rfl ?_
          refine k_iload (pc := 56) (x := k_wr (v1 + (max 2 (k_rd A (k_rd A v0 2) (k_wr (k_wr (v3 * 6) + v5)))))) dX2_gainRested_56 rfl ?_
          refine k_iload_n (pc := 58) (x := v2) dX2_gainRested_58 rfl rfl ?_
          refine k_iconst (pc := 59) dX2_gainRested_59 ⟨by decide, by decide⟩ ?_
          refine k_iload (pc := 60) (x := v5) dX2_gainRested_60 rfl ?_
          refine k_ishl (pc := 62) dX2_gainRested_62 ?_
          refine k_ior (pc := 63) dX2_gainRested_63 ?_
          refine k_iload (pc := 64) (x := v5) dX2_gainRested_64 rfl ?_
          refine k_iconst (pc := 66) dX2_gainRested_66 ⟨by decide, by decide⟩ ?_
          obtain ⟨r10, A11, hq12, h⟩ := k_pb h
          refine k_callV (pc := 67) (ci := 2) (a := v0) (as := [(0, k_wr (v1 + (max 2 (k_rd A (k_rd A v0 2) (k_wr (k_wr (v3 * 6) + v5)))))), (0, (k_or v2 (k_shl 1 v5))), (0, v5), (0, 0)]) (st := [(0, v4)]) (st1 := [(0, r10), (0, v4)]) dX2_gainRested_67 cbX2_gain (k_gt 529 (by decide +kernel) (by decide +kernel)) cvX2_gain.1 cvX2_gain.2 rfl (by decide) hc8 (by omega) rfl (Nat.le_of_ble_eq_true rfl) (okX2_gain hq12) rfl ?_
          refine k_mmax (pc := 70) dX2_gainRested_70 (k_gt 485 (by decide +kernel) (by decide +kernel)) (by omega) (Nat.le_of_ble_eq_true rfl) ?_
          refine k_istore (pc := 73) dX2_gainRested_73 (Nat.le_of_ble_eq_true rfl) rfl ?_
          show k_AW _ _ _ [(1, v0), (0, v1), (0, v2), (0, v3), (0, (max v4 r10)), (0, v5), (0, k_wr (v1 + (max 2 (k_rd A (k_rd A v0 2) (k_wr (k_wr (v3 * 6) + v5))))))] _ _ _ _
          refine k_sub (ls' := [(1, v0), (0, v1), (0, v2), (0, v3), (0, (max v4 r10)), (0, v5), (3, 0)]) (k_sbl_ok _ _ ⟨Or.inr rfl, Or.inr rfl, Or.inr rfl, Or.inr rfl, Or.inr rfl, Or.inr rfl, Or.inl rfl, trivial⟩) ?_
          exact okX2_gainRested_b75 (fX2_gainRested_h6 N) ih _ _ _ _ _ _ _ _ _ h
set_option maxRecDepth 100000 in
theorem okX2_gainRested_b0 (A : k_H) (v0 v1 v2 v3 : Int) (r : Int) (A' : k_H) (h : fX2_gainRested_b0 A v0 v1 v2 v3 = some (r, A')) : k_AW 3 mX2_gainRested 0 [(1, v0), (0, v1), (0, v2), (0, v3), (3, 0), (3, 0), (3, 0)] [] A r A' := by
  unfold fX2_gainRested_b0 at h
  refine k_iconst (pc := 0) dX2_gainRested_0 ⟨by decide, by decide⟩ ?_
  refine k_istore (pc := 1) dX2_gainRested_1 (Nat.le_of_ble_eq_true rfl) rfl ?_
  show k_AW _ _ _ [(1, v0), (0, v1), (0, v2), (0, v3), (0, 0), (3, 0), (3, 0)] _ _ _ _
  refine k_iconst (pc := 3) dX2_gainRested_3 ⟨by decide, by decide⟩ ?_
  refine k_istore (pc := 4) dX2_gainRested_4 (Nat.le_of_ble_eq_true rfl) rfl ?_
  show k_AW _ _ _ [(1, v0), (0, v1), (0, v2), (0, v3), (0, 0), (0, 0), (3, 0)] _ _ _ _
  refine k_sub (ls' := [(1, v0), (0, v1), (0, v2), (0, v3), (0, 0), (0, 0), (3, 0)]) (k_sbl_ok _ _ ⟨Or.inr rfl, Or.inr rfl, Or.inr rfl, Or.inr rfl, Or.inr rfl, Or.inr rfl, Or.inl rfl, trivial⟩) ?_
  exact okX2_gainRested_h6  _ _ _ _ _ _ _ _ _ _ h
theorem okX2_gainRested {A : k_H} {x0 x1 x2 x3 : Int} {r : Int} {A1 : k_H} (h : fX2_gainRested A x0 x1 x2 x3 = some (r, A1)) : k_AM 3 mX2_gainRested [(1, x0), (0, x1), (0, x2), (0, x3)] A r A1 :=
  k_AM_of2 (ls := [(1, x0), (0, x1), (0, x2), (0, x3), (3, 0), (3, 0), (3, 0)]) (Or.inl (by decide +kernel)) (by decide +kernel) (by decide) rfl (Nat.le_of_ble_eq_true rfl) ⟨Or.inr rfl, Or.inr rfl, Or.inr rfl, Or.inr rfl, rfl, rfl, rfl, trivial⟩ (okX2_gainRested_b0 A x0 x1 x2 x3 r A1 h)
/-! X2_gainNextNight -/
def fX2_gainNextNight_b74 (k6 : k_H → Int → Int → Int → Int → Int → Int → Int → Option (Int × k_H)) (A : k_H) (v0 v1 v2 v3 v4 v5 v6 : Int) : Option (Int × k_H) := k6 A v0 v1 v2 v3 v4 v5 (k_wr (v6 + 1))
def fX2_gainNextNight_h6 : Nat → k_H → Int → Int → Int → Int → Int → Int → Int → Option (Int × k_H)
  | 0, _, _, _, _, _, _, _, _ => none
  | N + 1, A, v0, v1, v2, v3, v4, v5, v6 => if k_isO A v0 2 then (if v6 < (k_rd A v0 5) then (if v1 < (k_rd A v0 7) then (k_bd (fX2_has A v2 v6) fun r4 A5 => if r4 = 0 then (if k_isO A5 v0 2 then (if k_isA A5 (k_rd A5 v0 2) 21 (k_wr (k_wr (v3 * 6) + v6)) then (if (k_rd A5 (k_rd A5 v0 2) (k_wr (k_wr (v3 * 6) + v6))) ≤ 1 then (k_bd (fX2_gain A5 v0 (k_wr (v1 + 1)) (k_or v2 (k_shl 1 v6)) v6 (k_wr (v4 + 1))) fun r11 A12 => fX2_gainNextNight_b74 (fX2_gainNextNight_h6 N) A12 v0 v1 v2 v3 v4 (max v5 r11) v6) else (fX2_gainNextNight_b74 (fX2_gainNextNight_h6 N) A5 v0 v1 v2 v3 v4 v5 v6)) else none) else none) else (fX2_gainNextNight_b74 (fX2_gainNextNight_h6 N) A5 v0 v1 v2 v3 v4 v5 v6)) else (some (v5, A))) else (some (v5, A))) else none
def fX2_gainNextNight_b0 (A : k_H) (v0 v1 v2 v3 v4 : Int) : Option (Int × k_H) := fX2_gainNextNight_h6 k_FU A v0 v1 v2 v3 v4 0 0
def fX2_gainNextNight (A : k_H) (x0 x1 x2 x3 x4 : Int) : Option (Int × k_H) := fX2_gainNextNight_b0 A x0 x1 x2 x3 x4
set_option maxRecDepth 100000 in
theorem okX2_gainNextNight_b74 (k6 : k_H → Int → Int → Int → Int → Int → Int → Int → Option (Int × k_H)) (hk6 : ∀ (A : k_H) (v0 v1 v2 v3 v4 v5 v6 : Int) (r : Int) (A' : k_H), k6 A v0 v1 v2 v3 v4 v5 v6 = some (r, A') → k_AW 3 mX2_gainNextNight 6 [(1, v0), (0, v1), (0, v2), (0, v3), (0, v4), (0, v5), (0, v6)] [] A r A') (A : k_H) (v0 v1 v2 v3 v4 v5 v6 : Int) (r : Int) (A' : k_H) (h : fX2_gainNextNight_b74 k6 A v0 v1 v2 v3 v4 v5 v6 = some (r, A')) : k_AW 3 mX2_gainNextNight 74 [(1, v0), (0, v1), (0, v2), (0, v3), (0, v4), (0, v5), (0, v6)] [] A r A' := by
  unfold fX2_gainNextNight_b74 at h
  refine k_iinc (pc := 74) (x := v6) dX2_gainNextNight_74 (Nat.le_of_ble_eq_true rfl) rfl rfl ?_
  show k_AW _ _ _ [(1, v0), (0, v1), (0, v2), (0, v3), (0, v4), (0, v5), (0, k_wr (v6 + 1))] _ _ _ _
  refine k_goto (pc := 77) (tgt := 6) dX2_gainNextNight_77 rfl ?_
  refine k_sub (ls' := [(1, v0), (0, v1), (0, v2), (0, v3), (0, v4), (0, v5), (0, k_wr (v6 + 1))]) (k_sbl_ok _ _ ⟨Or.inr rfl, Or.inr rfl, Or.inr rfl, Or.inr rfl, Or.inr rfl, Or.inr rfl, Or.inr rfl, trivial⟩) ?_
  exact hk6 _ _ _ _ _ _ _ _ _ _ h
set_option maxRecDepth 100000 in
theorem okX2_gainNextNight_h6 : ∀ (N : Nat) (A : k_H) (v0 v1 v2 v3 v4 v5 v6 : Int) (r : Int) (A' : k_H), fX2_gainNextNight_h6 N A v0 v1 v2 v3 v4 v5 v6 = some (r, A') → k_AW 3 mX2_gainNextNight 6 [(1, v0), (0, v1), (0, v2), (0, v3), (0, v4), (0, v5), (0, v6)] [] A r A' := by
  intro N
  induction N with
  | zero => intro A v0 v1 v2 v3 v4 v5 v6 r A' h; exact absurd h (by simp [fX2_gainNextNight_h6])
  | succ N ih =>
    intro A v0 v1 v2 v3 v4 v5 v6 r A' h
    rw [fX2_gainNextNight_h6] at h
    refine k_iload (pc := 6) (x := v6) dX2_gainNextNight_6 rfl ?_
    refine k_aload_n (pc := 8) (x := v0) dX2_gainNextNight_8 rfl rfl ?_
    obtain ⟨hc1, h⟩ := k_pk h
    refine k_getf (pc := 9) (t := 0) (fi := 5) dX2_gainNextNight_9 flX2_28 rfl rfl hc1 ?_
    refine k_icmp_ge (pc := 12) (tgt := 80) dX2_gainNextNight_12 rfl (fun c2 => ?_) (fun c2 => ?_)
    · rw [if_neg (Int.not_lt.mpr c2)] at h
      refine k_iload (pc := 80) (x := v5) dX2_gainNextNight_80 rfl ?_
      obtain ⟨rfl, rfl⟩ := k_pr h
      exact k_ret (pc := 82) dX2_gainNextNight_82 rfl rfl rfl
    · rw [if_pos (Int.not_le.mp c2)] at h
      refine k_iload_n (pc := 15) (x := v1) dX2_gainNextNight_15 rfl rfl ?_
      refine k_aload_n (pc := 16) (x := v0) dX2_gainNextNight_16 rfl rfl ?_
      refine k_getf (pc := 17) (t := 0) (fi := 7) dX2_gainNextNight_17 flX2_41 rfl rfl hc1 ?_
      refine k_icmp_ge (pc := 20) (tgt := 80) dX2_gainNextNight_20 rfl (fun c3 => ?_) (fun c3 => ?_)
      · rw [if_neg (Int.not_lt.mpr c3)] at h
        refine k_iload (pc := 80) (x := v5) dX2_gainNextNight_80 rfl ?_
        obtain ⟨rfl, rfl⟩ := k_pr h
        exact k_ret (pc := 82) dX2_gainNextNight_82 rfl rfl rfl
      · rw [if_pos (Int.not_le.mp c3)] at h
        refine k_iload_n (pc := 23) (x := v2) dX2_gainNextNight_23 rfl rfl ?_
        refine k_iload (pc := 24) (x := v6) dX2_gainNextNight_24 rfl ?_
        obtain ⟨r4, A5, hq6, h⟩ := k_pb h
        refine k_callS (pc := 26) (as := [(0, v2), (0, v6)]) (st := []) (st1 := [(0, r4)]) dX2_gainNextNight_26 cbX2_has (k_gt 518 (by decide +kernel) (by decide +kernel)) (k_gt 519 (by decide +kernel) (by decide +kernel)) (by omega) rfl (Nat.le_of_ble_eq_true rfl) (okX2_has hq6) rfl ?_
        refine k_if_ne (pc := 29) (tgt := 74) dX2_gainNextNight_29 rfl (fun c7 => ?_) (fun c7 => ?_)
        · rw [if_neg c7] at h
          refine k_sub (ls' := [(1, v0), (0, v1), (0, v2), (0, v3), (0, v4), (0, v5), (0, v6)]) (k_sbl_ok _ _ ⟨Or.inr rfl, Or.inr rfl, Or.inr rfl, Or.inr rfl, Or.inr rfl, Or.inr rfl, Or.inr rfl, trivial⟩) ?_
          exact okX2_gainNextNight_b74 (fX2_gainNextNight_h6 N) ih _ _ _ _ _ _ _ _ _ _ h
        · rw [if_pos (Classical.not_not.mp c7)] at h
          refine k_aload_n (pc := 32) (x := v0) dX2_gainNextNight_32 rfl rfl ?_
          obtain ⟨hc8, h⟩ := k_pk h
          refine k_getf (pc := 33) (t := 1) (fi := 2) dX2_gainNextNight_33 flX2_18 rfl rfl hc8 ?_
          refine k_iload_n (pc := 36) (x := v3) dX2_gainNextNight_36 rfl rfl ?_
          refine k_bipush (pc := 37) dX2_gainNextNight_37 ⟨by decide, by decide⟩ (by decide +kernel) ?_
          refine k_imul (pc := 39) dX2_gainNextNight_39 ?_
          refine k_iload (pc := 40) (x := v6) dX2_gainNextNight_40 rfl ?_
          refine k_iadd (pc := 42) dX2_gainNextNight_42 ?_
          obtain ⟨hc9, h⟩ := k_pk h
          refine k_iaload (pc := 43) dX2_gainNextNight_43 hc9 ?_
          refine k_iconst (pc := 44) dX2_gainNextNight_44 ⟨by decide, by decide⟩ ?_
          refine k_icmp_gt (pc := 45) (tgt := 74) dX2_gainNextNight_45 rfl (fun c10 => ?_) (fun c10 => ?_)
          · rw [if_neg (Int.not_le.mpr c10)] at h
            refine k_sub (ls' := [(1, v0), (0, v1), (0, v2), (0, v3), (0, v4), (0, v5), (0, v6)]) (k_sbl_ok _ _ ⟨Or.inr rfl, Or.inr rfl, Or.inr rfl, Or.inr rfl, Or.inr rfl, Or.inr rfl, Or.inr rfl, trivial⟩) ?_
            exact okX2_gainNextNight_b74 (fX2_gainNextNight_h6 N) ih _ _ _ _ _ _ _ _ _ _ h
          · rw [if_pos (Int.not_lt.mp c10)] at h
            refine k_iload (pc := 48) (x := v5) dX2_gainNextNight_48 rfl ?_
            refine k_aload_n (pc := 50) (x := v0) dX2_gainNextNight_50 rfl rfl ?_
            refine k_iload_n (pc := 51) (x := v1) dX2_gainNextNight_51 rfl rfl ?_
            refine k_iconst (pc := 52) dX2_gainNextNight_52 ⟨by decide, by decide⟩ ?_
            refine k_iadd (pc := 53) dX2_gainNextNight_53 ?_
            refine k_iload_n (pc := 54) (x := v2) dX2_gainNextNight_54 rfl rfl ?_
            refine k_iconst (pc := 55) dX2_gainNextNight_55 ⟨by decide, by decide⟩ ?_
            refine k_iload (pc := 56) (x := v6) dX2_gainNextNight_56 rfl ?_
            refine k_ishl (pc := 58) dX2_gainNextNight_58 ?_
            refine k_ior (pc := 59) dX2_gainNextNight_59 ?_
            refine k_iload (pc := 60) (x := v6) dX2_gainNextNight_60 rfl ?_
            refine k_iload (pc := 62) (x := v4) dX2_gainNextNight_62 rfl ?_
            refine k_iconst (pc := 64) dX2_gainNextNight_64 ⟨by decide, by decide⟩ ?_
            refine k_iadd (pc := 65) dX2_gainNextNight_65 ?_
            obtain ⟨r11, A12, hq13, h⟩ := k_pb h
            refine k_callV (pc := 66) (ci := 2) (a := v0) (as := [(0, k_wr (v1 + 1)), (0, (k_or v2 (k_shl 1 v6))), (0, v6), (0, k_wr (v4 + 1))]) (st := [(0, v5)]) (st1 := [(0, r11), (0, v5)]) dX2_gainNextNight_66 cbX2_gain (k_gt 529 (by decide +kernel) (by decide +kernel)) cvX2_gain.1 cvX2_gain.2 rfl (by decide) hc8 (by omega) rfl (Nat.le_of_ble_eq_true rfl) (okX2_gain hq13) rfl ?_
            refine k_mmax (pc := 69) dX2_gainNextNight_69 (k_gt 485 (by decide +kernel) (by decide +kernel)) (by omega) (Nat.le_of_ble_eq_true rfl) ?_
            refine k_istore (pc := 72) dX2_gainNextNight_72 (Nat.le_of_ble_eq_true rfl) rfl ?_
            show k_AW _ _ _ [(1, v0), (0, v1), (0, v2), (0, v3), (0, v4), (0, (max v5 r11)), (0, v6)] _ _ _ _
            refine k_sub (ls' := [(1, v0), (0, v1), (0, v2), (0, v3), (0, v4), (0, (max v5 r11)), (0, v6)]) (k_sbl_ok _ _ ⟨Or.inr rfl, Or.inr rfl, Or.inr rfl, Or.inr rfl, Or.inr rfl, Or.inr rfl, Or.inr rfl, trivial⟩) ?_
            exact okX2_gainNextNight_b74 (fX2_gainNextNight_h6 N) ih _ _ _ _ _ _ _ _ _ _ h
set_option maxRecDepth 100000 in
theorem okX2_gainNextNight_b0 (A : k_H) (v0 v1 v2 v3 v4 : Int) (r : Int) (A' : k_H) (h : fX2_gainNextNight_b0 A v0 v1 v2 v3 v4 = some (r, A')) : k_AW 3 mX2_gainNextNight 0 [(1, v0), (0, v1), (0, v2), (0, v3), (0, v4), (3, 0), (3, 0)] [] A r A' := by
  unfold fX2_gainNextNight_b0 at h
  refine k_iconst (pc := 0) dX2_gainNextNight_0 ⟨by decide, by decide⟩ ?_
  refine k_istore (pc := 1) dX2_gainNextNight_1 (Nat.le_of_ble_eq_true rfl) rfl ?_
  show k_AW _ _ _ [(1, v0), (0, v1), (0, v2), (0, v3), (0, v4), (0, 0), (3, 0)] _ _ _ _
  refine k_iconst (pc := 3) dX2_gainNextNight_3 ⟨by decide, by decide⟩ ?_
  refine k_istore (pc := 4) dX2_gainNextNight_4 (Nat.le_of_ble_eq_true rfl) rfl ?_
  show k_AW _ _ _ [(1, v0), (0, v1), (0, v2), (0, v3), (0, v4), (0, 0), (0, 0)] _ _ _ _
  refine k_sub (ls' := [(1, v0), (0, v1), (0, v2), (0, v3), (0, v4), (0, 0), (0, 0)]) (k_sbl_ok _ _ ⟨Or.inr rfl, Or.inr rfl, Or.inr rfl, Or.inr rfl, Or.inr rfl, Or.inr rfl, Or.inr rfl, trivial⟩) ?_
  exact okX2_gainNextNight_h6  _ _ _ _ _ _ _ _ _ _ _ h
theorem okX2_gainNextNight {A : k_H} {x0 x1 x2 x3 x4 : Int} {r : Int} {A1 : k_H} (h : fX2_gainNextNight A x0 x1 x2 x3 x4 = some (r, A1)) : k_AM 3 mX2_gainNextNight [(1, x0), (0, x1), (0, x2), (0, x3), (0, x4)] A r A1 :=
  k_AM_of2 (ls := [(1, x0), (0, x1), (0, x2), (0, x3), (0, x4), (3, 0), (3, 0)]) (Or.inl (by decide +kernel)) (by decide +kernel) (by decide) rfl (Nat.le_of_ble_eq_true rfl) ⟨Or.inr rfl, Or.inr rfl, Or.inr rfl, Or.inr rfl, Or.inr rfl, rfl, rfl, trivial⟩ (okX2_gainNextNight_b0 A x0 x1 x2 x3 x4 r A1 h)
/-! X2_mostPoints -/
def fX2_mostPoints_h4 : Nat → k_H → Int → Int → Int → Option (Int × k_H)
  | 0, _, _, _, _ => none
  | N + 1, A, v0, v1, v2 => if k_isO A v0 2 then (if v2 < (k_rd A v0 5) then (k_bd (fX2_gain A v0 (k_rd A v0 6) (k_shl 1 v2) v2 0) fun r3 A4 => (fX2_mostPoints_h4 N) A4 v0 (max v1 r3) (k_wr (v2 + 1))) else (some (v1, A))) else none
def fX2_mostPoints_b0 (A : k_H) (v0 : Int) : Option (Int × k_H) := fX2_mostPoints_h4 k_FU A v0 0 0
def fX2_mostPoints (A : k_H) (x0 : Int) : Option (Int × k_H) := fX2_mostPoints_b0 A x0
set_option maxRecDepth 100000 in
theorem okX2_mostPoints_h4 : ∀ (N : Nat) (A : k_H) (v0 v1 v2 : Int) (r : Int) (A' : k_H), fX2_mostPoints_h4 N A v0 v1 v2 = some (r, A') → k_AW 3 mX2_mostPoints 4 [(1, v0), (0, v1), (0, v2)] [] A r A' := by
  intro N
  induction N with
  | zero => intro A v0 v1 v2 r A' h; exact absurd h (by simp [fX2_mostPoints_h4])
  | succ N ih =>
    intro A v0 v1 v2 r A' h
    rw [fX2_mostPoints_h4] at h
    refine k_iload_n (pc := 4) (x := v2) dX2_mostPoints_4 rfl rfl ?_
    refine k_aload_n (pc := 5) (x := v0) dX2_mostPoints_5 rfl rfl ?_
    obtain ⟨hc1, h⟩ := k_pk h
    refine k_getf (pc := 6) (t := 0) (fi := 5) dX2_mostPoints_6 flX2_28 rfl rfl hc1 ?_
    refine k_icmp_ge (pc := 9) (tgt := 36) dX2_mostPoints_9 rfl (fun c2 => ?_) (fun c2 => ?_)
    · rw [if_neg (Int.not_lt.mpr c2)] at h
      refine k_iload_n (pc := 36) (x := v1) dX2_mostPoints_36 rfl rfl ?_
      obtain ⟨rfl, rfl⟩ := k_pr h
      exact k_ret (pc := 37) dX2_mostPoints_37 rfl rfl rfl
    · rw [if_pos (Int.not_le.mp c2)] at h
      refine k_iload_n (pc := 12) (x := v1) dX2_mostPoints_12 rfl rfl ?_
      refine k_aload_n (pc := 13) (x := v0) dX2_mostPoints_13 rfl rfl ?_
      refine k_aload_n (pc := 14) (x := v0) dX2_mostPoints_14 rfl rfl ?_
      refine k_getf (pc := 15) (t := 0) (fi := 6) dX2_mostPoints_15 flX2_37 rfl rfl hc1 ?_
      refine k_iconst (pc := 18) dX2_mostPoints_18 ⟨by decide, by decide⟩ ?_
      refine k_iload_n (pc := 19) (x := v2) dX2_mostPoints_19 rfl rfl ?_
      refine k_ishl (pc := 20) dX2_mostPoints_20 ?_
      refine k_iload_n (pc := 21) (x := v2) dX2_mostPoints_21 rfl rfl ?_
      refine k_iconst (pc := 22) dX2_mostPoints_22 ⟨by decide, by decide⟩ ?_
      obtain ⟨r3, A4, hq5, h⟩ := k_pb h
      refine k_callV (pc := 23) (ci := 2) (a := v0) (as := [(0, (k_rd A v0 6)), (0, (k_shl 1 v2)), (0, v2), (0, 0)]) (st := [(0, v1)]) (st1 := [(0, r3), (0, v1)]) dX2_mostPoints_23 cbX2_gain (k_gt 529 (by decide +kernel) (by decide +kernel)) cvX2_gain.1 cvX2_gain.2 rfl (by decide) hc1 (by omega) rfl (Nat.le_of_ble_eq_true rfl) (okX2_gain hq5) rfl ?_
      refine k_mmax (pc := 26) dX2_mostPoints_26 (k_gt 485 (by decide +kernel) (by decide +kernel)) (by omega) (Nat.le_of_ble_eq_true rfl) ?_
      refine k_istore_n (pc := 29) dX2_mostPoints_29 rfl (Nat.le_of_ble_eq_true rfl) rfl ?_
      show k_AW _ _ _ [(1, v0), (0, (max v1 r3)), (0, v2)] _ _ _ _
      refine k_iinc (pc := 30) (x := v2) dX2_mostPoints_30 (Nat.le_of_ble_eq_true rfl) rfl rfl ?_
      show k_AW _ _ _ [(1, v0), (0, (max v1 r3)), (0, k_wr (v2 + 1))] _ _ _ _
      refine k_goto (pc := 33) (tgt := 4) dX2_mostPoints_33 rfl ?_
      refine k_sub (ls' := [(1, v0), (0, (max v1 r3)), (0, k_wr (v2 + 1))]) (k_sbl_ok _ _ ⟨Or.inr rfl, Or.inr rfl, Or.inr rfl, trivial⟩) ?_
      exact ih _ _ _ _ _ _ h
set_option maxRecDepth 100000 in
theorem okX2_mostPoints_b0 (A : k_H) (v0 : Int) (r : Int) (A' : k_H) (h : fX2_mostPoints_b0 A v0 = some (r, A')) : k_AW 3 mX2_mostPoints 0 [(1, v0), (3, 0), (3, 0)] [] A r A' := by
  unfold fX2_mostPoints_b0 at h
  refine k_iconst (pc := 0) dX2_mostPoints_0 ⟨by decide, by decide⟩ ?_
  refine k_istore_n (pc := 1) dX2_mostPoints_1 rfl (Nat.le_of_ble_eq_true rfl) rfl ?_
  show k_AW _ _ _ [(1, v0), (0, 0), (3, 0)] _ _ _ _
  refine k_iconst (pc := 2) dX2_mostPoints_2 ⟨by decide, by decide⟩ ?_
  refine k_istore_n (pc := 3) dX2_mostPoints_3 rfl (Nat.le_of_ble_eq_true rfl) rfl ?_
  show k_AW _ _ _ [(1, v0), (0, 0), (0, 0)] _ _ _ _
  refine k_sub (ls' := [(1, v0), (0, 0), (0, 0)]) (k_sbl_ok _ _ ⟨Or.inr rfl, Or.inr rfl, Or.inr rfl, trivial⟩) ?_
  exact okX2_mostPoints_h4  _ _ _ _ _ _ _ h
theorem okX2_mostPoints {A : k_H} {x0 : Int} {r : Int} {A1 : k_H} (h : fX2_mostPoints A x0 = some (r, A1)) : k_AM 3 mX2_mostPoints [(1, x0)] A r A1 :=
  k_AM_of2 (ls := [(1, x0), (3, 0), (3, 0)]) (Or.inl (by decide +kernel)) (by decide +kernel) (by decide) rfl (Nat.le_of_ble_eq_true rfl) ⟨Or.inr rfl, rfl, rfl, trivial⟩ (okX2_mostPoints_b0 A x0 r A1 h)
/-! X2_firstBringing -/
def fX2_firstBringing_b79 (k3 : k_H → Int → Int → Int → Int → Int → Int → Int → Int → Option (Int × k_H)) (A : k_H) (v0 v1 v2 v3 v4 v5 v6 v7 : Int) : Option (Int × k_H) := k3 A v0 v1 v2 v3 v4 v5 v6 (k_wr (v7 + 1))
def fX2_firstBringing_b41 (k3 : k_H → Int → Int → Int → Int → Int → Int → Int → Int → Option (Int × k_H)) (A : k_H) (v0 v1 v2 v3 v4 v5 v6 v7 s0 : Int) : Option (Int × k_H) := if s0 = 0 then (fX2_firstBringing_b79 k3 A v0 v1 v2 v3 v4 v5 v6 v7) else (k_bd (fX2_has A v3 v7) fun r2 A3 => if r2 = 0 then (if k_isO A3 v0 2 then (k_bd (fX2_gain A3 v0 v2 (k_or v3 (k_shl 1 v7)) v7 v6) fun r6 A7 => if r6 = v1 then (some (v7, A7)) else (fX2_firstBringing_b79 k3 A7 v0 v1 v2 v3 v4 v5 v6 v7)) else none) else (fX2_firstBringing_b79 k3 A3 v0 v1 v2 v3 v4 v5 v6 v7))
def fX2_firstBringing_b36 (k3 : k_H → Int → Int → Int → Int → Int → Int → Int → Int → Option (Int × k_H)) (A : k_H) (v0 v1 v2 v3 v4 v5 v6 v7 : Int) : Option (Int × k_H) := fX2_firstBringing_b41 k3 A v0 v1 v2 v3 v4 v5 v6 v7 1
def fX2_firstBringing_h3 : Nat → k_H → Int → Int → Int → Int → Int → Int → Int → Int → Option (Int × k_H)
  | 0, _, _, _, _, _, _, _, _, _ => none
  | N + 1, A, v0, v1, v2, v3, v4, v5, v6, v7 => if k_isO A v0 2 then (if v7 < (k_rd A v0 5) then (if v4 = (-1) then (fX2_firstBringing_b36 (fX2_firstBringing_h3 N) A v0 v1 v2 v3 v4 v5 v6 v7) else (if k_isA A (k_rd A v0 2) 21 (k_wr (k_wr (v4 * 6) + v7)) then (if (k_rd A (k_rd A v0 2) (k_wr (k_wr (v4 * 6) + v7))) ≤ v5 then (fX2_firstBringing_b36 (fX2_firstBringing_h3 N) A v0 v1 v2 v3 v4 v5 v6 v7) else (fX2_firstBringing_b41 (fX2_firstBringing_h3 N) A v0 v1 v2 v3 v4 v5 v6 v7 0)) else none)) else (some ((-1), A))) else none
def fX2_firstBringing_b0 (A : k_H) (v0 v1 v2 v3 v4 v5 v6 : Int) : Option (Int × k_H) := fX2_firstBringing_h3 k_FU A v0 v1 v2 v3 v4 v5 v6 0
def fX2_firstBringing (A : k_H) (x0 x1 x2 x3 x4 x5 x6 : Int) : Option (Int × k_H) := fX2_firstBringing_b0 A x0 x1 x2 x3 x4 x5 x6
set_option maxRecDepth 100000 in
theorem okX2_firstBringing_b79 (k3 : k_H → Int → Int → Int → Int → Int → Int → Int → Int → Option (Int × k_H)) (hk3 : ∀ (A : k_H) (v0 v1 v2 v3 v4 v5 v6 v7 : Int) (r : Int) (A' : k_H), k3 A v0 v1 v2 v3 v4 v5 v6 v7 = some (r, A') → k_AW 3 mX2_firstBringing 3 [(1, v0), (0, v1), (0, v2), (0, v3), (0, v4), (0, v5), (0, v6), (0, v7), (3, 0)] [] A r A') (A : k_H) (v0 v1 v2 v3 v4 v5 v6 v7 : Int) (r : Int) (A' : k_H) (h : fX2_firstBringing_b79 k3 A v0 v1 v2 v3 v4 v5 v6 v7 = some (r, A')) : k_AW 3 mX2_firstBringing 79 [(1, v0), (0, v1), (0, v2), (0, v3), (0, v4), (0, v5), (0, v6), (0, v7), (3, 0)] [] A r A' := by
  unfold fX2_firstBringing_b79 at h
  refine k_iinc (pc := 79) (x := v7) dX2_firstBringing_79 (Nat.le_of_ble_eq_true rfl) rfl rfl ?_
  show k_AW _ _ _ [(1, v0), (0, v1), (0, v2), (0, v3), (0, v4), (0, v5), (0, v6), (0, k_wr (v7 + 1)), (3, 0)] _ _ _ _
  refine k_goto (pc := 82) (tgt := 3) dX2_firstBringing_82 rfl ?_
  refine k_sub (ls' := [(1, v0), (0, v1), (0, v2), (0, v3), (0, v4), (0, v5), (0, v6), (0, k_wr (v7 + 1)), (3, 0)]) (k_sbl_ok _ _ ⟨Or.inr rfl, Or.inr rfl, Or.inr rfl, Or.inr rfl, Or.inr rfl, Or.inr rfl, Or.inr rfl, Or.inr rfl, Or.inl rfl, trivial⟩) ?_
  exact hk3 _ _ _ _ _ _ _ _ _ _ _ h
set_option maxRecDepth 100000 in
theorem okX2_firstBringing_b41 (k3 : k_H → Int → Int → Int → Int → Int → Int → Int → Int → Option (Int × k_H)) (hk3 : ∀ (A : k_H) (v0 v1 v2 v3 v4 v5 v6 v7 : Int) (r : Int) (A' : k_H), k3 A v0 v1 v2 v3 v4 v5 v6 v7 = some (r, A') → k_AW 3 mX2_firstBringing 3 [(1, v0), (0, v1), (0, v2), (0, v3), (0, v4), (0, v5), (0, v6), (0, v7), (3, 0)] [] A r A') (A : k_H) (v0 v1 v2 v3 v4 v5 v6 v7 s0 : Int) (r : Int) (A' : k_H) (h : fX2_firstBringing_b41 k3 A v0 v1 v2 v3 v4 v5 v6 v7 s0 = some (r, A')) : k_AW 3 mX2_firstBringing 41 [(1, v0), (0, v1), (0, v2), (0, v3), (0, v4), (0, v5), (0, v6), (0, v7), (3, 0)] [(0, s0)] A r A' := by
  unfold fX2_firstBringing_b41 at h
  refine k_istore (pc := 41) dX2_firstBringing_41 (Nat.le_of_ble_eq_true rfl) rfl ?_
  show k_AW _ _ _ [(1, v0), (0, v1), (0, v2), (0, v3), (0, v4), (0, v5), (0, v6), (0, v7), (0, s0)] _ _ _ _
  refine k_iload (pc := 43) (x := s0) dX2_firstBringing_43 rfl ?_
  refine k_if_eq (pc := 45) (tgt := 79) dX2_firstBringing_45 rfl (fun c1 => ?_) (fun c1 => ?_)
  · rw [if_pos c1] at h
    refine k_sub (ls' := [(1, v0), (0, v1), (0, v2), (0, v3), (0, v4), (0, v5), (0, v6), (0, v7), (3, 0)]) (k_sbl_ok _ _ ⟨Or.inr rfl, Or.inr rfl, Or.inr rfl, Or.inr rfl, Or.inr rfl, Or.inr rfl, Or.inr rfl, Or.inr rfl, Or.inl rfl, trivial⟩) ?_
    exact okX2_firstBringing_b79 k3 hk3 _ _ _ _ _ _ _ _ _ _ _ h
  · rw [if_neg c1] at h
    refine k_iload_n (pc := 48) (x := v3) dX2_firstBringing_48 rfl rfl ?_
    refine k_iload (pc := 49) (x := v7) dX2_firstBringing_49 rfl ?_
    obtain ⟨r2, A3, hq4, h⟩ := k_pb h
    refine k_callS (pc := 51) (as := [(0, v3), (0, v7)]) (st := []) (st1 := [(0, r2)]) dX2_firstBringing_51 cbX2_has (k_gt 518 (by decide +kernel) (by decide +kernel)) (k_gt 519 (by decide +kernel) (by decide +kernel)) (by omega) rfl (Nat.le_of_ble_eq_true rfl) (okX2_has hq4) rfl ?_
    refine k_if_ne (pc := 54) (tgt := 79) dX2_firstBringing_54 rfl (fun c5 => ?_) (fun c5 => ?_)
    · rw [if_neg c5] at h
      refine k_sub (ls' := [(1, v0), (0, v1), (0, v2), (0, v3), (0, v4), (0, v5), (0, v6), (0, v7), (3, 0)]) (k_sbl_ok _ _ ⟨Or.inr rfl, Or.inr rfl, Or.inr rfl, Or.inr rfl, Or.inr rfl, Or.inr rfl, Or.inr rfl, Or.inr rfl, Or.inl rfl, trivial⟩) ?_
      exact okX2_firstBringing_b79 k3 hk3 _ _ _ _ _ _ _ _ _ _ _ h
    · rw [if_pos (Classical.not_not.mp c5)] at h
      refine k_aload_n (pc := 57) (x := v0) dX2_firstBringing_57 rfl rfl ?_
      refine k_iload_n (pc := 58) (x := v2) dX2_firstBringing_58 rfl rfl ?_
      refine k_iload_n (pc := 59) (x := v3) dX2_firstBringing_59 rfl rfl ?_
      refine k_iconst (pc := 60) dX2_firstBringing_60 ⟨by decide, by decide⟩ ?_
      refine k_iload (pc := 61) (x := v7) dX2_firstBringing_61 rfl ?_
      refine k_ishl (pc := 63) dX2_firstBringing_63 ?_
      refine k_ior (pc := 64) dX2_firstBringing_64 ?_
      refine k_iload (pc := 65) (x := v7) dX2_firstBringing_65 rfl ?_
      refine k_iload (pc := 67) (x := v6) dX2_firstBringing_67 rfl ?_
      obtain ⟨hc9, h⟩ := k_pk h
      obtain ⟨r6, A7, hq8, h⟩ := k_pb h
      refine k_callV (pc := 69) (ci := 2) (a := v0) (as := [(0, v2), (0, (k_or v3 (k_shl 1 v7))), (0, v7), (0, v6)]) (st := []) (st1 := [(0, r6)]) dX2_firstBringing_69 cbX2_gain (k_gt 529 (by decide +kernel) (by decide +kernel)) cvX2_gain.1 cvX2_gain.2 rfl (by decide) hc9 (by omega) rfl (Nat.le_of_ble_eq_true rfl) (okX2_gain hq8) rfl ?_
      refine k_iload_n (pc := 72) (x := v1) dX2_firstBringing_72 rfl rfl ?_
      refine k_icmp_ne (pc := 73) (tgt := 79) dX2_firstBringing_73 rfl (fun c10 => ?_) (fun c10 => ?_)
      · rw [if_neg c10] at h
        refine k_sub (ls' := [(1, v0), (0, v1), (0, v2), (0, v3), (0, v4), (0, v5), (0, v6), (0, v7), (3, 0)]) (k_sbl_ok _ _ ⟨Or.inr rfl, Or.inr rfl, Or.inr rfl, Or.inr rfl, Or.inr rfl, Or.inr rfl, Or.inr rfl, Or.inr rfl, Or.inl rfl, trivial⟩) ?_
        exact okX2_firstBringing_b79 k3 hk3 _ _ _ _ _ _ _ _ _ _ _ h
      · rw [if_pos (Classical.not_not.mp c10)] at h
        refine k_iload (pc := 76) (x := v7) dX2_firstBringing_76 rfl ?_
        obtain ⟨rfl, rfl⟩ := k_pr h
        exact k_ret (pc := 78) dX2_firstBringing_78 rfl rfl rfl
set_option maxRecDepth 100000 in
theorem okX2_firstBringing_b36 (k3 : k_H → Int → Int → Int → Int → Int → Int → Int → Int → Option (Int × k_H)) (hk3 : ∀ (A : k_H) (v0 v1 v2 v3 v4 v5 v6 v7 : Int) (r : Int) (A' : k_H), k3 A v0 v1 v2 v3 v4 v5 v6 v7 = some (r, A') → k_AW 3 mX2_firstBringing 3 [(1, v0), (0, v1), (0, v2), (0, v3), (0, v4), (0, v5), (0, v6), (0, v7), (3, 0)] [] A r A') (A : k_H) (v0 v1 v2 v3 v4 v5 v6 v7 : Int) (r : Int) (A' : k_H) (h : fX2_firstBringing_b36 k3 A v0 v1 v2 v3 v4 v5 v6 v7 = some (r, A')) : k_AW 3 mX2_firstBringing 36 [(1, v0), (0, v1), (0, v2), (0, v3), (0, v4), (0, v5), (0, v6), (0, v7), (3, 0)] [] A r A' := by
  unfold fX2_firstBringing_b36 at h
  refine k_iconst (pc := 36) dX2_firstBringing_36 ⟨by decide, by decide⟩ ?_
  refine k_goto (pc := 37) (tgt := 41) dX2_firstBringing_37 rfl ?_
  refine k_sub (ls' := [(1, v0), (0, v1), (0, v2), (0, v3), (0, v4), (0, v5), (0, v6), (0, v7), (3, 0)]) (k_sbl_ok _ _ ⟨Or.inr rfl, Or.inr rfl, Or.inr rfl, Or.inr rfl, Or.inr rfl, Or.inr rfl, Or.inr rfl, Or.inr rfl, Or.inl rfl, trivial⟩) ?_
  exact okX2_firstBringing_b41 k3 hk3 _ _ _ _ _ _ _ _ _ _ _ _ h
set_option maxRecDepth 100000 in
theorem okX2_firstBringing_h3 : ∀ (N : Nat) (A : k_H) (v0 v1 v2 v3 v4 v5 v6 v7 : Int) (r : Int) (A' : k_H), fX2_firstBringing_h3 N A v0 v1 v2 v3 v4 v5 v6 v7 = some (r, A') → k_AW 3 mX2_firstBringing 3 [(1, v0), (0, v1), (0, v2), (0, v3), (0, v4), (0, v5), (0, v6), (0, v7), (3, 0)] [] A r A' := by
  intro N
  induction N with
  | zero => intro A v0 v1 v2 v3 v4 v5 v6 v7 r A' h; exact absurd h (by simp [fX2_firstBringing_h3])
  | succ N ih =>
    intro A v0 v1 v2 v3 v4 v5 v6 v7 r A' h
    rw [fX2_firstBringing_h3] at h
    refine k_iload (pc := 3) (x := v7) dX2_firstBringing_3 rfl ?_
    refine k_aload_n (pc := 5) (x := v0) dX2_firstBringing_5 rfl rfl ?_
    obtain ⟨hc1, h⟩ := k_pk h
    refine k_getf (pc := 6) (t := 0) (fi := 5) dX2_firstBringing_6 flX2_28 rfl rfl hc1 ?_
    refine k_icmp_ge (pc := 9) (tgt := 85) dX2_firstBringing_9 rfl (fun c2 => ?_) (fun c2 => ?_)
    · rw [if_neg (Int.not_lt.mpr c2)] at h
      refine k_iconst (pc := 85) dX2_firstBringing_85 ⟨by decide, by decide⟩ ?_
      obtain ⟨rfl, rfl⟩ := k_pr h
      exact k_ret (pc := 86) dX2_firstBringing_86 rfl rfl rfl
    · rw [if_pos (Int.not_le.mp c2)] at h
      refine k_iload (pc := 12) (x := v4) dX2_firstBringing_12 rfl ?_
      refine k_iconst (pc := 14) dX2_firstBringing_14 ⟨by decide, by decide⟩ ?_
      refine k_icmp_eq (pc := 15) (tgt := 36) dX2_firstBringing_15 rfl (fun c3 => ?_) (fun c3 => ?_)
      · rw [if_pos c3] at h
        refine k_sub (ls' := [(1, v0), (0, v1), (0, v2), (0, v3), (0, v4), (0, v5), (0, v6), (0, v7), (3, 0)]) (k_sbl_ok _ _ ⟨Or.inr rfl, Or.inr rfl, Or.inr rfl, Or.inr rfl, Or.inr rfl, Or.inr rfl, Or.inr rfl, Or.inr rfl, Or.inl rfl, trivial⟩) ?_
        exact okX2_firstBringing_b36 (fX2_firstBringing_h3 N) ih _ _ _ _ _ _ _ _ _ _ _ h
      · rw [if_neg c3] at h
        refine k_aload_n (pc := 18) (x := v0) dX2_firstBringing_18 rfl rfl ?_
        refine k_getf (pc := 19) (t := 1) (fi := 2) dX2_firstBringing_19 flX2_18 rfl rfl hc1 ?_
        refine k_iload (pc := 22) (x := v4) dX2_firstBringing_22 rfl ?_
        refine k_bipush (pc := 24) dX2_firstBringing_24 ⟨by decide, by decide⟩ (by decide +kernel) ?_
        refine k_imul (pc := 26) dX2_firstBringing_26 ?_
        refine k_iload (pc := 27) (x := v7) dX2_firstBringing_27 rfl ?_
        refine k_iadd (pc := 29) dX2_firstBringing_29 ?_
        obtain ⟨hc4, h⟩ := k_pk h
        refine k_iaload (pc := 30) dX2_firstBringing_30 hc4 ?_
        refine k_iload (pc := 31) (x := v5) dX2_firstBringing_31 rfl ?_
        refine k_icmp_gt (pc := 33) (tgt := 40) dX2_firstBringing_33 rfl (fun c5 => ?_) (fun c5 => ?_)
        · rw [if_neg (Int.not_le.mpr c5)] at h
          refine k_iconst (pc := 40) dX2_firstBringing_40 ⟨by decide, by decide⟩ ?_
          refine k_sub (ls' := [(1, v0), (0, v1), (0, v2), (0, v3), (0, v4), (0, v5), (0, v6), (0, v7), (3, 0)]) (k_sbl_ok _ _ ⟨Or.inr rfl, Or.inr rfl, Or.inr rfl, Or.inr rfl, Or.inr rfl, Or.inr rfl, Or.inr rfl, Or.inr rfl, Or.inl rfl, trivial⟩) ?_
          exact okX2_firstBringing_b41 (fX2_firstBringing_h3 N) ih _ _ _ _ _ _ _ _ _ _ _ _ h
        · rw [if_pos (Int.not_lt.mp c5)] at h
          refine k_sub (ls' := [(1, v0), (0, v1), (0, v2), (0, v3), (0, v4), (0, v5), (0, v6), (0, v7), (3, 0)]) (k_sbl_ok _ _ ⟨Or.inr rfl, Or.inr rfl, Or.inr rfl, Or.inr rfl, Or.inr rfl, Or.inr rfl, Or.inr rfl, Or.inr rfl, Or.inl rfl, trivial⟩) ?_
          exact okX2_firstBringing_b36 (fX2_firstBringing_h3 N) ih _ _ _ _ _ _ _ _ _ _ _ h
set_option maxRecDepth 100000 in
theorem okX2_firstBringing_b0 (A : k_H) (v0 v1 v2 v3 v4 v5 v6 : Int) (r : Int) (A' : k_H) (h : fX2_firstBringing_b0 A v0 v1 v2 v3 v4 v5 v6 = some (r, A')) : k_AW 3 mX2_firstBringing 0 [(1, v0), (0, v1), (0, v2), (0, v3), (0, v4), (0, v5), (0, v6), (3, 0), (3, 0)] [] A r A' := by
  unfold fX2_firstBringing_b0 at h
  refine k_iconst (pc := 0) dX2_firstBringing_0 ⟨by decide, by decide⟩ ?_
  refine k_istore (pc := 1) dX2_firstBringing_1 (Nat.le_of_ble_eq_true rfl) rfl ?_
  show k_AW _ _ _ [(1, v0), (0, v1), (0, v2), (0, v3), (0, v4), (0, v5), (0, v6), (0, 0), (3, 0)] _ _ _ _
  refine k_sub (ls' := [(1, v0), (0, v1), (0, v2), (0, v3), (0, v4), (0, v5), (0, v6), (0, 0), (3, 0)]) (k_sbl_ok _ _ ⟨Or.inr rfl, Or.inr rfl, Or.inr rfl, Or.inr rfl, Or.inr rfl, Or.inr rfl, Or.inr rfl, Or.inr rfl, Or.inl rfl, trivial⟩) ?_
  exact okX2_firstBringing_h3  _ _ _ _ _ _ _ _ _ _ _ _ h
theorem okX2_firstBringing {A : k_H} {x0 x1 x2 x3 x4 x5 x6 : Int} {r : Int} {A1 : k_H} (h : fX2_firstBringing A x0 x1 x2 x3 x4 x5 x6 = some (r, A1)) : k_AM 3 mX2_firstBringing [(1, x0), (0, x1), (0, x2), (0, x3), (0, x4), (0, x5), (0, x6)] A r A1 :=
  k_AM_of2 (ls := [(1, x0), (0, x1), (0, x2), (0, x3), (0, x4), (0, x5), (0, x6), (3, 0), (3, 0)]) (Or.inl (by decide +kernel)) (by decide +kernel) (by decide) rfl (Nat.le_of_ble_eq_true rfl) ⟨Or.inr rfl, Or.inr rfl, Or.inr rfl, Or.inr rfl, Or.inr rfl, Or.inr rfl, Or.inr rfl, rfl, rfl, trivial⟩ (okX2_firstBringing_b0 A x0 x1 x2 x3 x4 x5 x6 r A1 h)
/-! X2_weigh -/
def fX2_weigh_b109 (A : k_H) (v0 v1 v2 v3 v4 s0 : Int) : Option (Int × k_H) := k_bd (fX2_unpack A v4 1) fun r1 A2 => k_bd (fX2_pack A2 (max s0 r1) 0) fun r4 A5 => if k_isO A5 v0 2 then (k_bd (fX2_cell A5 v1 v2 v3) fun r8 A9 => if k_isA A9 (k_rd A5 v0 4) 22 r8 then (k_lt (k_wt A9 (k_rd A5 v0 4) r8 (k_lorr v4 r4)) fun A12 => some (0, A12)) else none) else none
def fX2_weigh_b87 (A : k_H) (v0 v1 v2 v3 v4 : Int) : Option (Int × k_H) := if k_isO A v0 2 then (if v1 < (k_rd A v0 7) then (k_bd (fX2_gain A v0 (k_wr (v1 + 1)) v2 v3 0) fun r3 A4 => fX2_weigh_b109 A4 v0 v1 v2 v3 v4 r3) else (fX2_weigh_b109 A v0 v1 v2 v3 v4 0)) else none
def fX2_weigh_h28 : Nat → k_H → Int → Int → Int → Int → Int → Int → Int → Option (Int × k_H)
  | 0, _, _, _, _, _, _, _, _ => none
  | N + 1, A, v0, v1, v2, v3, v4, v6, v7 => if k_isO A v0 2 then (if v7 ≤ (k_rd A v0 9) then (k_bd (fJ6_bitCount_0f7a4 A v2) fun r3 A4 => if v7 ≤ r3 then (if k_isO A4 v0 2 then (k_bd (fX2_gainNextNight A4 v0 v1 v2 v3 v7) fun r7 A8 => if k_isO A8 v0 2 then (if k_isA A8 (k_rd A8 v0 1) 21 v3 then (k_bd (fX2_pack A8 (k_wr ((k_rd A8 (k_rd A8 v0 1) v3) + (max v6 r7))) v7) fun r13 A14 => (fX2_weigh_h28 N) A14 v0 v1 v2 v3 (k_lorr v4 r13) v6 (k_wr (v7 + 1))) else none) else none) else none) else (fX2_weigh_b87 A4 v0 v1 v2 v3 v4)) else (fX2_weigh_b87 A v0 v1 v2 v3 v4)) else none
def fX2_weigh_b0 (A : k_H) (v0 v1 v2 v3 : Int) : Option (Int × k_H) := if k_isO A v0 2 then (if k_isA A (k_rd A v0 3) 21 v3 then (k_bd (fX2_has A (k_rd A (k_rd A v0 3) v3) v1) fun r3 A4 => if r3 = 0 then (if k_isO A4 v0 2 then (k_bd (fX2_gainRested A4 v0 v1 v2 v3) fun r7 A8 => fX2_weigh_h28 k_FU A8 v0 v1 v2 v3 0 r7 1) else none) else (fX2_weigh_b87 A4 v0 v1 v2 v3 0)) else none) else none
def fX2_weigh (A : k_H) (x0 x1 x2 x3 : Int) : Option (Int × k_H) := fX2_weigh_b0 A x0 x1 x2 x3
set_option maxRecDepth 100000 in
theorem okX2_weigh_b109 (A : k_H) (v0 v1 v2 v3 v4 s0 : Int) (r : Int) (A' : k_H) (h : fX2_weigh_b109 A v0 v1 v2 v3 v4 s0 = some (r, A')) : k_AW 4 mX2_weigh 109 [(1, v0), (0, v1), (0, v2), (0, v3), (2, v4), (3, 0), (3, 0), (3, 0), (3, 0)] [(0, s0)] A r A' := by
  unfold fX2_weigh_b109 at h
  refine k_istore (pc := 109) dX2_weigh_109 (Nat.le_of_ble_eq_true rfl) rfl ?_
  show k_AW _ _ _ [(1, v0), (0, v1), (0, v2), (0, v3), (2, v4), (3, 0), (0, s0), (3, 0), (3, 0)] _ _ _ _
  refine k_lload (pc := 111) (x := v4) dX2_weigh_111 rfl ?_
  refine k_iload (pc := 113) (x := s0) dX2_weigh_113 rfl ?_
  refine k_lload (pc := 115) (x := v4) dX2_weigh_115 rfl ?_
  refine k_iconst (pc := 117) dX2_weigh_117 ⟨by decide, by decide⟩ ?_
  obtain ⟨r1, A2, hq3, h⟩ := k_pb h
  refine k_callS (pc := 118) (as := [(2, v4), (0, 1)]) (st := [(0, s0), (2, v4)]) (st1 := [(0, r1), (0, s0), (2, v4)]) dX2_weigh_118 cbX2_unpack (k_gt 536 (by decide +kernel) (by decide +kernel)) (k_gt 537 (by decide +kernel) (by decide +kernel)) (by omega) rfl (Nat.le_of_ble_eq_true rfl) (okX2_unpack hq3) rfl ?_
  refine k_mmax (pc := 121) dX2_weigh_121 (k_gt 485 (by decide +kernel) (by decide +kernel)) (by omega) (Nat.le_of_ble_eq_true rfl) ?_
  refine k_iconst (pc := 124) dX2_weigh_124 ⟨by decide, by decide⟩ ?_
  obtain ⟨r4, A5, hq6, h⟩ := k_pb h
  refine k_callS (pc := 125) (as := [(0, (max s0 r1)), (0, 0)]) (st := [(2, v4)]) (st1 := [(2, r4), (2, v4)]) dX2_weigh_125 cbX2_pack (k_gt 549 (by decide +kernel) (by decide +kernel)) (k_gt 550 (by decide +kernel) (by decide +kernel)) (by omega) rfl (Nat.le_of_ble_eq_true rfl) (okX2_pack hq6) rfl ?_
  refine k_lor (pc := 128) dX2_weigh_128 ?_
  refine k_lstore (pc := 129) dX2_weigh_129 (Nat.le_of_ble_eq_true rfl) rfl ?_
  show k_AW _ _ _ [(1, v0), (0, v1), (0, v2), (0, v3), (2, (k_lorr v4 r4)), (3, 0), (0, s0), (3, 0), (3, 0)] _ _ _ _
  refine k_aload_n (pc := 131) (x := v0) dX2_weigh_131 rfl rfl ?_
  obtain ⟨hc7, h⟩ := k_pk h
  refine k_getf (pc := 132) (t := 1) (fi := 4) dX2_weigh_132 flX2_24 rfl rfl hc7 ?_
  refine k_iload_n (pc := 135) (x := v1) dX2_weigh_135 rfl rfl ?_
  refine k_iload_n (pc := 136) (x := v2) dX2_weigh_136 rfl rfl ?_
  refine k_iload_n (pc := 137) (x := v3) dX2_weigh_137 rfl rfl ?_
  obtain ⟨r8, A9, hq10, h⟩ := k_pb h
  refine k_callS (pc := 138) (as := [(0, v1), (0, v2), (0, v3)]) (st := [(1, (k_rd A5 v0 4))]) (st1 := [(0, r8), (1, (k_rd A5 v0 4))]) dX2_weigh_138 cbX2_cell (k_gt 533 (by decide +kernel) (by decide +kernel)) (k_gt 534 (by decide +kernel) (by decide +kernel)) (by omega) rfl (Nat.le_of_ble_eq_true rfl) (okX2_cell hq10) rfl ?_
  refine k_lload (pc := 141) (x := (k_lorr v4 r4)) dX2_weigh_141 rfl ?_
  obtain ⟨hc11, h⟩ := k_pk h
  refine k_lastore (pc := 143) dX2_weigh_143 hc11 ?_
  obtain ⟨A12, eA13, h⟩ := k_pl h
  refine k_hq eA13 ?_
  obtain ⟨rfl, rfl⟩ := k_pr h
  exact k_retv (pc := 144) dX2_weigh_144 rfl
set_option maxRecDepth 100000 in
theorem okX2_weigh_b87 (A : k_H) (v0 v1 v2 v3 v4 : Int) (r : Int) (A' : k_H) (h : fX2_weigh_b87 A v0 v1 v2 v3 v4 = some (r, A')) : k_AW 4 mX2_weigh 87 [(1, v0), (0, v1), (0, v2), (0, v3), (2, v4), (3, 0), (3, 0), (3, 0), (3, 0)] [] A r A' := by
  unfold fX2_weigh_b87 at h
  refine k_iload_n (pc := 87) (x := v1) dX2_weigh_87 rfl rfl ?_
  refine k_aload_n (pc := 88) (x := v0) dX2_weigh_88 rfl rfl ?_
  obtain ⟨hc1, h⟩ := k_pk h
  refine k_getf (pc := 89) (t := 0) (fi := 7) dX2_weigh_89 flX2_41 rfl rfl hc1 ?_
  refine k_icmp_ge (pc := 92) (tgt := 108) dX2_weigh_92 rfl (fun c2 => ?_) (fun c2 => ?_)
  · rw [if_neg (Int.not_lt.mpr c2)] at h
    refine k_iconst (pc := 108) dX2_weigh_108 ⟨by decide, by decide⟩ ?_
    refine k_sub (ls' := [(1, v0), (0, v1), (0, v2), (0, v3), (2, v4), (3, 0), (3, 0), (3, 0), (3, 0)]) (k_sbl_ok _ _ ⟨Or.inr rfl, Or.inr rfl, Or.inr rfl, Or.inr rfl, Or.inr rfl, Or.inl rfl, Or.inl rfl, Or.inl rfl, Or.inl rfl, trivial⟩) ?_
    exact okX2_weigh_b109  _ _ _ _ _ _ _ _ _ h
  · rw [if_pos (Int.not_le.mp c2)] at h
    refine k_aload_n (pc := 95) (x := v0) dX2_weigh_95 rfl rfl ?_
    refine k_iload_n (pc := 96) (x := v1) dX2_weigh_96 rfl rfl ?_
    refine k_iconst (pc := 97) dX2_weigh_97 ⟨by decide, by decide⟩ ?_
    refine k_iadd (pc := 98) dX2_weigh_98 ?_
    refine k_iload_n (pc := 99) (x := v2) dX2_weigh_99 rfl rfl ?_
    refine k_iload_n (pc := 100) (x := v3) dX2_weigh_100 rfl rfl ?_
    refine k_iconst (pc := 101) dX2_weigh_101 ⟨by decide, by decide⟩ ?_
    obtain ⟨r3, A4, hq5, h⟩ := k_pb h
    refine k_callV (pc := 102) (ci := 2) (a := v0) (as := [(0, k_wr (v1 + 1)), (0, v2), (0, v3), (0, 0)]) (st := []) (st1 := [(0, r3)]) dX2_weigh_102 cbX2_gain (k_gt 529 (by decide +kernel) (by decide +kernel)) cvX2_gain.1 cvX2_gain.2 rfl (by decide) hc1 (by omega) rfl (Nat.le_of_ble_eq_true rfl) (okX2_gain hq5) rfl ?_
    refine k_goto (pc := 105) (tgt := 109) dX2_weigh_105 rfl ?_
    refine k_sub (ls' := [(1, v0), (0, v1), (0, v2), (0, v3), (2, v4), (3, 0), (3, 0), (3, 0), (3, 0)]) (k_sbl_ok _ _ ⟨Or.inr rfl, Or.inr rfl, Or.inr rfl, Or.inr rfl, Or.inr rfl, Or.inl rfl, Or.inl rfl, Or.inl rfl, Or.inl rfl, trivial⟩) ?_
    exact okX2_weigh_b109  _ _ _ _ _ _ _ _ _ h
set_option maxRecDepth 100000 in
theorem okX2_weigh_h28 : ∀ (N : Nat) (A : k_H) (v0 v1 v2 v3 v4 v6 v7 : Int) (r : Int) (A' : k_H), fX2_weigh_h28 N A v0 v1 v2 v3 v4 v6 v7 = some (r, A') → k_AW 4 mX2_weigh 28 [(1, v0), (0, v1), (0, v2), (0, v3), (2, v4), (3, 0), (0, v6), (0, v7), (3, 0)] [] A r A' := by
  intro N
  induction N with
  | zero => intro A v0 v1 v2 v3 v4 v6 v7 r A' h; exact absurd h (by simp [fX2_weigh_h28])
  | succ N ih =>
    intro A v0 v1 v2 v3 v4 v6 v7 r A' h
    rw [fX2_weigh_h28] at h
    refine k_iload (pc := 28) (x := v7) dX2_weigh_28 rfl ?_
    refine k_aload_n (pc := 30) (x := v0) dX2_weigh_30 rfl rfl ?_
    obtain ⟨hc1, h⟩ := k_pk h
    refine k_getf (pc := 31) (t := 0) (fi := 9) dX2_weigh_31 flX2_55 rfl rfl hc1 ?_
    refine k_icmp_gt (pc := 34) (tgt := 87) dX2_weigh_34 rfl (fun c2 => ?_) (fun c2 => ?_)
    · rw [if_neg (Int.not_le.mpr c2)] at h
      refine k_sub (ls' := [(1, v0), (0, v1), (0, v2), (0, v3), (2, v4), (3, 0), (3, 0), (3, 0), (3, 0)]) (k_sbl_ok _ _ ⟨Or.inr rfl, Or.inr rfl, Or.inr rfl, Or.inr rfl, Or.inr rfl, Or.inl rfl, Or.inl rfl, Or.inl rfl, Or.inl rfl, trivial⟩) ?_
      exact okX2_weigh_b87  _ _ _ _ _ _ _ _ h
    · rw [if_pos (Int.not_lt.mp c2)] at h
      refine k_iload (pc := 37) (x := v7) dX2_weigh_37 rfl ?_
      refine k_iload_n (pc := 39) (x := v2) dX2_weigh_39 rfl rfl ?_
      obtain ⟨r3, A4, hq5, h⟩ := k_pb h
      refine k_callS (pc := 40) (as := [(0, v2)]) (st := [(0, v7)]) (st1 := [(0, r3), (0, v7)]) dX2_weigh_40 cbJ6_bitCount_0f7a4 (k_gt 539 (by decide +kernel) (by decide +kernel)) (k_gt 540 (by decide +kernel) (by decide +kernel)) (by omega) rfl (Nat.le_of_ble_eq_true rfl) (okJ6_bitCount_0f7a4 hq5) rfl ?_
      refine k_icmp_gt (pc := 43) (tgt := 87) dX2_weigh_43 rfl (fun c6 => ?_) (fun c6 => ?_)
      · rw [if_neg (Int.not_le.mpr c6)] at h
        refine k_sub (ls' := [(1, v0), (0, v1), (0, v2), (0, v3), (2, v4), (3, 0), (3, 0), (3, 0), (3, 0)]) (k_sbl_ok _ _ ⟨Or.inr rfl, Or.inr rfl, Or.inr rfl, Or.inr rfl, Or.inr rfl, Or.inl rfl, Or.inl rfl, Or.inl rfl, Or.inl rfl, trivial⟩) ?_
        exact okX2_weigh_b87  _ _ _ _ _ _ _ _ h
      · rw [if_pos (Int.not_lt.mp c6)] at h
        refine k_iload (pc := 46) (x := v6) dX2_weigh_46 rfl ?_
        refine k_aload_n (pc := 48) (x := v0) dX2_weigh_48 rfl rfl ?_
        refine k_iload_n (pc := 49) (x := v1) dX2_weigh_49 rfl rfl ?_
        refine k_iload_n (pc := 50) (x := v2) dX2_weigh_50 rfl rfl ?_
        refine k_iload_n (pc := 51) (x := v3) dX2_weigh_51 rfl rfl ?_
        refine k_iload (pc := 52) (x := v7) dX2_weigh_52 rfl ?_
        obtain ⟨hc10, h⟩ := k_pk h
        obtain ⟨r7, A8, hq9, h⟩ := k_pb h
        refine k_callV (pc := 54) (ci := 2) (a := v0) (as := [(0, v1), (0, v2), (0, v3), (0, v7)]) (st := [(0, v6)]) (st1 := [(0, r7), (0, v6)]) dX2_weigh_54 cbX2_gainNextNight (k_gt 545 (by decide +kernel) (by decide +kernel)) cvX2_gainNextNight.1 cvX2_gainNextNight.2 rfl (by decide) hc10 (by omega) rfl (Nat.le_of_ble_eq_true rfl) (okX2_gainNextNight hq9) rfl ?_
        refine k_mmax (pc := 57) dX2_weigh_57 (k_gt 485 (by decide +kernel) (by decide +kernel)) (by omega) (Nat.le_of_ble_eq_true rfl) ?_
        refine k_istore (pc := 60) dX2_weigh_60 (Nat.le_of_ble_eq_true rfl) rfl ?_
        show k_AW _ _ _ [(1, v0), (0, v1), (0, v2), (0, v3), (2, v4), (3, 0), (0, v6), (0, v7), (0, (max v6 r7))] _ _ _ _
        refine k_lload (pc := 62) (x := v4) dX2_weigh_62 rfl ?_
        refine k_aload_n (pc := 64) (x := v0) dX2_weigh_64 rfl rfl ?_
        obtain ⟨hc11, h⟩ := k_pk h
        refine k_getf (pc := 65) (t := 1) (fi := 1) dX2_weigh_65 flX2_15 rfl rfl hc11 ?_
        refine k_iload_n (pc := 68) (x := v3) dX2_weigh_68 rfl rfl ?_
        obtain ⟨hc12, h⟩ := k_pk h
        refine k_iaload (pc := 69) dX2_weigh_69 hc12 ?_
        refine k_iload (pc := 70) (x := (max v6 r7)) dX2_weigh_70 rfl ?_
        refine k_iadd (pc := 72) dX2_weigh_72 ?_
        refine k_iload (pc := 73) (x := v7) dX2_weigh_73 rfl ?_
        obtain ⟨r13, A14, hq15, h⟩ := k_pb h
        refine k_callS (pc := 75) (as := [(0, k_wr ((k_rd A8 (k_rd A8 v0 1) v3) + (max v6 r7))), (0, v7)]) (st := [(2, v4)]) (st1 := [(2, r13), (2, v4)]) dX2_weigh_75 cbX2_pack (k_gt 549 (by decide +kernel) (by decide +kernel)) (k_gt 550 (by decide +kernel) (by decide +kernel)) (by omega) rfl (Nat.le_of_ble_eq_true rfl) (okX2_pack hq15) rfl ?_
        refine k_lor (pc := 78) dX2_weigh_78 ?_
        refine k_lstore (pc := 79) dX2_weigh_79 (Nat.le_of_ble_eq_true rfl) rfl ?_
        show k_AW _ _ _ [(1, v0), (0, v1), (0, v2), (0, v3), (2, (k_lorr v4 r13)), (3, 0), (0, v6), (0, v7), (0, (max v6 r7))] _ _ _ _
        refine k_iinc (pc := 81) (x := v7) dX2_weigh_81 (Nat.le_of_ble_eq_true rfl) rfl rfl ?_
        show k_AW _ _ _ [(1, v0), (0, v1), (0, v2), (0, v3), (2, (k_lorr v4 r13)), (3, 0), (0, v6), (0, k_wr (v7 + 1)), (0, (max v6 r7))] _ _ _ _
        refine k_goto (pc := 84) (tgt := 28) dX2_weigh_84 rfl ?_
        refine k_sub (ls' := [(1, v0), (0, v1), (0, v2), (0, v3), (2, (k_lorr v4 r13)), (3, 0), (0, v6), (0, k_wr (v7 + 1)), (3, 0)]) (k_sbl_ok _ _ ⟨Or.inr rfl, Or.inr rfl, Or.inr rfl, Or.inr rfl, Or.inr rfl, Or.inl rfl, Or.inr rfl, Or.inr rfl, Or.inl rfl, trivial⟩) ?_
        exact ih _ _ _ _ _ _ _ _ _ _ h
set_option maxRecDepth 100000 in
theorem okX2_weigh_b0 (A : k_H) (v0 v1 v2 v3 : Int) (r : Int) (A' : k_H) (h : fX2_weigh_b0 A v0 v1 v2 v3 = some (r, A')) : k_AW 4 mX2_weigh 0 [(1, v0), (0, v1), (0, v2), (0, v3), (3, 0), (3, 0), (3, 0), (3, 0), (3, 0)] [] A r A' := by
  unfold fX2_weigh_b0 at h
  refine k_lconst (pc := 0) (z := 0) dX2_weigh_0 (by decide +kernel) ⟨by decide, by decide⟩ ?_
  refine k_lstore (pc := 1) dX2_weigh_1 (Nat.le_of_ble_eq_true rfl) rfl ?_
  show k_AW _ _ _ [(1, v0), (0, v1), (0, v2), (0, v3), (2, 0), (3, 0), (3, 0), (3, 0), (3, 0)] _ _ _ _
  refine k_aload_n (pc := 3) (x := v0) dX2_weigh_3 rfl rfl ?_
  obtain ⟨hc1, h⟩ := k_pk h
  refine k_getf (pc := 4) (t := 1) (fi := 3) dX2_weigh_4 flX2_21 rfl rfl hc1 ?_
  refine k_iload_n (pc := 7) (x := v3) dX2_weigh_7 rfl rfl ?_
  obtain ⟨hc2, h⟩ := k_pk h
  refine k_iaload (pc := 8) dX2_weigh_8 hc2 ?_
  refine k_iload_n (pc := 9) (x := v1) dX2_weigh_9 rfl rfl ?_
  obtain ⟨r3, A4, hq5, h⟩ := k_pb h
  refine k_callS (pc := 10) (as := [(0, (k_rd A (k_rd A v0 3) v3)), (0, v1)]) (st := []) (st1 := [(0, r3)]) dX2_weigh_10 cbX2_has (k_gt 518 (by decide +kernel) (by decide +kernel)) (k_gt 519 (by decide +kernel) (by decide +kernel)) (by omega) rfl (Nat.le_of_ble_eq_true rfl) (okX2_has hq5) rfl ?_
  refine k_if_ne (pc := 13) (tgt := 87) dX2_weigh_13 rfl (fun c6 => ?_) (fun c6 => ?_)
  · rw [if_neg c6] at h
    refine k_sub (ls' := [(1, v0), (0, v1), (0, v2), (0, v3), (2, 0), (3, 0), (3, 0), (3, 0), (3, 0)]) (k_sbl_ok _ _ ⟨Or.inr rfl, Or.inr rfl, Or.inr rfl, Or.inr rfl, Or.inr rfl, Or.inl rfl, Or.inl rfl, Or.inl rfl, Or.inl rfl, trivial⟩) ?_
    exact okX2_weigh_b87  _ _ _ _ _ _ _ _ h
  · rw [if_pos (Classical.not_not.mp c6)] at h
    refine k_aload_n (pc := 16) (x := v0) dX2_weigh_16 rfl rfl ?_
    refine k_iload_n (pc := 17) (x := v1) dX2_weigh_17 rfl rfl ?_
    refine k_iload_n (pc := 18) (x := v2) dX2_weigh_18 rfl rfl ?_
    refine k_iload_n (pc := 19) (x := v3) dX2_weigh_19 rfl rfl ?_
    obtain ⟨hc10, h⟩ := k_pk h
    obtain ⟨r7, A8, hq9, h⟩ := k_pb h
    refine k_callV (pc := 20) (ci := 2) (a := v0) (as := [(0, v1), (0, v2), (0, v3)]) (st := []) (st1 := [(0, r7)]) dX2_weigh_20 cbX2_gainRested (k_gt 525 (by decide +kernel) (by decide +kernel)) cvX2_gainRested.1 cvX2_gainRested.2 rfl (by decide) hc10 (by omega) rfl (Nat.le_of_ble_eq_true rfl) (okX2_gainRested hq9) rfl ?_
    refine k_istore (pc := 23) dX2_weigh_23 (Nat.le_of_ble_eq_true rfl) rfl ?_
    show k_AW _ _ _ [(1, v0), (0, v1), (0, v2), (0, v3), (2, 0), (3, 0), (0, r7), (3, 0), (3, 0)] _ _ _ _
    refine k_iconst (pc := 25) dX2_weigh_25 ⟨by decide, by decide⟩ ?_
    refine k_istore (pc := 26) dX2_weigh_26 (Nat.le_of_ble_eq_true rfl) rfl ?_
    show k_AW _ _ _ [(1, v0), (0, v1), (0, v2), (0, v3), (2, 0), (3, 0), (0, r7), (0, 1), (3, 0)] _ _ _ _
    refine k_sub (ls' := [(1, v0), (0, v1), (0, v2), (0, v3), (2, 0), (3, 0), (0, r7), (0, 1), (3, 0)]) (k_sbl_ok _ _ ⟨Or.inr rfl, Or.inr rfl, Or.inr rfl, Or.inr rfl, Or.inr rfl, Or.inl rfl, Or.inr rfl, Or.inr rfl, Or.inl rfl, trivial⟩) ?_
    exact okX2_weigh_h28  _ _ _ _ _ _ _ _ _ _ _ h
theorem okX2_weigh {A : k_H} {x0 x1 x2 x3 : Int} {r : Int} {A1 : k_H} (h : fX2_weigh A x0 x1 x2 x3 = some (r, A1)) : k_AM 4 mX2_weigh [(1, x0), (0, x1), (0, x2), (0, x3)] A r A1 :=
  k_AM_of2 (ls := [(1, x0), (0, x1), (0, x2), (0, x3), (3, 0), (3, 0), (3, 0), (3, 0), (3, 0)]) (Or.inl (by decide +kernel)) (by decide +kernel) (by decide) rfl (Nat.le_of_ble_eq_true rfl) ⟨Or.inr rfl, Or.inr rfl, Or.inr rfl, Or.inr rfl, rfl, rfl, rfl, rfl, rfl, trivial⟩ (okX2_weigh_b0 A x0 x1 x2 x3 r A1 h)
/-! X2_walk -/
def fX2_walk_b124 (k22 : k_H → Int → Int → Int → Int → Int → Int → Int → Int → Option (Int × k_H)) (A : k_H) (v0 v1 v2 v3 v4 v5 v6 v7 : Int) : Option (Int × k_H) := k22 A v0 v1 v2 v3 v4 v5 v6 (k_wr (v7 + 1))
def fX2_walk_b58 (k22 : k_H → Int → Int → Int → Int → Int → Int → Int → Int → Option (Int × k_H)) (A : k_H) (v0 v1 v2 v3 v4 v5 v7 s0 : Int) : Option (Int × k_H) := if k_isO A v0 2 then (k_bd (fX2_firstBringing A v0 v2 v7 v3 v4 (k_wr (v7 - v5)) s0) fun r1 A2 => if r1 = (-1) then (fX2_walk_b124 k22 A2 v0 v1 v2 v3 v4 v5 s0 v7) else (if k_isO A2 v1 4 then (if k_isO A2 v0 2 then (if k_isA A2 (k_rd A2 v0 0) 21 r1 then (if k_isA A2 (k_rd A2 v1 1) 21 v7 then (k_lt (k_wt A2 (k_rd A2 v1 1) v7 (k_rd A2 (k_rd A2 v0 0) r1)) fun A10 => if k_isA A10 (k_rd A10 v0 1) 21 r1 then (fX2_walk_b124 k22 A10 v0 v1 (k_wr (v2 - (k_rd A10 (k_rd A10 v0 1) r1))) (k_or v3 (k_shl 1 r1)) r1 v7 s0 v7) else none) else none) else none) else none) else none)) else none
def fX2_walk_b57 (k22 : k_H → Int → Int → Int → Int → Int → Int → Int → Int → Option (Int × k_H)) (A : k_H) (v0 v1 v2 v3 v4 v5 v7 : Int) : Option (Int × k_H) := fX2_walk_b58 k22 A v0 v1 v2 v3 v4 v5 v7 1
def fX2_walk_h22 : Nat → k_H → Int → Int → Int → Int → Int → Int → Int → Int → Option (Int × k_H)
  | 0, _, _, _, _, _, _, _, _, _ => none
  | N + 1, A, v0, v1, v2, v3, v4, v5, v6, v7 => if k_isO A v0 2 then (if v7 ≤ (k_rd A v0 7) then (if 0 < v2 then (if v4 = (-1) then (fX2_walk_b57 (fX2_walk_h22 N) A v0 v1 v2 v3 v4 v5 v7) else (if v5 = k_wr (v7 - 1) then (fX2_walk_b58 (fX2_walk_h22 N) A v0 v1 v2 v3 v4 v5 v7 (k_wr (v6 + 1))) else (fX2_walk_b57 (fX2_walk_h22 N) A v0 v1 v2 v3 v4 v5 v7))) else (some (0, A))) else (some (0, A))) else none
def fX2_walk_b0 (A : k_H) (v0 v1 : Int) : Option (Int × k_H) := if k_isO A v0 2 then (k_bd (fX2_mostPoints A v0) fun r1 A2 => if k_isO A2 v0 2 then (fX2_walk_h22 k_FU A2 v0 v1 r1 0 (-1) (-1) 0 (k_rd A2 v0 6)) else none) else none
def fX2_walk (A : k_H) (x0 x1 : Int) : Option (Int × k_H) := fX2_walk_b0 A x0 x1
set_option maxRecDepth 100000 in
theorem okX2_walk_b124 (k22 : k_H → Int → Int → Int → Int → Int → Int → Int → Int → Option (Int × k_H)) (hk22 : ∀ (A : k_H) (v0 v1 v2 v3 v4 v5 v6 v7 : Int) (r : Int) (A' : k_H), k22 A v0 v1 v2 v3 v4 v5 v6 v7 = some (r, A') → k_AW 4 mX2_walk 22 [(1, v0), (1, v1), (0, v2), (0, v3), (0, v4), (0, v5), (0, v6), (0, v7), (3, 0)] [] A r A') (A : k_H) (v0 v1 v2 v3 v4 v5 v6 v7 : Int) (r : Int) (A' : k_H) (h : fX2_walk_b124 k22 A v0 v1 v2 v3 v4 v5 v6 v7 = some (r, A')) : k_AW 4 mX2_walk 124 [(1, v0), (1, v1), (0, v2), (0, v3), (0, v4), (0, v5), (0, v6), (0, v7), (3, 0)] [] A r A' := by
  unfold fX2_walk_b124 at h
  refine k_iinc (pc := 124) (x := v7) dX2_walk_124 (Nat.le_of_ble_eq_true rfl) rfl rfl ?_
  show k_AW _ _ _ [(1, v0), (1, v1), (0, v2), (0, v3), (0, v4), (0, v5), (0, v6), (0, k_wr (v7 + 1)), (3, 0)] _ _ _ _
  refine k_goto (pc := 127) (tgt := 22) dX2_walk_127 rfl ?_
  refine k_sub (ls' := [(1, v0), (1, v1), (0, v2), (0, v3), (0, v4), (0, v5), (0, v6), (0, k_wr (v7 + 1)), (3, 0)]) (k_sbl_ok _ _ ⟨Or.inr rfl, Or.inr rfl, Or.inr rfl, Or.inr rfl, Or.inr rfl, Or.inr rfl, Or.inr rfl, Or.inr rfl, Or.inl rfl, trivial⟩) ?_
  exact hk22 _ _ _ _ _ _ _ _ _ _ _ h
set_option maxRecDepth 100000 in
theorem okX2_walk_b58 (k22 : k_H → Int → Int → Int → Int → Int → Int → Int → Int → Option (Int × k_H)) (hk22 : ∀ (A : k_H) (v0 v1 v2 v3 v4 v5 v6 v7 : Int) (r : Int) (A' : k_H), k22 A v0 v1 v2 v3 v4 v5 v6 v7 = some (r, A') → k_AW 4 mX2_walk 22 [(1, v0), (1, v1), (0, v2), (0, v3), (0, v4), (0, v5), (0, v6), (0, v7), (3, 0)] [] A r A') (A : k_H) (v0 v1 v2 v3 v4 v5 v7 s0 : Int) (r : Int) (A' : k_H) (h : fX2_walk_b58 k22 A v0 v1 v2 v3 v4 v5 v7 s0 = some (r, A')) : k_AW 4 mX2_walk 58 [(1, v0), (1, v1), (0, v2), (0, v3), (0, v4), (0, v5), (3, 0), (0, v7), (3, 0)] [(0, s0)] A r A' := by
  unfold fX2_walk_b58 at h
  refine k_istore (pc := 58) dX2_walk_58 (Nat.le_of_ble_eq_true rfl) rfl ?_
  show k_AW _ _ _ [(1, v0), (1, v1), (0, v2), (0, v3), (0, v4), (0, v5), (0, s0), (0, v7), (3, 0)] _ _ _ _
  refine k_aload_n (pc := 60) (x := v0) dX2_walk_60 rfl rfl ?_
  refine k_iload_n (pc := 61) (x := v2) dX2_walk_61 rfl rfl ?_
  refine k_iload (pc := 62) (x := v7) dX2_walk_62 rfl ?_
  refine k_iload_n (pc := 64) (x := v3) dX2_walk_64 rfl rfl ?_
  refine k_iload (pc := 65) (x := v4) dX2_walk_65 rfl ?_
  refine k_iload (pc := 67) (x := v7) dX2_walk_67 rfl ?_
  refine k_iload (pc := 69) (x := v5) dX2_walk_69 rfl ?_
  refine k_isub (pc := 71) dX2_walk_71 ?_
  refine k_iload (pc := 72) (x := s0) dX2_walk_72 rfl ?_
  obtain ⟨hc4, h⟩ := k_pk h
  obtain ⟨r1, A2, hq3, h⟩ := k_pb h
  refine k_callV (pc := 74) (ci := 2) (a := v0) (as := [(0, v2), (0, v7), (0, v3), (0, v4), (0, k_wr (v7 - v5)), (0, s0)]) (st := []) (st1 := [(0, r1)]) dX2_walk_74 cbX2_firstBringing (k_gt 560 (by decide +kernel) (by decide +kernel)) cvX2_firstBringing.1 cvX2_firstBringing.2 rfl (by decide) hc4 (by omega) rfl (Nat.le_of_ble_eq_true rfl) (okX2_firstBringing hq3) rfl ?_
  refine k_istore (pc := 77) dX2_walk_77 (Nat.le_of_ble_eq_true rfl) rfl ?_
  show k_AW _ _ _ [(1, v0), (1, v1), (0, v2), (0, v3), (0, v4), (0, v5), (0, s0), (0, v7), (0, r1)] _ _ _ _
  refine k_iload (pc := 79) (x := r1) dX2_walk_79 rfl ?_
  refine k_iconst (pc := 81) dX2_walk_81 ⟨by decide, by decide⟩ ?_
  refine k_icmp_eq (pc := 82) (tgt := 124) dX2_walk_82 rfl (fun c5 => ?_) (fun c5 => ?_)
  · rw [if_pos c5] at h
    refine k_sub (ls' := [(1, v0), (1, v1), (0, v2), (0, v3), (0, v4), (0, v5), (0, s0), (0, v7), (3, 0)]) (k_sbl_ok _ _ ⟨Or.inr rfl, Or.inr rfl, Or.inr rfl, Or.inr rfl, Or.inr rfl, Or.inr rfl, Or.inr rfl, Or.inr rfl, Or.inl rfl, trivial⟩) ?_
    exact okX2_walk_b124 k22 hk22 _ _ _ _ _ _ _ _ _ _ _ h
  · rw [if_neg c5] at h
    refine k_aload_n (pc := 85) (x := v1) dX2_walk_85 rfl rfl ?_
    obtain ⟨hc6, h⟩ := k_pk h
    refine k_getf (pc := 86) (t := 1) (fi := 1) dX2_walk_86 flX2_114 rfl rfl hc6 ?_
    refine k_iload (pc := 89) (x := v7) dX2_walk_89 rfl ?_
    refine k_aload_n (pc := 91) (x := v0) dX2_walk_91 rfl rfl ?_
    obtain ⟨hc7, h⟩ := k_pk h
    refine k_getf (pc := 92) (t := 1) (fi := 0) dX2_walk_92 flX2_11 rfl rfl hc7 ?_
    refine k_iload (pc := 95) (x := r1) dX2_walk_95 rfl ?_
    obtain ⟨hc8, h⟩ := k_pk h
    refine k_iaload (pc := 97) dX2_walk_97 hc8 ?_
    obtain ⟨hc9, h⟩ := k_pk h
    refine k_iastore (pc := 98) dX2_walk_98 hc9 ?_
    obtain ⟨A10, eA11, h⟩ := k_pl h
    refine k_hq eA11 ?_
    refine k_iload_n (pc := 99) (x := v2) dX2_walk_99 rfl rfl ?_
    refine k_aload_n (pc := 100) (x := v0) dX2_walk_100 rfl rfl ?_
    have hf12 := k_oW eA11 hc7
    refine k_getf (pc := 101) (t := 1) (fi := 1) dX2_walk_101 flX2_15 rfl rfl hf12 ?_
    refine k_iload (pc := 104) (x := r1) dX2_walk_104 rfl ?_
    obtain ⟨hc13, h⟩ := k_pk h
    refine k_iaload (pc := 106) dX2_walk_106 hc13 ?_
    refine k_isub (pc := 107) dX2_walk_107 ?_
    refine k_istore_n (pc := 108) dX2_walk_108 rfl (Nat.le_of_ble_eq_true rfl) rfl ?_
    show k_AW _ _ _ [(1, v0), (1, v1), (0, k_wr (v2 - (k_rd A10 (k_rd A10 v0 1) r1))), (0, v3), (0, v4), (0, v5), (0, s0), (0, v7), (0, r1)] _ _ _ _
    refine k_iload_n (pc := 109) (x := v3) dX2_walk_109 rfl rfl ?_
    refine k_iconst (pc := 110) dX2_walk_110 ⟨by decide, by decide⟩ ?_
    refine k_iload (pc := 111) (x := r1) dX2_walk_111 rfl ?_
    refine k_ishl (pc := 113) dX2_walk_113 ?_
    refine k_ior (pc := 114) dX2_walk_114 ?_
    refine k_istore_n (pc := 115) dX2_walk_115 rfl (Nat.le_of_ble_eq_true rfl) rfl ?_
    show k_AW _ _ _ [(1, v0), (1, v1), (0, k_wr (v2 - (k_rd A10 (k_rd A10 v0 1) r1))), (0, (k_or v3 (k_shl 1 r1))), (0, v4), (0, v5), (0, s0), (0, v7), (0, r1)] _ _ _ _
    refine k_iload (pc := 116) (x := r1) dX2_walk_116 rfl ?_
    refine k_istore (pc := 118) dX2_walk_118 (Nat.le_of_ble_eq_true rfl) rfl ?_
    show k_AW _ _ _ [(1, v0), (1, v1), (0, k_wr (v2 - (k_rd A10 (k_rd A10 v0 1) r1))), (0, (k_or v3 (k_shl 1 r1))), (0, r1), (0, v5), (0, s0), (0, v7), (0, r1)] _ _ _ _
    refine k_iload (pc := 120) (x := v7) dX2_walk_120 rfl ?_
    refine k_istore (pc := 122) dX2_walk_122 (Nat.le_of_ble_eq_true rfl) rfl ?_
    show k_AW _ _ _ [(1, v0), (1, v1), (0, k_wr (v2 - (k_rd A10 (k_rd A10 v0 1) r1))), (0, (k_or v3 (k_shl 1 r1))), (0, r1), (0, v7), (0, s0), (0, v7), (0, r1)] _ _ _ _
    refine k_sub (ls' := [(1, v0), (1, v1), (0, k_wr (v2 - (k_rd A10 (k_rd A10 v0 1) r1))), (0, (k_or v3 (k_shl 1 r1))), (0, r1), (0, v7), (0, s0), (0, v7), (3, 0)]) (k_sbl_ok _ _ ⟨Or.inr rfl, Or.inr rfl, Or.inr rfl, Or.inr rfl, Or.inr rfl, Or.inr rfl, Or.inr rfl, Or.inr rfl, Or.inl rfl, trivial⟩) ?_
    exact okX2_walk_b124 k22 hk22 _ _ _ _ _ _ _ _ _ _ _ h
set_option maxRecDepth 100000 in
theorem okX2_walk_b57 (k22 : k_H → Int → Int → Int → Int → Int → Int → Int → Int → Option (Int × k_H)) (hk22 : ∀ (A : k_H) (v0 v1 v2 v3 v4 v5 v6 v7 : Int) (r : Int) (A' : k_H), k22 A v0 v1 v2 v3 v4 v5 v6 v7 = some (r, A') → k_AW 4 mX2_walk 22 [(1, v0), (1, v1), (0, v2), (0, v3), (0, v4), (0, v5), (0, v6), (0, v7), (3, 0)] [] A r A') (A : k_H) (v0 v1 v2 v3 v4 v5 v7 : Int) (r : Int) (A' : k_H) (h : fX2_walk_b57 k22 A v0 v1 v2 v3 v4 v5 v7 = some (r, A')) : k_AW 4 mX2_walk 57 [(1, v0), (1, v1), (0, v2), (0, v3), (0, v4), (0, v5), (3, 0), (0, v7), (3, 0)] [] A r A' := by
  unfold fX2_walk_b57 at h
  refine k_iconst (pc := 57) dX2_walk_57 ⟨by decide, by decide⟩ ?_
  refine k_sub (ls' := [(1, v0), (1, v1), (0, v2), (0, v3), (0, v4), (0, v5), (3, 0), (0, v7), (3, 0)]) (k_sbl_ok _ _ ⟨Or.inr rfl, Or.inr rfl, Or.inr rfl, Or.inr rfl, Or.inr rfl, Or.inr rfl, Or.inl rfl, Or.inr rfl, Or.inl rfl, trivial⟩) ?_
  exact okX2_walk_b58 k22 hk22 _ _ _ _ _ _ _ _ _ _ _ h
set_option maxRecDepth 100000 in
theorem okX2_walk_h22 : ∀ (N : Nat) (A : k_H) (v0 v1 v2 v3 v4 v5 v6 v7 : Int) (r : Int) (A' : k_H), fX2_walk_h22 N A v0 v1 v2 v3 v4 v5 v6 v7 = some (r, A') → k_AW 4 mX2_walk 22 [(1, v0), (1, v1), (0, v2), (0, v3), (0, v4), (0, v5), (0, v6), (0, v7), (3, 0)] [] A r A' := by
  intro N
  induction N with
  | zero => intro A v0 v1 v2 v3 v4 v5 v6 v7 r A' h; exact absurd h (by simp [fX2_walk_h22])
  | succ N ih =>
    intro A v0 v1 v2 v3 v4 v5 v6 v7 r A' h
    rw [fX2_walk_h22] at h
    refine k_iload (pc := 22) (x := v7) dX2_walk_22 rfl ?_
    refine k_aload_n (pc := 24) (x := v0) dX2_walk_24 rfl rfl ?_
    obtain ⟨hc1, h⟩ := k_pk h
    refine k_getf (pc := 25) (t := 0) (fi := 7) dX2_walk_25 flX2_41 rfl rfl hc1 ?_
    refine k_icmp_gt (pc := 28) (tgt := 130) dX2_walk_28 rfl (fun c2 => ?_) (fun c2 => ?_)
    · rw [if_neg (Int.not_le.mpr c2)] at h
      obtain ⟨rfl, rfl⟩ := k_pr h
      exact k_retv (pc := 130) dX2_walk_130 rfl
    · rw [if_pos (Int.not_lt.mp c2)] at h
      refine k_iload_n (pc := 31) (x := v2) dX2_walk_31 rfl rfl ?_
      refine k_if_le (pc := 32) (tgt := 130) dX2_walk_32 rfl (fun c3 => ?_) (fun c3 => ?_)
      · rw [if_neg (Int.not_lt.mpr c3)] at h
        obtain ⟨rfl, rfl⟩ := k_pr h
        exact k_retv (pc := 130) dX2_walk_130 rfl
      · rw [if_pos (Int.not_le.mp c3)] at h
        refine k_iload (pc := 35) (x := v4) dX2_walk_35 rfl ?_
        refine k_iconst (pc := 37) dX2_walk_37 ⟨by decide, by decide⟩ ?_
        refine k_icmp_eq (pc := 38) (tgt := 57) dX2_walk_38 rfl (fun c4 => ?_) (fun c4 => ?_)
        · rw [if_pos c4] at h
          refine k_sub (ls' := [(1, v0), (1, v1), (0, v2), (0, v3), (0, v4), (0, v5), (3, 0), (0, v7), (3, 0)]) (k_sbl_ok _ _ ⟨Or.inr rfl, Or.inr rfl, Or.inr rfl, Or.inr rfl, Or.inr rfl, Or.inr rfl, Or.inl rfl, Or.inr rfl, Or.inl rfl, trivial⟩) ?_
          exact okX2_walk_b57 (fX2_walk_h22 N) ih _ _ _ _ _ _ _ _ _ _ h
        · rw [if_neg c4] at h
          refine k_iload (pc := 41) (x := v5) dX2_walk_41 rfl ?_
          refine k_iload (pc := 43) (x := v7) dX2_walk_43 rfl ?_
          refine k_iconst (pc := 45) dX2_walk_45 ⟨by decide, by decide⟩ ?_
          refine k_isub (pc := 46) dX2_walk_46 ?_
          refine k_icmp_ne (pc := 47) (tgt := 57) dX2_walk_47 rfl (fun c5 => ?_) (fun c5 => ?_)
          · rw [if_neg c5] at h
            refine k_sub (ls' := [(1, v0), (1, v1), (0, v2), (0, v3), (0, v4), (0, v5), (3, 0), (0, v7), (3, 0)]) (k_sbl_ok _ _ ⟨Or.inr rfl, Or.inr rfl, Or.inr rfl, Or.inr rfl, Or.inr rfl, Or.inr rfl, Or.inl rfl, Or.inr rfl, Or.inl rfl, trivial⟩) ?_
            exact okX2_walk_b57 (fX2_walk_h22 N) ih _ _ _ _ _ _ _ _ _ _ h
          · rw [if_pos (Classical.not_not.mp c5)] at h
            refine k_iload (pc := 50) (x := v6) dX2_walk_50 rfl ?_
            refine k_iconst (pc := 52) dX2_walk_52 ⟨by decide, by decide⟩ ?_
            refine k_iadd (pc := 53) dX2_walk_53 ?_
            refine k_goto (pc := 54) (tgt := 58) dX2_walk_54 rfl ?_
            refine k_sub (ls' := [(1, v0), (1, v1), (0, v2), (0, v3), (0, v4), (0, v5), (3, 0), (0, v7), (3, 0)]) (k_sbl_ok _ _ ⟨Or.inr rfl, Or.inr rfl, Or.inr rfl, Or.inr rfl, Or.inr rfl, Or.inr rfl, Or.inl rfl, Or.inr rfl, Or.inl rfl, trivial⟩) ?_
            exact okX2_walk_b58 (fX2_walk_h22 N) ih _ _ _ _ _ _ _ _ _ _ _ h
set_option maxRecDepth 100000 in
theorem okX2_walk_b0 (A : k_H) (v0 v1 : Int) (r : Int) (A' : k_H) (h : fX2_walk_b0 A v0 v1 = some (r, A')) : k_AW 4 mX2_walk 0 [(1, v0), (1, v1), (3, 0), (3, 0), (3, 0), (3, 0), (3, 0), (3, 0), (3, 0)] [] A r A' := by
  unfold fX2_walk_b0 at h
  refine k_aload_n (pc := 0) (x := v0) dX2_walk_0 rfl rfl ?_
  obtain ⟨hc4, h⟩ := k_pk h
  obtain ⟨r1, A2, hq3, h⟩ := k_pb h
  refine k_callV (pc := 1) (ci := 2) (a := v0) (as := []) (st := []) (st1 := [(0, r1)]) dX2_walk_1 cbX2_mostPoints (k_gt 556 (by decide +kernel) (by decide +kernel)) cvX2_mostPoints.1 cvX2_mostPoints.2 rfl (by decide) hc4 (by omega) rfl (Nat.le_of_ble_eq_true rfl) (okX2_mostPoints hq3) rfl ?_
  refine k_istore_n (pc := 4) dX2_walk_4 rfl (Nat.le_of_ble_eq_true rfl) rfl ?_
  show k_AW _ _ _ [(1, v0), (1, v1), (0, r1), (3, 0), (3, 0), (3, 0), (3, 0), (3, 0), (3, 0)] _ _ _ _
  refine k_iconst (pc := 5) dX2_walk_5 ⟨by decide, by decide⟩ ?_
  refine k_istore_n (pc := 6) dX2_walk_6 rfl (Nat.le_of_ble_eq_true rfl) rfl ?_
  show k_AW _ _ _ [(1, v0), (1, v1), (0, r1), (0, 0), (3, 0), (3, 0), (3, 0), (3, 0), (3, 0)] _ _ _ _
  refine k_iconst (pc := 7) dX2_walk_7 ⟨by decide, by decide⟩ ?_
  refine k_istore (pc := 8) dX2_walk_8 (Nat.le_of_ble_eq_true rfl) rfl ?_
  show k_AW _ _ _ [(1, v0), (1, v1), (0, r1), (0, 0), (0, (-1)), (3, 0), (3, 0), (3, 0), (3, 0)] _ _ _ _
  refine k_iconst (pc := 10) dX2_walk_10 ⟨by decide, by decide⟩ ?_
  refine k_istore (pc := 11) dX2_walk_11 (Nat.le_of_ble_eq_true rfl) rfl ?_
  show k_AW _ _ _ [(1, v0), (1, v1), (0, r1), (0, 0), (0, (-1)), (0, (-1)), (3, 0), (3, 0), (3, 0)] _ _ _ _
  refine k_iconst (pc := 13) dX2_walk_13 ⟨by decide, by decide⟩ ?_
  refine k_istore (pc := 14) dX2_walk_14 (Nat.le_of_ble_eq_true rfl) rfl ?_
  show k_AW _ _ _ [(1, v0), (1, v1), (0, r1), (0, 0), (0, (-1)), (0, (-1)), (0, 0), (3, 0), (3, 0)] _ _ _ _
  refine k_aload_n (pc := 16) (x := v0) dX2_walk_16 rfl rfl ?_
  obtain ⟨hc5, h⟩ := k_pk h
  refine k_getf (pc := 17) (t := 0) (fi := 6) dX2_walk_17 flX2_37 rfl rfl hc5 ?_
  refine k_istore (pc := 20) dX2_walk_20 (Nat.le_of_ble_eq_true rfl) rfl ?_
  show k_AW _ _ _ [(1, v0), (1, v1), (0, r1), (0, 0), (0, (-1)), (0, (-1)), (0, 0), (0, (k_rd A2 v0 6)), (3, 0)] _ _ _ _
  refine k_sub (ls' := [(1, v0), (1, v1), (0, r1), (0, 0), (0, (-1)), (0, (-1)), (0, 0), (0, (k_rd A2 v0 6)), (3, 0)]) (k_sbl_ok _ _ ⟨Or.inr rfl, Or.inr rfl, Or.inr rfl, Or.inr rfl, Or.inr rfl, Or.inr rfl, Or.inr rfl, Or.inr rfl, Or.inl rfl, trivial⟩) ?_
  exact okX2_walk_h22  _ _ _ _ _ _ _ _ _ _ _ _ h
theorem okX2_walk {A : k_H} {x0 x1 : Int} {r : Int} {A1 : k_H} (h : fX2_walk A x0 x1 = some (r, A1)) : k_AM 4 mX2_walk [(1, x0), (1, x1)] A r A1 :=
  k_AM_of2 (ls := [(1, x0), (1, x1), (3, 0), (3, 0), (3, 0), (3, 0), (3, 0), (3, 0), (3, 0)]) (Or.inl (by decide +kernel)) (by decide +kernel) (by decide) rfl (Nat.le_of_ble_eq_true rfl) ⟨Or.inr rfl, Or.inr rfl, rfl, rfl, rfl, rfl, rfl, rfl, rfl, trivial⟩ (okX2_walk_b0 A x0 x1 r A1 h)
/-! X2_bookBest -/
def fX2_bookBest_b54 (k5 : k_H → Int → Int → Int → Option (Int × k_H)) (k15 : k_H → Int → Int → Int → Int → Option (Int × k_H)) (k28 : k_H → Int → Int → Int → Int → Int → Option (Int × k_H)) (A : k_H) (v0 v1 v2 v3 v4 : Int) : Option (Int × k_H) := k28 A v0 v1 v2 v3 (k_wr (v4 + 1))
def fX2_bookBest_h28 (k5 : k_H → Int → Int → Int → Option (Int × k_H)) (k15 : k_H → Int → Int → Int → Int → Option (Int × k_H)) : Nat → k_H → Int → Int → Int → Int → Int → Option (Int × k_H)
  | 0, _, _, _, _, _, _ => none
  | N + 1, A, v0, v1, v2, v3, v4 => if k_isO A v0 2 then (if v4 < (k_rd A v0 5) then (k_bd (fX2_has A v3 v4) fun r3 A4 => if r3 = 0 then (fX2_bookBest_b54 k5 k15 (fX2_bookBest_h28 k5 k15 N) A4 v0 v1 v2 v3 v4) else (if k_isO A4 v0 2 then (k_bd (fX2_weigh A4 v0 v2 v3 v4) fun r7 A8 => fX2_bookBest_b54 k5 k15 (fX2_bookBest_h28 k5 k15 N) A8 v0 v1 v2 v3 v4) else none)) else (k15 A v0 v1 v2 (k_wr (v3 + 1)))) else none
def fX2_bookBest_h15 (k5 : k_H → Int → Int → Int → Option (Int × k_H)) : Nat → k_H → Int → Int → Int → Int → Option (Int × k_H)
  | 0, _, _, _, _, _ => none
  | N + 1, A, v0, v1, v2, v3 => if k_isO A v0 2 then (if v3 < (k_shl 1 (k_rd A v0 5)) then (fX2_bookBest_h28 k5 (fX2_bookBest_h15 k5 N) k_FU A v0 v1 v2 v3 0) else (k5 A v0 v1 (k_wr (v2 + (-1))))) else none
def fX2_bookBest_h5 : Nat → k_H → Int → Int → Int → Option (Int × k_H)
  | 0, _, _, _, _ => none
  | N + 1, A, v0, v1, v2 => if k_isO A v0 2 then (if (k_rd A v0 6) ≤ v2 then (fX2_bookBest_h15 (fX2_bookBest_h5 N) k_FU A v0 v1 v2 1) else (k_bd (fX2_walk A v0 v1) fun r3 A4 => some (0, A4))) else none
def fX2_bookBest_b0 (A : k_H) (v0 v1 : Int) : Option (Int × k_H) := if k_isO A v0 2 then (fX2_bookBest_h5 k_FU A v0 v1 (k_rd A v0 7)) else none
def fX2_bookBest (A : k_H) (x0 x1 : Int) : Option (Int × k_H) := fX2_bookBest_b0 A x0 x1
set_option maxRecDepth 100000 in
theorem okX2_bookBest_b54 (k5 : k_H → Int → Int → Int → Option (Int × k_H)) (hk5 : ∀ (A : k_H) (v0 v1 v2 : Int) (r : Int) (A' : k_H), k5 A v0 v1 v2 = some (r, A') → k_AW 5 mX2_bookBest 5 [(1, v0), (1, v1), (0, v2), (3, 0), (3, 0)] [] A r A') (k15 : k_H → Int → Int → Int → Int → Option (Int × k_H)) (hk15 : ∀ (A : k_H) (v0 v1 v2 v3 : Int) (r : Int) (A' : k_H), k15 A v0 v1 v2 v3 = some (r, A') → k_AW 5 mX2_bookBest 15 [(1, v0), (1, v1), (0, v2), (0, v3), (3, 0)] [] A r A') (k28 : k_H → Int → Int → Int → Int → Int → Option (Int × k_H)) (hk28 : ∀ (A : k_H) (v0 v1 v2 v3 v4 : Int) (r : Int) (A' : k_H), k28 A v0 v1 v2 v3 v4 = some (r, A') → k_AW 5 mX2_bookBest 28 [(1, v0), (1, v1), (0, v2), (0, v3), (0, v4)] [] A r A') (A : k_H) (v0 v1 v2 v3 v4 : Int) (r : Int) (A' : k_H) (h : fX2_bookBest_b54 k5 k15 k28 A v0 v1 v2 v3 v4 = some (r, A')) : k_AW 5 mX2_bookBest 54 [(1, v0), (1, v1), (0, v2), (0, v3), (0, v4)] [] A r A' := by
  unfold fX2_bookBest_b54 at h
  refine k_iinc (pc := 54) (x := v4) dX2_bookBest_54 (Nat.le_of_ble_eq_true rfl) rfl rfl ?_
  show k_AW _ _ _ [(1, v0), (1, v1), (0, v2), (0, v3), (0, k_wr (v4 + 1))] _ _ _ _
  refine k_goto (pc := 57) (tgt := 28) dX2_bookBest_57 rfl ?_
  refine k_sub (ls' := [(1, v0), (1, v1), (0, v2), (0, v3), (0, k_wr (v4 + 1))]) (k_sbl_ok _ _ ⟨Or.inr rfl, Or.inr rfl, Or.inr rfl, Or.inr rfl, Or.inr rfl, trivial⟩) ?_
  exact hk28 _ _ _ _ _ _ _ _ h
set_option maxRecDepth 100000 in
theorem okX2_bookBest_h28 (k5 : k_H → Int → Int → Int → Option (Int × k_H)) (hk5 : ∀ (A : k_H) (v0 v1 v2 : Int) (r : Int) (A' : k_H), k5 A v0 v1 v2 = some (r, A') → k_AW 5 mX2_bookBest 5 [(1, v0), (1, v1), (0, v2), (3, 0), (3, 0)] [] A r A') (k15 : k_H → Int → Int → Int → Int → Option (Int × k_H)) (hk15 : ∀ (A : k_H) (v0 v1 v2 v3 : Int) (r : Int) (A' : k_H), k15 A v0 v1 v2 v3 = some (r, A') → k_AW 5 mX2_bookBest 15 [(1, v0), (1, v1), (0, v2), (0, v3), (3, 0)] [] A r A') : ∀ (N : Nat) (A : k_H) (v0 v1 v2 v3 v4 : Int) (r : Int) (A' : k_H), fX2_bookBest_h28 k5 k15 N A v0 v1 v2 v3 v4 = some (r, A') → k_AW 5 mX2_bookBest 28 [(1, v0), (1, v1), (0, v2), (0, v3), (0, v4)] [] A r A' := by
  intro N
  induction N with
  | zero => intro A v0 v1 v2 v3 v4 r A' h; exact absurd h (by simp [fX2_bookBest_h28])
  | succ N ih =>
    intro A v0 v1 v2 v3 v4 r A' h
    rw [fX2_bookBest_h28] at h
    refine k_iload (pc := 28) (x := v4) dX2_bookBest_28 rfl ?_
    refine k_aload_n (pc := 30) (x := v0) dX2_bookBest_30 rfl rfl ?_
    obtain ⟨hc1, h⟩ := k_pk h
    refine k_getf (pc := 31) (t := 0) (fi := 5) dX2_bookBest_31 flX2_28 rfl rfl hc1 ?_
    refine k_icmp_ge (pc := 34) (tgt := 60) dX2_bookBest_34 rfl (fun c2 => ?_) (fun c2 => ?_)
    · rw [if_neg (Int.not_lt.mpr c2)] at h
      refine k_iinc (pc := 60) (x := v3) dX2_bookBest_60 (Nat.le_of_ble_eq_true rfl) rfl rfl ?_
      show k_AW _ _ _ [(1, v0), (1, v1), (0, v2), (0, k_wr (v3 + 1)), (0, v4)] _ _ _ _
      refine k_goto (pc := 63) (tgt := 15) dX2_bookBest_63 rfl ?_
      refine k_sub (ls' := [(1, v0), (1, v1), (0, v2), (0, k_wr (v3 + 1)), (3, 0)]) (k_sbl_ok _ _ ⟨Or.inr rfl, Or.inr rfl, Or.inr rfl, Or.inr rfl, Or.inl rfl, trivial⟩) ?_
      exact hk15 _ _ _ _ _ _ _ h
    · rw [if_pos (Int.not_le.mp c2)] at h
      refine k_iload_n (pc := 37) (x := v3) dX2_bookBest_37 rfl rfl ?_
      refine k_iload (pc := 38) (x := v4) dX2_bookBest_38 rfl ?_
      obtain ⟨r3, A4, hq5, h⟩ := k_pb h
      refine k_callS (pc := 40) (as := [(0, v3), (0, v4)]) (st := []) (st1 := [(0, r3)]) dX2_bookBest_40 cbX2_has (k_gt 518 (by decide +kernel) (by decide +kernel)) (k_gt 519 (by decide +kernel) (by decide +kernel)) (by omega) rfl (Nat.le_of_ble_eq_true rfl) (okX2_has hq5) rfl ?_
      refine k_if_eq (pc := 43) (tgt := 54) dX2_bookBest_43 rfl (fun c6 => ?_) (fun c6 => ?_)
      · rw [if_pos c6] at h
        refine k_sub (ls' := [(1, v0), (1, v1), (0, v2), (0, v3), (0, v4)]) (k_sbl_ok _ _ ⟨Or.inr rfl, Or.inr rfl, Or.inr rfl, Or.inr rfl, Or.inr rfl, trivial⟩) ?_
        exact okX2_bookBest_b54 k5 hk5 k15 hk15 (fX2_bookBest_h28 k5 k15 N) ih _ _ _ _ _ _ _ _ h
      · rw [if_neg c6] at h
        refine k_aload_n (pc := 46) (x := v0) dX2_bookBest_46 rfl rfl ?_
        refine k_iload_n (pc := 47) (x := v2) dX2_bookBest_47 rfl rfl ?_
        refine k_iload_n (pc := 48) (x := v3) dX2_bookBest_48 rfl rfl ?_
        refine k_iload (pc := 49) (x := v4) dX2_bookBest_49 rfl ?_
        obtain ⟨hc10, h⟩ := k_pk h
        obtain ⟨r7, A8, hq9, h⟩ := k_pb h
        refine k_callV (pc := 51) (ci := 2) (a := v0) (as := [(0, v2), (0, v3), (0, v4)]) (st := []) (st1 := []) dX2_bookBest_51 cbX2_weigh (k_gt 521 (by decide +kernel) (by decide +kernel)) cvX2_weigh.1 cvX2_weigh.2 rfl (by decide) hc10 (by omega) rfl (Nat.le_of_ble_eq_true rfl) (okX2_weigh hq9) rfl ?_
        refine k_sub (ls' := [(1, v0), (1, v1), (0, v2), (0, v3), (0, v4)]) (k_sbl_ok _ _ ⟨Or.inr rfl, Or.inr rfl, Or.inr rfl, Or.inr rfl, Or.inr rfl, trivial⟩) ?_
        exact okX2_bookBest_b54 k5 hk5 k15 hk15 (fX2_bookBest_h28 k5 k15 N) ih _ _ _ _ _ _ _ _ h
set_option maxRecDepth 100000 in
theorem okX2_bookBest_h15 (k5 : k_H → Int → Int → Int → Option (Int × k_H)) (hk5 : ∀ (A : k_H) (v0 v1 v2 : Int) (r : Int) (A' : k_H), k5 A v0 v1 v2 = some (r, A') → k_AW 5 mX2_bookBest 5 [(1, v0), (1, v1), (0, v2), (3, 0), (3, 0)] [] A r A') : ∀ (N : Nat) (A : k_H) (v0 v1 v2 v3 : Int) (r : Int) (A' : k_H), fX2_bookBest_h15 k5 N A v0 v1 v2 v3 = some (r, A') → k_AW 5 mX2_bookBest 15 [(1, v0), (1, v1), (0, v2), (0, v3), (3, 0)] [] A r A' := by
  intro N
  induction N with
  | zero => intro A v0 v1 v2 v3 r A' h; exact absurd h (by simp [fX2_bookBest_h15])
  | succ N ih =>
    intro A v0 v1 v2 v3 r A' h
    rw [fX2_bookBest_h15] at h
    refine k_iload_n (pc := 15) (x := v3) dX2_bookBest_15 rfl rfl ?_
    refine k_iconst (pc := 16) dX2_bookBest_16 ⟨by decide, by decide⟩ ?_
    refine k_aload_n (pc := 17) (x := v0) dX2_bookBest_17 rfl rfl ?_
    obtain ⟨hc1, h⟩ := k_pk h
    refine k_getf (pc := 18) (t := 0) (fi := 5) dX2_bookBest_18 flX2_28 rfl rfl hc1 ?_
    refine k_ishl (pc := 21) dX2_bookBest_21 ?_
    refine k_icmp_ge (pc := 22) (tgt := 66) dX2_bookBest_22 rfl (fun c2 => ?_) (fun c2 => ?_)
    · rw [if_neg (Int.not_lt.mpr c2)] at h
      refine k_iinc (pc := 66) (x := v2) dX2_bookBest_66 (Nat.le_of_ble_eq_true rfl) rfl rfl ?_
      show k_AW _ _ _ [(1, v0), (1, v1), (0, k_wr (v2 + (-1))), (0, v3), (3, 0)] _ _ _ _
      refine k_goto (pc := 69) (tgt := 5) dX2_bookBest_69 rfl ?_
      refine k_sub (ls' := [(1, v0), (1, v1), (0, k_wr (v2 + (-1))), (3, 0), (3, 0)]) (k_sbl_ok _ _ ⟨Or.inr rfl, Or.inr rfl, Or.inr rfl, Or.inl rfl, Or.inl rfl, trivial⟩) ?_
      exact hk5 _ _ _ _ _ _ h
    · rw [if_pos (Int.not_le.mp c2)] at h
      refine k_iconst (pc := 25) dX2_bookBest_25 ⟨by decide, by decide⟩ ?_
      refine k_istore (pc := 26) dX2_bookBest_26 (Nat.le_of_ble_eq_true rfl) rfl ?_
      show k_AW _ _ _ [(1, v0), (1, v1), (0, v2), (0, v3), (0, 0)] _ _ _ _
      refine k_sub (ls' := [(1, v0), (1, v1), (0, v2), (0, v3), (0, 0)]) (k_sbl_ok _ _ ⟨Or.inr rfl, Or.inr rfl, Or.inr rfl, Or.inr rfl, Or.inr rfl, trivial⟩) ?_
      exact okX2_bookBest_h28 k5 hk5 (fX2_bookBest_h15 k5 N) ih _ _ _ _ _ _ _ _ _ h
set_option maxRecDepth 100000 in
theorem okX2_bookBest_h5 : ∀ (N : Nat) (A : k_H) (v0 v1 v2 : Int) (r : Int) (A' : k_H), fX2_bookBest_h5 N A v0 v1 v2 = some (r, A') → k_AW 5 mX2_bookBest 5 [(1, v0), (1, v1), (0, v2), (3, 0), (3, 0)] [] A r A' := by
  intro N
  induction N with
  | zero => intro A v0 v1 v2 r A' h; exact absurd h (by simp [fX2_bookBest_h5])
  | succ N ih =>
    intro A v0 v1 v2 r A' h
    rw [fX2_bookBest_h5] at h
    refine k_iload_n (pc := 5) (x := v2) dX2_bookBest_5 rfl rfl ?_
    refine k_aload_n (pc := 6) (x := v0) dX2_bookBest_6 rfl rfl ?_
    obtain ⟨hc1, h⟩ := k_pk h
    refine k_getf (pc := 7) (t := 0) (fi := 6) dX2_bookBest_7 flX2_37 rfl rfl hc1 ?_
    refine k_icmp_lt (pc := 10) (tgt := 72) dX2_bookBest_10 rfl (fun c2 => ?_) (fun c2 => ?_)
    · rw [if_neg (Int.not_le.mpr c2)] at h
      refine k_aload_n (pc := 72) (x := v0) dX2_bookBest_72 rfl rfl ?_
      refine k_aload_n (pc := 73) (x := v1) dX2_bookBest_73 rfl rfl ?_
      obtain ⟨r3, A4, hq5, h⟩ := k_pb h
      refine k_callV (pc := 74) (ci := 2) (a := v0) (as := [(1, v1)]) (st := []) (st1 := []) dX2_bookBest_74 cbX2_walk (k_gt 552 (by decide +kernel) (by decide +kernel)) cvX2_walk.1 cvX2_walk.2 rfl (by decide) hc1 (by omega) rfl (Nat.le_of_ble_eq_true rfl) (okX2_walk hq5) rfl ?_
      obtain ⟨rfl, rfl⟩ := k_pr h
      exact k_retv (pc := 77) dX2_bookBest_77 rfl
    · rw [if_pos (Int.not_lt.mp c2)] at h
      refine k_iconst (pc := 13) dX2_bookBest_13 ⟨by decide, by decide⟩ ?_
      refine k_istore_n (pc := 14) dX2_bookBest_14 rfl (Nat.le_of_ble_eq_true rfl) rfl ?_
      show k_AW _ _ _ [(1, v0), (1, v1), (0, v2), (0, 1), (3, 0)] _ _ _ _
      refine k_sub (ls' := [(1, v0), (1, v1), (0, v2), (0, 1), (3, 0)]) (k_sbl_ok _ _ ⟨Or.inr rfl, Or.inr rfl, Or.inr rfl, Or.inr rfl, Or.inl rfl, trivial⟩) ?_
      exact okX2_bookBest_h15 (fX2_bookBest_h5 N) ih _ _ _ _ _ _ _ _ h
set_option maxRecDepth 100000 in
theorem okX2_bookBest_b0 (A : k_H) (v0 v1 : Int) (r : Int) (A' : k_H) (h : fX2_bookBest_b0 A v0 v1 = some (r, A')) : k_AW 5 mX2_bookBest 0 [(1, v0), (1, v1), (3, 0), (3, 0), (3, 0)] [] A r A' := by
  unfold fX2_bookBest_b0 at h
  refine k_aload_n (pc := 0) (x := v0) dX2_bookBest_0 rfl rfl ?_
  obtain ⟨hc1, h⟩ := k_pk h
  refine k_getf (pc := 1) (t := 0) (fi := 7) dX2_bookBest_1 flX2_41 rfl rfl hc1 ?_
  refine k_istore_n (pc := 4) dX2_bookBest_4 rfl (Nat.le_of_ble_eq_true rfl) rfl ?_
  show k_AW _ _ _ [(1, v0), (1, v1), (0, (k_rd A v0 7)), (3, 0), (3, 0)] _ _ _ _
  refine k_sub (ls' := [(1, v0), (1, v1), (0, (k_rd A v0 7)), (3, 0), (3, 0)]) (k_sbl_ok _ _ ⟨Or.inr rfl, Or.inr rfl, Or.inr rfl, Or.inl rfl, Or.inl rfl, trivial⟩) ?_
  exact okX2_bookBest_h5  _ _ _ _ _ _ _ h
theorem okX2_bookBest {A : k_H} {x0 x1 : Int} {r : Int} {A1 : k_H} (h : fX2_bookBest A x0 x1 = some (r, A1)) : k_AM 5 mX2_bookBest [(1, x0), (1, x1)] A r A1 :=
  k_AM_of2 (ls := [(1, x0), (1, x1), (3, 0), (3, 0), (3, 0)]) (Or.inl (by decide +kernel)) (by decide +kernel) (by decide) rfl (Nat.le_of_ble_eq_true rfl) ⟨Or.inr rfl, Or.inr rfl, rfl, rfl, rfl, trivial⟩ (okX2_bookBest_b0 A x0 x1 r A1 h)
