/-! X0_init -/
def fX0_init_b0 (A : k_H) (v0 v1 : Int) : Option (Int × k_H) := if 0 ≤ v0 then (if 0 ≤ (max 0 v1) ∧ (max 0 v1) ≤ 1000000 then (k_lt (k_mk A 21 ((max 0 v1)).toNat) fun A3 => if k_isO A3 v0 0 then (k_lt (k_wt A3 v0 0 (k_N A : Int)) fun A6 => some (0, A6)) else none) else none) else none
def fX0_init (A : k_H) (x0 x1 : Int) : Option (Int × k_H) := fX0_init_b0 A x0 x1
set_option maxRecDepth 100000 in
theorem okX0_init_b0 (A : k_H) (v0 v1 : Int) (r : Int) (A' : k_H) (h : fX0_init_b0 A v0 v1 = some (r, A')) : k_AW 2 mX0_init 0 [(1, v0), (0, v1)] [] A r A' := by
  unfold fX0_init_b0 at h
  refine k_aload_n (pc := 0) (x := v0) dX0_init_0 rfl rfl ?_
  obtain ⟨hc1, h⟩ := k_pk h
  refine k_objInit (pc := 1) dX0_init_1 (k_gt 218 (by decide +kernel) (by decide +kernel)) (by omega) hc1 (Nat.le_of_ble_eq_true rfl) ?_
  refine k_aload_n (pc := 4) (x := v0) dX0_init_4 rfl rfl ?_
  refine k_iconst (pc := 5) dX0_init_5 ⟨by decide, by decide⟩ ?_
  refine k_iload_n (pc := 6) (x := v1) dX0_init_6 rfl rfl ?_
  refine k_mmax (pc := 7) dX0_init_7 (k_gt 219 (by decide +kernel) (by decide +kernel)) (by omega) (Nat.le_of_ble_eq_true rfl) ?_
  obtain ⟨hc2, h⟩ := k_pk h
  refine k_newa (pc := 10) (n := ((max 0 v1)).toNat) dX0_init_10 k_atI (Int.toNat_of_nonneg hc2.1).symm (by omega) ?_
  obtain ⟨A3, eA4, h⟩ := k_pl h
  refine k_hq eA4 ?_
  obtain ⟨hc5, h⟩ := k_pk h
  refine k_putF (pc := 12) (t := 1) (fi := 0) dX0_init_12 flX0_13 rfl (fun Cn Tt Nn h9 => by cases h9; rfl) rfl rfl hc5 rfl ?_
  obtain ⟨A6, eA7, h⟩ := k_pl h
  refine k_hq eA7 ?_
  obtain ⟨rfl, rfl⟩ := k_pr h
  exact k_retv (pc := 15) dX0_init_15 rfl
theorem okX0_init {A : k_H} {x0 x1 : Int} {r : Int} {A1 : k_H} (h : fX0_init A x0 x1 = some (r, A1)) : k_AM 2 mX0_init [(1, x0), (0, x1)] A r A1 :=
  k_AM_of2 (ls := [(1, x0), (0, x1)]) (Or.inl (by decide +kernel)) (by decide +kernel) (by decide) rfl (Nat.le_of_ble_eq_true rfl) ⟨Or.inr rfl, Or.inr rfl, trivial⟩ (okX0_init_b0 A x0 x1 r A1 h)
/-! X1_givenToOthers -/
def fX1_givenToOthers_b24 (k4 : k_H → Int → Int → Int → Int → Option (Int × k_H)) (A : k_H) (v0 v1 v2 v3 : Int) : Option (Int × k_H) := k4 A v0 v1 v2 (k_wr (v3 + 1))
def fX1_givenToOthers_h4 : Nat → k_H → Int → Int → Int → Int → Option (Int × k_H)
  | 0, _, _, _, _, _ => none
  | N + 1, A, v0, v1, v2, v3 => if v3 < 6 then (if v3 = v1 then (fX1_givenToOthers_b24 (fX1_givenToOthers_h4 N) A v0 v1 v2 v3) else (if k_isO A v0 1 then (if k_isA A (k_rd A v0 1) 21 v3 then (fX1_givenToOthers_b24 (fX1_givenToOthers_h4 N) A v0 v1 (k_wr (v2 + (k_rd A (k_rd A v0 1) v3))) v3) else none) else none)) else (some (v2, A))
def fX1_givenToOthers_b0 (A : k_H) (v0 v1 : Int) : Option (Int × k_H) := fX1_givenToOthers_h4 k_FU A v0 v1 0 0
def fX1_givenToOthers (A : k_H) (x0 x1 : Int) : Option (Int × k_H) := fX1_givenToOthers_b0 A x0 x1
set_option maxRecDepth 100000 in
theorem okX1_givenToOthers_b24 (k4 : k_H → Int → Int → Int → Int → Option (Int × k_H)) (hk4 : ∀ (A : k_H) (v0 v1 v2 v3 : Int) (r : Int) (A' : k_H), k4 A v0 v1 v2 v3 = some (r, A') → k_AW 1 mX1_givenToOthers 4 [(1, v0), (0, v1), (0, v2), (0, v3)] [] A r A') (A : k_H) (v0 v1 v2 v3 : Int) (r : Int) (A' : k_H) (h : fX1_givenToOthers_b24 k4 A v0 v1 v2 v3 = some (r, A')) : k_AW 1 mX1_givenToOthers 24 [(1, v0), (0, v1), (0, v2), (0, v3)] [] A r A' := by
  unfold fX1_givenToOthers_b24 at h
  refine k_iinc (pc := 24) (x := v3) dX1_givenToOthers_24 (Nat.le_of_ble_eq_true rfl) rfl rfl ?_
  show k_AW _ _ _ [(1, v0), (0, v1), (0, v2), (0, k_wr (v3 + 1))] _ _ _ _
  refine k_goto (pc := 27) (tgt := 4) dX1_givenToOthers_27 rfl ?_
  refine k_sub (ls' := [(1, v0), (0, v1), (0, v2), (0, k_wr (v3 + 1))]) (k_sbl_ok _ _ ⟨Or.inr rfl, Or.inr rfl, Or.inr rfl, Or.inr rfl, trivial⟩) ?_
  exact hk4 _ _ _ _ _ _ _ h
set_option maxRecDepth 100000 in
theorem okX1_givenToOthers_h4 : ∀ (N : Nat) (A : k_H) (v0 v1 v2 v3 : Int) (r : Int) (A' : k_H), fX1_givenToOthers_h4 N A v0 v1 v2 v3 = some (r, A') → k_AW 1 mX1_givenToOthers 4 [(1, v0), (0, v1), (0, v2), (0, v3)] [] A r A' := by
  intro N
  induction N with
  | zero => intro A v0 v1 v2 v3 r A' h; exact absurd h (by simp [fX1_givenToOthers_h4])
  | succ N ih =>
    intro A v0 v1 v2 v3 r A' h
    rw [fX1_givenToOthers_h4] at h
    refine k_iload_n (pc := 4) (x := v3) dX1_givenToOthers_4 rfl rfl ?_
    refine k_bipush (pc := 5) dX1_givenToOthers_5 ⟨by decide, by decide⟩ (by decide +kernel) ?_
    refine k_icmp_ge (pc := 7) (tgt := 30) dX1_givenToOthers_7 rfl (fun c1 => ?_) (fun c1 => ?_)
    · rw [if_neg (Int.not_lt.mpr c1)] at h
      refine k_iload_n (pc := 30) (x := v2) dX1_givenToOthers_30 rfl rfl ?_
      obtain ⟨rfl, rfl⟩ := k_pr h
      exact k_ret (pc := 31) dX1_givenToOthers_31 rfl rfl rfl
    · rw [if_pos (Int.not_le.mp c1)] at h
      refine k_iload_n (pc := 10) (x := v3) dX1_givenToOthers_10 rfl rfl ?_
      refine k_iload_n (pc := 11) (x := v1) dX1_givenToOthers_11 rfl rfl ?_
      refine k_icmp_eq (pc := 12) (tgt := 24) dX1_givenToOthers_12 rfl (fun c2 => ?_) (fun c2 => ?_)
      · rw [if_pos c2] at h
        refine k_sub (ls' := [(1, v0), (0, v1), (0, v2), (0, v3)]) (k_sbl_ok _ _ ⟨Or.inr rfl, Or.inr rfl, Or.inr rfl, Or.inr rfl, trivial⟩) ?_
        exact okX1_givenToOthers_b24 (fX1_givenToOthers_h4 N) ih _ _ _ _ _ _ _ h
      · rw [if_neg c2] at h
        refine k_iload_n (pc := 15) (x := v2) dX1_givenToOthers_15 rfl rfl ?_
        refine k_aload_n (pc := 16) (x := v0) dX1_givenToOthers_16 rfl rfl ?_
        obtain ⟨hc3, h⟩ := k_pk h
        refine k_getf (pc := 17) (t := 1) (fi := 1) dX1_givenToOthers_17 flX1_20 rfl rfl hc3 ?_
        refine k_iload_n (pc := 20) (x := v3) dX1_givenToOthers_20 rfl rfl ?_
        obtain ⟨hc4, h⟩ := k_pk h
        refine k_iaload (pc := 21) dX1_givenToOthers_21 hc4 ?_
        refine k_iadd (pc := 22) dX1_givenToOthers_22 ?_
        refine k_istore_n (pc := 23) dX1_givenToOthers_23 rfl (Nat.le_of_ble_eq_true rfl) rfl ?_
        show k_AW _ _ _ [(1, v0), (0, v1), (0, k_wr (v2 + (k_rd A (k_rd A v0 1) v3))), (0, v3)] _ _ _ _
        refine k_sub (ls' := [(1, v0), (0, v1), (0, k_wr (v2 + (k_rd A (k_rd A v0 1) v3))), (0, v3)]) (k_sbl_ok _ _ ⟨Or.inr rfl, Or.inr rfl, Or.inr rfl, Or.inr rfl, trivial⟩) ?_
        exact okX1_givenToOthers_b24 (fX1_givenToOthers_h4 N) ih _ _ _ _ _ _ _ h
set_option maxRecDepth 100000 in
theorem okX1_givenToOthers_b0 (A : k_H) (v0 v1 : Int) (r : Int) (A' : k_H) (h : fX1_givenToOthers_b0 A v0 v1 = some (r, A')) : k_AW 1 mX1_givenToOthers 0 [(1, v0), (0, v1), (3, 0), (3, 0)] [] A r A' := by
  unfold fX1_givenToOthers_b0 at h
  refine k_iconst (pc := 0) dX1_givenToOthers_0 ⟨by decide, by decide⟩ ?_
  refine k_istore_n (pc := 1) dX1_givenToOthers_1 rfl (Nat.le_of_ble_eq_true rfl) rfl ?_
  show k_AW _ _ _ [(1, v0), (0, v1), (0, 0), (3, 0)] _ _ _ _
  refine k_iconst (pc := 2) dX1_givenToOthers_2 ⟨by decide, by decide⟩ ?_
  refine k_istore_n (pc := 3) dX1_givenToOthers_3 rfl (Nat.le_of_ble_eq_true rfl) rfl ?_
  show k_AW _ _ _ [(1, v0), (0, v1), (0, 0), (0, 0)] _ _ _ _
  refine k_sub (ls' := [(1, v0), (0, v1), (0, 0), (0, 0)]) (k_sbl_ok _ _ ⟨Or.inr rfl, Or.inr rfl, Or.inr rfl, Or.inr rfl, trivial⟩) ?_
  exact okX1_givenToOthers_h4  _ _ _ _ _ _ _ _ h
theorem okX1_givenToOthers {A : k_H} {x0 x1 : Int} {r : Int} {A1 : k_H} (h : fX1_givenToOthers A x0 x1 = some (r, A1)) : k_AM 1 mX1_givenToOthers [(1, x0), (0, x1)] A r A1 :=
  k_AM_of2 (ls := [(1, x0), (0, x1), (3, 0), (3, 0)]) (Or.inl (by decide +kernel)) (by decide +kernel) (by decide) rfl (Nat.le_of_ble_eq_true rfl) ⟨Or.inr rfl, Or.inr rfl, rfl, rfl, trivial⟩ (okX1_givenToOthers_b0 A x0 x1 r A1 h)
/-! X1_milesTo -/
def fX1_milesTo_b0 (A : k_H) (v0 v1 : Int) : Option (Int × k_H) := if k_isO A v0 1 then (if k_isO A v1 1 then (some (k_wr ((if 0 ≤ k_wr ((k_rd A v0 2) - (k_rd A v1 2)) then k_wr ((k_rd A v0 2) - (k_rd A v1 2)) else k_wr (-(k_wr ((k_rd A v0 2) - (k_rd A v1 2))))) + (if 0 ≤ k_wr ((k_rd A v0 3) - (k_rd A v1 3)) then k_wr ((k_rd A v0 3) - (k_rd A v1 3)) else k_wr (-(k_wr ((k_rd A v0 3) - (k_rd A v1 3)))))), A)) else none) else none
def fX1_milesTo (A : k_H) (x0 x1 : Int) : Option (Int × k_H) := fX1_milesTo_b0 A x0 x1
set_option maxRecDepth 100000 in
theorem okX1_milesTo_b0 (A : k_H) (v0 v1 : Int) (r : Int) (A' : k_H) (h : fX1_milesTo_b0 A v0 v1 = some (r, A')) : k_AW 2 mX1_milesTo 0 [(1, v0), (1, v1)] [] A r A' := by
  unfold fX1_milesTo_b0 at h
  refine k_aload_n (pc := 0) (x := v0) dX1_milesTo_0 rfl rfl ?_
  obtain ⟨hc1, h⟩ := k_pk h
  refine k_getf (pc := 1) (t := 0) (fi := 2) dX1_milesTo_1 flX1_35 rfl rfl hc1 ?_
  refine k_aload_n (pc := 4) (x := v1) dX1_milesTo_4 rfl rfl ?_
  obtain ⟨hc2, h⟩ := k_pk h
  refine k_getf (pc := 5) (t := 0) (fi := 2) dX1_milesTo_5 flX1_35 rfl rfl hc2 ?_
  refine k_isub (pc := 8) dX1_milesTo_8 ?_
  refine k_mabs (pc := 9) dX1_milesTo_9 (k_gt 499 (by decide +kernel) (by decide +kernel)) (by omega) (Nat.le_of_ble_eq_true rfl) ?_
  refine k_aload_n (pc := 12) (x := v0) dX1_milesTo_12 rfl rfl ?_
  refine k_getf (pc := 13) (t := 0) (fi := 3) dX1_milesTo_13 flX1_44 rfl rfl hc1 ?_
  refine k_aload_n (pc := 16) (x := v1) dX1_milesTo_16 rfl rfl ?_
  refine k_getf (pc := 17) (t := 0) (fi := 3) dX1_milesTo_17 flX1_44 rfl rfl hc2 ?_
  refine k_isub (pc := 20) dX1_milesTo_20 ?_
  refine k_mabs (pc := 21) dX1_milesTo_21 (k_gt 499 (by decide +kernel) (by decide +kernel)) (by omega) (Nat.le_of_ble_eq_true rfl) ?_
  refine k_iadd (pc := 24) dX1_milesTo_24 ?_
  obtain ⟨rfl, rfl⟩ := k_pr h
  exact k_ret (pc := 25) dX1_milesTo_25 rfl rfl rfl
theorem okX1_milesTo {A : k_H} {x0 x1 : Int} {r : Int} {A1 : k_H} (h : fX1_milesTo A x0 x1 = some (r, A1)) : k_AM 2 mX1_milesTo [(1, x0), (1, x1)] A r A1 :=
  k_AM_of2 (ls := [(1, x0), (1, x1)]) (Or.inl (by decide +kernel)) (by decide +kernel) (by decide) rfl (Nat.le_of_ble_eq_true rfl) ⟨Or.inr rfl, Or.inr rfl, trivial⟩ (okX1_milesTo_b0 A x0 x1 r A1 h)
/-! X3_init -/
def fX3_init_b0 (A : k_H) (v0 : Int) : Option (Int × k_H) := if 0 ≤ v0 then (k_lt (k_mk A 21 4) fun A2 => if k_isO A2 v0 3 then (k_lt (k_wt A2 v0 0 (k_N A : Int)) fun A5 => k_lt (k_mk A5 21 8) fun A7 => if k_isO A7 v0 3 then (k_lt (k_wt A7 v0 1 (k_N A5 : Int)) fun A10 => k_lt (k_mk A10 21 9) fun A12 => if k_isO A12 v0 3 then (k_lt (k_wt A12 v0 2 (k_N A10 : Int)) fun A15 => k_lt (k_mk A15 21 9) fun A17 => if k_isO A17 v0 3 then (k_lt (k_wt A17 v0 3 (k_N A15 : Int)) fun A20 => k_lt (k_mk A20 21 8) fun A22 => if k_isO A22 v0 3 then (k_lt (k_wt A22 v0 4 (k_N A20 : Int)) fun A25 => k_lt (k_mk A25 21 8) fun A27 => if k_isO A27 v0 3 then (k_lt (k_wt A27 v0 5 (k_N A25 : Int)) fun A30 => some (0, A30)) else none) else none) else none) else none) else none) else none) else none
def fX3_init (A : k_H) (x0 : Int) : Option (Int × k_H) := fX3_init_b0 A x0
set_option maxRecDepth 100000 in
theorem okX3_init_b0 (A : k_H) (v0 : Int) (r : Int) (A' : k_H) (h : fX3_init_b0 A v0 = some (r, A')) : k_AW 1 mX3_init 0 [(1, v0)] [] A r A' := by
  unfold fX3_init_b0 at h
  refine k_aload_n (pc := 0) (x := v0) dX3_init_0 rfl rfl ?_
  obtain ⟨hc1, h⟩ := k_pk h
  refine k_objInit (pc := 1) dX3_init_1 (k_gt 57 (by decide +kernel) (by decide +kernel)) (by omega) hc1 (Nat.le_of_ble_eq_true rfl) ?_
  refine k_aload_n (pc := 4) (x := v0) dX3_init_4 rfl rfl ?_
  refine k_iconst (pc := 5) dX3_init_5 ⟨by decide, by decide⟩ ?_
  refine k_newa (pc := 6) (n := 4) dX3_init_6 k_atI rfl (by decide) ?_
  obtain ⟨A2, eA3, h⟩ := k_pl h
  refine k_hq eA3 ?_
  obtain ⟨hc4, h⟩ := k_pk h
  refine k_putF (pc := 8) (t := 1) (fi := 0) dX3_init_8 flX3_9 rfl (fun Cn Tt Nn h9 => by cases h9; rfl) rfl rfl hc4 rfl ?_
  obtain ⟨A5, eA6, h⟩ := k_pl h
  refine k_hq eA6 ?_
  refine k_aload_n (pc := 11) (x := v0) dX3_init_11 rfl rfl ?_
  refine k_bipush (pc := 12) dX3_init_12 ⟨by decide, by decide⟩ (by decide +kernel) ?_
  refine k_newa (pc := 14) (n := 8) dX3_init_14 k_atI rfl (by decide) ?_
  obtain ⟨A7, eA8, h⟩ := k_pl h
  refine k_hq eA8 ?_
  obtain ⟨hc9, h⟩ := k_pk h
  refine k_putF (pc := 16) (t := 1) (fi := 1) dX3_init_16 flX3_15 rfl (fun Cn Tt Nn h9 => by cases h9; rfl) rfl rfl hc9 rfl ?_
  obtain ⟨A10, eA11, h⟩ := k_pl h
  refine k_hq eA11 ?_
  refine k_aload_n (pc := 19) (x := v0) dX3_init_19 rfl rfl ?_
  refine k_bipush (pc := 20) dX3_init_20 ⟨by decide, by decide⟩ (by decide +kernel) ?_
  refine k_newa (pc := 22) (n := 9) dX3_init_22 k_atI rfl (by decide) ?_
  obtain ⟨A12, eA13, h⟩ := k_pl h
  refine k_hq eA13 ?_
  obtain ⟨hc14, h⟩ := k_pk h
  refine k_putF (pc := 24) (t := 1) (fi := 2) dX3_init_24 flX3_18 rfl (fun Cn Tt Nn h9 => by cases h9; rfl) rfl rfl hc14 rfl ?_
  obtain ⟨A15, eA16, h⟩ := k_pl h
  refine k_hq eA16 ?_
  refine k_aload_n (pc := 27) (x := v0) dX3_init_27 rfl rfl ?_
  refine k_bipush (pc := 28) dX3_init_28 ⟨by decide, by decide⟩ (by decide +kernel) ?_
  refine k_newa (pc := 30) (n := 9) dX3_init_30 k_atI rfl (by decide) ?_
  obtain ⟨A17, eA18, h⟩ := k_pl h
  refine k_hq eA18 ?_
  obtain ⟨hc19, h⟩ := k_pk h
  refine k_putF (pc := 32) (t := 1) (fi := 3) dX3_init_32 flX3_21 rfl (fun Cn Tt Nn h9 => by cases h9; rfl) rfl rfl hc19 rfl ?_
  obtain ⟨A20, eA21, h⟩ := k_pl h
  refine k_hq eA21 ?_
  refine k_aload_n (pc := 35) (x := v0) dX3_init_35 rfl rfl ?_
  refine k_bipush (pc := 36) dX3_init_36 ⟨by decide, by decide⟩ (by decide +kernel) ?_
  refine k_newa (pc := 38) (n := 8) dX3_init_38 k_atI rfl (by decide) ?_
  obtain ⟨A22, eA23, h⟩ := k_pl h
  refine k_hq eA23 ?_
  obtain ⟨hc24, h⟩ := k_pk h
  refine k_putF (pc := 40) (t := 1) (fi := 4) dX3_init_40 flX3_24 rfl (fun Cn Tt Nn h9 => by cases h9; rfl) rfl rfl hc24 rfl ?_
  obtain ⟨A25, eA26, h⟩ := k_pl h
  refine k_hq eA26 ?_
  refine k_aload_n (pc := 43) (x := v0) dX3_init_43 rfl rfl ?_
  refine k_bipush (pc := 44) dX3_init_44 ⟨by decide, by decide⟩ (by decide +kernel) ?_
  refine k_newa (pc := 46) (n := 8) dX3_init_46 k_atI rfl (by decide) ?_
  obtain ⟨A27, eA28, h⟩ := k_pl h
  refine k_hq eA28 ?_
  obtain ⟨hc29, h⟩ := k_pk h
  refine k_putF (pc := 48) (t := 1) (fi := 5) dX3_init_48 flX3_27 rfl (fun Cn Tt Nn h9 => by cases h9; rfl) rfl rfl hc29 rfl ?_
  obtain ⟨A30, eA31, h⟩ := k_pl h
  refine k_hq eA31 ?_
  obtain ⟨rfl, rfl⟩ := k_pr h
  exact k_retv (pc := 51) dX3_init_51 rfl
theorem okX3_init {A : k_H} {x0 : Int} {r : Int} {A1 : k_H} (h : fX3_init A x0 = some (r, A1)) : k_AM 1 mX3_init [(1, x0)] A r A1 :=
  k_AM_of2 (ls := [(1, x0)]) (Or.inl (by decide +kernel)) (by decide +kernel) (by decide) rfl (Nat.le_of_ble_eq_true rfl) ⟨Or.inr rfl, trivial⟩ (okX3_init_b0 A x0 r A1 h)
/-! X3_circuitOf -/
def fX3_circuitOf_b0 (A : k_H) (v0 v1 : Int) : Option (Int × k_H) := if 0 ≤ v1 then (if k_isO A v0 3 then (if v1 < (k_rd A v0 6) then (if k_isA A (k_rd A v0 5) 21 v1 then (some ((k_rd A (k_rd A v0 5) v1), A)) else none) else (some ((-1), A))) else none) else (some ((-1), A))
def fX3_circuitOf (A : k_H) (x0 x1 : Int) : Option (Int × k_H) := fX3_circuitOf_b0 A x0 x1
set_option maxRecDepth 100000 in
theorem okX3_circuitOf_b0 (A : k_H) (v0 v1 : Int) (r : Int) (A' : k_H) (h : fX3_circuitOf_b0 A v0 v1 = some (r, A')) : k_AW 1 mX3_circuitOf 0 [(1, v0), (0, v1)] [] A r A' := by
  unfold fX3_circuitOf_b0 at h
  refine k_iload_n (pc := 0) (x := v1) dX3_circuitOf_0 rfl rfl ?_
  refine k_if_lt (pc := 1) (tgt := 21) dX3_circuitOf_1 rfl (fun c1 => ?_) (fun c1 => ?_)
  · rw [if_neg (Int.not_le.mpr c1)] at h
    refine k_iconst (pc := 21) dX3_circuitOf_21 ⟨by decide, by decide⟩ ?_
    obtain ⟨rfl, rfl⟩ := k_pr h
    exact k_ret (pc := 22) dX3_circuitOf_22 rfl rfl rfl
  · rw [if_pos (Int.not_lt.mp c1)] at h
    refine k_iload_n (pc := 4) (x := v1) dX3_circuitOf_4 rfl rfl ?_
    refine k_aload_n (pc := 5) (x := v0) dX3_circuitOf_5 rfl rfl ?_
    obtain ⟨hc2, h⟩ := k_pk h
    refine k_getf (pc := 6) (t := 0) (fi := 6) dX3_circuitOf_6 flX3_42 rfl rfl hc2 ?_
    refine k_icmp_ge (pc := 9) (tgt := 21) dX3_circuitOf_9 rfl (fun c3 => ?_) (fun c3 => ?_)
    · rw [if_neg (Int.not_lt.mpr c3)] at h
      refine k_iconst (pc := 21) dX3_circuitOf_21 ⟨by decide, by decide⟩ ?_
      obtain ⟨rfl, rfl⟩ := k_pr h
      exact k_ret (pc := 22) dX3_circuitOf_22 rfl rfl rfl
    · rw [if_pos (Int.not_le.mp c3)] at h
      refine k_aload_n (pc := 12) (x := v0) dX3_circuitOf_12 rfl rfl ?_
      refine k_getf (pc := 13) (t := 1) (fi := 5) dX3_circuitOf_13 flX3_27 rfl rfl hc2 ?_
      refine k_iload_n (pc := 16) (x := v1) dX3_circuitOf_16 rfl rfl ?_
      obtain ⟨hc4, h⟩ := k_pk h
      refine k_iaload (pc := 17) dX3_circuitOf_17 hc4 ?_
      refine k_goto (pc := 18) (tgt := 22) dX3_circuitOf_18 rfl ?_
      obtain ⟨rfl, rfl⟩ := k_pr h
      exact k_ret (pc := 22) dX3_circuitOf_22 rfl rfl rfl
theorem okX3_circuitOf {A : k_H} {x0 x1 : Int} {r : Int} {A1 : k_H} (h : fX3_circuitOf A x0 x1 = some (r, A1)) : k_AM 1 mX3_circuitOf [(1, x0), (0, x1)] A r A1 :=
  k_AM_of2 (ls := [(1, x0), (0, x1)]) (Or.inl (by decide +kernel)) (by decide +kernel) (by decide) rfl (Nat.le_of_ble_eq_true rfl) ⟨Or.inr rfl, Or.inr rfl, trivial⟩ (okX3_circuitOf_b0 A x0 x1 r A1 h)
/-! X3_lay -/
def fX3_lay_h80 : Nat → k_H → Int → Int → Int → Option (Int × k_H)
  | 0, _, _, _, _ => none
  | N + 1, A, v0, v1, v3 => if 0 ≤ v3 then (if k_isO A v0 3 then (if k_isO A v1 0 then (if k_isA A (k_rd A v1 0) 21 v3 then (if k_isA A (k_rd A v0 1) 21 v3 then (k_lt (k_wt A (k_rd A v0 1) v3 (k_rd A (k_rd A v1 0) v3)) fun A6 => if k_isA A6 (k_rd A6 v0 2) 21 (k_wr (v3 + 1)) then (if k_isA A6 (k_rd A6 v0 1) 21 v3 then (if k_isA A6 (k_rd A6 v0 2) 21 v3 then (k_lt (k_wt A6 (k_rd A6 v0 2) v3 (k_wr ((k_rd A6 (k_rd A6 v0 2) (k_wr (v3 + 1))) + (k_rd A6 (k_rd A6 v0 1) v3)))) fun A12 => if k_isA A12 (k_rd A12 v0 3) 21 (k_wr (v3 + 1)) then (if k_isA A12 (k_rd A12 v0 1) 21 v3 then (if k_isA A12 (k_rd A12 v0 3) 21 v3 then (k_lt (k_wt A12 (k_rd A12 v0 3) v3 (max (k_rd A12 (k_rd A12 v0 3) (k_wr (v3 + 1))) (k_rd A12 (k_rd A12 v0 1) v3))) fun A18 => (fX3_lay_h80 N) A18 v0 v1 (k_wr (v3 + (-1)))) else none) else none) else none) else none) else none) else none) else none) else none) else none) else none) else (some (0, A))
def fX3_lay_h27 : Nat → k_H → Int → Int → Int → Int → Option (Int × k_H)
  | 0, _, _, _, _, _ => none
  | N + 1, A, v0, v1, v2, v3 => if k_isO A v0 3 then (if v3 < (k_rd A v0 7) then (if k_isO A v2 0 then (if k_isA A (k_rd A v2 0) 21 v3 then (if k_isA A (k_rd A v0 0) 21 v3 then (k_lt (k_wt A (k_rd A v0 0) v3 (k_rd A (k_rd A v2 0) v3)) fun A14 => (fX3_lay_h27 N) A14 v0 v1 v2 (k_wr (v3 + 1))) else none) else none) else none) else (if k_isA A (k_rd A v0 2) 21 (k_rd A v0 6) then (k_lt (k_wt A (k_rd A v0 2) (k_rd A v0 6) 0) fun A4 => if k_isA A4 (k_rd A4 v0 3) 21 (k_rd A4 v0 6) then (k_lt (k_wt A4 (k_rd A4 v0 3) (k_rd A4 v0 6) 0) fun A8 => fX3_lay_h80 k_FU A8 v0 v1 (k_wr ((k_rd A8 v0 6) - 1))) else none) else none)) else none
def fX3_lay_b0 (A : k_H) (v0 v1 v2 : Int) : Option (Int × k_H) := if k_isO A v1 0 then (if k_isO A v0 3 then (k_lt (k_wt A v0 6 (min (k_rd A v1 1) 8)) fun A3 => if k_isO A3 v2 0 then (k_lt (k_wt A3 v0 7 (min (k_rd A3 v2 1) 4)) fun A7 => fX3_lay_h27 k_FU A7 v0 v1 v2 0) else none) else none) else none
def fX3_lay (A : k_H) (x0 x1 x2 : Int) : Option (Int × k_H) := fX3_lay_b0 A x0 x1 x2
set_option maxRecDepth 100000 in
theorem okX3_lay_h80 : ∀ (N : Nat) (A : k_H) (v0 v1 v3 : Int) (r : Int) (A' : k_H), fX3_lay_h80 N A v0 v1 v3 = some (r, A') → k_AW 2 mX3_lay 80 [(1, v0), (1, v1), (3, 0), (0, v3)] [] A r A' := by
  intro N
  induction N with
  | zero => intro A v0 v1 v3 r A' h; exact absurd h (by simp [fX3_lay_h80])
  | succ N ih =>
    intro A v0 v1 v3 r A' h
    rw [fX3_lay_h80] at h
    refine k_iload_n (pc := 80) (x := v3) dX3_lay_80 rfl rfl ?_
    refine k_if_lt (pc := 81) (tgt := 146) dX3_lay_81 rfl (fun c1 => ?_) (fun c1 => ?_)
    · rw [if_neg (Int.not_le.mpr c1)] at h
      obtain ⟨rfl, rfl⟩ := k_pr h
      exact k_retv (pc := 146) dX3_lay_146 rfl
    · rw [if_pos (Int.not_lt.mp c1)] at h
      refine k_aload_n (pc := 84) (x := v0) dX3_lay_84 rfl rfl ?_
      obtain ⟨hc2, h⟩ := k_pk h
      refine k_getf (pc := 85) (t := 1) (fi := 1) dX3_lay_85 flX3_15 rfl rfl hc2 ?_
      refine k_iload_n (pc := 88) (x := v3) dX3_lay_88 rfl rfl ?_
      refine k_aload_n (pc := 89) (x := v1) dX3_lay_89 rfl rfl ?_
      obtain ⟨hc3, h⟩ := k_pk h
      refine k_getf (pc := 90) (t := 1) (fi := 0) dX3_lay_90 flX3_59 rfl rfl hc3 ?_
      refine k_iload_n (pc := 93) (x := v3) dX3_lay_93 rfl rfl ?_
      obtain ⟨hc4, h⟩ := k_pk h
      refine k_iaload (pc := 94) dX3_lay_94 hc4 ?_
      obtain ⟨hc5, h⟩ := k_pk h
      refine k_iastore (pc := 95) dX3_lay_95 hc5 ?_
      obtain ⟨A6, eA7, h⟩ := k_pl h
      refine k_hq eA7 ?_
      refine k_aload_n (pc := 96) (x := v0) dX3_lay_96 rfl rfl ?_
      have hf8 := k_oW eA7 hc2
      refine k_getf (pc := 97) (t := 1) (fi := 2) dX3_lay_97 flX3_18 rfl rfl hf8 ?_
      refine k_iload_n (pc := 100) (x := v3) dX3_lay_100 rfl rfl ?_
      refine k_aload_n (pc := 101) (x := v0) dX3_lay_101 rfl rfl ?_
      refine k_getf (pc := 102) (t := 1) (fi := 2) dX3_lay_102 flX3_18 rfl rfl hf8 ?_
      refine k_iload_n (pc := 105) (x := v3) dX3_lay_105 rfl rfl ?_
      refine k_iconst (pc := 106) dX3_lay_106 ⟨by decide, by decide⟩ ?_
      refine k_iadd (pc := 107) dX3_lay_107 ?_
      obtain ⟨hc9, h⟩ := k_pk h
      refine k_iaload (pc := 108) dX3_lay_108 hc9 ?_
      refine k_aload_n (pc := 109) (x := v0) dX3_lay_109 rfl rfl ?_
      refine k_getf (pc := 110) (t := 1) (fi := 1) dX3_lay_110 flX3_15 rfl rfl hf8 ?_
      refine k_iload_n (pc := 113) (x := v3) dX3_lay_113 rfl rfl ?_
      obtain ⟨hc10, h⟩ := k_pk h
      refine k_iaload (pc := 114) dX3_lay_114 hc10 ?_
      refine k_iadd (pc := 115) dX3_lay_115 ?_
      obtain ⟨hc11, h⟩ := k_pk h
      refine k_iastore (pc := 116) dX3_lay_116 hc11 ?_
      obtain ⟨A12, eA13, h⟩ := k_pl h
      refine k_hq eA13 ?_
      refine k_aload_n (pc := 117) (x := v0) dX3_lay_117 rfl rfl ?_
      have hf14 := k_oW eA13 hf8
      refine k_getf (pc := 118) (t := 1) (fi := 3) dX3_lay_118 flX3_21 rfl rfl hf14 ?_
      refine k_iload_n (pc := 121) (x := v3) dX3_lay_121 rfl rfl ?_
      refine k_aload_n (pc := 122) (x := v0) dX3_lay_122 rfl rfl ?_
      refine k_getf (pc := 123) (t := 1) (fi := 3) dX3_lay_123 flX3_21 rfl rfl hf14 ?_
      refine k_iload_n (pc := 126) (x := v3) dX3_lay_126 rfl rfl ?_
      refine k_iconst (pc := 127) dX3_lay_127 ⟨by decide, by decide⟩ ?_
      refine k_iadd (pc := 128) dX3_lay_128 ?_
      obtain ⟨hc15, h⟩ := k_pk h
      refine k_iaload (pc := 129) dX3_lay_129 hc15 ?_
      refine k_aload_n (pc := 130) (x := v0) dX3_lay_130 rfl rfl ?_
      refine k_getf (pc := 131) (t := 1) (fi := 1) dX3_lay_131 flX3_15 rfl rfl hf14 ?_
      refine k_iload_n (pc := 134) (x := v3) dX3_lay_134 rfl rfl ?_
      obtain ⟨hc16, h⟩ := k_pk h
      refine k_iaload (pc := 135) dX3_lay_135 hc16 ?_
      refine k_mmax (pc := 136) dX3_lay_136 (k_gt 437 (by decide +kernel) (by decide +kernel)) (by omega) (Nat.le_of_ble_eq_true rfl) ?_
      obtain ⟨hc17, h⟩ := k_pk h
      refine k_iastore (pc := 139) dX3_lay_139 hc17 ?_
      obtain ⟨A18, eA19, h⟩ := k_pl h
      refine k_hq eA19 ?_
      refine k_iinc (pc := 140) (x := v3) dX3_lay_140 (Nat.le_of_ble_eq_true rfl) rfl rfl ?_
      show k_AW _ _ _ [(1, v0), (1, v1), (3, 0), (0, k_wr (v3 + (-1)))] _ _ _ _
      refine k_goto (pc := 143) (tgt := 80) dX3_lay_143 rfl ?_
      refine k_sub (ls' := [(1, v0), (1, v1), (3, 0), (0, k_wr (v3 + (-1)))]) (k_sbl_ok _ _ ⟨Or.inr rfl, Or.inr rfl, Or.inl rfl, Or.inr rfl, trivial⟩) ?_
      exact ih _ _ _ _ _ _ h
set_option maxRecDepth 100000 in
theorem okX3_lay_h27 : ∀ (N : Nat) (A : k_H) (v0 v1 v2 v3 : Int) (r : Int) (A' : k_H), fX3_lay_h27 N A v0 v1 v2 v3 = some (r, A') → k_AW 2 mX3_lay 27 [(1, v0), (1, v1), (1, v2), (0, v3)] [] A r A' := by
  intro N
  induction N with
  | zero => intro A v0 v1 v2 v3 r A' h; exact absurd h (by simp [fX3_lay_h27])
  | succ N ih =>
    intro A v0 v1 v2 v3 r A' h
    rw [fX3_lay_h27] at h
    refine k_iload_n (pc := 27) (x := v3) dX3_lay_27 rfl rfl ?_
    refine k_aload_n (pc := 28) (x := v0) dX3_lay_28 rfl rfl ?_
    obtain ⟨hc1, h⟩ := k_pk h
    refine k_getf (pc := 29) (t := 0) (fi := 7) dX3_lay_29 flX3_56 rfl rfl hc1 ?_
    refine k_icmp_ge (pc := 32) (tgt := 53) dX3_lay_32 rfl (fun c2 => ?_) (fun c2 => ?_)
    · rw [if_neg (Int.not_lt.mpr c2)] at h
      refine k_aload_n (pc := 53) (x := v0) dX3_lay_53 rfl rfl ?_
      refine k_getf (pc := 54) (t := 1) (fi := 2) dX3_lay_54 flX3_18 rfl rfl hc1 ?_
      refine k_aload_n (pc := 57) (x := v0) dX3_lay_57 rfl rfl ?_
      refine k_getf (pc := 58) (t := 0) (fi := 6) dX3_lay_58 flX3_42 rfl rfl hc1 ?_
      refine k_iconst (pc := 61) dX3_lay_61 ⟨by decide, by decide⟩ ?_
      obtain ⟨hc3, h⟩ := k_pk h
      refine k_iastore (pc := 62) dX3_lay_62 hc3 ?_
      obtain ⟨A4, eA5, h⟩ := k_pl h
      refine k_hq eA5 ?_
      refine k_aload_n (pc := 63) (x := v0) dX3_lay_63 rfl rfl ?_
      have hf6 := k_oW eA5 hc1
      refine k_getf (pc := 64) (t := 1) (fi := 3) dX3_lay_64 flX3_21 rfl rfl hf6 ?_
      refine k_aload_n (pc := 67) (x := v0) dX3_lay_67 rfl rfl ?_
      refine k_getf (pc := 68) (t := 0) (fi := 6) dX3_lay_68 flX3_42 rfl rfl hf6 ?_
      refine k_iconst (pc := 71) dX3_lay_71 ⟨by decide, by decide⟩ ?_
      obtain ⟨hc7, h⟩ := k_pk h
      refine k_iastore (pc := 72) dX3_lay_72 hc7 ?_
      obtain ⟨A8, eA9, h⟩ := k_pl h
      refine k_hq eA9 ?_
      refine k_aload_n (pc := 73) (x := v0) dX3_lay_73 rfl rfl ?_
      have hf10 := k_oW eA9 hf6
      refine k_getf (pc := 74) (t := 0) (fi := 6) dX3_lay_74 flX3_42 rfl rfl hf10 ?_
      refine k_iconst (pc := 77) dX3_lay_77 ⟨by decide, by decide⟩ ?_
      refine k_isub (pc := 78) dX3_lay_78 ?_
      refine k_istore_n (pc := 79) dX3_lay_79 rfl (Nat.le_of_ble_eq_true rfl) rfl ?_
      show k_AW _ _ _ [(1, v0), (1, v1), (1, v2), (0, k_wr ((k_rd A8 v0 6) - 1))] _ _ _ _
      refine k_sub (ls' := [(1, v0), (1, v1), (3, 0), (0, k_wr ((k_rd A8 v0 6) - 1))]) (k_sbl_ok _ _ ⟨Or.inr rfl, Or.inr rfl, Or.inl rfl, Or.inr rfl, trivial⟩) ?_
      exact okX3_lay_h80  _ _ _ _ _ _ _ h
    · rw [if_pos (Int.not_le.mp c2)] at h
      refine k_aload_n (pc := 35) (x := v0) dX3_lay_35 rfl rfl ?_
      refine k_getf (pc := 36) (t := 1) (fi := 0) dX3_lay_36 flX3_9 rfl rfl hc1 ?_
      refine k_iload_n (pc := 39) (x := v3) dX3_lay_39 rfl rfl ?_
      refine k_aload_n (pc := 40) (x := v2) dX3_lay_40 rfl rfl ?_
      obtain ⟨hc11, h⟩ := k_pk h
      refine k_getf (pc := 41) (t := 1) (fi := 0) dX3_lay_41 flX3_59 rfl rfl hc11 ?_
      refine k_iload_n (pc := 44) (x := v3) dX3_lay_44 rfl rfl ?_
      obtain ⟨hc12, h⟩ := k_pk h
      refine k_iaload (pc := 45) dX3_lay_45 hc12 ?_
      obtain ⟨hc13, h⟩ := k_pk h
      refine k_iastore (pc := 46) dX3_lay_46 hc13 ?_
      obtain ⟨A14, eA15, h⟩ := k_pl h
      refine k_hq eA15 ?_
      refine k_iinc (pc := 47) (x := v3) dX3_lay_47 (Nat.le_of_ble_eq_true rfl) rfl rfl ?_
      show k_AW _ _ _ [(1, v0), (1, v1), (1, v2), (0, k_wr (v3 + 1))] _ _ _ _
      refine k_goto (pc := 50) (tgt := 27) dX3_lay_50 rfl ?_
      refine k_sub (ls' := [(1, v0), (1, v1), (1, v2), (0, k_wr (v3 + 1))]) (k_sbl_ok _ _ ⟨Or.inr rfl, Or.inr rfl, Or.inr rfl, Or.inr rfl, trivial⟩) ?_
      exact ih _ _ _ _ _ _ _ h
set_option maxRecDepth 100000 in
theorem okX3_lay_b0 (A : k_H) (v0 v1 v2 : Int) (r : Int) (A' : k_H) (h : fX3_lay_b0 A v0 v1 v2 = some (r, A')) : k_AW 2 mX3_lay 0 [(1, v0), (1, v1), (1, v2), (3, 0)] [] A r A' := by
  unfold fX3_lay_b0 at h
  refine k_aload_n (pc := 0) (x := v0) dX3_lay_0 rfl rfl ?_
  refine k_aload_n (pc := 1) (x := v1) dX3_lay_1 rfl rfl ?_
  obtain ⟨hc1, h⟩ := k_pk h
  refine k_getf (pc := 2) (t := 0) (fi := 1) dX3_lay_2 flX3_45 rfl rfl hc1 ?_
  refine k_bipush (pc := 5) dX3_lay_5 ⟨by decide, by decide⟩ (by decide +kernel) ?_
  refine k_mmin (pc := 7) dX3_lay_7 (k_gt 436 (by decide +kernel) (by decide +kernel)) (by omega) (Nat.le_of_ble_eq_true rfl) ?_
  obtain ⟨hc2, h⟩ := k_pk h
  refine k_putf (pc := 10) (t := 0) (fi := 6) dX3_lay_10 flX3_42 rfl rfl hc2 rfl ?_
  obtain ⟨A3, eA4, h⟩ := k_pl h
  refine k_hq eA4 ?_
  refine k_aload_n (pc := 13) (x := v0) dX3_lay_13 rfl rfl ?_
  refine k_aload_n (pc := 14) (x := v2) dX3_lay_14 rfl rfl ?_
  obtain ⟨hc5, h⟩ := k_pk h
  refine k_getf (pc := 15) (t := 0) (fi := 1) dX3_lay_15 flX3_45 rfl rfl hc5 ?_
  refine k_iconst (pc := 18) dX3_lay_18 ⟨by decide, by decide⟩ ?_
  refine k_mmin (pc := 19) dX3_lay_19 (k_gt 436 (by decide +kernel) (by decide +kernel)) (by omega) (Nat.le_of_ble_eq_true rfl) ?_
  have hf6 := k_oW eA4 hc2
  refine k_putf (pc := 22) (t := 0) (fi := 7) dX3_lay_22 flX3_56 rfl rfl hf6 rfl ?_
  obtain ⟨A7, eA8, h⟩ := k_pl h
  refine k_hq eA8 ?_
  refine k_iconst (pc := 25) dX3_lay_25 ⟨by decide, by decide⟩ ?_
  refine k_istore_n (pc := 26) dX3_lay_26 rfl (Nat.le_of_ble_eq_true rfl) rfl ?_
  show k_AW _ _ _ [(1, v0), (1, v1), (1, v2), (0, 0)] _ _ _ _
  refine k_sub (ls' := [(1, v0), (1, v1), (1, v2), (0, 0)]) (k_sbl_ok _ _ ⟨Or.inr rfl, Or.inr rfl, Or.inr rfl, Or.inr rfl, trivial⟩) ?_
  exact okX3_lay_h27  _ _ _ _ _ _ _ _ h
theorem okX3_lay {A : k_H} {x0 x1 x2 : Int} {r : Int} {A1 : k_H} (h : fX3_lay A x0 x1 x2 = some (r, A1)) : k_AM 2 mX3_lay [(1, x0), (1, x1), (1, x2)] A r A1 :=
  k_AM_of2 (ls := [(1, x0), (1, x1), (1, x2), (3, 0)]) (Or.inl (by decide +kernel)) (by decide +kernel) (by decide) rfl (Nat.le_of_ble_eq_true rfl) ⟨Or.inr rfl, Or.inr rfl, Or.inr rfl, rfl, trivial⟩ (okX3_lay_b0 A x0 x1 x2 r A1 h)
/-! X3_keep -/
def fX3_keep_b0 (A : k_H) (v0 v1 : Int) : Option (Int × k_H) := if k_isO A v0 3 then (if v1 < (k_rd A v0 8) then (k_lt (k_wt A v0 8 v1) fun A3 => if k_isR A3 (k_rd A3 v0 4) 21 then (if k_isR A3 (k_rd A3 v0 5) 21 then (if (0 : Int) ≤ 0 ∧ (0 : Int) ≤ 0 ∧ (0 : Int) ≤ (k_rd A3 v0 6) ∧ (0 : Int) + (k_rd A3 v0 6) ≤ ((k_kd A3 (k_rd A3 v0 4)).2 : Int) ∧ (0 : Int) + (k_rd A3 v0 6) ≤ ((k_kd A3 (k_rd A3 v0 5)).2 : Int) then (k_lt (k_cp A3 (k_rd A3 v0 4) 0 (k_rd A3 v0 5) 0 (k_rd A3 v0 6)) fun A9 => some (0, A9)) else none) else none) else none) else (some (0, A))) else none
def fX3_keep (A : k_H) (x0 x1 : Int) : Option (Int × k_H) := fX3_keep_b0 A x0 x1
set_option maxRecDepth 100000 in
theorem okX3_keep_b0 (A : k_H) (v0 v1 : Int) (r : Int) (A' : k_H) (h : fX3_keep_b0 A v0 v1 = some (r, A')) : k_AW 1 mX3_keep 0 [(1, v0), (0, v1)] [] A r A' := by
  unfold fX3_keep_b0 at h
  refine k_iload_n (pc := 0) (x := v1) dX3_keep_0 rfl rfl ?_
  refine k_aload_n (pc := 1) (x := v0) dX3_keep_1 rfl rfl ?_
  obtain ⟨hc1, h⟩ := k_pk h
  refine k_getf (pc := 2) (t := 0) (fi := 8) dX3_keep_2 flX3_34 rfl rfl hc1 ?_
  refine k_icmp_ge (pc := 5) (tgt := 30) dX3_keep_5 rfl (fun c2 => ?_) (fun c2 => ?_)
  · rw [if_neg (Int.not_lt.mpr c2)] at h
    obtain ⟨rfl, rfl⟩ := k_pr h
    exact k_retv (pc := 30) dX3_keep_30 rfl
  · rw [if_pos (Int.not_le.mp c2)] at h
    refine k_aload_n (pc := 8) (x := v0) dX3_keep_8 rfl rfl ?_
    refine k_iload_n (pc := 9) (x := v1) dX3_keep_9 rfl rfl ?_
    refine k_putf (pc := 10) (t := 0) (fi := 8) dX3_keep_10 flX3_34 rfl rfl hc1 rfl ?_
    obtain ⟨A3, eA4, h⟩ := k_pl h
    refine k_hq eA4 ?_
    refine k_aload_n (pc := 13) (x := v0) dX3_keep_13 rfl rfl ?_
    have hf5 := k_oW eA4 hc1
    refine k_getf (pc := 14) (t := 1) (fi := 4) dX3_keep_14 flX3_24 rfl rfl hf5 ?_
    refine k_iconst (pc := 17) dX3_keep_17 ⟨by decide, by decide⟩ ?_
    refine k_aload_n (pc := 18) (x := v0) dX3_keep_18 rfl rfl ?_
    refine k_getf (pc := 19) (t := 1) (fi := 5) dX3_keep_19 flX3_27 rfl rfl hf5 ?_
    refine k_iconst (pc := 22) dX3_keep_22 ⟨by decide, by decide⟩ ?_
    refine k_aload_n (pc := 23) (x := v0) dX3_keep_23 rfl rfl ?_
    refine k_getf (pc := 24) (t := 0) (fi := 6) dX3_keep_24 flX3_42 rfl rfl hf5 ?_
    obtain ⟨hc6, h⟩ := k_pk h
    obtain ⟨hc7, h⟩ := k_pk h
    obtain ⟨hc8, h⟩ := k_pk h
    refine k_copy (pc := 27) dX3_keep_27 (k_gt 446 (by decide +kernel) (by decide +kernel)) (by omega) (Nat.le_of_ble_eq_true rfl) hc6 hc7 hc8.1 hc8.2.1 hc8.2.2.1 hc8.2.2.2.1 hc8.2.2.2.2 ?_
    obtain ⟨A9, eA10, h⟩ := k_pl h
    refine k_hq eA10 ?_
    obtain ⟨rfl, rfl⟩ := k_pr h
    exact k_retv (pc := 30) dX3_keep_30 rfl
theorem okX3_keep {A : k_H} {x0 x1 : Int} {r : Int} {A1 : k_H} (h : fX3_keep A x0 x1 = some (r, A1)) : k_AM 1 mX3_keep [(1, x0), (0, x1)] A r A1 :=
  k_AM_of2 (ls := [(1, x0), (0, x1)]) (Or.inl (by decide +kernel)) (by decide +kernel) (by decide) rfl (Nat.le_of_ble_eq_true rfl) ⟨Or.inr rfl, Or.inr rfl, trivial⟩ (okX3_keep_b0 A x0 x1 r A1 h)
/-! X3_lackAtLeast -/
def fX3_lackAtLeast_h7 : Nat → k_H → Int → Int → Int → Int → Int → Option (Int × k_H)
  | 0, _, _, _, _, _, _ => none
  | N + 1, A, v0, v1, v2, v3, v4 => if k_isO A v0 3 then (if v4 < (k_rd A v0 7) then (if k_isA A (k_rd A v0 0) 21 v4 then ((fX3_lackAtLeast_h7 N) A v0 v1 (k_wr (v2 + (k_rd A (k_rd A v0 0) v4))) (max v3 (k_rd A (k_rd A v0 0) v4)) (k_wr (v4 + 1))) else none) else (if k_isA A (k_rd A v0 2) 21 v1 then (if k_isA A (k_rd A v0 3) 21 v1 then (some ((max 0 (max (k_wr ((k_rd A (k_rd A v0 2) v1) - v2)) (k_wr ((k_rd A (k_rd A v0 3) v1) - v3)))), A)) else none) else none)) else none
def fX3_lackAtLeast_b0 (A : k_H) (v0 v1 : Int) : Option (Int × k_H) := fX3_lackAtLeast_h7 k_FU A v0 v1 0 0 0
def fX3_lackAtLeast (A : k_H) (x0 x1 : Int) : Option (Int × k_H) := fX3_lackAtLeast_b0 A x0 x1
set_option maxRecDepth 100000 in
theorem okX3_lackAtLeast_h7 : ∀ (N : Nat) (A : k_H) (v0 v1 v2 v3 v4 : Int) (r : Int) (A' : k_H), fX3_lackAtLeast_h7 N A v0 v1 v2 v3 v4 = some (r, A') → k_AW 2 mX3_lackAtLeast 7 [(1, v0), (0, v1), (0, v2), (0, v3), (0, v4)] [] A r A' := by
  intro N
  induction N with
  | zero => intro A v0 v1 v2 v3 v4 r A' h; exact absurd h (by simp [fX3_lackAtLeast_h7])
  | succ N ih =>
    intro A v0 v1 v2 v3 v4 r A' h
    rw [fX3_lackAtLeast_h7] at h
    refine k_iload (pc := 7) (x := v4) dX3_lackAtLeast_7 rfl ?_
    refine k_aload_n (pc := 9) (x := v0) dX3_lackAtLeast_9 rfl rfl ?_
    obtain ⟨hc1, h⟩ := k_pk h
    refine k_getf (pc := 10) (t := 0) (fi := 7) dX3_lackAtLeast_10 flX3_56 rfl rfl hc1 ?_
    refine k_icmp_ge (pc := 13) (tgt := 44) dX3_lackAtLeast_13 rfl (fun c2 => ?_) (fun c2 => ?_)
    · rw [if_neg (Int.not_lt.mpr c2)] at h
      refine k_iconst (pc := 44) dX3_lackAtLeast_44 ⟨by decide, by decide⟩ ?_
      refine k_aload_n (pc := 45) (x := v0) dX3_lackAtLeast_45 rfl rfl ?_
      refine k_getf (pc := 46) (t := 1) (fi := 2) dX3_lackAtLeast_46 flX3_18 rfl rfl hc1 ?_
      refine k_iload_n (pc := 49) (x := v1) dX3_lackAtLeast_49 rfl rfl ?_
      obtain ⟨hc3, h⟩ := k_pk h
      refine k_iaload (pc := 50) dX3_lackAtLeast_50 hc3 ?_
      refine k_iload_n (pc := 51) (x := v2) dX3_lackAtLeast_51 rfl rfl ?_
      refine k_isub (pc := 52) dX3_lackAtLeast_52 ?_
      refine k_aload_n (pc := 53) (x := v0) dX3_lackAtLeast_53 rfl rfl ?_
      refine k_getf (pc := 54) (t := 1) (fi := 3) dX3_lackAtLeast_54 flX3_21 rfl rfl hc1 ?_
      refine k_iload_n (pc := 57) (x := v1) dX3_lackAtLeast_57 rfl rfl ?_
      obtain ⟨hc4, h⟩ := k_pk h
      refine k_iaload (pc := 58) dX3_lackAtLeast_58 hc4 ?_
      refine k_iload_n (pc := 59) (x := v3) dX3_lackAtLeast_59 rfl rfl ?_
      refine k_isub (pc := 60) dX3_lackAtLeast_60 ?_
      refine k_mmax (pc := 61) dX3_lackAtLeast_61 (k_gt 437 (by decide +kernel) (by decide +kernel)) (by omega) (Nat.le_of_ble_eq_true rfl) ?_
      refine k_mmax (pc := 64) dX3_lackAtLeast_64 (k_gt 437 (by decide +kernel) (by decide +kernel)) (by omega) (Nat.le_of_ble_eq_true rfl) ?_
      obtain ⟨rfl, rfl⟩ := k_pr h
      exact k_ret (pc := 67) dX3_lackAtLeast_67 rfl rfl rfl
    · rw [if_pos (Int.not_le.mp c2)] at h
      refine k_iload_n (pc := 16) (x := v2) dX3_lackAtLeast_16 rfl rfl ?_
      refine k_aload_n (pc := 17) (x := v0) dX3_lackAtLeast_17 rfl rfl ?_
      refine k_getf (pc := 18) (t := 1) (fi := 0) dX3_lackAtLeast_18 flX3_9 rfl rfl hc1 ?_
      refine k_iload (pc := 21) (x := v4) dX3_lackAtLeast_21 rfl ?_
      obtain ⟨hc5, h⟩ := k_pk h
      refine k_iaload (pc := 23) dX3_lackAtLeast_23 hc5 ?_
      refine k_iadd (pc := 24) dX3_lackAtLeast_24 ?_
      refine k_istore_n (pc := 25) dX3_lackAtLeast_25 rfl (Nat.le_of_ble_eq_true rfl) rfl ?_
      show k_AW _ _ _ [(1, v0), (0, v1), (0, k_wr (v2 + (k_rd A (k_rd A v0 0) v4))), (0, v3), (0, v4)] _ _ _ _
      refine k_iload_n (pc := 26) (x := v3) dX3_lackAtLeast_26 rfl rfl ?_
      refine k_aload_n (pc := 27) (x := v0) dX3_lackAtLeast_27 rfl rfl ?_
      refine k_getf (pc := 28) (t := 1) (fi := 0) dX3_lackAtLeast_28 flX3_9 rfl rfl hc1 ?_
      refine k_iload (pc := 31) (x := v4) dX3_lackAtLeast_31 rfl ?_
      refine k_iaload (pc := 33) dX3_lackAtLeast_33 hc5 ?_
      refine k_mmax (pc := 34) dX3_lackAtLeast_34 (k_gt 437 (by decide +kernel) (by decide +kernel)) (by omega) (Nat.le_of_ble_eq_true rfl) ?_
      refine k_istore_n (pc := 37) dX3_lackAtLeast_37 rfl (Nat.le_of_ble_eq_true rfl) rfl ?_
      show k_AW _ _ _ [(1, v0), (0, v1), (0, k_wr (v2 + (k_rd A (k_rd A v0 0) v4))), (0, (max v3 (k_rd A (k_rd A v0 0) v4))), (0, v4)] _ _ _ _
      refine k_iinc (pc := 38) (x := v4) dX3_lackAtLeast_38 (Nat.le_of_ble_eq_true rfl) rfl rfl ?_
      show k_AW _ _ _ [(1, v0), (0, v1), (0, k_wr (v2 + (k_rd A (k_rd A v0 0) v4))), (0, (max v3 (k_rd A (k_rd A v0 0) v4))), (0, k_wr (v4 + 1))] _ _ _ _
      refine k_goto (pc := 41) (tgt := 7) dX3_lackAtLeast_41 rfl ?_
      refine k_sub (ls' := [(1, v0), (0, v1), (0, k_wr (v2 + (k_rd A (k_rd A v0 0) v4))), (0, (max v3 (k_rd A (k_rd A v0 0) v4))), (0, k_wr (v4 + 1))]) (k_sbl_ok _ _ ⟨Or.inr rfl, Or.inr rfl, Or.inr rfl, Or.inr rfl, Or.inr rfl, trivial⟩) ?_
      exact ih _ _ _ _ _ _ _ _ h
set_option maxRecDepth 100000 in
theorem okX3_lackAtLeast_b0 (A : k_H) (v0 v1 : Int) (r : Int) (A' : k_H) (h : fX3_lackAtLeast_b0 A v0 v1 = some (r, A')) : k_AW 2 mX3_lackAtLeast 0 [(1, v0), (0, v1), (3, 0), (3, 0), (3, 0)] [] A r A' := by
  unfold fX3_lackAtLeast_b0 at h
  refine k_iconst (pc := 0) dX3_lackAtLeast_0 ⟨by decide, by decide⟩ ?_
  refine k_istore_n (pc := 1) dX3_lackAtLeast_1 rfl (Nat.le_of_ble_eq_true rfl) rfl ?_
  show k_AW _ _ _ [(1, v0), (0, v1), (0, 0), (3, 0), (3, 0)] _ _ _ _
  refine k_iconst (pc := 2) dX3_lackAtLeast_2 ⟨by decide, by decide⟩ ?_
  refine k_istore_n (pc := 3) dX3_lackAtLeast_3 rfl (Nat.le_of_ble_eq_true rfl) rfl ?_
  show k_AW _ _ _ [(1, v0), (0, v1), (0, 0), (0, 0), (3, 0)] _ _ _ _
  refine k_iconst (pc := 4) dX3_lackAtLeast_4 ⟨by decide, by decide⟩ ?_
  refine k_istore (pc := 5) dX3_lackAtLeast_5 (Nat.le_of_ble_eq_true rfl) rfl ?_
  show k_AW _ _ _ [(1, v0), (0, v1), (0, 0), (0, 0), (0, 0)] _ _ _ _
  refine k_sub (ls' := [(1, v0), (0, v1), (0, 0), (0, 0), (0, 0)]) (k_sbl_ok _ _ ⟨Or.inr rfl, Or.inr rfl, Or.inr rfl, Or.inr rfl, Or.inr rfl, trivial⟩) ?_
  exact okX3_lackAtLeast_h7  _ _ _ _ _ _ _ _ _ h
theorem okX3_lackAtLeast {A : k_H} {x0 x1 : Int} {r : Int} {A1 : k_H} (h : fX3_lackAtLeast A x0 x1 = some (r, A1)) : k_AM 2 mX3_lackAtLeast [(1, x0), (0, x1)] A r A1 :=
  k_AM_of2 (ls := [(1, x0), (0, x1), (3, 0), (3, 0), (3, 0)]) (Or.inl (by decide +kernel)) (by decide +kernel) (by decide) rfl (Nat.le_of_ble_eq_true rfl) ⟨Or.inr rfl, Or.inr rfl, rfl, rfl, rfl, trivial⟩ (okX3_lackAtLeast_b0 A x0 x1 r A1 h)
/-! X3_isLikeOneAhead -/
def fX3_isLikeOneAhead_h2 : Nat → k_H → Int → Int → Int → Option (Int × k_H)
  | 0, _, _, _, _ => none
  | N + 1, A, v0, v1, v2 => if v2 < v1 then (if k_isO A v0 3 then (if k_isA A (k_rd A v0 0) 21 v2 then (if k_isA A (k_rd A v0 0) 21 v1 then (if (k_rd A (k_rd A v0 0) v2) = (k_rd A (k_rd A v0 0) v1) then (some (1, A)) else ((fX3_isLikeOneAhead_h2 N) A v0 v1 (k_wr (v2 + 1)))) else none) else none) else none) else (some (0, A))
def fX3_isLikeOneAhead_b0 (A : k_H) (v0 v1 : Int) : Option (Int × k_H) := fX3_isLikeOneAhead_h2 k_FU A v0 v1 0
def fX3_isLikeOneAhead (A : k_H) (x0 x1 : Int) : Option (Int × k_H) := fX3_isLikeOneAhead_b0 A x0 x1
set_option maxRecDepth 100000 in
theorem okX3_isLikeOneAhead_h2 : ∀ (N : Nat) (A : k_H) (v0 v1 v2 : Int) (r : Int) (A' : k_H), fX3_isLikeOneAhead_h2 N A v0 v1 v2 = some (r, A') → k_AW 1 mX3_isLikeOneAhead 2 [(1, v0), (0, v1), (0, v2)] [] A r A' := by
  intro N
  induction N with
  | zero => intro A v0 v1 v2 r A' h; exact absurd h (by simp [fX3_isLikeOneAhead_h2])
  | succ N ih =>
    intro A v0 v1 v2 r A' h
    rw [fX3_isLikeOneAhead_h2] at h
    refine k_iload_n (pc := 2) (x := v2) dX3_isLikeOneAhead_2 rfl rfl ?_
    refine k_iload_n (pc := 3) (x := v1) dX3_isLikeOneAhead_3 rfl rfl ?_
    refine k_icmp_ge (pc := 4) (tgt := 30) dX3_isLikeOneAhead_4 rfl (fun c1 => ?_) (fun c1 => ?_)
    · rw [if_neg (Int.not_lt.mpr c1)] at h
      refine k_iconst (pc := 30) dX3_isLikeOneAhead_30 ⟨by decide, by decide⟩ ?_
      obtain ⟨rfl, rfl⟩ := k_pr h
      exact k_ret (pc := 31) dX3_isLikeOneAhead_31 rfl rfl (by decide +kernel)
    · rw [if_pos (Int.not_le.mp c1)] at h
      refine k_aload_n (pc := 7) (x := v0) dX3_isLikeOneAhead_7 rfl rfl ?_
      obtain ⟨hc2, h⟩ := k_pk h
      refine k_getf (pc := 8) (t := 1) (fi := 0) dX3_isLikeOneAhead_8 flX3_9 rfl rfl hc2 ?_
      refine k_iload_n (pc := 11) (x := v2) dX3_isLikeOneAhead_11 rfl rfl ?_
      obtain ⟨hc3, h⟩ := k_pk h
      refine k_iaload (pc := 12) dX3_isLikeOneAhead_12 hc3 ?_
      refine k_aload_n (pc := 13) (x := v0) dX3_isLikeOneAhead_13 rfl rfl ?_
      refine k_getf (pc := 14) (t := 1) (fi := 0) dX3_isLikeOneAhead_14 flX3_9 rfl rfl hc2 ?_
      refine k_iload_n (pc := 17) (x := v1) dX3_isLikeOneAhead_17 rfl rfl ?_
      obtain ⟨hc4, h⟩ := k_pk h
      refine k_iaload (pc := 18) dX3_isLikeOneAhead_18 hc4 ?_
      refine k_icmp_ne (pc := 19) (tgt := 24) dX3_isLikeOneAhead_19 rfl (fun c5 => ?_) (fun c5 => ?_)
      · rw [if_neg c5] at h
        refine k_iinc (pc := 24) (x := v2) dX3_isLikeOneAhead_24 (Nat.le_of_ble_eq_true rfl) rfl rfl ?_
        show k_AW _ _ _ [(1, v0), (0, v1), (0, k_wr (v2 + 1))] _ _ _ _
        refine k_goto (pc := 27) (tgt := 2) dX3_isLikeOneAhead_27 rfl ?_
        refine k_sub (ls' := [(1, v0), (0, v1), (0, k_wr (v2 + 1))]) (k_sbl_ok _ _ ⟨Or.inr rfl, Or.inr rfl, Or.inr rfl, trivial⟩) ?_
        exact ih _ _ _ _ _ _ h
      · rw [if_pos (Classical.not_not.mp c5)] at h
        refine k_iconst (pc := 22) dX3_isLikeOneAhead_22 ⟨by decide, by decide⟩ ?_
        obtain ⟨rfl, rfl⟩ := k_pr h
        exact k_ret (pc := 23) dX3_isLikeOneAhead_23 rfl rfl (by decide +kernel)
set_option maxRecDepth 100000 in
theorem okX3_isLikeOneAhead_b0 (A : k_H) (v0 v1 : Int) (r : Int) (A' : k_H) (h : fX3_isLikeOneAhead_b0 A v0 v1 = some (r, A')) : k_AW 1 mX3_isLikeOneAhead 0 [(1, v0), (0, v1), (3, 0)] [] A r A' := by
  unfold fX3_isLikeOneAhead_b0 at h
  refine k_iconst (pc := 0) dX3_isLikeOneAhead_0 ⟨by decide, by decide⟩ ?_
  refine k_istore_n (pc := 1) dX3_isLikeOneAhead_1 rfl (Nat.le_of_ble_eq_true rfl) rfl ?_
  show k_AW _ _ _ [(1, v0), (0, v1), (0, 0)] _ _ _ _
  refine k_sub (ls' := [(1, v0), (0, v1), (0, 0)]) (k_sbl_ok _ _ ⟨Or.inr rfl, Or.inr rfl, Or.inr rfl, trivial⟩) ?_
  exact okX3_isLikeOneAhead_h2  _ _ _ _ _ _ _ h
theorem okX3_isLikeOneAhead {A : k_H} {x0 x1 : Int} {r : Int} {A1 : k_H} (h : fX3_isLikeOneAhead A x0 x1 = some (r, A1)) : k_AM 1 mX3_isLikeOneAhead [(1, x0), (0, x1)] A r A1 :=
  k_AM_of2 (ls := [(1, x0), (0, x1), (3, 0)]) (Or.inl (by decide +kernel)) (by decide +kernel) (by decide) rfl (Nat.le_of_ble_eq_true rfl) ⟨Or.inr rfl, Or.inr rfl, rfl, trivial⟩ (okX3_isLikeOneAhead_b0 A x0 x1 r A1 h)
/-! X4_plan -/
def fX4_plan_b0 (A : k_H) (v0 v1 v2 v3 v4 : Int) : Option (Int × k_H) := if k_isO A v0 4 then (k_lt (k_wt A v0 6 v1) fun A2 => k_lt (k_wt A2 v0 7 v2) fun A5 => k_lt (k_wt A5 v0 8 v3) fun A8 => k_lt (k_wt A8 v0 9 v4) fun A11 => some (0, A11)) else none
def fX4_plan (A : k_H) (x0 x1 x2 x3 x4 : Int) : Option (Int × k_H) := fX4_plan_b0 A x0 x1 x2 x3 x4
set_option maxRecDepth 100000 in
theorem okX4_plan_b0 (A : k_H) (v0 v1 v2 v3 v4 : Int) (r : Int) (A' : k_H) (h : fX4_plan_b0 A v0 v1 v2 v3 v4 = some (r, A')) : k_AW 1 mX4_plan 0 [(1, v0), (0, v1), (0, v2), (0, v3), (0, v4)] [] A r A' := by
  unfold fX4_plan_b0 at h
  refine k_aload_n (pc := 0) (x := v0) dX4_plan_0 rfl rfl ?_
  refine k_iload_n (pc := 1) (x := v1) dX4_plan_1 rfl rfl ?_
  obtain ⟨hc1, h⟩ := k_pk h
  refine k_putf (pc := 2) (t := 0) (fi := 6) dX4_plan_2 flX4_57 rfl rfl hc1 rfl ?_
  obtain ⟨A2, eA3, h⟩ := k_pl h
  refine k_hq eA3 ?_
  refine k_aload_n (pc := 5) (x := v0) dX4_plan_5 rfl rfl ?_
  refine k_iload_n (pc := 6) (x := v2) dX4_plan_6 rfl rfl ?_
  have hf4 := k_oW eA3 hc1
  refine k_putf (pc := 7) (t := 0) (fi := 7) dX4_plan_7 flX4_60 rfl rfl hf4 rfl ?_
  obtain ⟨A5, eA6, h⟩ := k_pl h
  refine k_hq eA6 ?_
  refine k_aload_n (pc := 10) (x := v0) dX4_plan_10 rfl rfl ?_
  refine k_iload_n (pc := 11) (x := v3) dX4_plan_11 rfl rfl ?_
  have hf7 := k_oW eA6 hf4
  refine k_putf (pc := 12) (t := 0) (fi := 8) dX4_plan_12 flX4_34 rfl rfl hf7 rfl ?_
  obtain ⟨A8, eA9, h⟩ := k_pl h
  refine k_hq eA9 ?_
  refine k_aload_n (pc := 15) (x := v0) dX4_plan_15 rfl rfl ?_
  refine k_iload (pc := 16) (x := v4) dX4_plan_16 rfl ?_
  have hf10 := k_oW eA9 hf7
  refine k_putf (pc := 18) (t := 0) (fi := 9) dX4_plan_18 flX4_38 rfl rfl hf10 rfl ?_
  obtain ⟨A11, eA12, h⟩ := k_pl h
  refine k_hq eA12 ?_
  obtain ⟨rfl, rfl⟩ := k_pr h
  exact k_retv (pc := 21) dX4_plan_21 rfl
theorem okX4_plan {A : k_H} {x0 x1 x2 x3 x4 : Int} {r : Int} {A1 : k_H} (h : fX4_plan A x0 x1 x2 x3 x4 = some (r, A1)) : k_AM 1 mX4_plan [(1, x0), (0, x1), (0, x2), (0, x3), (0, x4)] A r A1 :=
  k_AM_of2 (ls := [(1, x0), (0, x1), (0, x2), (0, x3), (0, x4)]) (Or.inl (by decide +kernel)) (by decide +kernel) (by decide) rfl (Nat.le_of_ble_eq_true rfl) ⟨Or.inr rfl, Or.inr rfl, Or.inr rfl, Or.inr rfl, Or.inr rfl, trivial⟩ (okX4_plan_b0 A x0 x1 x2 x3 x4 r A1 h)
/-! X5_init -/
def fX5_init_b0 (A : k_H) (v0 : Int) : Option (Int × k_H) := if 0 ≤ v0 then (k_lt (k_mk A 21 200) fun A2 => if k_isO A2 v0 5 then (k_lt (k_wt A2 v0 0 (k_N A : Int)) fun A5 => some (0, A5)) else none) else none
def fX5_init (A : k_H) (x0 : Int) : Option (Int × k_H) := fX5_init_b0 A x0
set_option maxRecDepth 100000 in
theorem okX5_init_b0 (A : k_H) (v0 : Int) (r : Int) (A' : k_H) (h : fX5_init_b0 A v0 = some (r, A')) : k_AW 1 mX5_init 0 [(1, v0)] [] A r A' := by
  unfold fX5_init_b0 at h
  refine k_aload_n (pc := 0) (x := v0) dX5_init_0 rfl rfl ?_
  obtain ⟨hc1, h⟩ := k_pk h
  refine k_objInit (pc := 1) dX5_init_1 (k_gt 36 (by decide +kernel) (by decide +kernel)) (by omega) hc1 (Nat.le_of_ble_eq_true rfl) ?_
  refine k_aload_n (pc := 4) (x := v0) dX5_init_4 rfl rfl ?_
  refine k_sipush (pc := 5) dX5_init_5 ⟨by decide, by decide⟩ (by decide +kernel) ?_
  refine k_newa (pc := 8) (n := 200) dX5_init_8 k_atI rfl (by decide) ?_
  obtain ⟨A2, eA3, h⟩ := k_pl h
  refine k_hq eA3 ?_
  obtain ⟨hc4, h⟩ := k_pk h
  refine k_putF (pc := 10) (t := 1) (fi := 0) dX5_init_10 flX5_9 rfl (fun Cn Tt Nn h9 => by cases h9; rfl) rfl rfl hc4 rfl ?_
  obtain ⟨A5, eA6, h⟩ := k_pl h
  refine k_hq eA6 ?_
  obtain ⟨rfl, rfl⟩ := k_pr h
  exact k_retv (pc := 13) dX5_init_13 rfl
theorem okX5_init {A : k_H} {x0 : Int} {r : Int} {A1 : k_H} (h : fX5_init A x0 = some (r, A1)) : k_AM 1 mX5_init [(1, x0)] A r A1 :=
  k_AM_of2 (ls := [(1, x0)]) (Or.inl (by decide +kernel)) (by decide +kernel) (by decide) rfl (Nat.le_of_ble_eq_true rfl) ⟨Or.inr rfl, trivial⟩ (okX5_init_b0 A x0 r A1 h)
/-! X5_append -/
def fX5_append_h3 : Nat → k_H → Int → Int → Int → Option (Int × k_H)
  | 0, _, _, _, _ => none
  | N + 1, A, v0, v1, v2 => if 0 ≤ v2 then (if k_isO A v0 5 then (if (k_rd A v0 1) < 200 then (if k_isA A (k_rd A v0 0) 21 (k_rd A v0 1) then (k_lt (k_wt A (k_rd A v0 0) (k_rd A v0 1) (k_and (k_ushr v1 v2) 255)) fun A5 => k_lt (k_wt A5 v0 1 (k_wr ((k_rd A5 v0 1) + 1))) fun A8 => (fX5_append_h3 N) A8 v0 v1 (k_wr (v2 + (-8)))) else none) else (some (0, A))) else none) else (some (0, A))
def fX5_append_b0 (A : k_H) (v0 v1 : Int) : Option (Int × k_H) := fX5_append_h3 k_FU A v0 v1 24
def fX5_append (A : k_H) (x0 x1 : Int) : Option (Int × k_H) := fX5_append_b0 A x0 x1
set_option maxRecDepth 100000 in
theorem okX5_append_h3 : ∀ (N : Nat) (A : k_H) (v0 v1 v2 : Int) (r : Int) (A' : k_H), fX5_append_h3 N A v0 v1 v2 = some (r, A') → k_AW 1 mX5_append 3 [(1, v0), (0, v1), (0, v2)] [] A r A' := by
  intro N
  induction N with
  | zero => intro A v0 v1 v2 r A' h; exact absurd h (by simp [fX5_append_h3])
  | succ N ih =>
    intro A v0 v1 v2 r A' h
    rw [fX5_append_h3] at h
    refine k_iload_n (pc := 3) (x := v2) dX5_append_3 rfl rfl ?_
    refine k_if_lt (pc := 4) (tgt := 49) dX5_append_4 rfl (fun c1 => ?_) (fun c1 => ?_)
    · rw [if_neg (Int.not_le.mpr c1)] at h
      obtain ⟨rfl, rfl⟩ := k_pr h
      exact k_retv (pc := 49) dX5_append_49 rfl
    · rw [if_pos (Int.not_lt.mp c1)] at h
      refine k_aload_n (pc := 7) (x := v0) dX5_append_7 rfl rfl ?_
      obtain ⟨hc2, h⟩ := k_pk h
      refine k_getf (pc := 8) (t := 0) (fi := 1) dX5_append_8 flX5_15 rfl rfl hc2 ?_
      refine k_sipush (pc := 11) dX5_append_11 ⟨by decide, by decide⟩ (by decide +kernel) ?_
      refine k_icmp_ge (pc := 14) (tgt := 49) dX5_append_14 rfl (fun c3 => ?_) (fun c3 => ?_)
      · rw [if_neg (Int.not_lt.mpr c3)] at h
        obtain ⟨rfl, rfl⟩ := k_pr h
        exact k_retv (pc := 49) dX5_append_49 rfl
      · rw [if_pos (Int.not_le.mp c3)] at h
        refine k_aload_n (pc := 17) (x := v0) dX5_append_17 rfl rfl ?_
        refine k_getf (pc := 18) (t := 1) (fi := 0) dX5_append_18 flX5_9 rfl rfl hc2 ?_
        refine k_aload_n (pc := 21) (x := v0) dX5_append_21 rfl rfl ?_
        refine k_getf (pc := 22) (t := 0) (fi := 1) dX5_append_22 flX5_15 rfl rfl hc2 ?_
        refine k_iload_n (pc := 25) (x := v1) dX5_append_25 rfl rfl ?_
        refine k_iload_n (pc := 26) (x := v2) dX5_append_26 rfl rfl ?_
        refine k_iushr (pc := 27) dX5_append_27 ?_
        refine k_sipush (pc := 28) dX5_append_28 ⟨by decide, by decide⟩ (by decide +kernel) ?_
        refine k_iand (pc := 31) dX5_append_31 ?_
        obtain ⟨hc4, h⟩ := k_pk h
        refine k_iastore (pc := 32) dX5_append_32 hc4 ?_
        obtain ⟨A5, eA6, h⟩ := k_pl h
        refine k_hq eA6 ?_
        refine k_aload_n (pc := 33) (x := v0) dX5_append_33 rfl rfl ?_
        refine k_dup (pc := 34) dX5_append_34 (Nat.le_of_ble_eq_true rfl) ?_
        have hf7 := k_oW eA6 hc2
        refine k_getf (pc := 35) (t := 0) (fi := 1) dX5_append_35 flX5_15 rfl rfl hf7 ?_
        refine k_iconst (pc := 38) dX5_append_38 ⟨by decide, by decide⟩ ?_
        refine k_iadd (pc := 39) dX5_append_39 ?_
        refine k_putf (pc := 40) (t := 0) (fi := 1) dX5_append_40 flX5_15 rfl rfl hf7 rfl ?_
        obtain ⟨A8, eA9, h⟩ := k_pl h
        refine k_hq eA9 ?_
        refine k_iinc (pc := 43) (x := v2) dX5_append_43 (Nat.le_of_ble_eq_true rfl) rfl rfl ?_
        show k_AW _ _ _ [(1, v0), (0, v1), (0, k_wr (v2 + (-8)))] _ _ _ _
        refine k_goto (pc := 46) (tgt := 3) dX5_append_46 rfl ?_
        refine k_sub (ls' := [(1, v0), (0, v1), (0, k_wr (v2 + (-8)))]) (k_sbl_ok _ _ ⟨Or.inr rfl, Or.inr rfl, Or.inr rfl, trivial⟩) ?_
        exact ih _ _ _ _ _ _ h
set_option maxRecDepth 100000 in
theorem okX5_append_b0 (A : k_H) (v0 v1 : Int) (r : Int) (A' : k_H) (h : fX5_append_b0 A v0 v1 = some (r, A')) : k_AW 1 mX5_append 0 [(1, v0), (0, v1), (3, 0)] [] A r A' := by
  unfold fX5_append_b0 at h
  refine k_bipush (pc := 0) dX5_append_0 ⟨by decide, by decide⟩ (by decide +kernel) ?_
  refine k_istore_n (pc := 2) dX5_append_2 rfl (Nat.le_of_ble_eq_true rfl) rfl ?_
  show k_AW _ _ _ [(1, v0), (0, v1), (0, 24)] _ _ _ _
  refine k_sub (ls' := [(1, v0), (0, v1), (0, 24)]) (k_sbl_ok _ _ ⟨Or.inr rfl, Or.inr rfl, Or.inr rfl, trivial⟩) ?_
  exact okX5_append_h3  _ _ _ _ _ _ _ h
theorem okX5_append {A : k_H} {x0 x1 : Int} {r : Int} {A1 : k_H} (h : fX5_append A x0 x1 = some (r, A1)) : k_AM 1 mX5_append [(1, x0), (0, x1)] A r A1 :=
  k_AM_of2 (ls := [(1, x0), (0, x1), (3, 0)]) (Or.inl (by decide +kernel)) (by decide +kernel) (by decide) rfl (Nat.le_of_ble_eq_true rfl) ⟨Or.inr rfl, Or.inr rfl, rfl, trivial⟩ (okX5_append_b0 A x0 x1 r A1 h)
/-! X5_copyFrom -/
def fX5_copyFrom_b0 (A : k_H) (v0 v1 : Int) : Option (Int × k_H) := if k_isO A v1 5 then (if k_isO A v0 5 then (if k_isR A (k_rd A v1 0) 21 then (if k_isR A (k_rd A v0 0) 21 then (if (0 : Int) ≤ 0 ∧ (0 : Int) ≤ 0 ∧ (0 : Int) ≤ 200 ∧ (0 : Int) + 200 ≤ ((k_kd A (k_rd A v1 0)).2 : Int) ∧ (0 : Int) + 200 ≤ ((k_kd A (k_rd A v0 0)).2 : Int) then (k_lt (k_cp A (k_rd A v1 0) 0 (k_rd A v0 0) 0 200) fun A6 => k_lt (k_wt A6 v0 1 (k_rd A6 v1 1)) fun A10 => some (0, A10)) else none) else none) else none) else none) else none
def fX5_copyFrom (A : k_H) (x0 x1 : Int) : Option (Int × k_H) := fX5_copyFrom_b0 A x0 x1
set_option maxRecDepth 100000 in
theorem okX5_copyFrom_b0 (A : k_H) (v0 v1 : Int) (r : Int) (A' : k_H) (h : fX5_copyFrom_b0 A v0 v1 = some (r, A')) : k_AW 1 mX5_copyFrom 0 [(1, v0), (1, v1)] [] A r A' := by
  unfold fX5_copyFrom_b0 at h
  refine k_aload_n (pc := 0) (x := v1) dX5_copyFrom_0 rfl rfl ?_
  obtain ⟨hc1, h⟩ := k_pk h
  refine k_getf (pc := 1) (t := 1) (fi := 0) dX5_copyFrom_1 flX5_9 rfl rfl hc1 ?_
  refine k_iconst (pc := 4) dX5_copyFrom_4 ⟨by decide, by decide⟩ ?_
  refine k_aload_n (pc := 5) (x := v0) dX5_copyFrom_5 rfl rfl ?_
  obtain ⟨hc2, h⟩ := k_pk h
  refine k_getf (pc := 6) (t := 1) (fi := 0) dX5_copyFrom_6 flX5_9 rfl rfl hc2 ?_
  refine k_iconst (pc := 9) dX5_copyFrom_9 ⟨by decide, by decide⟩ ?_
  refine k_sipush (pc := 10) dX5_copyFrom_10 ⟨by decide, by decide⟩ (by decide +kernel) ?_
  obtain ⟨hc3, h⟩ := k_pk h
  obtain ⟨hc4, h⟩ := k_pk h
  obtain ⟨hc5, h⟩ := k_pk h
  refine k_copy (pc := 13) dX5_copyFrom_13 (k_gt 605 (by decide +kernel) (by decide +kernel)) (by omega) (Nat.le_of_ble_eq_true rfl) hc3 hc4 hc5.1 hc5.2.1 hc5.2.2.1 hc5.2.2.2.1 hc5.2.2.2.2 ?_
  obtain ⟨A6, eA7, h⟩ := k_pl h
  refine k_hq eA7 ?_
  refine k_aload_n (pc := 16) (x := v0) dX5_copyFrom_16 rfl rfl ?_
  refine k_aload_n (pc := 17) (x := v1) dX5_copyFrom_17 rfl rfl ?_
  have hf8 := k_oX eA7 hc1
  refine k_getf (pc := 18) (t := 0) (fi := 1) dX5_copyFrom_18 flX5_15 rfl rfl hf8 ?_
  have hf9 := k_oX eA7 hc2
  refine k_putf (pc := 21) (t := 0) (fi := 1) dX5_copyFrom_21 flX5_15 rfl rfl hf9 rfl ?_
  obtain ⟨A10, eA11, h⟩ := k_pl h
  refine k_hq eA11 ?_
  obtain ⟨rfl, rfl⟩ := k_pr h
  exact k_retv (pc := 24) dX5_copyFrom_24 rfl
theorem okX5_copyFrom {A : k_H} {x0 x1 : Int} {r : Int} {A1 : k_H} (h : fX5_copyFrom A x0 x1 = some (r, A1)) : k_AM 1 mX5_copyFrom [(1, x0), (1, x1)] A r A1 :=
  k_AM_of2 (ls := [(1, x0), (1, x1)]) (Or.inl (by decide +kernel)) (by decide +kernel) (by decide) rfl (Nat.le_of_ble_eq_true rfl) ⟨Or.inr rfl, Or.inr rfl, trivial⟩ (okX5_copyFrom_b0 A x0 x1 r A1 h)
/-! X5_byteAt -/
def fX5_byteAt_b0 (A : k_H) (v0 v1 : Int) : Option (Int × k_H) := if 0 ≤ v1 then (if k_isO A v0 5 then (if v1 < (k_rd A v0 1) then (if k_isA A (k_rd A v0 0) 21 v1 then (some ((k_rd A (k_rd A v0 0) v1), A)) else none) else (some ((-1), A))) else none) else (some ((-1), A))
def fX5_byteAt (A : k_H) (x0 x1 : Int) : Option (Int × k_H) := fX5_byteAt_b0 A x0 x1
set_option maxRecDepth 100000 in
theorem okX5_byteAt_b0 (A : k_H) (v0 v1 : Int) (r : Int) (A' : k_H) (h : fX5_byteAt_b0 A v0 v1 = some (r, A')) : k_AW 1 mX5_byteAt 0 [(1, v0), (0, v1)] [] A r A' := by
  unfold fX5_byteAt_b0 at h
  refine k_iload_n (pc := 0) (x := v1) dX5_byteAt_0 rfl rfl ?_
  refine k_if_lt (pc := 1) (tgt := 21) dX5_byteAt_1 rfl (fun c1 => ?_) (fun c1 => ?_)
  · rw [if_neg (Int.not_le.mpr c1)] at h
    refine k_iconst (pc := 21) dX5_byteAt_21 ⟨by decide, by decide⟩ ?_
    obtain ⟨rfl, rfl⟩ := k_pr h
    exact k_ret (pc := 22) dX5_byteAt_22 rfl rfl rfl
  · rw [if_pos (Int.not_lt.mp c1)] at h
    refine k_iload_n (pc := 4) (x := v1) dX5_byteAt_4 rfl rfl ?_
    refine k_aload_n (pc := 5) (x := v0) dX5_byteAt_5 rfl rfl ?_
    obtain ⟨hc2, h⟩ := k_pk h
    refine k_getf (pc := 6) (t := 0) (fi := 1) dX5_byteAt_6 flX5_15 rfl rfl hc2 ?_
    refine k_icmp_ge (pc := 9) (tgt := 21) dX5_byteAt_9 rfl (fun c3 => ?_) (fun c3 => ?_)
    · rw [if_neg (Int.not_lt.mpr c3)] at h
      refine k_iconst (pc := 21) dX5_byteAt_21 ⟨by decide, by decide⟩ ?_
      obtain ⟨rfl, rfl⟩ := k_pr h
      exact k_ret (pc := 22) dX5_byteAt_22 rfl rfl rfl
    · rw [if_pos (Int.not_le.mp c3)] at h
      refine k_aload_n (pc := 12) (x := v0) dX5_byteAt_12 rfl rfl ?_
      refine k_getf (pc := 13) (t := 1) (fi := 0) dX5_byteAt_13 flX5_9 rfl rfl hc2 ?_
      refine k_iload_n (pc := 16) (x := v1) dX5_byteAt_16 rfl rfl ?_
      obtain ⟨hc4, h⟩ := k_pk h
      refine k_iaload (pc := 17) dX5_byteAt_17 hc4 ?_
      refine k_goto (pc := 18) (tgt := 22) dX5_byteAt_18 rfl ?_
      obtain ⟨rfl, rfl⟩ := k_pr h
      exact k_ret (pc := 22) dX5_byteAt_22 rfl rfl rfl
theorem okX5_byteAt {A : k_H} {x0 x1 : Int} {r : Int} {A1 : k_H} (h : fX5_byteAt A x0 x1 = some (r, A1)) : k_AM 1 mX5_byteAt [(1, x0), (0, x1)] A r A1 :=
  k_AM_of2 (ls := [(1, x0), (0, x1)]) (Or.inl (by decide +kernel)) (by decide +kernel) (by decide) rfl (Nat.le_of_ble_eq_true rfl) ⟨Or.inr rfl, Or.inr rfl, trivial⟩ (okX5_byteAt_b0 A x0 x1 r A1 h)
/-! X5_holdsAmps -/
def fX5_holdsAmps_h20 : Nat → k_H → Int → Int → Option (Int × k_H)
  | 0, _, _, _ => none
  | N + 1, A, v0, v3 => if k_isO A v0 5 then (if v3 < (k_rd A v0 1) then (if k_isA A (k_rd A v0 0) 21 v3 then (if (k_rd A (k_rd A v0 0) v3) = 0 then (some (0, A)) else ((fX5_holdsAmps_h20 N) A v0 (k_wr (v3 + 1)))) else none) else (some (1, A))) else none
def fX5_holdsAmps_b0 (A : k_H) (v0 v1 v2 : Int) : Option (Int × k_H) := if k_isO A v0 5 then (if v1 ≤ (k_rd A v0 1) then (if v2 < (k_rd A v0 1) then (some (0, A)) else (fX5_holdsAmps_h20 k_FU A v0 0)) else (some (0, A))) else none
def fX5_holdsAmps (A : k_H) (x0 x1 x2 : Int) : Option (Int × k_H) := fX5_holdsAmps_b0 A x0 x1 x2
set_option maxRecDepth 100000 in
theorem okX5_holdsAmps_h20 : ∀ (N : Nat) (A : k_H) (v0 v3 : Int) (r : Int) (A' : k_H), fX5_holdsAmps_h20 N A v0 v3 = some (r, A') → k_AW 1 mX5_holdsAmps 20 [(1, v0), (3, 0), (3, 0), (0, v3)] [] A r A' := by
  intro N
  induction N with
  | zero => intro A v0 v3 r A' h; exact absurd h (by simp [fX5_holdsAmps_h20])
  | succ N ih =>
    intro A v0 v3 r A' h
    rw [fX5_holdsAmps_h20] at h
    refine k_iload_n (pc := 20) (x := v3) dX5_holdsAmps_20 rfl rfl ?_
    refine k_aload_n (pc := 21) (x := v0) dX5_holdsAmps_21 rfl rfl ?_
    obtain ⟨hc1, h⟩ := k_pk h
    refine k_getf (pc := 22) (t := 0) (fi := 1) dX5_holdsAmps_22 flX5_15 rfl rfl hc1 ?_
    refine k_icmp_ge (pc := 25) (tgt := 45) dX5_holdsAmps_25 rfl (fun c2 => ?_) (fun c2 => ?_)
    · rw [if_neg (Int.not_lt.mpr c2)] at h
      refine k_iconst (pc := 45) dX5_holdsAmps_45 ⟨by decide, by decide⟩ ?_
      obtain ⟨rfl, rfl⟩ := k_pr h
      exact k_ret (pc := 46) dX5_holdsAmps_46 rfl rfl (by decide +kernel)
    · rw [if_pos (Int.not_le.mp c2)] at h
      refine k_aload_n (pc := 28) (x := v0) dX5_holdsAmps_28 rfl rfl ?_
      refine k_getf (pc := 29) (t := 1) (fi := 0) dX5_holdsAmps_29 flX5_9 rfl rfl hc1 ?_
      refine k_iload_n (pc := 32) (x := v3) dX5_holdsAmps_32 rfl rfl ?_
      obtain ⟨hc3, h⟩ := k_pk h
      refine k_iaload (pc := 33) dX5_holdsAmps_33 hc3 ?_
      refine k_if_ne (pc := 34) (tgt := 39) dX5_holdsAmps_34 rfl (fun c4 => ?_) (fun c4 => ?_)
      · rw [if_neg c4] at h
        refine k_iinc (pc := 39) (x := v3) dX5_holdsAmps_39 (Nat.le_of_ble_eq_true rfl) rfl rfl ?_
        show k_AW _ _ _ [(1, v0), (3, 0), (3, 0), (0, k_wr (v3 + 1))] _ _ _ _
        refine k_goto (pc := 42) (tgt := 20) dX5_holdsAmps_42 rfl ?_
        refine k_sub (ls' := [(1, v0), (3, 0), (3, 0), (0, k_wr (v3 + 1))]) (k_sbl_ok _ _ ⟨Or.inr rfl, Or.inl rfl, Or.inl rfl, Or.inr rfl, trivial⟩) ?_
        exact ih _ _ _ _ _ h
      · rw [if_pos (Classical.not_not.mp c4)] at h
        refine k_iconst (pc := 37) dX5_holdsAmps_37 ⟨by decide, by decide⟩ ?_
        obtain ⟨rfl, rfl⟩ := k_pr h
        exact k_ret (pc := 38) dX5_holdsAmps_38 rfl rfl (by decide +kernel)
set_option maxRecDepth 100000 in
theorem okX5_holdsAmps_b0 (A : k_H) (v0 v1 v2 : Int) (r : Int) (A' : k_H) (h : fX5_holdsAmps_b0 A v0 v1 v2 = some (r, A')) : k_AW 1 mX5_holdsAmps 0 [(1, v0), (0, v1), (0, v2), (3, 0)] [] A r A' := by
  unfold fX5_holdsAmps_b0 at h
  refine k_aload_n (pc := 0) (x := v0) dX5_holdsAmps_0 rfl rfl ?_
  obtain ⟨hc1, h⟩ := k_pk h
  refine k_getf (pc := 1) (t := 0) (fi := 1) dX5_holdsAmps_1 flX5_15 rfl rfl hc1 ?_
  refine k_iload_n (pc := 4) (x := v1) dX5_holdsAmps_4 rfl rfl ?_
  refine k_icmp_lt (pc := 5) (tgt := 16) dX5_holdsAmps_5 rfl (fun c2 => ?_) (fun c2 => ?_)
  · rw [if_neg (Int.not_le.mpr c2)] at h
    refine k_iconst (pc := 16) dX5_holdsAmps_16 ⟨by decide, by decide⟩ ?_
    obtain ⟨rfl, rfl⟩ := k_pr h
    exact k_ret (pc := 17) dX5_holdsAmps_17 rfl rfl (by decide +kernel)
  · rw [if_pos (Int.not_lt.mp c2)] at h
    refine k_aload_n (pc := 8) (x := v0) dX5_holdsAmps_8 rfl rfl ?_
    refine k_getf (pc := 9) (t := 0) (fi := 1) dX5_holdsAmps_9 flX5_15 rfl rfl hc1 ?_
    refine k_iload_n (pc := 12) (x := v2) dX5_holdsAmps_12 rfl rfl ?_
    refine k_icmp_le (pc := 13) (tgt := 18) dX5_holdsAmps_13 rfl (fun c3 => ?_) (fun c3 => ?_)
    · rw [if_neg (Int.not_lt.mpr c3)] at h
      refine k_iconst (pc := 18) dX5_holdsAmps_18 ⟨by decide, by decide⟩ ?_
      refine k_istore_n (pc := 19) dX5_holdsAmps_19 rfl (Nat.le_of_ble_eq_true rfl) rfl ?_
      show k_AW _ _ _ [(1, v0), (0, v1), (0, v2), (0, 0)] _ _ _ _
      refine k_sub (ls' := [(1, v0), (3, 0), (3, 0), (0, 0)]) (k_sbl_ok _ _ ⟨Or.inr rfl, Or.inl rfl, Or.inl rfl, Or.inr rfl, trivial⟩) ?_
      exact okX5_holdsAmps_h20  _ _ _ _ _ _ h
    · rw [if_pos (Int.not_le.mp c3)] at h
      refine k_iconst (pc := 16) dX5_holdsAmps_16 ⟨by decide, by decide⟩ ?_
      obtain ⟨rfl, rfl⟩ := k_pr h
      exact k_ret (pc := 17) dX5_holdsAmps_17 rfl rfl (by decide +kernel)
theorem okX5_holdsAmps {A : k_H} {x0 x1 x2 : Int} {r : Int} {A1 : k_H} (h : fX5_holdsAmps A x0 x1 x2 = some (r, A1)) : k_AM 1 mX5_holdsAmps [(1, x0), (0, x1), (0, x2)] A r A1 :=
  k_AM_of2 (ls := [(1, x0), (0, x1), (0, x2), (3, 0)]) (Or.inl (by decide +kernel)) (by decide +kernel) (by decide) rfl (Nat.le_of_ble_eq_true rfl) ⟨Or.inr rfl, Or.inr rfl, Or.inr rfl, rfl, trivial⟩ (okX5_holdsAmps_b0 A x0 x1 x2 r A1 h)
/-! X6_init -/
def fX6_init_b0 (A : k_H) (v0 : Int) : Option (Int × k_H) := if 0 ≤ v0 then (k_lt (k_mk A 21 3) fun A2 => if k_isO A2 v0 6 then (k_lt (k_wt A2 v0 0 (k_N A : Int)) fun A5 => k_lt (k_mk A5 21 3) fun A7 => if k_isO A7 v0 6 then (k_lt (k_wt A7 v0 1 (k_N A5 : Int)) fun A10 => some (0, A10)) else none) else none) else none
def fX6_init (A : k_H) (x0 : Int) : Option (Int × k_H) := fX6_init_b0 A x0
set_option maxRecDepth 100000 in
theorem okX6_init_b0 (A : k_H) (v0 : Int) (r : Int) (A' : k_H) (h : fX6_init_b0 A v0 = some (r, A')) : k_AW 1 mX6_init 0 [(1, v0)] [] A r A' := by
  unfold fX6_init_b0 at h
  refine k_aload_n (pc := 0) (x := v0) dX6_init_0 rfl rfl ?_
  obtain ⟨hc1, h⟩ := k_pk h
  refine k_objInit (pc := 1) dX6_init_1 (k_gt 135 (by decide +kernel) (by decide +kernel)) (by omega) hc1 (Nat.le_of_ble_eq_true rfl) ?_
  refine k_aload_n (pc := 4) (x := v0) dX6_init_4 rfl rfl ?_
  refine k_iconst (pc := 5) dX6_init_5 ⟨by decide, by decide⟩ ?_
  refine k_newa (pc := 6) (n := 3) dX6_init_6 k_atI rfl (by decide) ?_
  obtain ⟨A2, eA3, h⟩ := k_pl h
  refine k_hq eA3 ?_
  obtain ⟨hc4, h⟩ := k_pk h
  refine k_putF (pc := 8) (t := 1) (fi := 0) dX6_init_8 flX6_9 rfl (fun Cn Tt Nn h9 => by cases h9; rfl) rfl rfl hc4 rfl ?_
  obtain ⟨A5, eA6, h⟩ := k_pl h
  refine k_hq eA6 ?_
  refine k_aload_n (pc := 11) (x := v0) dX6_init_11 rfl rfl ?_
  refine k_iconst (pc := 12) dX6_init_12 ⟨by decide, by decide⟩ ?_
  refine k_newa (pc := 13) (n := 3) dX6_init_13 k_atI rfl (by decide) ?_
  obtain ⟨A7, eA8, h⟩ := k_pl h
  refine k_hq eA8 ?_
  obtain ⟨hc9, h⟩ := k_pk h
  refine k_putF (pc := 15) (t := 1) (fi := 1) dX6_init_15 flX6_15 rfl (fun Cn Tt Nn h9 => by cases h9; rfl) rfl rfl hc9 rfl ?_
  obtain ⟨A10, eA11, h⟩ := k_pl h
  refine k_hq eA11 ?_
  obtain ⟨rfl, rfl⟩ := k_pr h
  exact k_retv (pc := 18) dX6_init_18 rfl
theorem okX6_init {A : k_H} {x0 : Int} {r : Int} {A1 : k_H} (h : fX6_init A x0 = some (r, A1)) : k_AM 1 mX6_init [(1, x0)] A r A1 :=
  k_AM_of2 (ls := [(1, x0)]) (Or.inl (by decide +kernel)) (by decide +kernel) (by decide) rfl (Nat.le_of_ble_eq_true rfl) ⟨Or.inr rfl, trivial⟩ (okX6_init_b0 A x0 r A1 h)
/-! X6_clear -/
def fX6_clear_b0 (A : k_H) (v0 : Int) : Option (Int × k_H) := if k_isO A v0 6 then (k_lt (k_wt A v0 2 0) fun A2 => k_lt (k_wt A2 v0 3 0) fun A5 => k_lt (k_wt A5 v0 4 0) fun A8 => k_lt (k_wt A8 v0 5 0) fun A11 => k_lt (k_wt A11 v0 6 0) fun A14 => some (0, A14)) else none
def fX6_clear (A : k_H) (x0 : Int) : Option (Int × k_H) := fX6_clear_b0 A x0
set_option maxRecDepth 100000 in
theorem okX6_clear_b0 (A : k_H) (v0 : Int) (r : Int) (A' : k_H) (h : fX6_clear_b0 A v0 = some (r, A')) : k_AW 1 mX6_clear 0 [(1, v0)] [] A r A' := by
  unfold fX6_clear_b0 at h
  refine k_aload_n (pc := 0) (x := v0) dX6_clear_0 rfl rfl ?_
  refine k_iconst (pc := 1) dX6_clear_1 ⟨by decide, by decide⟩ ?_
  obtain ⟨hc1, h⟩ := k_pk h
  refine k_putf (pc := 2) (t := 0) (fi := 2) dX6_clear_2 flX6_18 rfl rfl hc1 rfl ?_
  obtain ⟨A2, eA3, h⟩ := k_pl h
  refine k_hq eA3 ?_
  refine k_aload_n (pc := 5) (x := v0) dX6_clear_5 rfl rfl ?_
  refine k_iconst (pc := 6) dX6_clear_6 ⟨by decide, by decide⟩ ?_
  have hf4 := k_oW eA3 hc1
  refine k_putf (pc := 7) (t := 0) (fi := 3) dX6_clear_7 flX6_22 rfl rfl hf4 rfl ?_
  obtain ⟨A5, eA6, h⟩ := k_pl h
  refine k_hq eA6 ?_
  refine k_aload_n (pc := 10) (x := v0) dX6_clear_10 rfl rfl ?_
  refine k_iconst (pc := 11) dX6_clear_11 ⟨by decide, by decide⟩ ?_
  have hf7 := k_oW eA6 hf4
  refine k_putf (pc := 12) (t := 0) (fi := 4) dX6_clear_12 flX6_25 rfl rfl hf7 rfl ?_
  obtain ⟨A8, eA9, h⟩ := k_pl h
  refine k_hq eA9 ?_
  refine k_aload_n (pc := 15) (x := v0) dX6_clear_15 rfl rfl ?_
  refine k_iconst (pc := 16) dX6_clear_16 ⟨by decide, by decide⟩ ?_
  have hf10 := k_oW eA9 hf7
  refine k_putf (pc := 17) (t := 0) (fi := 5) dX6_clear_17 flX6_28 rfl rfl hf10 rfl ?_
  obtain ⟨A11, eA12, h⟩ := k_pl h
  refine k_hq eA12 ?_
  refine k_aload_n (pc := 20) (x := v0) dX6_clear_20 rfl rfl ?_
  refine k_iconst (pc := 21) dX6_clear_21 ⟨by decide, by decide⟩ ?_
  have hf13 := k_oW eA12 hf10
  refine k_putf (pc := 22) (t := 0) (fi := 6) dX6_clear_22 flX6_31 rfl rfl hf13 ⟨rfl, Or.inl rfl⟩ ?_
  obtain ⟨A14, eA15, h⟩ := k_pl h
  refine k_hq eA15 ?_
  obtain ⟨rfl, rfl⟩ := k_pr h
  exact k_retv (pc := 25) dX6_clear_25 rfl
theorem okX6_clear {A : k_H} {x0 : Int} {r : Int} {A1 : k_H} (h : fX6_clear A x0 = some (r, A1)) : k_AM 1 mX6_clear [(1, x0)] A r A1 :=
  k_AM_of2 (ls := [(1, x0)]) (Or.inl (by decide +kernel)) (by decide +kernel) (by decide) rfl (Nat.le_of_ble_eq_true rfl) ⟨Or.inr rfl, trivial⟩ (okX6_clear_b0 A x0 r A1 h)
/-! X6_copyFrom -/
def fX6_copyFrom_b0 (A : k_H) (v0 v1 : Int) : Option (Int × k_H) := if k_isO A v1 6 then (if k_isO A v0 6 then (if k_isR A (k_rd A v1 0) 21 then (if k_isR A (k_rd A v0 0) 21 then (if (0 : Int) ≤ 0 ∧ (0 : Int) ≤ 0 ∧ (0 : Int) ≤ 3 ∧ (0 : Int) + 3 ≤ ((k_kd A (k_rd A v1 0)).2 : Int) ∧ (0 : Int) + 3 ≤ ((k_kd A (k_rd A v0 0)).2 : Int) then (k_lt (k_cp A (k_rd A v1 0) 0 (k_rd A v0 0) 0 3) fun A6 => if k_isR A6 (k_rd A6 v1 1) 21 then (if k_isR A6 (k_rd A6 v0 1) 21 then (if (0 : Int) ≤ 0 ∧ (0 : Int) ≤ 0 ∧ (0 : Int) ≤ 3 ∧ (0 : Int) + 3 ≤ ((k_kd A6 (k_rd A6 v1 1)).2 : Int) ∧ (0 : Int) + 3 ≤ ((k_kd A6 (k_rd A6 v0 1)).2 : Int) then (k_lt (k_cp A6 (k_rd A6 v1 1) 0 (k_rd A6 v0 1) 0 3) fun A13 => k_lt (k_wt A13 v0 2 (k_rd A13 v1 2)) fun A17 => k_lt (k_wt A17 v0 3 (k_rd A17 v1 3)) fun A21 => k_lt (k_wt A21 v0 4 (k_rd A21 v1 4)) fun A25 => k_lt (k_wt A25 v0 5 (k_rd A25 v1 5)) fun A29 => if (k_rd A29 v1 6) = 0 ∨ (k_rd A29 v1 6) = 1 then (k_lt (k_wt A29 v0 6 (k_rd A29 v1 6)) fun A34 => some (0, A34)) else none) else none) else none) else none) else none) else none) else none) else none) else none
def fX6_copyFrom (A : k_H) (x0 x1 : Int) : Option (Int × k_H) := fX6_copyFrom_b0 A x0 x1
set_option maxRecDepth 100000 in
theorem okX6_copyFrom_b0 (A : k_H) (v0 v1 : Int) (r : Int) (A' : k_H) (h : fX6_copyFrom_b0 A v0 v1 = some (r, A')) : k_AW 1 mX6_copyFrom 0 [(1, v0), (1, v1)] [] A r A' := by
  unfold fX6_copyFrom_b0 at h
  refine k_aload_n (pc := 0) (x := v1) dX6_copyFrom_0 rfl rfl ?_
  obtain ⟨hc1, h⟩ := k_pk h
  refine k_getf (pc := 1) (t := 1) (fi := 0) dX6_copyFrom_1 flX6_9 rfl rfl hc1 ?_
  refine k_iconst (pc := 4) dX6_copyFrom_4 ⟨by decide, by decide⟩ ?_
  refine k_aload_n (pc := 5) (x := v0) dX6_copyFrom_5 rfl rfl ?_
  obtain ⟨hc2, h⟩ := k_pk h
  refine k_getf (pc := 6) (t := 1) (fi := 0) dX6_copyFrom_6 flX6_9 rfl rfl hc2 ?_
  refine k_iconst (pc := 9) dX6_copyFrom_9 ⟨by decide, by decide⟩ ?_
  refine k_iconst (pc := 10) dX6_copyFrom_10 ⟨by decide, by decide⟩ ?_
  obtain ⟨hc3, h⟩ := k_pk h
  obtain ⟨hc4, h⟩ := k_pk h
  obtain ⟨hc5, h⟩ := k_pk h
  refine k_copy (pc := 11) dX6_copyFrom_11 (k_gt 734 (by decide +kernel) (by decide +kernel)) (by omega) (Nat.le_of_ble_eq_true rfl) hc3 hc4 hc5.1 hc5.2.1 hc5.2.2.1 hc5.2.2.2.1 hc5.2.2.2.2 ?_
  obtain ⟨A6, eA7, h⟩ := k_pl h
  refine k_hq eA7 ?_
  refine k_aload_n (pc := 14) (x := v1) dX6_copyFrom_14 rfl rfl ?_
  have hf8 := k_oX eA7 hc1
  refine k_getf (pc := 15) (t := 1) (fi := 1) dX6_copyFrom_15 flX6_15 rfl rfl hf8 ?_
  refine k_iconst (pc := 18) dX6_copyFrom_18 ⟨by decide, by decide⟩ ?_
  refine k_aload_n (pc := 19) (x := v0) dX6_copyFrom_19 rfl rfl ?_
  have hf9 := k_oX eA7 hc2
  refine k_getf (pc := 20) (t := 1) (fi := 1) dX6_copyFrom_20 flX6_15 rfl rfl hf9 ?_
  refine k_iconst (pc := 23) dX6_copyFrom_23 ⟨by decide, by decide⟩ ?_
  refine k_iconst (pc := 24) dX6_copyFrom_24 ⟨by decide, by decide⟩ ?_
  obtain ⟨hc10, h⟩ := k_pk h
  obtain ⟨hc11, h⟩ := k_pk h
  obtain ⟨hc12, h⟩ := k_pk h
  refine k_copy (pc := 25) dX6_copyFrom_25 (k_gt 734 (by decide +kernel) (by decide +kernel)) (by omega) (Nat.le_of_ble_eq_true rfl) hc10 hc11 hc12.1 hc12.2.1 hc12.2.2.1 hc12.2.2.2.1 hc12.2.2.2.2 ?_
  obtain ⟨A13, eA14, h⟩ := k_pl h
  refine k_hq eA14 ?_
  refine k_aload_n (pc := 28) (x := v0) dX6_copyFrom_28 rfl rfl ?_
  refine k_aload_n (pc := 29) (x := v1) dX6_copyFrom_29 rfl rfl ?_
  have hf15 := k_oX eA14 hf8
  refine k_getf (pc := 30) (t := 0) (fi := 2) dX6_copyFrom_30 flX6_18 rfl rfl hf15 ?_
  have hf16 := k_oX eA14 hf9
  refine k_putf (pc := 33) (t := 0) (fi := 2) dX6_copyFrom_33 flX6_18 rfl rfl hf16 rfl ?_
  obtain ⟨A17, eA18, h⟩ := k_pl h
  refine k_hq eA18 ?_
  refine k_aload_n (pc := 36) (x := v0) dX6_copyFrom_36 rfl rfl ?_
  refine k_aload_n (pc := 37) (x := v1) dX6_copyFrom_37 rfl rfl ?_
  have hf19 := k_oW eA18 hf15
  refine k_getf (pc := 38) (t := 0) (fi := 3) dX6_copyFrom_38 flX6_22 rfl rfl hf19 ?_
  have hf20 := k_oW eA18 hf16
  refine k_putf (pc := 41) (t := 0) (fi := 3) dX6_copyFrom_41 flX6_22 rfl rfl hf20 rfl ?_
  obtain ⟨A21, eA22, h⟩ := k_pl h
  refine k_hq eA22 ?_
  refine k_aload_n (pc := 44) (x := v0) dX6_copyFrom_44 rfl rfl ?_
  refine k_aload_n (pc := 45) (x := v1) dX6_copyFrom_45 rfl rfl ?_
  have hf23 := k_oW eA22 hf19
  refine k_getf (pc := 46) (t := 0) (fi := 4) dX6_copyFrom_46 flX6_25 rfl rfl hf23 ?_
  have hf24 := k_oW eA22 hf20
  refine k_putf (pc := 49) (t := 0) (fi := 4) dX6_copyFrom_49 flX6_25 rfl rfl hf24 rfl ?_
  obtain ⟨A25, eA26, h⟩ := k_pl h
  refine k_hq eA26 ?_
  refine k_aload_n (pc := 52) (x := v0) dX6_copyFrom_52 rfl rfl ?_
  refine k_aload_n (pc := 53) (x := v1) dX6_copyFrom_53 rfl rfl ?_
  have hf27 := k_oW eA26 hf23
  refine k_getf (pc := 54) (t := 0) (fi := 5) dX6_copyFrom_54 flX6_28 rfl rfl hf27 ?_
  have hf28 := k_oW eA26 hf24
  refine k_putf (pc := 57) (t := 0) (fi := 5) dX6_copyFrom_57 flX6_28 rfl rfl hf28 rfl ?_
  obtain ⟨A29, eA30, h⟩ := k_pl h
  refine k_hq eA30 ?_
  refine k_aload_n (pc := 60) (x := v0) dX6_copyFrom_60 rfl rfl ?_
  refine k_aload_n (pc := 61) (x := v1) dX6_copyFrom_61 rfl rfl ?_
  have hf31 := k_oW eA30 hf27
  refine k_getf (pc := 62) (t := 0) (fi := 6) dX6_copyFrom_62 flX6_31 rfl rfl hf31 ?_
  have hf32 := k_oW eA30 hf28
  obtain ⟨hc33, h⟩ := k_pk h
  refine k_putf (pc := 65) (t := 0) (fi := 6) dX6_copyFrom_65 flX6_31 rfl rfl hf32 ⟨rfl, hc33⟩ ?_
  obtain ⟨A34, eA35, h⟩ := k_pl h
  refine k_hq eA35 ?_
  obtain ⟨rfl, rfl⟩ := k_pr h
  exact k_retv (pc := 68) dX6_copyFrom_68 rfl
theorem okX6_copyFrom {A : k_H} {x0 x1 : Int} {r : Int} {A1 : k_H} (h : fX6_copyFrom A x0 x1 = some (r, A1)) : k_AM 1 mX6_copyFrom [(1, x0), (1, x1)] A r A1 :=
  k_AM_of2 (ls := [(1, x0), (1, x1)]) (Or.inl (by decide +kernel)) (by decide +kernel) (by decide) rfl (Nat.le_of_ble_eq_true rfl) ⟨Or.inr rfl, Or.inr rfl, trivial⟩ (okX6_copyFrom_b0 A x0 x1 r A1 h)
/-! X6_companyHas -/
def fX6_companyHas_b41 (k7 : k_H → Int → Int → Int → Int → Option (Int × k_H)) (A : k_H) (v0 v1 v2 v3 s0 : Int) : Option (Int × k_H) := if k_isO A v0 6 then (if k_isA A (k_rd A v0 1) 21 v3 then (if k_isA A (k_rd A v0 0) 21 v3 then (k7 A v0 v1 (k_wr (v2 + k_wr (Int.tdiv (k_wr ((max 0 (k_wr (s0 - (k_rd A (k_rd A v0 1) v3)))) * (k_rd A (k_rd A v0 0) v3))) 100))) (k_wr (v3 + 1))) else none) else none) else none
def fX6_companyHas_h7 : Nat → k_H → Int → Int → Int → Int → Option (Int × k_H)
  | 0, _, _, _, _, _ => none
  | N + 1, A, v0, v1, v2, v3 => if k_isO A v0 6 then (if v3 < (k_rd A v0 2) then (if k_wr (v3 + 1) < (k_rd A v0 2) then (if k_isA A (k_rd A v0 1) 21 (k_wr (v3 + 1)) then (fX6_companyHas_b41 (fX6_companyHas_h7 N) A v0 v1 v2 v3 (min v1 (k_rd A (k_rd A v0 1) (k_wr (v3 + 1))))) else none) else (fX6_companyHas_b41 (fX6_companyHas_h7 N) A v0 v1 v2 v3 v1)) else (some (v2, A))) else none
def fX6_companyHas_b0 (A : k_H) (v0 v1 : Int) : Option (Int × k_H) := if k_isO A v0 6 then (fX6_companyHas_h7 k_FU A v0 v1 (k_rd A v0 3) 0) else none
def fX6_companyHas (A : k_H) (x0 x1 : Int) : Option (Int × k_H) := fX6_companyHas_b0 A x0 x1
set_option maxRecDepth 100000 in
theorem okX6_companyHas_b41 (k7 : k_H → Int → Int → Int → Int → Option (Int × k_H)) (hk7 : ∀ (A : k_H) (v0 v1 v2 v3 : Int) (r : Int) (A' : k_H), k7 A v0 v1 v2 v3 = some (r, A') → k_AW 2 mX6_companyHas 7 [(1, v0), (0, v1), (0, v2), (0, v3), (3, 0)] [] A r A') (A : k_H) (v0 v1 v2 v3 s0 : Int) (r : Int) (A' : k_H) (h : fX6_companyHas_b41 k7 A v0 v1 v2 v3 s0 = some (r, A')) : k_AW 2 mX6_companyHas 41 [(1, v0), (0, v1), (0, v2), (0, v3), (3, 0)] [(0, s0)] A r A' := by
  unfold fX6_companyHas_b41 at h
  refine k_istore (pc := 41) dX6_companyHas_41 (Nat.le_of_ble_eq_true rfl) rfl ?_
  show k_AW _ _ _ [(1, v0), (0, v1), (0, v2), (0, v3), (0, s0)] _ _ _ _
  refine k_iload_n (pc := 43) (x := v2) dX6_companyHas_43 rfl rfl ?_
  refine k_iconst (pc := 44) dX6_companyHas_44 ⟨by decide, by decide⟩ ?_
  refine k_iload (pc := 45) (x := s0) dX6_companyHas_45 rfl ?_
  refine k_aload_n (pc := 47) (x := v0) dX6_companyHas_47 rfl rfl ?_
  obtain ⟨hc1, h⟩ := k_pk h
  refine k_getf (pc := 48) (t := 1) (fi := 1) dX6_companyHas_48 flX6_15 rfl rfl hc1 ?_
  refine k_iload_n (pc := 51) (x := v3) dX6_companyHas_51 rfl rfl ?_
  obtain ⟨hc2, h⟩ := k_pk h
  refine k_iaload (pc := 52) dX6_companyHas_52 hc2 ?_
  refine k_isub (pc := 53) dX6_companyHas_53 ?_
  refine k_mmax (pc := 54) dX6_companyHas_54 (k_gt 758 (by decide +kernel) (by decide +kernel)) (by omega) (Nat.le_of_ble_eq_true rfl) ?_
  refine k_aload_n (pc := 57) (x := v0) dX6_companyHas_57 rfl rfl ?_
  refine k_getf (pc := 58) (t := 1) (fi := 0) dX6_companyHas_58 flX6_9 rfl rfl hc1 ?_
  refine k_iload_n (pc := 61) (x := v3) dX6_companyHas_61 rfl rfl ?_
  obtain ⟨hc3, h⟩ := k_pk h
  refine k_iaload (pc := 62) dX6_companyHas_62 hc3 ?_
  refine k_imul (pc := 63) dX6_companyHas_63 ?_
  refine k_bipush (pc := 64) dX6_companyHas_64 ⟨by decide, by decide⟩ (by decide +kernel) ?_
  refine k_idiv (pc := 66) dX6_companyHas_66 (by decide) ?_
  refine k_iadd (pc := 67) dX6_companyHas_67 ?_
  refine k_istore_n (pc := 68) dX6_companyHas_68 rfl (Nat.le_of_ble_eq_true rfl) rfl ?_
  show k_AW _ _ _ [(1, v0), (0, v1), (0, k_wr (v2 + k_wr (Int.tdiv (k_wr ((max 0 (k_wr (s0 - (k_rd A (k_rd A v0 1) v3)))) * (k_rd A (k_rd A v0 0) v3))) 100))), (0, v3), (0, s0)] _ _ _ _
  refine k_iinc (pc := 69) (x := v3) dX6_companyHas_69 (Nat.le_of_ble_eq_true rfl) rfl rfl ?_
  show k_AW _ _ _ [(1, v0), (0, v1), (0, k_wr (v2 + k_wr (Int.tdiv (k_wr ((max 0 (k_wr (s0 - (k_rd A (k_rd A v0 1) v3)))) * (k_rd A (k_rd A v0 0) v3))) 100))), (0, k_wr (v3 + 1)), (0, s0)] _ _ _ _
  refine k_goto (pc := 72) (tgt := 7) dX6_companyHas_72 rfl ?_
  refine k_sub (ls' := [(1, v0), (0, v1), (0, k_wr (v2 + k_wr (Int.tdiv (k_wr ((max 0 (k_wr (s0 - (k_rd A (k_rd A v0 1) v3)))) * (k_rd A (k_rd A v0 0) v3))) 100))), (0, k_wr (v3 + 1)), (3, 0)]) (k_sbl_ok _ _ ⟨Or.inr rfl, Or.inr rfl, Or.inr rfl, Or.inr rfl, Or.inl rfl, trivial⟩) ?_
  exact hk7 _ _ _ _ _ _ _ h
set_option maxRecDepth 100000 in
theorem okX6_companyHas_h7 : ∀ (N : Nat) (A : k_H) (v0 v1 v2 v3 : Int) (r : Int) (A' : k_H), fX6_companyHas_h7 N A v0 v1 v2 v3 = some (r, A') → k_AW 2 mX6_companyHas 7 [(1, v0), (0, v1), (0, v2), (0, v3), (3, 0)] [] A r A' := by
  intro N
  induction N with
  | zero => intro A v0 v1 v2 v3 r A' h; exact absurd h (by simp [fX6_companyHas_h7])
  | succ N ih =>
    intro A v0 v1 v2 v3 r A' h
    rw [fX6_companyHas_h7] at h
    refine k_iload_n (pc := 7) (x := v3) dX6_companyHas_7 rfl rfl ?_
    refine k_aload_n (pc := 8) (x := v0) dX6_companyHas_8 rfl rfl ?_
    obtain ⟨hc1, h⟩ := k_pk h
    refine k_getf (pc := 9) (t := 0) (fi := 2) dX6_companyHas_9 flX6_18 rfl rfl hc1 ?_
    refine k_icmp_ge (pc := 12) (tgt := 75) dX6_companyHas_12 rfl (fun c2 => ?_) (fun c2 => ?_)
    · rw [if_neg (Int.not_lt.mpr c2)] at h
      refine k_iload_n (pc := 75) (x := v2) dX6_companyHas_75 rfl rfl ?_
      obtain ⟨rfl, rfl⟩ := k_pr h
      exact k_ret (pc := 76) dX6_companyHas_76 rfl rfl rfl
    · rw [if_pos (Int.not_le.mp c2)] at h
      refine k_iload_n (pc := 15) (x := v3) dX6_companyHas_15 rfl rfl ?_
      refine k_iconst (pc := 16) dX6_companyHas_16 ⟨by decide, by decide⟩ ?_
      refine k_iadd (pc := 17) dX6_companyHas_17 ?_
      refine k_aload_n (pc := 18) (x := v0) dX6_companyHas_18 rfl rfl ?_
      refine k_getf (pc := 19) (t := 0) (fi := 2) dX6_companyHas_19 flX6_18 rfl rfl hc1 ?_
      refine k_icmp_ge (pc := 22) (tgt := 40) dX6_companyHas_22 rfl (fun c3 => ?_) (fun c3 => ?_)
      · rw [if_neg (Int.not_lt.mpr c3)] at h
        refine k_iload_n (pc := 40) (x := v1) dX6_companyHas_40 rfl rfl ?_
        refine k_sub (ls' := [(1, v0), (0, v1), (0, v2), (0, v3), (3, 0)]) (k_sbl_ok _ _ ⟨Or.inr rfl, Or.inr rfl, Or.inr rfl, Or.inr rfl, Or.inl rfl, trivial⟩) ?_
        exact okX6_companyHas_b41 (fX6_companyHas_h7 N) ih _ _ _ _ _ _ _ _ h
      · rw [if_pos (Int.not_le.mp c3)] at h
        refine k_iload_n (pc := 25) (x := v1) dX6_companyHas_25 rfl rfl ?_
        refine k_aload_n (pc := 26) (x := v0) dX6_companyHas_26 rfl rfl ?_
        refine k_getf (pc := 27) (t := 1) (fi := 1) dX6_companyHas_27 flX6_15 rfl rfl hc1 ?_
        refine k_iload_n (pc := 30) (x := v3) dX6_companyHas_30 rfl rfl ?_
        refine k_iconst (pc := 31) dX6_companyHas_31 ⟨by decide, by decide⟩ ?_
        refine k_iadd (pc := 32) dX6_companyHas_32 ?_
        obtain ⟨hc4, h⟩ := k_pk h
        refine k_iaload (pc := 33) dX6_companyHas_33 hc4 ?_
        refine k_mmin (pc := 34) dX6_companyHas_34 (k_gt 757 (by decide +kernel) (by decide +kernel)) (by omega) (Nat.le_of_ble_eq_true rfl) ?_
        refine k_goto (pc := 37) (tgt := 41) dX6_companyHas_37 rfl ?_
        refine k_sub (ls' := [(1, v0), (0, v1), (0, v2), (0, v3), (3, 0)]) (k_sbl_ok _ _ ⟨Or.inr rfl, Or.inr rfl, Or.inr rfl, Or.inr rfl, Or.inl rfl, trivial⟩) ?_
        exact okX6_companyHas_b41 (fX6_companyHas_h7 N) ih _ _ _ _ _ _ _ _ h
set_option maxRecDepth 100000 in
theorem okX6_companyHas_b0 (A : k_H) (v0 v1 : Int) (r : Int) (A' : k_H) (h : fX6_companyHas_b0 A v0 v1 = some (r, A')) : k_AW 2 mX6_companyHas 0 [(1, v0), (0, v1), (3, 0), (3, 0), (3, 0)] [] A r A' := by
  unfold fX6_companyHas_b0 at h
  refine k_aload_n (pc := 0) (x := v0) dX6_companyHas_0 rfl rfl ?_
  obtain ⟨hc1, h⟩ := k_pk h
  refine k_getf (pc := 1) (t := 0) (fi := 3) dX6_companyHas_1 flX6_22 rfl rfl hc1 ?_
  refine k_istore_n (pc := 4) dX6_companyHas_4 rfl (Nat.le_of_ble_eq_true rfl) rfl ?_
  show k_AW _ _ _ [(1, v0), (0, v1), (0, (k_rd A v0 3)), (3, 0), (3, 0)] _ _ _ _
  refine k_iconst (pc := 5) dX6_companyHas_5 ⟨by decide, by decide⟩ ?_
  refine k_istore_n (pc := 6) dX6_companyHas_6 rfl (Nat.le_of_ble_eq_true rfl) rfl ?_
  show k_AW _ _ _ [(1, v0), (0, v1), (0, (k_rd A v0 3)), (0, 0), (3, 0)] _ _ _ _
  refine k_sub (ls' := [(1, v0), (0, v1), (0, (k_rd A v0 3)), (0, 0), (3, 0)]) (k_sbl_ok _ _ ⟨Or.inr rfl, Or.inr rfl, Or.inr rfl, Or.inr rfl, Or.inl rfl, trivial⟩) ?_
  exact okX6_companyHas_h7  _ _ _ _ _ _ _ _ h
theorem okX6_companyHas {A : k_H} {x0 x1 : Int} {r : Int} {A1 : k_H} (h : fX6_companyHas A x0 x1 = some (r, A1)) : k_AM 2 mX6_companyHas [(1, x0), (0, x1)] A r A1 :=
  k_AM_of2 (ls := [(1, x0), (0, x1), (3, 0), (3, 0), (3, 0)]) (Or.inl (by decide +kernel)) (by decide +kernel) (by decide) rfl (Nat.le_of_ble_eq_true rfl) ⟨Or.inr rfl, Or.inr rfl, rfl, rfl, rfl, trivial⟩ (okX6_companyHas_b0 A x0 x1 r A1 h)
/-! X6_subsidyOfFee -/
def fX6_subsidyOfFee_b0 (A : k_H) (v0 : Int) : Option (Int × k_H) := if k_isO A v0 6 then (some ((min (k_rd A v0 5) (k_wr (Int.tdiv (k_wr ((k_rd A v0 3) * (k_rd A v0 4))) 100))), A)) else none
def fX6_subsidyOfFee (A : k_H) (x0 : Int) : Option (Int × k_H) := fX6_subsidyOfFee_b0 A x0
set_option maxRecDepth 100000 in
theorem okX6_subsidyOfFee_b0 (A : k_H) (v0 : Int) (r : Int) (A' : k_H) (h : fX6_subsidyOfFee_b0 A v0 = some (r, A')) : k_AW 2 mX6_subsidyOfFee 0 [(1, v0)] [] A r A' := by
  unfold fX6_subsidyOfFee_b0 at h
  refine k_aload_n (pc := 0) (x := v0) dX6_subsidyOfFee_0 rfl rfl ?_
  obtain ⟨hc1, h⟩ := k_pk h
  refine k_getf (pc := 1) (t := 0) (fi := 5) dX6_subsidyOfFee_1 flX6_28 rfl rfl hc1 ?_
  refine k_aload_n (pc := 4) (x := v0) dX6_subsidyOfFee_4 rfl rfl ?_
  refine k_getf (pc := 5) (t := 0) (fi := 3) dX6_subsidyOfFee_5 flX6_22 rfl rfl hc1 ?_
  refine k_aload_n (pc := 8) (x := v0) dX6_subsidyOfFee_8 rfl rfl ?_
  refine k_getf (pc := 9) (t := 0) (fi := 4) dX6_subsidyOfFee_9 flX6_25 rfl rfl hc1 ?_
  refine k_imul (pc := 12) dX6_subsidyOfFee_12 ?_
  refine k_bipush (pc := 13) dX6_subsidyOfFee_13 ⟨by decide, by decide⟩ (by decide +kernel) ?_
  refine k_idiv (pc := 15) dX6_subsidyOfFee_15 (by decide) ?_
  refine k_mmin (pc := 16) dX6_subsidyOfFee_16 (k_gt 757 (by decide +kernel) (by decide +kernel)) (by omega) (Nat.le_of_ble_eq_true rfl) ?_
  obtain ⟨rfl, rfl⟩ := k_pr h
  exact k_ret (pc := 19) dX6_subsidyOfFee_19 rfl rfl rfl
theorem okX6_subsidyOfFee {A : k_H} {x0 : Int} {r : Int} {A1 : k_H} (h : fX6_subsidyOfFee A x0 = some (r, A1)) : k_AM 2 mX6_subsidyOfFee [(1, x0)] A r A1 :=
  k_AM_of2 (ls := [(1, x0)]) (Or.inl (by decide +kernel)) (by decide +kernel) (by decide) rfl (Nat.le_of_ble_eq_true rfl) ⟨Or.inr rfl, trivial⟩ (okX6_subsidyOfFee_b0 A x0 r A1 h)
/-! J6_bitCount_0f7a4 -/
def fJ6_bitCount_0f7a4_b0 (A : k_H) (v0 : Int) : Option (Int × k_H) := some ((k_and (k_wr (k_wr ((k_and (k_wr (k_wr ((k_and (k_wr (v0 - (k_and (k_ushr v0 1) 1431655765))) 858993459) + (k_and (k_ushr (k_wr (v0 - (k_and (k_ushr v0 1) 1431655765))) 2) 858993459)) + (k_ushr (k_wr ((k_and (k_wr (v0 - (k_and (k_ushr v0 1) 1431655765))) 858993459) + (k_and (k_ushr (k_wr (v0 - (k_and (k_ushr v0 1) 1431655765))) 2) 858993459))) 4))) 252645135) + (k_ushr (k_and (k_wr (k_wr ((k_and (k_wr (v0 - (k_and (k_ushr v0 1) 1431655765))) 858993459) + (k_and (k_ushr (k_wr (v0 - (k_and (k_ushr v0 1) 1431655765))) 2) 858993459)) + (k_ushr (k_wr ((k_and (k_wr (v0 - (k_and (k_ushr v0 1) 1431655765))) 858993459) + (k_and (k_ushr (k_wr (v0 - (k_and (k_ushr v0 1) 1431655765))) 2) 858993459))) 4))) 252645135) 8)) + (k_ushr (k_wr ((k_and (k_wr (k_wr ((k_and (k_wr (v0 - (k_and (k_ushr v0 1) 1431655765))) 858993459) + (k_and (k_ushr (k_wr (v0 - (k_and (k_ushr v0 1) 1431655765))) 2) 858993459)) + (k_ushr (k_wr ((k_and (k_wr (v0 - (k_and (k_ushr v0 1) 1431655765))) 858993459) + (k_and (k_ushr (k_wr (v0 - (k_and (k_ushr v0 1) 1431655765))) 2) 858993459))) 4))) 252645135) + (k_ushr (k_and (k_wr (k_wr ((k_and (k_wr (v0 - (k_and (k_ushr v0 1) 1431655765))) 858993459) + (k_and (k_ushr (k_wr (v0 - (k_and (k_ushr v0 1) 1431655765))) 2) 858993459)) + (k_ushr (k_wr ((k_and (k_wr (v0 - (k_and (k_ushr v0 1) 1431655765))) 858993459) + (k_and (k_ushr (k_wr (v0 - (k_and (k_ushr v0 1) 1431655765))) 2) 858993459))) 4))) 252645135) 8))) 16))) 63), A)
def fJ6_bitCount_0f7a4 (A : k_H) (x0 : Int) : Option (Int × k_H) := fJ6_bitCount_0f7a4_b0 A x0
set_option maxRecDepth 100000 in
theorem okJ6_bitCount_0f7a4_b0 (A : k_H) (v0 : Int) (r : Int) (A' : k_H) (h : fJ6_bitCount_0f7a4_b0 A v0 = some (r, A')) : k_AW 1 mJ6_bitCount_0f7a4 0 [(0, v0)] [] A r A' := by
  unfold fJ6_bitCount_0f7a4_b0 at h
  refine k_iload_n (pc := 0) (x := v0) dJ6_bitCount_0f7a4_0 rfl rfl ?_
  refine k_iload_n (pc := 1) (x := v0) dJ6_bitCount_0f7a4_1 rfl rfl ?_
  refine k_iconst (pc := 2) dJ6_bitCount_0f7a4_2 ⟨by decide, by decide⟩ ?_
  refine k_iushr (pc := 3) dJ6_bitCount_0f7a4_3 ?_
  refine k_ldcw (pc := 4) (n := 1431655765) dJ6_bitCount_0f7a4_4 (k_gt 542 (by decide +kernel) (by decide +kernel)) ⟨by decide, by decide⟩ ?_
  refine k_iand (pc := 7) dJ6_bitCount_0f7a4_7 ?_
  refine k_isub (pc := 8) dJ6_bitCount_0f7a4_8 ?_
  refine k_istore_n (pc := 9) dJ6_bitCount_0f7a4_9 rfl (Nat.le_of_ble_eq_true rfl) rfl ?_
  show k_AW _ _ _ [(0, k_wr (v0 - (k_and (k_ushr v0 1) 1431655765)))] _ _ _ _
  refine k_iload_n (pc := 10) (x := k_wr (v0 - (k_and (k_ushr v0 1) 1431655765))) dJ6_bitCount_0f7a4_10 rfl rfl ?_
  refine k_ldcw (pc := 11) (n := 858993459) dJ6_bitCount_0f7a4_11 (k_gt 543 (by decide +kernel) (by decide +kernel)) ⟨by decide, by decide⟩ ?_
  refine k_iand (pc := 14) dJ6_bitCount_0f7a4_14 ?_
  refine k_iload_n (pc := 15) (x := k_wr (v0 - (k_and (k_ushr v0 1) 1431655765))) dJ6_bitCount_0f7a4_15 rfl rfl ?_
  refine k_iconst (pc := 16) dJ6_bitCount_0f7a4_16 ⟨by decide, by decide⟩ ?_
  refine k_iushr (pc := 17) dJ6_bitCount_0f7a4_17 ?_
  refine k_ldcw (pc := 18) (n := 858993459) dJ6_bitCount_0f7a4_18 (k_gt 543 (by decide +kernel) (by decide +kernel)) ⟨by decide, by decide⟩ ?_
  refine k_iand (pc := 21) dJ6_bitCount_0f7a4_21 ?_
  refine k_iadd (pc := 22) dJ6_bitCount_0f7a4_22 ?_
  refine k_istore_n (pc := 23) dJ6_bitCount_0f7a4_23 rfl (Nat.le_of_ble_eq_true rfl) rfl ?_
  show k_AW _ _ _ [(0, k_wr ((k_and (k_wr (v0 - (k_and (k_ushr v0 1) 1431655765))) 858993459) + (k_and (k_ushr (k_wr (v0 - (k_and (k_ushr v0 1) 1431655765))) 2) 858993459)))] _ _ _ _
  refine k_iload_n (pc := 24) (x := k_wr ((k_and (k_wr (v0 - (k_and (k_ushr v0 1) 1431655765))) 858993459) + (k_and (k_ushr (k_wr (v0 - (k_and (k_ushr v0 1) 1431655765))) 2) 858993459))) dJ6_bitCount_0f7a4_24 rfl rfl ?_
  refine k_iload_n (pc := 25) (x := k_wr ((k_and (k_wr (v0 - (k_and (k_ushr v0 1) 1431655765))) 858993459) + (k_and (k_ushr (k_wr (v0 - (k_and (k_ushr v0 1) 1431655765))) 2) 858993459))) dJ6_bitCount_0f7a4_25 rfl rfl ?_
  refine k_iconst (pc := 26) dJ6_bitCount_0f7a4_26 ⟨by decide, by decide⟩ ?_
  refine k_iushr (pc := 27) dJ6_bitCount_0f7a4_27 ?_
  refine k_iadd (pc := 28) dJ6_bitCount_0f7a4_28 ?_
  refine k_ldcw (pc := 29) (n := 252645135) dJ6_bitCount_0f7a4_29 (k_gt 544 (by decide +kernel) (by decide +kernel)) ⟨by decide, by decide⟩ ?_
  refine k_iand (pc := 32) dJ6_bitCount_0f7a4_32 ?_
  refine k_istore_n (pc := 33) dJ6_bitCount_0f7a4_33 rfl (Nat.le_of_ble_eq_true rfl) rfl ?_
  show k_AW _ _ _ [(0, (k_and (k_wr (k_wr ((k_and (k_wr (v0 - (k_and (k_ushr v0 1) 1431655765))) 858993459) + (k_and (k_ushr (k_wr (v0 - (k_and (k_ushr v0 1) 1431655765))) 2) 858993459)) + (k_ushr (k_wr ((k_and (k_wr (v0 - (k_and (k_ushr v0 1) 1431655765))) 858993459) + (k_and (k_ushr (k_wr (v0 - (k_and (k_ushr v0 1) 1431655765))) 2) 858993459))) 4))) 252645135))] _ _ _ _
  refine k_iload_n (pc := 34) (x := (k_and (k_wr (k_wr ((k_and (k_wr (v0 - (k_and (k_ushr v0 1) 1431655765))) 858993459) + (k_and (k_ushr (k_wr (v0 - (k_and (k_ushr v0 1) 1431655765))) 2) 858993459)) + (k_ushr (k_wr ((k_and (k_wr (v0 - (k_and (k_ushr v0 1) 1431655765))) 858993459) + (k_and (k_ushr (k_wr (v0 - (k_and (k_ushr v0 1) 1431655765))) 2) 858993459))) 4))) 252645135)) dJ6_bitCount_0f7a4_34 rfl rfl ?_
  refine k_iload_n (pc := 35) (x := (k_and (k_wr (k_wr ((k_and (k_wr (v0 - (k_and (k_ushr v0 1) 1431655765))) 858993459) + (k_and (k_ushr (k_wr (v0 - (k_and (k_ushr v0 1) 1431655765))) 2) 858993459)) + (k_ushr (k_wr ((k_and (k_wr (v0 - (k_and (k_ushr v0 1) 1431655765))) 858993459) + (k_and (k_ushr (k_wr (v0 - (k_and (k_ushr v0 1) 1431655765))) 2) 858993459))) 4))) 252645135)) dJ6_bitCount_0f7a4_35 rfl rfl ?_
  refine k_bipush (pc := 36) dJ6_bitCount_0f7a4_36 ⟨by decide, by decide⟩ (by decide +kernel) ?_
  refine k_iushr (pc := 38) dJ6_bitCount_0f7a4_38 ?_
  refine k_iadd (pc := 39) dJ6_bitCount_0f7a4_39 ?_
  refine k_istore_n (pc := 40) dJ6_bitCount_0f7a4_40 rfl (Nat.le_of_ble_eq_true rfl) rfl ?_
  show k_AW _ _ _ [(0, k_wr ((k_and (k_wr (k_wr ((k_and (k_wr (v0 - (k_and (k_ushr v0 1) 1431655765))) 858993459) + (k_and (k_ushr (k_wr (v0 - (k_and (k_ushr v0 1) 1431655765))) 2) 858993459)) + (k_ushr (k_wr ((k_and (k_wr (v0 - (k_and (k_ushr v0 1) 1431655765))) 858993459) + (k_and (k_ushr (k_wr (v0 - (k_and (k_ushr v0 1) 1431655765))) 2) 858993459))) 4))) 252645135) + (k_ushr (k_and (k_wr (k_wr ((k_and (k_wr (v0 - (k_and (k_ushr v0 1) 1431655765))) 858993459) + (k_and (k_ushr (k_wr (v0 - (k_and (k_ushr v0 1) 1431655765))) 2) 858993459)) + (k_ushr (k_wr ((k_and (k_wr (v0 - (k_and (k_ushr v0 1) 1431655765))) 858993459) + (k_and (k_ushr (k_wr (v0 - (k_and (k_ushr v0 1) 1431655765))) 2) 858993459))) 4))) 252645135) 8)))] _ _ _ _
  refine k_iload_n (pc := 41) (x := k_wr ((k_and (k_wr (k_wr ((k_and (k_wr (v0 - (k_and (k_ushr v0 1) 1431655765))) 858993459) + (k_and (k_ushr (k_wr (v0 - (k_and (k_ushr v0 1) 1431655765))) 2) 858993459)) + (k_ushr (k_wr ((k_and (k_wr (v0 - (k_and (k_ushr v0 1) 1431655765))) 858993459) + (k_and (k_ushr (k_wr (v0 - (k_and (k_ushr v0 1) 1431655765))) 2) 858993459))) 4))) 252645135) + (k_ushr (k_and (k_wr (k_wr ((k_and (k_wr (v0 - (k_and (k_ushr v0 1) 1431655765))) 858993459) + (k_and (k_ushr (k_wr (v0 - (k_and (k_ushr v0 1) 1431655765))) 2) 858993459)) + (k_ushr (k_wr ((k_and (k_wr (v0 - (k_and (k_ushr v0 1) 1431655765))) 858993459) + (k_and (k_ushr (k_wr (v0 - (k_and (k_ushr v0 1) 1431655765))) 2) 858993459))) 4))) 252645135) 8))) dJ6_bitCount_0f7a4_41 rfl rfl ?_
  refine k_iload_n (pc := 42) (x := k_wr ((k_and (k_wr (k_wr ((k_and (k_wr (v0 - (k_and (k_ushr v0 1) 1431655765))) 858993459) + (k_and (k_ushr (k_wr (v0 - (k_and (k_ushr v0 1) 1431655765))) 2) 858993459)) + (k_ushr (k_wr ((k_and (k_wr (v0 - (k_and (k_ushr v0 1) 1431655765))) 858993459) + (k_and (k_ushr (k_wr (v0 - (k_and (k_ushr v0 1) 1431655765))) 2) 858993459))) 4))) 252645135) + (k_ushr (k_and (k_wr (k_wr ((k_and (k_wr (v0 - (k_and (k_ushr v0 1) 1431655765))) 858993459) + (k_and (k_ushr (k_wr (v0 - (k_and (k_ushr v0 1) 1431655765))) 2) 858993459)) + (k_ushr (k_wr ((k_and (k_wr (v0 - (k_and (k_ushr v0 1) 1431655765))) 858993459) + (k_and (k_ushr (k_wr (v0 - (k_and (k_ushr v0 1) 1431655765))) 2) 858993459))) 4))) 252645135) 8))) dJ6_bitCount_0f7a4_42 rfl rfl ?_
  refine k_bipush (pc := 43) dJ6_bitCount_0f7a4_43 ⟨by decide, by decide⟩ (by decide +kernel) ?_
  refine k_iushr (pc := 45) dJ6_bitCount_0f7a4_45 ?_
  refine k_iadd (pc := 46) dJ6_bitCount_0f7a4_46 ?_
  refine k_istore_n (pc := 47) dJ6_bitCount_0f7a4_47 rfl (Nat.le_of_ble_eq_true rfl) rfl ?_
  show k_AW _ _ _ [(0, k_wr (k_wr ((k_and (k_wr (k_wr ((k_and (k_wr (v0 - (k_and (k_ushr v0 1) 1431655765))) 858993459) + (k_and (k_ushr (k_wr (v0 - (k_and (k_ushr v0 1) 1431655765))) 2) 858993459)) + (k_ushr (k_wr ((k_and (k_wr (v0 - (k_and (k_ushr v0 1) 1431655765))) 858993459) + (k_and (k_ushr (k_wr (v0 - (k_and (k_ushr v0 1) 1431655765))) 2) 858993459))) 4))) 252645135) + (k_ushr (k_and (k_wr (k_wr ((k_and (k_wr (v0 - (k_and (k_ushr v0 1) 1431655765))) 858993459) + (k_and (k_ushr (k_wr (v0 - (k_and (k_ushr v0 1) 1431655765))) 2) 858993459)) + (k_ushr (k_wr ((k_and (k_wr (v0 - (k_and (k_ushr v0 1) 1431655765))) 858993459) + (k_and (k_ushr (k_wr (v0 - (k_and (k_ushr v0 1) 1431655765))) 2) 858993459))) 4))) 252645135) 8)) + (k_ushr (k_wr ((k_and (k_wr (k_wr ((k_and (k_wr (v0 - (k_and (k_ushr v0 1) 1431655765))) 858993459) + (k_and (k_ushr (k_wr (v0 - (k_and (k_ushr v0 1) 1431655765))) 2) 858993459)) + (k_ushr (k_wr ((k_and (k_wr (v0 - (k_and (k_ushr v0 1) 1431655765))) 858993459) + (k_and (k_ushr (k_wr (v0 - (k_and (k_ushr v0 1) 1431655765))) 2) 858993459))) 4))) 252645135) + (k_ushr (k_and (k_wr (k_wr ((k_and (k_wr (v0 - (k_and (k_ushr v0 1) 1431655765))) 858993459) + (k_and (k_ushr (k_wr (v0 - (k_and (k_ushr v0 1) 1431655765))) 2) 858993459)) + (k_ushr (k_wr ((k_and (k_wr (v0 - (k_and (k_ushr v0 1) 1431655765))) 858993459) + (k_and (k_ushr (k_wr (v0 - (k_and (k_ushr v0 1) 1431655765))) 2) 858993459))) 4))) 252645135) 8))) 16)))] _ _ _ _
  refine k_iload_n (pc := 48) (x := k_wr (k_wr ((k_and (k_wr (k_wr ((k_and (k_wr (v0 - (k_and (k_ushr v0 1) 1431655765))) 858993459) + (k_and (k_ushr (k_wr (v0 - (k_and (k_ushr v0 1) 1431655765))) 2) 858993459)) + (k_ushr (k_wr ((k_and (k_wr (v0 - (k_and (k_ushr v0 1) 1431655765))) 858993459) + (k_and (k_ushr (k_wr (v0 - (k_and (k_ushr v0 1) 1431655765))) 2) 858993459))) 4))) 252645135) + (k_ushr (k_and (k_wr (k_wr ((k_and (k_wr (v0 - (k_and (k_ushr v0 1) 1431655765))) 858993459) + (k_and (k_ushr (k_wr (v0 - (k_and (k_ushr v0 1) 1431655765))) 2) 858993459)) + (k_ushr (k_wr ((k_and (k_wr (v0 - (k_and (k_ushr v0 1) 1431655765))) 858993459) + (k_and (k_ushr (k_wr (v0 - (k_and (k_ushr v0 1) 1431655765))) 2) 858993459))) 4))) 252645135) 8)) + (k_ushr (k_wr ((k_and (k_wr (k_wr ((k_and (k_wr (v0 - (k_and (k_ushr v0 1) 1431655765))) 858993459) + (k_and (k_ushr (k_wr (v0 - (k_and (k_ushr v0 1) 1431655765))) 2) 858993459)) + (k_ushr (k_wr ((k_and (k_wr (v0 - (k_and (k_ushr v0 1) 1431655765))) 858993459) + (k_and (k_ushr (k_wr (v0 - (k_and (k_ushr v0 1) 1431655765))) 2) 858993459))) 4))) 252645135) + (k_ushr (k_and (k_wr (k_wr ((k_and (k_wr (v0 - (k_and (k_ushr v0 1) 1431655765))) 858993459) + (k_and (k_ushr (k_wr (v0 - (k_and (k_ushr v0 1) 1431655765))) 2) 858993459)) + (k_ushr (k_wr ((k_and (k_wr (v0 - (k_and (k_ushr v0 1) 1431655765))) 858993459) + (k_and (k_ushr (k_wr (v0 - (k_and (k_ushr v0 1) 1431655765))) 2) 858993459))) 4))) 252645135) 8))) 16))) dJ6_bitCount_0f7a4_48 rfl rfl ?_
  refine k_bipush (pc := 49) dJ6_bitCount_0f7a4_49 ⟨by decide, by decide⟩ (by decide +kernel) ?_
  refine k_iand (pc := 51) dJ6_bitCount_0f7a4_51 ?_
  obtain ⟨rfl, rfl⟩ := k_pr h
  exact k_ret (pc := 52) dJ6_bitCount_0f7a4_52 rfl rfl rfl
theorem okJ6_bitCount_0f7a4 {A : k_H} {x0 : Int} {r : Int} {A1 : k_H} (h : fJ6_bitCount_0f7a4 A x0 = some (r, A1)) : k_AM 1 mJ6_bitCount_0f7a4 [(0, x0)] A r A1 :=
  k_AM_of2 (ls := [(0, x0)]) (Or.inl (by decide +kernel)) (by decide +kernel) (by decide) rfl (Nat.le_of_ble_eq_true rfl) ⟨Or.inr rfl, trivial⟩ (okJ6_bitCount_0f7a4_b0 A x0 r A1 h)
/-! J0_coder_7d493 -/
def fJ0_coder_7d493_b0 (A : k_H) (v0 : Int) : Option (Int × k_H) := if (1 : Int) = 0 then (if (1 : Int) = 0 ∨ (1 : Int) = 1 then (some (1, A)) else none) else (if k_isS v0 then (if (0 : Int) = 0 ∨ (0 : Int) = 1 then (some (0, A)) else none) else none)
def fJ0_coder_7d493 (A : k_H) (x0 : Int) : Option (Int × k_H) := fJ0_coder_7d493_b0 A x0
set_option maxRecDepth 100000 in
theorem okJ0_coder_7d493_b0 (A : k_H) (v0 : Int) (r : Int) (A' : k_H) (h : fJ0_coder_7d493_b0 A v0 = some (r, A')) : k_AW 1 mJ0_coder_7d493 0 [(1, v0)] [] A r A' := by
  unfold fJ0_coder_7d493_b0 at h
  refine k_getz (pc := 0) dJ0_coder_7d493_0 (k_gt 645 (by decide +kernel) (by decide +kernel)) ?_
  refine k_if_eq (pc := 3) (tgt := 13) dJ0_coder_7d493_3 rfl (fun c1 => ?_) (fun c1 => ?_)
  · rw [if_pos c1] at h
    refine k_iconst (pc := 13) dJ0_coder_7d493_13 ⟨by decide, by decide⟩ ?_
    obtain ⟨hc2, h⟩ := k_pk h
    obtain ⟨rfl, rfl⟩ := k_pr h
    exact k_ret (pc := 14) dJ0_coder_7d493_14 rfl rfl (k_nb hc2)
  · rw [if_neg c1] at h
    refine k_aload_n (pc := 6) (x := v0) dJ0_coder_7d493_6 rfl rfl ?_
    obtain ⟨hc3, h⟩ := k_pk h
    refine k_getsc (pc := 7) dJ0_coder_7d493_7 (k_gt 1225 (by decide +kernel) (by decide +kernel)) hc3 ?_
    refine k_goto (pc := 10) (tgt := 14) dJ0_coder_7d493_10 rfl ?_
    obtain ⟨hc4, h⟩ := k_pk h
    obtain ⟨rfl, rfl⟩ := k_pr h
    exact k_ret (pc := 14) dJ0_coder_7d493_14 rfl rfl (k_nb hc4)
theorem okJ0_coder_7d493 {A : k_H} {x0 : Int} {r : Int} {A1 : k_H} (h : fJ0_coder_7d493 A x0 = some (r, A1)) : k_AM 1 mJ0_coder_7d493 [(1, x0)] A r A1 :=
  k_AM_of2 (ls := [(1, x0)]) (Or.inl (by decide +kernel)) (by decide +kernel) (by decide) rfl (Nat.le_of_ble_eq_true rfl) ⟨Or.inr rfl, trivial⟩ (okJ0_coder_7d493_b0 A x0 r A1 h)
/-! J0_isLatin1_aae02 -/
def fJ0_isLatin1_aae02_b0 (A : k_H) (v0 : Int) : Option (Int × k_H) := if (1 : Int) = 0 then (some (0, A)) else (if k_isS v0 then (if (0 : Int) = 0 then (some (1, A)) else (some (0, A))) else none)
def fJ0_isLatin1_aae02 (A : k_H) (x0 : Int) : Option (Int × k_H) := fJ0_isLatin1_aae02_b0 A x0
set_option maxRecDepth 100000 in
theorem okJ0_isLatin1_aae02_b0 (A : k_H) (v0 : Int) (r : Int) (A' : k_H) (h : fJ0_isLatin1_aae02_b0 A v0 = some (r, A')) : k_AW 1 mJ0_isLatin1_aae02 0 [(1, v0)] [] A r A' := by
  unfold fJ0_isLatin1_aae02_b0 at h
  refine k_getz (pc := 0) dJ0_isLatin1_aae02_0 (k_gt 645 (by decide +kernel) (by decide +kernel)) ?_
  refine k_if_eq (pc := 3) (tgt := 17) dJ0_isLatin1_aae02_3 rfl (fun c1 => ?_) (fun c1 => ?_)
  · rw [if_pos c1] at h
    refine k_iconst (pc := 17) dJ0_isLatin1_aae02_17 ⟨by decide, by decide⟩ ?_
    obtain ⟨rfl, rfl⟩ := k_pr h
    exact k_ret (pc := 18) dJ0_isLatin1_aae02_18 rfl rfl (by decide +kernel)
  · rw [if_neg c1] at h
    refine k_aload_n (pc := 6) (x := v0) dJ0_isLatin1_aae02_6 rfl rfl ?_
    obtain ⟨hc2, h⟩ := k_pk h
    refine k_getsc (pc := 7) dJ0_isLatin1_aae02_7 (k_gt 1225 (by decide +kernel) (by decide +kernel)) hc2 ?_
    refine k_if_ne (pc := 10) (tgt := 17) dJ0_isLatin1_aae02_10 rfl (fun c3 => ?_) (fun c3 => ?_)
    · rw [if_neg c3] at h
      refine k_iconst (pc := 17) dJ0_isLatin1_aae02_17 ⟨by decide, by decide⟩ ?_
      obtain ⟨rfl, rfl⟩ := k_pr h
      exact k_ret (pc := 18) dJ0_isLatin1_aae02_18 rfl rfl (by decide +kernel)
    · rw [if_pos (Classical.not_not.mp c3)] at h
      refine k_iconst (pc := 13) dJ0_isLatin1_aae02_13 ⟨by decide, by decide⟩ ?_
      refine k_goto (pc := 14) (tgt := 18) dJ0_isLatin1_aae02_14 rfl ?_
      obtain ⟨rfl, rfl⟩ := k_pr h
      exact k_ret (pc := 18) dJ0_isLatin1_aae02_18 rfl rfl (by decide +kernel)
theorem okJ0_isLatin1_aae02 {A : k_H} {x0 : Int} {r : Int} {A1 : k_H} (h : fJ0_isLatin1_aae02 A x0 = some (r, A1)) : k_AM 1 mJ0_isLatin1_aae02 [(1, x0)] A r A1 :=
  k_AM_of2 (ls := [(1, x0)]) (Or.inl (by decide +kernel)) (by decide +kernel) (by decide) rfl (Nat.le_of_ble_eq_true rfl) ⟨Or.inr rfl, trivial⟩ (okJ0_isLatin1_aae02_b0 A x0 r A1 h)
/-! J7_fill_53178 -/
def fJ7_fill_53178_h5 : Nat → k_H → Int → Int → Int → Int → Option (Int × k_H)
  | 0, _, _, _, _, _ => none
  | N + 1, A, v0, v1, v2, v3 => if v2 < v3 then (if k_isA A v0 21 v2 then (k_lt (k_wt A v0 v2 v1) fun A3 => (fJ7_fill_53178_h5 N) A3 v0 v1 (k_wr (v2 + 1)) v3) else none) else (some (0, A))
def fJ7_fill_53178_b0 (A : k_H) (v0 v1 : Int) : Option (Int × k_H) := if k_isR A v0 21 then (if (k_kd A v0).2 < 2147483648 then (fJ7_fill_53178_h5 k_FU A v0 v1 0 ((k_kd A v0).2 : Int)) else none) else none
def fJ7_fill_53178 (A : k_H) (x0 x1 : Int) : Option (Int × k_H) := fJ7_fill_53178_b0 A x0 x1
set_option maxRecDepth 100000 in
theorem okJ7_fill_53178_h5 : ∀ (N : Nat) (A : k_H) (v0 v1 v2 v3 : Int) (r : Int) (A' : k_H), fJ7_fill_53178_h5 N A v0 v1 v2 v3 = some (r, A') → k_AW 1 mJ7_fill_53178 5 [(1, v0), (0, v1), (0, v2), (0, v3)] [] A r A' := by
  intro N
  induction N with
  | zero => intro A v0 v1 v2 v3 r A' h; exact absurd h (by simp [fJ7_fill_53178_h5])
  | succ N ih =>
    intro A v0 v1 v2 v3 r A' h
    rw [fJ7_fill_53178_h5] at h
    refine k_iload_n (pc := 5) (x := v2) dJ7_fill_53178_5 rfl rfl ?_
    refine k_iload_n (pc := 6) (x := v3) dJ7_fill_53178_6 rfl rfl ?_
    refine k_icmp_ge (pc := 7) (tgt := 20) dJ7_fill_53178_7 rfl (fun c1 => ?_) (fun c1 => ?_)
    · rw [if_neg (Int.not_lt.mpr c1)] at h
      obtain ⟨rfl, rfl⟩ := k_pr h
      exact k_retv (pc := 20) dJ7_fill_53178_20 rfl
    · rw [if_pos (Int.not_le.mp c1)] at h
      refine k_aload_n (pc := 10) (x := v0) dJ7_fill_53178_10 rfl rfl ?_
      refine k_iload_n (pc := 11) (x := v2) dJ7_fill_53178_11 rfl rfl ?_
      refine k_iload_n (pc := 12) (x := v1) dJ7_fill_53178_12 rfl rfl ?_
      obtain ⟨hc2, h⟩ := k_pk h
      refine k_iastore (pc := 13) dJ7_fill_53178_13 hc2 ?_
      obtain ⟨A3, eA4, h⟩ := k_pl h
      refine k_hq eA4 ?_
      refine k_iinc (pc := 14) (x := v2) dJ7_fill_53178_14 (Nat.le_of_ble_eq_true rfl) rfl rfl ?_
      show k_AW _ _ _ [(1, v0), (0, v1), (0, k_wr (v2 + 1)), (0, v3)] _ _ _ _
      refine k_goto (pc := 17) (tgt := 5) dJ7_fill_53178_17 rfl ?_
      refine k_sub (ls' := [(1, v0), (0, v1), (0, k_wr (v2 + 1)), (0, v3)]) (k_sbl_ok _ _ ⟨Or.inr rfl, Or.inr rfl, Or.inr rfl, Or.inr rfl, trivial⟩) ?_
      exact ih _ _ _ _ _ _ _ h
set_option maxRecDepth 100000 in
theorem okJ7_fill_53178_b0 (A : k_H) (v0 v1 : Int) (r : Int) (A' : k_H) (h : fJ7_fill_53178_b0 A v0 v1 = some (r, A')) : k_AW 1 mJ7_fill_53178 0 [(1, v0), (0, v1), (3, 0), (3, 0)] [] A r A' := by
  unfold fJ7_fill_53178_b0 at h
  refine k_iconst (pc := 0) dJ7_fill_53178_0 ⟨by decide, by decide⟩ ?_
  refine k_istore_n (pc := 1) dJ7_fill_53178_1 rfl (Nat.le_of_ble_eq_true rfl) rfl ?_
  show k_AW _ _ _ [(1, v0), (0, v1), (0, 0), (3, 0)] _ _ _ _
  refine k_aload_n (pc := 2) (x := v0) dJ7_fill_53178_2 rfl rfl ?_
  obtain ⟨hc1, h⟩ := k_pk h
  obtain ⟨hc2, h⟩ := k_pk h
  refine k_alen (pc := 3) (K := 21) dJ7_fill_53178_3 (by decide) hc1 hc2 ?_
  refine k_istore_n (pc := 4) dJ7_fill_53178_4 rfl (Nat.le_of_ble_eq_true rfl) rfl ?_
  show k_AW _ _ _ [(1, v0), (0, v1), (0, 0), (0, ((k_kd A v0).2 : Int))] _ _ _ _
  refine k_sub (ls' := [(1, v0), (0, v1), (0, 0), (0, ((k_kd A v0).2 : Int))]) (k_sbl_ok _ _ ⟨Or.inr rfl, Or.inr rfl, Or.inr rfl, Or.inr rfl, trivial⟩) ?_
  exact okJ7_fill_53178_h5  _ _ _ _ _ _ _ _ h
theorem okJ7_fill_53178 {A : k_H} {x0 x1 : Int} {r : Int} {A1 : k_H} (h : fJ7_fill_53178 A x0 x1 = some (r, A1)) : k_AM 1 mJ7_fill_53178 [(1, x0), (0, x1)] A r A1 :=
  k_AM_of2 (ls := [(1, x0), (0, x1), (3, 0), (3, 0)]) (Or.inl (by decide +kernel)) (by decide +kernel) (by decide) rfl (Nat.le_of_ble_eq_true rfl) ⟨Or.inr rfl, Or.inr rfl, rfl, rfl, trivial⟩ (okJ7_fill_53178_b0 A x0 x1 r A1 h)
/-! J3_checkIndex_8e157 -/
def fJ3_checkIndex_8e157_b9 (A : k_H) : Option (Int × k_H) := none
def fJ3_checkIndex_8e157_b0 (A : k_H) (v0 v1 : Int) : Option (Int × k_H) := if 0 ≤ v0 then (if v1 ≤ v0 then (fJ3_checkIndex_8e157_b9 A) else (some (v0, A))) else (fJ3_checkIndex_8e157_b9 A)
def fJ3_checkIndex_8e157 (A : k_H) (x0 x1 x2 : Int) : Option (Int × k_H) := fJ3_checkIndex_8e157_b0 A x0 x1
set_option maxRecDepth 100000 in
theorem okJ3_checkIndex_8e157_b9 (A : k_H) (r : Int) (A' : k_H) (h : fJ3_checkIndex_8e157_b9 A  = some (r, A')) : k_AW 1 mJ3_checkIndex_8e157 9 [(3, 0), (3, 0), (3, 0)] [] A r A' := by
  unfold fJ3_checkIndex_8e157_b9 at h
  cases h
set_option maxRecDepth 100000 in
theorem okJ3_checkIndex_8e157_b0 (A : k_H) (v0 v1 : Int) (r : Int) (A' : k_H) (h : fJ3_checkIndex_8e157_b0 A v0 v1 = some (r, A')) : k_AW 1 mJ3_checkIndex_8e157 0 [(0, v0), (0, v1), (3, 0)] [] A r A' := by
  unfold fJ3_checkIndex_8e157_b0 at h
  refine k_iload_n (pc := 0) (x := v0) dJ3_checkIndex_8e157_0 rfl rfl ?_
  refine k_if_lt (pc := 1) (tgt := 9) dJ3_checkIndex_8e157_1 rfl (fun c1 => ?_) (fun c1 => ?_)
  · rw [if_neg (Int.not_le.mpr c1)] at h
    refine k_sub (ls' := [(3, 0), (3, 0), (3, 0)]) (k_sbl_ok _ _ ⟨Or.inl rfl, Or.inl rfl, Or.inl rfl, trivial⟩) ?_
    exact okJ3_checkIndex_8e157_b9  _ _ _ h
  · rw [if_pos (Int.not_lt.mp c1)] at h
    refine k_iload_n (pc := 4) (x := v0) dJ3_checkIndex_8e157_4 rfl rfl ?_
    refine k_iload_n (pc := 5) (x := v1) dJ3_checkIndex_8e157_5 rfl rfl ?_
    refine k_icmp_lt (pc := 6) (tgt := 16) dJ3_checkIndex_8e157_6 rfl (fun c2 => ?_) (fun c2 => ?_)
    · rw [if_neg (Int.not_le.mpr c2)] at h
      refine k_iload_n (pc := 16) (x := v0) dJ3_checkIndex_8e157_16 rfl rfl ?_
      obtain ⟨rfl, rfl⟩ := k_pr h
      exact k_ret (pc := 17) dJ3_checkIndex_8e157_17 rfl rfl rfl
    · rw [if_pos (Int.not_lt.mp c2)] at h
      refine k_sub (ls' := [(3, 0), (3, 0), (3, 0)]) (k_sbl_ok _ _ ⟨Or.inl rfl, Or.inl rfl, Or.inl rfl, trivial⟩) ?_
      exact okJ3_checkIndex_8e157_b9  _ _ _ h
theorem okJ3_checkIndex_8e157 {A : k_H} {x0 x1 x2 : Int} {r : Int} {A1 : k_H} (h : fJ3_checkIndex_8e157 A x0 x1 x2 = some (r, A1)) : k_AM 1 mJ3_checkIndex_8e157 [(0, x0), (0, x1), (1, x2)] A r A1 :=
  k_AM_of2 (ls := [(0, x0), (0, x1), (3, 0)]) (Or.inl (by decide +kernel)) (by decide +kernel) (by decide) rfl (Nat.le_of_ble_eq_true rfl) ⟨Or.inr rfl, Or.inr rfl, Or.inl rfl, trivial⟩ (okJ3_checkIndex_8e157_b0 A x0 x1 r A1 h)
/-! X0_take -/
def fX0_take_h18 : Nat → k_H → Int → Int → Int → Option (Int × k_H)
  | 0, _, _, _, _ => none
  | N + 1, A, v0, v1, v2 => if k_isO A v0 0 then (if v2 < (k_rd A v0 1) then (if k_isO A v1 5 then (k_bd (fX5_byteAt A v1 v2) fun r3 A4 => if k_isA A4 (k_rd A v0 0) 21 v2 then (k_lt (k_wt A4 (k_rd A v0 0) v2 r3) fun A8 => (fX0_take_h18 N) A8 v0 v1 (k_wr (v2 + 1))) else none) else none) else (some (0, A))) else none
def fX0_take_b0 (A : k_H) (v0 v1 : Int) : Option (Int × k_H) := if k_isO A v1 5 then (if k_isO A v0 0 then (if k_isR A (k_rd A v0 0) 21 then (if (k_kd A (k_rd A v0 0)).2 < 2147483648 then (k_lt (k_wt A v0 1 (min (k_rd A v1 1) ((k_kd A (k_rd A v0 0)).2 : Int))) fun A5 => fX0_take_h18 k_FU A5 v0 v1 0) else none) else none) else none) else none
def fX0_take (A : k_H) (x0 x1 : Int) : Option (Int × k_H) := fX0_take_b0 A x0 x1
set_option maxRecDepth 100000 in
theorem okX0_take_h18 : ∀ (N : Nat) (A : k_H) (v0 v1 v2 : Int) (r : Int) (A' : k_H), fX0_take_h18 N A v0 v1 v2 = some (r, A') → k_AW 2 mX0_take 18 [(1, v0), (1, v1), (0, v2)] [] A r A' := by
  intro N
  induction N with
  | zero => intro A v0 v1 v2 r A' h; exact absurd h (by simp [fX0_take_h18])
  | succ N ih =>
    intro A v0 v1 v2 r A' h
    rw [fX0_take_h18] at h
    refine k_iload_n (pc := 18) (x := v2) dX0_take_18 rfl rfl ?_
    refine k_aload_n (pc := 19) (x := v0) dX0_take_19 rfl rfl ?_
    obtain ⟨hc1, h⟩ := k_pk h
    refine k_getf (pc := 20) (t := 0) (fi := 1) dX0_take_20 flX0_28 rfl rfl hc1 ?_
    refine k_icmp_ge (pc := 23) (tgt := 43) dX0_take_23 rfl (fun c2 => ?_) (fun c2 => ?_)
    · rw [if_neg (Int.not_lt.mpr c2)] at h
      obtain ⟨rfl, rfl⟩ := k_pr h
      exact k_retv (pc := 43) dX0_take_43 rfl
    · rw [if_pos (Int.not_le.mp c2)] at h
      refine k_aload_n (pc := 26) (x := v0) dX0_take_26 rfl rfl ?_
      refine k_getf (pc := 27) (t := 1) (fi := 0) dX0_take_27 flX0_13 rfl rfl hc1 ?_
      refine k_iload_n (pc := 30) (x := v2) dX0_take_30 rfl rfl ?_
      refine k_aload_n (pc := 31) (x := v1) dX0_take_31 rfl rfl ?_
      refine k_iload_n (pc := 32) (x := v2) dX0_take_32 rfl rfl ?_
      obtain ⟨hc6, h⟩ := k_pk h
      obtain ⟨r3, A4, hq5, h⟩ := k_pb h
      refine k_callV (pc := 33) (ci := 5) (a := v1) (as := [(0, v2)]) (st := [(0, v2), (1, (k_rd A v0 0))]) (st1 := [(0, r3), (0, v2), (1, (k_rd A v0 0))]) dX0_take_33 cbX5_byteAt (k_gt 380 (by decide +kernel) (by decide +kernel)) cvX5_byteAt.1 cvX5_byteAt.2 rfl (by decide) hc6 (by omega) rfl (Nat.le_of_ble_eq_true rfl) (okX5_byteAt hq5) rfl ?_
      obtain ⟨hc7, h⟩ := k_pk h
      refine k_iastore (pc := 36) dX0_take_36 hc7 ?_
      obtain ⟨A8, eA9, h⟩ := k_pl h
      refine k_hq eA9 ?_
      refine k_iinc (pc := 37) (x := v2) dX0_take_37 (Nat.le_of_ble_eq_true rfl) rfl rfl ?_
      show k_AW _ _ _ [(1, v0), (1, v1), (0, k_wr (v2 + 1))] _ _ _ _
      refine k_goto (pc := 40) (tgt := 18) dX0_take_40 rfl ?_
      refine k_sub (ls' := [(1, v0), (1, v1), (0, k_wr (v2 + 1))]) (k_sbl_ok _ _ ⟨Or.inr rfl, Or.inr rfl, Or.inr rfl, trivial⟩) ?_
      exact ih _ _ _ _ _ _ h
set_option maxRecDepth 100000 in
theorem okX0_take_b0 (A : k_H) (v0 v1 : Int) (r : Int) (A' : k_H) (h : fX0_take_b0 A v0 v1 = some (r, A')) : k_AW 2 mX0_take 0 [(1, v0), (1, v1), (3, 0)] [] A r A' := by
  unfold fX0_take_b0 at h
  refine k_aload_n (pc := 0) (x := v0) dX0_take_0 rfl rfl ?_
  refine k_aload_n (pc := 1) (x := v1) dX0_take_1 rfl rfl ?_
  obtain ⟨hc1, h⟩ := k_pk h
  refine k_getf (pc := 2) (t := 0) (fi := 1) dX0_take_2 flX0_19 rfl rfl hc1 ?_
  refine k_aload_n (pc := 5) (x := v0) dX0_take_5 rfl rfl ?_
  obtain ⟨hc2, h⟩ := k_pk h
  refine k_getf (pc := 6) (t := 1) (fi := 0) dX0_take_6 flX0_13 rfl rfl hc2 ?_
  obtain ⟨hc3, h⟩ := k_pk h
  obtain ⟨hc4, h⟩ := k_pk h
  refine k_alen (pc := 9) (K := 21) dX0_take_9 (by decide) hc3 hc4 ?_
  refine k_mmin (pc := 10) dX0_take_10 (k_gt 377 (by decide +kernel) (by decide +kernel)) (by omega) (Nat.le_of_ble_eq_true rfl) ?_
  refine k_putf (pc := 13) (t := 0) (fi := 1) dX0_take_13 flX0_28 rfl rfl hc2 rfl ?_
  obtain ⟨A5, eA6, h⟩ := k_pl h
  refine k_hq eA6 ?_
  refine k_iconst (pc := 16) dX0_take_16 ⟨by decide, by decide⟩ ?_
  refine k_istore_n (pc := 17) dX0_take_17 rfl (Nat.le_of_ble_eq_true rfl) rfl ?_
  show k_AW _ _ _ [(1, v0), (1, v1), (0, 0)] _ _ _ _
  refine k_sub (ls' := [(1, v0), (1, v1), (0, 0)]) (k_sbl_ok _ _ ⟨Or.inr rfl, Or.inr rfl, Or.inr rfl, trivial⟩) ?_
  exact okX0_take_h18  _ _ _ _ _ _ _ h
theorem okX0_take {A : k_H} {x0 x1 : Int} {r : Int} {A1 : k_H} (h : fX0_take A x0 x1 = some (r, A1)) : k_AM 2 mX0_take [(1, x0), (1, x1)] A r A1 :=
  k_AM_of2 (ls := [(1, x0), (1, x1), (3, 0)]) (Or.inl (by decide +kernel)) (by decide +kernel) (by decide) rfl (Nat.le_of_ble_eq_true rfl) ⟨Or.inr rfl, Or.inr rfl, rfl, trivial⟩ (okX0_take_b0 A x0 x1 r A1 h)
/-! X1_init -/
def fX1_init_b0 (A : k_H) (v0 : Int) : Option (Int × k_H) := if 0 ≤ v0 then (k_lt (k_mk A 0 2) fun A2 => if 0 ≤ (k_N A : Int) then (k_bd (fX0_init A2 (k_N A : Int) 4) fun r4 A5 => if k_isO A5 v0 1 then (k_lt (k_wt A5 v0 0 (k_N A : Int)) fun A9 => k_lt (k_mk A9 21 6) fun A11 => if k_isO A11 v0 1 then (k_lt (k_wt A11 v0 1 (k_N A9 : Int)) fun A14 => some (0, A14)) else none) else none) else none) else none
def fX1_init (A : k_H) (x0 : Int) : Option (Int × k_H) := fX1_init_b0 A x0
set_option maxRecDepth 100000 in
theorem okX1_init_b0 (A : k_H) (v0 : Int) (r : Int) (A' : k_H) (h : fX1_init_b0 A v0 = some (r, A')) : k_AW 3 mX1_init 0 [(1, v0)] [] A r A' := by
  unfold fX1_init_b0 at h
  refine k_aload_n (pc := 0) (x := v0) dX1_init_0 rfl rfl ?_
  obtain ⟨hc1, h⟩ := k_pk h
  refine k_objInit (pc := 1) dX1_init_1 (k_gt 212 (by decide +kernel) (by decide +kernel)) (by omega) hc1 (Nat.le_of_ble_eq_true rfl) ?_
  refine k_aload_n (pc := 4) (x := v0) dX1_init_4 rfl rfl ?_
  refine k_new (pc := 5) (ci := 0) (n := 2) dX1_init_5 ncX1_9 rfl ?_
  obtain ⟨A2, eA3, h⟩ := k_pl h
  refine k_hq eA3 ?_
  refine k_dup (pc := 8) dX1_init_8 (Nat.le_of_ble_eq_true rfl) ?_
  refine k_iconst (pc := 9) dX1_init_9 ⟨by decide, by decide⟩ ?_
  obtain ⟨hc7, h⟩ := k_pk h
  obtain ⟨r4, A5, hq6, h⟩ := k_pb h
  refine k_callI (pc := 10) (a := (k_N A : Int)) (as := [(0, 4)]) (st := [(1, (k_N A : Int)), (1, v0)]) (st1 := [(1, (k_N A : Int)), (1, v0)]) dX1_init_10 cbX0_init (k_gt 215 (by decide +kernel) (by decide +kernel)) (k_gt 216 (by decide +kernel) (by decide +kernel)) rfl rfl hc7 (by omega) rfl (Nat.le_of_ble_eq_true rfl) (okX0_init hq6) rfl ?_
  obtain ⟨hc8, h⟩ := k_pk h
  refine k_putF (pc := 13) (t := 1) (fi := 0) dX1_init_13 flX1_14 rfl (fun Cn Tt Nn h9 => by cases h9; rfl) rfl rfl hc8 rfl ?_
  obtain ⟨A9, eA10, h⟩ := k_pl h
  refine k_hq eA10 ?_
  refine k_aload_n (pc := 16) (x := v0) dX1_init_16 rfl rfl ?_
  refine k_bipush (pc := 17) dX1_init_17 ⟨by decide, by decide⟩ (by decide +kernel) ?_
  refine k_newa (pc := 19) (n := 6) dX1_init_19 k_atI rfl (by decide) ?_
  obtain ⟨A11, eA12, h⟩ := k_pl h
  refine k_hq eA12 ?_
  obtain ⟨hc13, h⟩ := k_pk h
  refine k_putF (pc := 21) (t := 1) (fi := 1) dX1_init_21 flX1_20 rfl (fun Cn Tt Nn h9 => by cases h9; rfl) rfl rfl hc13 rfl ?_
  obtain ⟨A14, eA15, h⟩ := k_pl h
  refine k_hq eA15 ?_
  obtain ⟨rfl, rfl⟩ := k_pr h
  exact k_retv (pc := 24) dX1_init_24 rfl
theorem okX1_init {A : k_H} {x0 : Int} {r : Int} {A1 : k_H} (h : fX1_init A x0 = some (r, A1)) : k_AM 3 mX1_init [(1, x0)] A r A1 :=
  k_AM_of2 (ls := [(1, x0)]) (Or.inl (by decide +kernel)) (by decide +kernel) (by decide) rfl (Nat.le_of_ble_eq_true rfl) ⟨Or.inr rfl, trivial⟩ (okX1_init_b0 A x0 r A1 h)
/-! X3_search -/
def fX3_search_b118 (rc : k_H → Int → Int → Int → Option (Int × k_H)) (k39 : k_H → Int → Int → Int → Int → Int → Option (Int × k_H)) (A : k_H) (v0 v1 v2 v3 v4 : Int) : Option (Int × k_H) := k39 A v0 v1 v2 v3 (k_wr (v4 + 1))
def fX3_search_h39 (rc : k_H → Int → Int → Int → Option (Int × k_H)) : Nat → k_H → Int → Int → Int → Int → Int → Option (Int × k_H)
  | 0, _, _, _, _, _, _ => none
  | N + 1, A, v0, v1, v2, v3, v4 => if k_isO A v0 3 then (if v4 < (k_rd A v0 7) then (k_bd (fX3_isLikeOneAhead A v0 v4) fun r3 A4 => if r3 = 0 then (if k_isO A4 v0 3 then (if k_isA A4 (k_rd A4 v0 0) 21 v4 then (k_lt (k_wt A4 (k_rd A4 v0 0) v4 (max 0 (k_wr ((k_rd A4 (k_rd A4 v0 0) v4) - v3)))) fun A9 => if k_isA A9 (k_rd A9 v0 4) 21 v1 then (k_lt (k_wt A9 (k_rd A9 v0 4) v1 v4) fun A13 => k_bd (rc A13 v0 (k_wr (v1 + 1)) (k_wr (v2 + (max 0 (k_wr (v3 - (k_rd A4 (k_rd A4 v0 0) v4))))))) fun r15 A16 => if k_isO A16 v0 3 then (if k_isA A16 (k_rd A16 v0 0) 21 v4 then (k_lt (k_wt A16 (k_rd A16 v0 0) v4 (k_rd A4 (k_rd A4 v0 0) v4)) fun A21 => fX3_search_b118 rc (fX3_search_h39 rc N) A21 v0 v1 v2 v3 v4) else none) else none) else none) else none) else none) else (fX3_search_b118 rc (fX3_search_h39 rc N) A4 v0 v1 v2 v3 v4)) else (some (0, A))) else none
def fX3_search_b0 (rc : k_H → Int → Int → Int → Option (Int × k_H)) (A : k_H) (v0 v1 v2 : Int) : Option (Int × k_H) := if k_isO A v0 3 then (if (k_rd A v0 6) ≤ v1 then (k_bd (fX3_keep A v0 v2) fun r9 A10 => some (0, A10)) else (k_bd (fX3_lackAtLeast A v0 v1) fun r3 A4 => if k_isO A4 v0 3 then (if (k_rd A4 v0 8) ≤ k_wr (v2 + r3) then (some (0, A4)) else (if k_isA A4 (k_rd A4 v0 1) 21 v1 then (fX3_search_h39 rc k_FU A4 v0 v1 v2 (k_rd A4 (k_rd A4 v0 1) v1) 0) else none)) else none)) else none
def fX3_search_N : Nat → k_H → Int → Int → Int → Option (Int × k_H)
  | 0, _, _, _, _ => none
  | N + 1, A, x0, x1, x2 => fX3_search_b0 (fX3_search_N N) A x0 x1 x2
def fX3_search (A : k_H) (x0 x1 x2 : Int) : Option (Int × k_H) := fX3_search_N 12 A x0 x1 x2
set_option maxRecDepth 100000 in
theorem okX3_search_b118 {Nd : Nat} (rc : k_H → Int → Int → Int → Option (Int × k_H)) (hrc : ∀ {A : k_H} {x0 x1 x2 : Int} {r : Int} {A1 : k_H}, rc A x0 x1 x2 = some (r, A1) → k_AM (3 + Nd) mX3_search [(1, x0), (0, x1), (0, x2)] A r A1) (k39 : k_H → Int → Int → Int → Int → Int → Option (Int × k_H)) (hk39 : ∀ (A : k_H) (v0 v1 v2 v3 v4 : Int) (r : Int) (A' : k_H), k39 A v0 v1 v2 v3 v4 = some (r, A') → k_AW (3 + Nd + 1) mX3_search 39 [(1, v0), (0, v1), (0, v2), (0, v3), (0, v4), (3, 0)] [] A r A') (A : k_H) (v0 v1 v2 v3 v4 : Int) (r : Int) (A' : k_H) (h : fX3_search_b118 rc k39 A v0 v1 v2 v3 v4 = some (r, A')) : k_AW (3 + Nd + 1) mX3_search 118 [(1, v0), (0, v1), (0, v2), (0, v3), (0, v4), (3, 0)] [] A r A' := by
  unfold fX3_search_b118 at h
  refine k_iinc (pc := 118) (x := v4) dX3_search_118 (Nat.le_of_ble_eq_true rfl) rfl rfl ?_
  show k_AW _ _ _ [(1, v0), (0, v1), (0, v2), (0, v3), (0, k_wr (v4 + 1)), (3, 0)] _ _ _ _
  refine k_goto (pc := 121) (tgt := 39) dX3_search_121 rfl ?_
  refine k_sub (ls' := [(1, v0), (0, v1), (0, v2), (0, v3), (0, k_wr (v4 + 1)), (3, 0)]) (k_sbl_ok _ _ ⟨Or.inr rfl, Or.inr rfl, Or.inr rfl, Or.inr rfl, Or.inr rfl, Or.inl rfl, trivial⟩) ?_
  exact hk39 _ _ _ _ _ _ _ _ h
set_option maxRecDepth 100000 in
theorem okX3_search_h39 {Nd : Nat} (rc : k_H → Int → Int → Int → Option (Int × k_H)) (hrc : ∀ {A : k_H} {x0 x1 x2 : Int} {r : Int} {A1 : k_H}, rc A x0 x1 x2 = some (r, A1) → k_AM (3 + Nd) mX3_search [(1, x0), (0, x1), (0, x2)] A r A1) : ∀ (N : Nat) (A : k_H) (v0 v1 v2 v3 v4 : Int) (r : Int) (A' : k_H), fX3_search_h39 rc N A v0 v1 v2 v3 v4 = some (r, A') → k_AW (3 + Nd + 1) mX3_search 39 [(1, v0), (0, v1), (0, v2), (0, v3), (0, v4), (3, 0)] [] A r A' := by
  intro N
  induction N with
  | zero => intro A v0 v1 v2 v3 v4 r A' h; exact absurd h (by simp [fX3_search_h39])
  | succ N ih =>
    intro A v0 v1 v2 v3 v4 r A' h
    rw [fX3_search_h39] at h
    refine k_iload (pc := 39) (x := v4) dX3_search_39 rfl ?_
    refine k_aload_n (pc := 41) (x := v0) dX3_search_41 rfl rfl ?_
    obtain ⟨hc1, h⟩ := k_pk h
    refine k_getf (pc := 42) (t := 0) (fi := 7) dX3_search_42 flX3_56 rfl rfl hc1 ?_
    refine k_icmp_ge (pc := 45) (tgt := 124) dX3_search_45 rfl (fun c2 => ?_) (fun c2 => ?_)
    · rw [if_neg (Int.not_lt.mpr c2)] at h
      obtain ⟨rfl, rfl⟩ := k_pr h
      exact k_retv (pc := 124) dX3_search_124 rfl
    · rw [if_pos (Int.not_le.mp c2)] at h
      refine k_aload_n (pc := 48) (x := v0) dX3_search_48 rfl rfl ?_
      refine k_iload (pc := 49) (x := v4) dX3_search_49 rfl ?_
      obtain ⟨r3, A4, hq5, h⟩ := k_pb h
      refine k_callV (pc := 51) (ci := 3) (a := v0) (as := [(0, v4)]) (st := []) (st1 := [(0, r3)]) dX3_search_51 cbX3_isLikeOneAhead (k_gt 453 (by decide +kernel) (by decide +kernel)) cvX3_isLikeOneAhead.1 cvX3_isLikeOneAhead.2 rfl (by decide) hc1 (by omega) rfl (Nat.le_of_ble_eq_true rfl) (okX3_isLikeOneAhead hq5) rfl ?_
      refine k_if_eq (pc := 54) (tgt := 60) dX3_search_54 rfl (fun c6 => ?_) (fun c6 => ?_)
      · rw [if_pos c6] at h
        refine k_aload_n (pc := 60) (x := v0) dX3_search_60 rfl rfl ?_
        obtain ⟨hc7, h⟩ := k_pk h
        refine k_getf (pc := 61) (t := 1) (fi := 0) dX3_search_61 flX3_9 rfl rfl hc7 ?_
        refine k_iload (pc := 64) (x := v4) dX3_search_64 rfl ?_
        obtain ⟨hc8, h⟩ := k_pk h
        refine k_iaload (pc := 66) dX3_search_66 hc8 ?_
        refine k_istore (pc := 67) dX3_search_67 (Nat.le_of_ble_eq_true rfl) rfl ?_
        show k_AW _ _ _ [(1, v0), (0, v1), (0, v2), (0, v3), (0, v4), (0, (k_rd A4 (k_rd A4 v0 0) v4))] _ _ _ _
        refine k_aload_n (pc := 69) (x := v0) dX3_search_69 rfl rfl ?_
        refine k_getf (pc := 70) (t := 1) (fi := 0) dX3_search_70 flX3_9 rfl rfl hc7 ?_
        refine k_iload (pc := 73) (x := v4) dX3_search_73 rfl ?_
        refine k_iconst (pc := 75) dX3_search_75 ⟨by decide, by decide⟩ ?_
        refine k_iload (pc := 76) (x := (k_rd A4 (k_rd A4 v0 0) v4)) dX3_search_76 rfl ?_
        refine k_iload_n (pc := 78) (x := v3) dX3_search_78 rfl rfl ?_
        refine k_isub (pc := 79) dX3_search_79 ?_
        refine k_mmax (pc := 80) dX3_search_80 (k_gt 437 (by decide +kernel) (by decide +kernel)) (by omega) (Nat.le_of_ble_eq_true rfl) ?_
        refine k_iastore (pc := 83) dX3_search_83 hc8 ?_
        obtain ⟨A9, eA10, h⟩ := k_pl h
        refine k_hq eA10 ?_
        refine k_aload_n (pc := 84) (x := v0) dX3_search_84 rfl rfl ?_
        have hf11 := k_oW eA10 hc7
        refine k_getf (pc := 85) (t := 1) (fi := 4) dX3_search_85 flX3_24 rfl rfl hf11 ?_
        refine k_iload_n (pc := 88) (x := v1) dX3_search_88 rfl rfl ?_
        refine k_iload (pc := 89) (x := v4) dX3_search_89 rfl ?_
        obtain ⟨hc12, h⟩ := k_pk h
        refine k_iastore (pc := 91) dX3_search_91 hc12 ?_
        obtain ⟨A13, eA14, h⟩ := k_pl h
        refine k_hq eA14 ?_
        refine k_aload_n (pc := 92) (x := v0) dX3_search_92 rfl rfl ?_
        refine k_iload_n (pc := 93) (x := v1) dX3_search_93 rfl rfl ?_
        refine k_iconst (pc := 94) dX3_search_94 ⟨by decide, by decide⟩ ?_
        refine k_iadd (pc := 95) dX3_search_95 ?_
        refine k_iload_n (pc := 96) (x := v2) dX3_search_96 rfl rfl ?_
        refine k_iconst (pc := 97) dX3_search_97 ⟨by decide, by decide⟩ ?_
        refine k_iload_n (pc := 98) (x := v3) dX3_search_98 rfl rfl ?_
        refine k_iload (pc := 99) (x := (k_rd A4 (k_rd A4 v0 0) v4)) dX3_search_99 rfl ?_
        refine k_isub (pc := 101) dX3_search_101 ?_
        refine k_mmax (pc := 102) dX3_search_102 (k_gt 437 (by decide +kernel) (by decide +kernel)) (by omega) (Nat.le_of_ble_eq_true rfl) ?_
        refine k_iadd (pc := 105) dX3_search_105 ?_
        have hf18 := k_oW eA14 hf11
        obtain ⟨r15, A16, hq17, h⟩ := k_pb h
        refine k_callV (pc := 106) (ci := 3) (a := v0) (as := [(0, k_wr (v1 + 1)), (0, k_wr (v2 + (max 0 (k_wr (v3 - (k_rd A4 (k_rd A4 v0 0) v4))))))]) (st := []) (st1 := []) dX3_search_106 cbX3_search (k_gt 438 (by decide +kernel) (by decide +kernel)) cvX3_search.1 cvX3_search.2 rfl (by decide) hf18 (by omega) rfl (Nat.le_of_ble_eq_true rfl) (hrc hq17) rfl ?_
        refine k_aload_n (pc := 109) (x := v0) dX3_search_109 rfl rfl ?_
        obtain ⟨hc19, h⟩ := k_pk h
        refine k_getf (pc := 110) (t := 1) (fi := 0) dX3_search_110 flX3_9 rfl rfl hc19 ?_
        refine k_iload (pc := 113) (x := v4) dX3_search_113 rfl ?_
        refine k_iload (pc := 115) (x := (k_rd A4 (k_rd A4 v0 0) v4)) dX3_search_115 rfl ?_
        obtain ⟨hc20, h⟩ := k_pk h
        refine k_iastore (pc := 117) dX3_search_117 hc20 ?_
        obtain ⟨A21, eA22, h⟩ := k_pl h
        refine k_hq eA22 ?_
        refine k_sub (ls' := [(1, v0), (0, v1), (0, v2), (0, v3), (0, v4), (3, 0)]) (k_sbl_ok _ _ ⟨Or.inr rfl, Or.inr rfl, Or.inr rfl, Or.inr rfl, Or.inr rfl, Or.inl rfl, trivial⟩) ?_
        exact okX3_search_b118 _ hrc (fX3_search_h39 rc N) ih _ _ _ _ _ _ _ _ h
      · rw [if_neg c6] at h
        refine k_goto (pc := 57) (tgt := 118) dX3_search_57 rfl ?_
        refine k_sub (ls' := [(1, v0), (0, v1), (0, v2), (0, v3), (0, v4), (3, 0)]) (k_sbl_ok _ _ ⟨Or.inr rfl, Or.inr rfl, Or.inr rfl, Or.inr rfl, Or.inr rfl, Or.inl rfl, trivial⟩) ?_
        exact okX3_search_b118 _ hrc (fX3_search_h39 rc N) ih _ _ _ _ _ _ _ _ h
set_option maxRecDepth 100000 in
theorem okX3_search_b0 {Nd : Nat} (rc : k_H → Int → Int → Int → Option (Int × k_H)) (hrc : ∀ {A : k_H} {x0 x1 x2 : Int} {r : Int} {A1 : k_H}, rc A x0 x1 x2 = some (r, A1) → k_AM (3 + Nd) mX3_search [(1, x0), (0, x1), (0, x2)] A r A1) (A : k_H) (v0 v1 v2 : Int) (r : Int) (A' : k_H) (h : fX3_search_b0 rc A v0 v1 v2 = some (r, A')) : k_AW (3 + Nd + 1) mX3_search 0 [(1, v0), (0, v1), (0, v2), (3, 0), (3, 0), (3, 0)] [] A r A' := by
  unfold fX3_search_b0 at h
  refine k_iload_n (pc := 0) (x := v1) dX3_search_0 rfl rfl ?_
  refine k_aload_n (pc := 1) (x := v0) dX3_search_1 rfl rfl ?_
  obtain ⟨hc1, h⟩ := k_pk h
  refine k_getf (pc := 2) (t := 0) (fi := 6) dX3_search_2 flX3_42 rfl rfl hc1 ?_
  refine k_icmp_lt (pc := 5) (tgt := 14) dX3_search_5 rfl (fun c2 => ?_) (fun c2 => ?_)
  · rw [if_neg (Int.not_le.mpr c2)] at h
    refine k_iload_n (pc := 14) (x := v2) dX3_search_14 rfl rfl ?_
    refine k_aload_n (pc := 15) (x := v0) dX3_search_15 rfl rfl ?_
    refine k_iload_n (pc := 16) (x := v1) dX3_search_16 rfl rfl ?_
    obtain ⟨r3, A4, hq5, h⟩ := k_pb h
    refine k_callV (pc := 17) (ci := 3) (a := v0) (as := [(0, v1)]) (st := [(0, v2)]) (st1 := [(0, r3), (0, v2)]) dX3_search_17 cbX3_lackAtLeast (k_gt 449 (by decide +kernel) (by decide +kernel)) cvX3_lackAtLeast.1 cvX3_lackAtLeast.2 rfl (by decide) hc1 (by omega) rfl (Nat.le_of_ble_eq_true rfl) (okX3_lackAtLeast hq5) rfl ?_
    refine k_iadd (pc := 20) dX3_search_20 ?_
    refine k_aload_n (pc := 21) (x := v0) dX3_search_21 rfl rfl ?_
    obtain ⟨hc6, h⟩ := k_pk h
    refine k_getf (pc := 22) (t := 0) (fi := 8) dX3_search_22 flX3_34 rfl rfl hc6 ?_
    refine k_icmp_lt (pc := 25) (tgt := 29) dX3_search_25 rfl (fun c7 => ?_) (fun c7 => ?_)
    · rw [if_neg (Int.not_le.mpr c7)] at h
      refine k_aload_n (pc := 29) (x := v0) dX3_search_29 rfl rfl ?_
      refine k_getf (pc := 30) (t := 1) (fi := 1) dX3_search_30 flX3_15 rfl rfl hc6 ?_
      refine k_iload_n (pc := 33) (x := v1) dX3_search_33 rfl rfl ?_
      obtain ⟨hc8, h⟩ := k_pk h
      refine k_iaload (pc := 34) dX3_search_34 hc8 ?_
      refine k_istore_n (pc := 35) dX3_search_35 rfl (Nat.le_of_ble_eq_true rfl) rfl ?_
      show k_AW _ _ _ [(1, v0), (0, v1), (0, v2), (0, (k_rd A4 (k_rd A4 v0 1) v1)), (3, 0), (3, 0)] _ _ _ _
      refine k_iconst (pc := 36) dX3_search_36 ⟨by decide, by decide⟩ ?_
      refine k_istore (pc := 37) dX3_search_37 (Nat.le_of_ble_eq_true rfl) rfl ?_
      show k_AW _ _ _ [(1, v0), (0, v1), (0, v2), (0, (k_rd A4 (k_rd A4 v0 1) v1)), (0, 0), (3, 0)] _ _ _ _
      refine k_sub (ls' := [(1, v0), (0, v1), (0, v2), (0, (k_rd A4 (k_rd A4 v0 1) v1)), (0, 0), (3, 0)]) (k_sbl_ok _ _ ⟨Or.inr rfl, Or.inr rfl, Or.inr rfl, Or.inr rfl, Or.inr rfl, Or.inl rfl, trivial⟩) ?_
      exact okX3_search_h39 _ hrc _ _ _ _ _ _ _ _ _ h
    · rw [if_pos (Int.not_lt.mp c7)] at h
      obtain ⟨rfl, rfl⟩ := k_pr h
      exact k_retv (pc := 28) dX3_search_28 rfl
  · rw [if_pos (Int.not_lt.mp c2)] at h
    refine k_aload_n (pc := 8) (x := v0) dX3_search_8 rfl rfl ?_
    refine k_iload_n (pc := 9) (x := v2) dX3_search_9 rfl rfl ?_
    obtain ⟨r9, A10, hq11, h⟩ := k_pb h
    refine k_callV (pc := 10) (ci := 3) (a := v0) (as := [(0, v2)]) (st := []) (st1 := []) dX3_search_10 cbX3_keep (k_gt 442 (by decide +kernel) (by decide +kernel)) cvX3_keep.1 cvX3_keep.2 rfl (by decide) hc1 (by omega) rfl (Nat.le_of_ble_eq_true rfl) (okX3_keep hq11) rfl ?_
    obtain ⟨rfl, rfl⟩ := k_pr h
    exact k_retv (pc := 13) dX3_search_13 rfl
theorem okX3_search_N : ∀ (N : Nat) {A : k_H} {x0 x1 x2 : Int} {r : Int} {A1 : k_H}, fX3_search_N N A x0 x1 x2 = some (r, A1) → k_AM (3 + N) mX3_search [(1, x0), (0, x1), (0, x2)] A r A1 := by
  intro N
  induction N with
  | zero => intro A x0 x1 x2 r A1 h; exact absurd h (by simp [fX3_search_N])
  | succ N ih =>
    intro A x0 x1 x2 r A1 h
    rw [fX3_search_N] at h
    exact k_AM_of2 (ls := [(1, x0), (0, x1), (0, x2), (3, 0), (3, 0), (3, 0)]) (Or.inl (by decide +kernel)) (by decide +kernel) (by decide) rfl (Nat.le_of_ble_eq_true rfl) ⟨Or.inr rfl, Or.inr rfl, Or.inr rfl, rfl, rfl, rfl, trivial⟩ (okX3_search_b0 _ ih A x0 x1 x2 r A1 h)
theorem okX3_search {A : k_H} {x0 x1 x2 : Int} {r : Int} {A1 : k_H} (h : fX3_search A x0 x1 x2 = some (r, A1)) : k_AM 15 mX3_search [(1, x0), (0, x1), (0, x2)] A r A1 := okX3_search_N 12 h
/-! X4_init -/
def fX4_init_b0 (A : k_H) (v0 : Int) : Option (Int × k_H) := if 0 ≤ v0 then (k_lt (k_mk A 0 2) fun A2 => if 0 ≤ (k_N A : Int) then (k_bd (fX0_init A2 (k_N A : Int) 8) fun r4 A5 => if k_isO A5 v0 4 then (k_lt (k_wt A5 v0 0 (k_N A : Int)) fun A9 => k_lt (k_mk A9 21 14) fun A11 => if k_isO A11 v0 4 then (k_lt (k_wt A11 v0 1 (k_N A9 : Int)) fun A14 => k_lt (k_mk A14 21 14) fun A16 => if k_isO A16 v0 4 then (k_lt (k_wt A16 v0 2 (k_N A14 : Int)) fun A19 => k_lt (k_mk A19 6 7) fun A21 => if 0 ≤ (k_N A19 : Int) then (k_bd (fX6_init A21 (k_N A19 : Int)) fun r23 A24 => if k_isO A24 v0 4 then (k_lt (k_wt A24 v0 3 (k_N A19 : Int)) fun A28 => k_lt (k_wt A28 v0 8 1) fun A31 => k_lt (k_wt A31 v0 9 1) fun A34 => k_bd (fJ7_fill_53178 A34 (k_rd A34 v0 1) (-1)) fun r37 A38 => if k_isO A38 v0 4 then (k_bd (fJ7_fill_53178 A38 (k_rd A38 v0 2) (-1)) fun r41 A42 => some (0, A42)) else none) else none) else none) else none) else none) else none) else none) else none
def fX4_init (A : k_H) (x0 : Int) : Option (Int × k_H) := fX4_init_b0 A x0
set_option maxRecDepth 100000 in
theorem okX4_init_b0 (A : k_H) (v0 : Int) (r : Int) (A' : k_H) (h : fX4_init_b0 A v0 = some (r, A')) : k_AW 3 mX4_init 0 [(1, v0)] [] A r A' := by
  unfold fX4_init_b0 at h
  refine k_aload_n (pc := 0) (x := v0) dX4_init_0 rfl rfl ?_
  obtain ⟨hc1, h⟩ := k_pk h
  refine k_objInit (pc := 1) dX4_init_1 (k_gt 261 (by decide +kernel) (by decide +kernel)) (by omega) hc1 (Nat.le_of_ble_eq_true rfl) ?_
  refine k_aload_n (pc := 4) (x := v0) dX4_init_4 rfl rfl ?_
  refine k_new (pc := 5) (ci := 0) (n := 2) dX4_init_5 ncX4_9 rfl ?_
  obtain ⟨A2, eA3, h⟩ := k_pl h
  refine k_hq eA3 ?_
  refine k_dup (pc := 8) dX4_init_8 (Nat.le_of_ble_eq_true rfl) ?_
  refine k_bipush (pc := 9) dX4_init_9 ⟨by decide, by decide⟩ (by decide +kernel) ?_
  obtain ⟨hc7, h⟩ := k_pk h
  obtain ⟨r4, A5, hq6, h⟩ := k_pb h
  refine k_callI (pc := 11) (a := (k_N A : Int)) (as := [(0, 8)]) (st := [(1, (k_N A : Int)), (1, v0)]) (st1 := [(1, (k_N A : Int)), (1, v0)]) dX4_init_11 cbX0_init (k_gt 263 (by decide +kernel) (by decide +kernel)) (k_gt 216 (by decide +kernel) (by decide +kernel)) rfl rfl hc7 (by omega) rfl (Nat.le_of_ble_eq_true rfl) (okX0_init hq6) rfl ?_
  obtain ⟨hc8, h⟩ := k_pk h
  refine k_putF (pc := 14) (t := 1) (fi := 0) dX4_init_14 flX4_14 rfl (fun Cn Tt Nn h9 => by cases h9; rfl) rfl rfl hc8 rfl ?_
  obtain ⟨A9, eA10, h⟩ := k_pl h
  refine k_hq eA10 ?_
  refine k_aload_n (pc := 17) (x := v0) dX4_init_17 rfl rfl ?_
  refine k_bipush (pc := 18) dX4_init_18 ⟨by decide, by decide⟩ (by decide +kernel) ?_
  refine k_newa (pc := 20) (n := 14) dX4_init_20 k_atI rfl (by decide) ?_
  obtain ⟨A11, eA12, h⟩ := k_pl h
  refine k_hq eA12 ?_
  obtain ⟨hc13, h⟩ := k_pk h
  refine k_putF (pc := 22) (t := 1) (fi := 1) dX4_init_22 flX4_20 rfl (fun Cn Tt Nn h9 => by cases h9; rfl) rfl rfl hc13 rfl ?_
  obtain ⟨A14, eA15, h⟩ := k_pl h
  refine k_hq eA15 ?_
  refine k_aload_n (pc := 25) (x := v0) dX4_init_25 rfl rfl ?_
  refine k_bipush (pc := 26) dX4_init_26 ⟨by decide, by decide⟩ (by decide +kernel) ?_
  refine k_newa (pc := 28) (n := 14) dX4_init_28 k_atI rfl (by decide) ?_
  obtain ⟨A16, eA17, h⟩ := k_pl h
  refine k_hq eA17 ?_
  obtain ⟨hc18, h⟩ := k_pk h
  refine k_putF (pc := 30) (t := 1) (fi := 2) dX4_init_30 flX4_24 rfl (fun Cn Tt Nn h9 => by cases h9; rfl) rfl rfl hc18 rfl ?_
  obtain ⟨A19, eA20, h⟩ := k_pl h
  refine k_hq eA20 ?_
  refine k_aload_n (pc := 33) (x := v0) dX4_init_33 rfl rfl ?_
  refine k_new (pc := 34) (ci := 6) (n := 7) dX4_init_34 ncX4_27 rfl ?_
  obtain ⟨A21, eA22, h⟩ := k_pl h
  refine k_hq eA22 ?_
  refine k_dup (pc := 37) dX4_init_37 (Nat.le_of_ble_eq_true rfl) ?_
  obtain ⟨hc26, h⟩ := k_pk h
  obtain ⟨r23, A24, hq25, h⟩ := k_pb h
  refine k_callIN (pc := 38) (a := (k_N A19 : Int)) (host := "VanPlays") (as := []) (st := [(1, (k_N A19 : Int)), (1, v0)]) (st1 := [(1, (k_N A19 : Int)), (1, v0)]) dX4_init_38 cbX6_init (by decide +kernel) (k_gt 133 (by decide +kernel) (by decide +kernel)) rfl rfl hc26 (by omega) rfl (Nat.le_of_ble_eq_true rfl) (okX6_init hq25) rfl ?_
  obtain ⟨hc27, h⟩ := k_pk h
  refine k_putF (pc := 41) (t := 1) (fi := 3) dX4_init_41 flX4_30 rfl (fun Cn Tt Nn h9 => by cases h9; rfl) rfl rfl hc27 rfl ?_
  obtain ⟨A28, eA29, h⟩ := k_pl h
  refine k_hq eA29 ?_
  refine k_aload_n (pc := 44) (x := v0) dX4_init_44 rfl rfl ?_
  refine k_iconst (pc := 45) dX4_init_45 ⟨by decide, by decide⟩ ?_
  have hf30 := k_oW eA29 hc27
  refine k_putf (pc := 46) (t := 0) (fi := 8) dX4_init_46 flX4_34 rfl rfl hf30 rfl ?_
  obtain ⟨A31, eA32, h⟩ := k_pl h
  refine k_hq eA32 ?_
  refine k_aload_n (pc := 49) (x := v0) dX4_init_49 rfl rfl ?_
  refine k_iconst (pc := 50) dX4_init_50 ⟨by decide, by decide⟩ ?_
  have hf33 := k_oW eA32 hf30
  refine k_putf (pc := 51) (t := 0) (fi := 9) dX4_init_51 flX4_38 rfl rfl hf33 rfl ?_
  obtain ⟨A34, eA35, h⟩ := k_pl h
  refine k_hq eA35 ?_
  refine k_aload_n (pc := 54) (x := v0) dX4_init_54 rfl rfl ?_
  have hf36 := k_oW eA35 hf33
  refine k_getf (pc := 55) (t := 1) (fi := 1) dX4_init_55 flX4_20 rfl rfl hf36 ?_
  refine k_iconst (pc := 58) dX4_init_58 ⟨by decide, by decide⟩ ?_
  obtain ⟨r37, A38, hq39, h⟩ := k_pb h
  refine k_callS (pc := 59) (as := [(1, (k_rd A34 v0 1)), (0, (-1))]) (st := []) (st1 := []) dX4_init_59 cbJ7_fill_53178 (k_gt 266 (by decide +kernel) (by decide +kernel)) (k_gt 267 (by decide +kernel) (by decide +kernel)) (by omega) rfl (Nat.le_of_ble_eq_true rfl) (okJ7_fill_53178 hq39) rfl ?_
  refine k_aload_n (pc := 62) (x := v0) dX4_init_62 rfl rfl ?_
  obtain ⟨hc40, h⟩ := k_pk h
  refine k_getf (pc := 63) (t := 1) (fi := 2) dX4_init_63 flX4_24 rfl rfl hc40 ?_
  refine k_iconst (pc := 66) dX4_init_66 ⟨by decide, by decide⟩ ?_
  obtain ⟨r41, A42, hq43, h⟩ := k_pb h
  refine k_callS (pc := 67) (as := [(1, (k_rd A38 v0 2)), (0, (-1))]) (st := []) (st1 := []) dX4_init_67 cbJ7_fill_53178 (k_gt 266 (by decide +kernel) (by decide +kernel)) (k_gt 267 (by decide +kernel) (by decide +kernel)) (by omega) rfl (Nat.le_of_ble_eq_true rfl) (okJ7_fill_53178 hq43) rfl ?_
  obtain ⟨rfl, rfl⟩ := k_pr h
  exact k_retv (pc := 70) dX4_init_70 rfl
theorem okX4_init {A : k_H} {x0 : Int} {r : Int} {A1 : k_H} (h : fX4_init A x0 = some (r, A1)) : k_AM 3 mX4_init [(1, x0)] A r A1 :=
  k_AM_of2 (ls := [(1, x0)]) (Or.inl (by decide +kernel)) (by decide +kernel) (by decide) rfl (Nat.le_of_ble_eq_true rfl) ⟨Or.inr rfl, trivial⟩ (okX4_init_b0 A x0 r A1 h)
/-! X4_forgetTour -/
def fX4_forgetTour_b0 (A : k_H) (v0 : Int) : Option (Int × k_H) := if k_isO A v0 4 then (k_bd (fJ7_fill_53178 A (k_rd A v0 1) (-1)) fun r2 A3 => if k_isO A3 v0 4 then (k_bd (fJ7_fill_53178 A3 (k_rd A3 v0 2) (-1)) fun r6 A7 => some (0, A7)) else none) else none
def fX4_forgetTour (A : k_H) (x0 : Int) : Option (Int × k_H) := fX4_forgetTour_b0 A x0
set_option maxRecDepth 100000 in
theorem okX4_forgetTour_b0 (A : k_H) (v0 : Int) (r : Int) (A' : k_H) (h : fX4_forgetTour_b0 A v0 = some (r, A')) : k_AW 2 mX4_forgetTour 0 [(1, v0)] [] A r A' := by
  unfold fX4_forgetTour_b0 at h
  refine k_aload_n (pc := 0) (x := v0) dX4_forgetTour_0 rfl rfl ?_
  obtain ⟨hc1, h⟩ := k_pk h
  refine k_getf (pc := 1) (t := 1) (fi := 1) dX4_forgetTour_1 flX4_20 rfl rfl hc1 ?_
  refine k_iconst (pc := 4) dX4_forgetTour_4 ⟨by decide, by decide⟩ ?_
  obtain ⟨r2, A3, hq4, h⟩ := k_pb h
  refine k_callS (pc := 5) (as := [(1, (k_rd A v0 1)), (0, (-1))]) (st := []) (st1 := []) dX4_forgetTour_5 cbJ7_fill_53178 (k_gt 266 (by decide +kernel) (by decide +kernel)) (k_gt 267 (by decide +kernel) (by decide +kernel)) (by omega) rfl (Nat.le_of_ble_eq_true rfl) (okJ7_fill_53178 hq4) rfl ?_
  refine k_aload_n (pc := 8) (x := v0) dX4_forgetTour_8 rfl rfl ?_
  obtain ⟨hc5, h⟩ := k_pk h
  refine k_getf (pc := 9) (t := 1) (fi := 2) dX4_forgetTour_9 flX4_24 rfl rfl hc5 ?_
  refine k_iconst (pc := 12) dX4_forgetTour_12 ⟨by decide, by decide⟩ ?_
  obtain ⟨r6, A7, hq8, h⟩ := k_pb h
  refine k_callS (pc := 13) (as := [(1, (k_rd A3 v0 2)), (0, (-1))]) (st := []) (st1 := []) dX4_forgetTour_13 cbJ7_fill_53178 (k_gt 266 (by decide +kernel) (by decide +kernel)) (k_gt 267 (by decide +kernel) (by decide +kernel)) (by omega) rfl (Nat.le_of_ble_eq_true rfl) (okJ7_fill_53178 hq8) rfl ?_
  obtain ⟨rfl, rfl⟩ := k_pr h
  exact k_retv (pc := 16) dX4_forgetTour_16 rfl
theorem okX4_forgetTour {A : k_H} {x0 : Int} {r : Int} {A1 : k_H} (h : fX4_forgetTour A x0 = some (r, A1)) : k_AM 2 mX4_forgetTour [(1, x0)] A r A1 :=
  k_AM_of2 (ls := [(1, x0)]) (Or.inl (by decide +kernel)) (by decide +kernel) (by decide) rfl (Nat.le_of_ble_eq_true rfl) ⟨Or.inr rfl, trivial⟩ (okX4_forgetTour_b0 A x0 r A1 h)
/-! X6_keptBeforeLoss -/
def fX6_keptBeforeLoss_b0 (A : k_H) (v0 v1 : Int) : Option (Int × k_H) := if k_isO A v0 6 then (k_bd (fX6_subsidyOfFee A v0) fun r1 A2 => if k_isO A2 v0 6 then (k_bd (fX6_companyHas A2 v0 v1) fun r5 A6 => some (k_wr (k_wr (v1 + r1) - r5), A6)) else none) else none
def fX6_keptBeforeLoss (A : k_H) (x0 x1 : Int) : Option (Int × k_H) := fX6_keptBeforeLoss_b0 A x0 x1
set_option maxRecDepth 100000 in
theorem okX6_keptBeforeLoss_b0 (A : k_H) (v0 v1 : Int) (r : Int) (A' : k_H) (h : fX6_keptBeforeLoss_b0 A v0 v1 = some (r, A')) : k_AW 3 mX6_keptBeforeLoss 0 [(1, v0), (0, v1)] [] A r A' := by
  unfold fX6_keptBeforeLoss_b0 at h
  refine k_iload_n (pc := 0) (x := v1) dX6_keptBeforeLoss_0 rfl rfl ?_
  refine k_aload_n (pc := 1) (x := v0) dX6_keptBeforeLoss_1 rfl rfl ?_
  obtain ⟨hc4, h⟩ := k_pk h
  obtain ⟨r1, A2, hq3, h⟩ := k_pb h
  refine k_callV (pc := 2) (ci := 6) (a := v0) (as := []) (st := [(0, v1)]) (st1 := [(0, r1), (0, v1)]) dX6_keptBeforeLoss_2 cbX6_subsidyOfFee (k_gt 771 (by decide +kernel) (by decide +kernel)) cvX6_subsidyOfFee.1 cvX6_subsidyOfFee.2 rfl (by decide) hc4 (by omega) rfl (Nat.le_of_ble_eq_true rfl) (okX6_subsidyOfFee hq3) rfl ?_
  refine k_iadd (pc := 5) dX6_keptBeforeLoss_5 ?_
  refine k_aload_n (pc := 6) (x := v0) dX6_keptBeforeLoss_6 rfl rfl ?_
  refine k_iload_n (pc := 7) (x := v1) dX6_keptBeforeLoss_7 rfl rfl ?_
  obtain ⟨hc8, h⟩ := k_pk h
  obtain ⟨r5, A6, hq7, h⟩ := k_pb h
  refine k_callV (pc := 8) (ci := 6) (a := v0) (as := [(0, v1)]) (st := [(0, k_wr (v1 + r1))]) (st1 := [(0, r5), (0, k_wr (v1 + r1))]) dX6_keptBeforeLoss_8 cbX6_companyHas (k_gt 775 (by decide +kernel) (by decide +kernel)) cvX6_companyHas.1 cvX6_companyHas.2 rfl (by decide) hc8 (by omega) rfl (Nat.le_of_ble_eq_true rfl) (okX6_companyHas hq7) rfl ?_
  refine k_isub (pc := 11) dX6_keptBeforeLoss_11 ?_
  obtain ⟨rfl, rfl⟩ := k_pr h
  exact k_ret (pc := 12) dX6_keptBeforeLoss_12 rfl rfl rfl
theorem okX6_keptBeforeLoss {A : k_H} {x0 x1 : Int} {r : Int} {A1 : k_H} (h : fX6_keptBeforeLoss A x0 x1 = some (r, A1)) : k_AM 3 mX6_keptBeforeLoss [(1, x0), (0, x1)] A r A1 :=
  k_AM_of2 (ls := [(1, x0), (0, x1)]) (Or.inl (by decide +kernel)) (by decide +kernel) (by decide) rfl (Nat.le_of_ble_eq_true rfl) ⟨Or.inr rfl, Or.inr rfl, trivial⟩ (okX6_keptBeforeLoss_b0 A x0 x1 r A1 h)
/-! J0_length_8abf5 -/
def fJ0_length_8abf5_b0 (A : k_H) (v0 : Int) : Option (Int × k_H) := if k_isS v0 then (if k_isSw (v0 - 30) then (if k_isS v0 then (k_bd (fJ0_coder_7d493 A v0) fun r3 A4 => some ((k_shr (k_svl (v0 - 30)) r3), A4)) else none) else none) else none
def fJ0_length_8abf5 (A : k_H) (x0 : Int) : Option (Int × k_H) := fJ0_length_8abf5_b0 A x0
set_option maxRecDepth 100000 in
theorem okJ0_length_8abf5_b0 (A : k_H) (v0 : Int) (r : Int) (A' : k_H) (h : fJ0_length_8abf5_b0 A v0 = some (r, A')) : k_AW 2 mJ0_length_8abf5 0 [(1, v0)] [] A r A' := by
  unfold fJ0_length_8abf5_b0 at h
  refine k_aload_n (pc := 0) (x := v0) dJ0_length_8abf5_0 rfl rfl ?_
  obtain ⟨hc1, h⟩ := k_pk h
  refine k_getsv (pc := 1) dJ0_length_8abf5_1 (k_gt 1224 (by decide +kernel) (by decide +kernel)) hc1 ?_
  obtain ⟨hc2, h⟩ := k_pk h
  refine k_svlen (pc := 4) dJ0_length_8abf5_4 hc2 ?_
  refine k_aload_n (pc := 5) (x := v0) dJ0_length_8abf5_5 rfl rfl ?_
  obtain ⟨hc6, h⟩ := k_pk h
  obtain ⟨r3, A4, hq5, h⟩ := k_pb h
  refine k_callT (pc := 6) (a := v0) (as := []) (st := [(0, (k_svl (v0 - 30)))]) (st1 := [(0, r3), (0, (k_svl (v0 - 30)))]) dJ0_length_8abf5_6 cbJ0_coder_7d493 (k_gt 641 (by decide +kernel) (by decide +kernel)) cvJ0_coder_7d493.1 cvJ0_coder_7d493.2 rfl hc6 (by omega) rfl (Nat.le_of_ble_eq_true rfl) (okJ0_coder_7d493 hq5) rfl ?_
  refine k_ishr (pc := 9) dJ0_length_8abf5_9 ?_
  obtain ⟨rfl, rfl⟩ := k_pr h
  exact k_ret (pc := 10) dJ0_length_8abf5_10 rfl rfl rfl
theorem okJ0_length_8abf5 {A : k_H} {x0 : Int} {r : Int} {A1 : k_H} (h : fJ0_length_8abf5 A x0 = some (r, A1)) : k_AM 2 mJ0_length_8abf5 [(1, x0)] A r A1 :=
  k_AM_of2 (ls := [(1, x0)]) (Or.inl (by decide +kernel)) (by decide +kernel) (by decide) rfl (Nat.le_of_ble_eq_true rfl) ⟨Or.inr rfl, trivial⟩ (okJ0_length_8abf5_b0 A x0 r A1 h)
/-! J0_checkIndex_df160 -/
def fJ0_checkIndex_df160_b0 (A : k_H) (v0 v1 : Int) : Option (Int × k_H) := k_bd (fJ3_checkIndex_8e157 A v0 v1 (-1)) fun r1 A2 => some (0, A2)
def fJ0_checkIndex_df160 (A : k_H) (x0 x1 : Int) : Option (Int × k_H) := fJ0_checkIndex_df160_b0 A x0 x1
set_option maxRecDepth 100000 in
theorem okJ0_checkIndex_df160_b0 (A : k_H) (v0 v1 : Int) (r : Int) (A' : k_H) (h : fJ0_checkIndex_df160_b0 A v0 v1 = some (r, A')) : k_AW 2 mJ0_checkIndex_df160 0 [(0, v0), (0, v1)] [] A r A' := by
  unfold fJ0_checkIndex_df160_b0 at h
  refine k_iload_n (pc := 0) (x := v0) dJ0_checkIndex_df160_0 rfl rfl ?_
  refine k_iload_n (pc := 1) (x := v1) dJ0_checkIndex_df160_1 rfl rfl ?_
  refine k_getfm (pc := 2) dJ0_checkIndex_df160_2 (k_gt 661 (by decide +kernel) (by decide +kernel)) (fun z => ?_)
  obtain ⟨r1, A2, hq3, h⟩ := k_pb h
  refine k_callS (pc := 5) (as := [(0, v0), (0, v1), (1, z)]) (st := []) (st1 := [(0, r1)]) dJ0_checkIndex_df160_5 cbJ3_checkIndex_8e157 (k_gt 663 (by decide +kernel) (by decide +kernel)) (k_gt 664 (by decide +kernel) (by decide +kernel)) (by omega) rfl (Nat.le_of_ble_eq_true rfl) (okJ3_checkIndex_8e157 (x2 := z) hq3) rfl ?_
  refine k_pop (pc := 8) dJ0_checkIndex_df160_8 (Nat.le_of_ble_eq_true rfl) ?_
  obtain ⟨rfl, rfl⟩ := k_pr h
  exact k_retv (pc := 9) dJ0_checkIndex_df160_9 rfl
theorem okJ0_checkIndex_df160 {A : k_H} {x0 x1 : Int} {r : Int} {A1 : k_H} (h : fJ0_checkIndex_df160 A x0 x1 = some (r, A1)) : k_AM 2 mJ0_checkIndex_df160 [(0, x0), (0, x1)] A r A1 :=
  k_AM_of2 (ls := [(0, x0), (0, x1)]) (Or.inl (by decide +kernel)) (by decide +kernel) (by decide) rfl (Nat.le_of_ble_eq_true rfl) ⟨Or.inr rfl, Or.inr rfl, trivial⟩ (okJ0_checkIndex_df160_b0 A x0 x1 r A1 h)
/-! X1_build -/
def fX1_build_b0 (A : k_H) (v0 v1 v2 v3 : Int) : Option (Int × k_H) := if k_isO A v0 1 then (k_lt (k_wt A v0 4 v1) fun A2 => k_lt (k_wt A2 v0 5 v2) fun A5 => if k_isO A5 (k_rd A5 v0 0) 0 then (k_bd (fX0_take A5 (k_rd A5 v0 0) v3) fun r8 A9 => some (0, A9)) else none) else none
def fX1_build (A : k_H) (x0 x1 x2 x3 : Int) : Option (Int × k_H) := fX1_build_b0 A x0 x1 x2 x3
set_option maxRecDepth 100000 in
theorem okX1_build_b0 (A : k_H) (v0 v1 v2 v3 : Int) (r : Int) (A' : k_H) (h : fX1_build_b0 A v0 v1 v2 v3 = some (r, A')) : k_AW 3 mX1_build 0 [(1, v0), (0, v1), (0, v2), (1, v3)] [] A r A' := by
  unfold fX1_build_b0 at h
  refine k_aload_n (pc := 0) (x := v0) dX1_build_0 rfl rfl ?_
  refine k_iload_n (pc := 1) (x := v1) dX1_build_1 rfl rfl ?_
  obtain ⟨hc1, h⟩ := k_pk h
  refine k_putf (pc := 2) (t := 0) (fi := 4) dX1_build_2 flX1_24 rfl rfl hc1 rfl ?_
  obtain ⟨A2, eA3, h⟩ := k_pl h
  refine k_hq eA3 ?_
  refine k_aload_n (pc := 5) (x := v0) dX1_build_5 rfl rfl ?_
  refine k_iload_n (pc := 6) (x := v2) dX1_build_6 rfl rfl ?_
  have hf4 := k_oW eA3 hc1
  refine k_putf (pc := 7) (t := 0) (fi := 5) dX1_build_7 flX1_28 rfl rfl hf4 rfl ?_
  obtain ⟨A5, eA6, h⟩ := k_pl h
  refine k_hq eA6 ?_
  refine k_aload_n (pc := 10) (x := v0) dX1_build_10 rfl rfl ?_
  have hf7 := k_oW eA6 hf4
  refine k_getf (pc := 11) (t := 1) (fi := 0) dX1_build_11 flX1_14 rfl rfl hf7 ?_
  refine k_aload_n (pc := 14) (x := v3) dX1_build_14 rfl rfl ?_
  obtain ⟨hc11, h⟩ := k_pk h
  obtain ⟨r8, A9, hq10, h⟩ := k_pb h
  refine k_callV (pc := 15) (ci := 0) (a := (k_rd A5 v0 0)) (as := [(1, v3)]) (st := []) (st1 := []) dX1_build_15 cbX0_take (k_gt 373 (by decide +kernel) (by decide +kernel)) cvX0_take.1 cvX0_take.2 rfl (by decide) hc11 (by omega) rfl (Nat.le_of_ble_eq_true rfl) (okX0_take hq10) rfl ?_
  obtain ⟨rfl, rfl⟩ := k_pr h
  exact k_retv (pc := 18) dX1_build_18 rfl
theorem okX1_build {A : k_H} {x0 x1 x2 x3 : Int} {r : Int} {A1 : k_H} (h : fX1_build A x0 x1 x2 x3 = some (r, A1)) : k_AM 3 mX1_build [(1, x0), (0, x1), (0, x2), (1, x3)] A r A1 :=
  k_AM_of2 (ls := [(1, x0), (0, x1), (0, x2), (1, x3)]) (Or.inl (by decide +kernel)) (by decide +kernel) (by decide) rfl (Nat.le_of_ble_eq_true rfl) ⟨Or.inr rfl, Or.inr rfl, Or.inr rfl, Or.inr rfl, trivial⟩ (okX1_build_b0 A x0 x1 x2 x3 r A1 h)
/-! X3_canPlug -/
def fX3_canPlug_b0 (A : k_H) (v0 v1 v2 : Int) : Option (Int × k_H) := if k_isO A v0 3 then (k_bd (fX3_lay A v0 v1 v2) fun r1 A2 => if k_isO A2 v0 3 then (k_lt (k_wt A2 v0 8 1) fun A6 => k_bd (fX3_search A6 v0 0 0) fun r8 A9 => if k_isO A9 v0 3 then (if (k_rd A9 v0 8) = 0 then (some (1, A9)) else (some (0, A9))) else none) else none) else none
def fX3_canPlug (A : k_H) (x0 x1 x2 : Int) : Option (Int × k_H) := fX3_canPlug_b0 A x0 x1 x2
set_option maxRecDepth 100000 in
theorem okX3_canPlug_b0 (A : k_H) (v0 v1 v2 : Int) (r : Int) (A' : k_H) (h : fX3_canPlug_b0 A v0 v1 v2 = some (r, A')) : k_AW 16 mX3_canPlug 0 [(1, v0), (1, v1), (1, v2)] [] A r A' := by
  unfold fX3_canPlug_b0 at h
  refine k_aload_n (pc := 0) (x := v0) dX3_canPlug_0 rfl rfl ?_
  refine k_aload_n (pc := 1) (x := v1) dX3_canPlug_1 rfl rfl ?_
  refine k_aload_n (pc := 2) (x := v2) dX3_canPlug_2 rfl rfl ?_
  obtain ⟨hc4, h⟩ := k_pk h
  obtain ⟨r1, A2, hq3, h⟩ := k_pb h
  refine k_callV (pc := 3) (ci := 3) (a := v0) (as := [(1, v1), (1, v2)]) (st := []) (st1 := []) dX3_canPlug_3 cbX3_lay (k_gt 432 (by decide +kernel) (by decide +kernel)) cvX3_lay.1 cvX3_lay.2 rfl (by decide) hc4 (by omega) rfl (Nat.le_of_ble_eq_true rfl) (okX3_lay hq3) rfl ?_
  refine k_aload_n (pc := 6) (x := v0) dX3_canPlug_6 rfl rfl ?_
  refine k_iconst (pc := 7) dX3_canPlug_7 ⟨by decide, by decide⟩ ?_
  obtain ⟨hc5, h⟩ := k_pk h
  refine k_putf (pc := 8) (t := 0) (fi := 8) dX3_canPlug_8 flX3_34 rfl rfl hc5 rfl ?_
  obtain ⟨A6, eA7, h⟩ := k_pl h
  refine k_hq eA7 ?_
  refine k_aload_n (pc := 11) (x := v0) dX3_canPlug_11 rfl rfl ?_
  refine k_iconst (pc := 12) dX3_canPlug_12 ⟨by decide, by decide⟩ ?_
  refine k_iconst (pc := 13) dX3_canPlug_13 ⟨by decide, by decide⟩ ?_
  have hf11 := k_oW eA7 hc5
  obtain ⟨r8, A9, hq10, h⟩ := k_pb h
  refine k_callV (pc := 14) (ci := 3) (a := v0) (as := [(0, 0), (0, 0)]) (st := []) (st1 := []) dX3_canPlug_14 cbX3_search (k_gt 438 (by decide +kernel) (by decide +kernel)) cvX3_search.1 cvX3_search.2 rfl (by decide) hf11 (by omega) rfl (Nat.le_of_ble_eq_true rfl) (okX3_search hq10) rfl ?_
  refine k_aload_n (pc := 17) (x := v0) dX3_canPlug_17 rfl rfl ?_
  obtain ⟨hc12, h⟩ := k_pk h
  refine k_getf (pc := 18) (t := 0) (fi := 8) dX3_canPlug_18 flX3_34 rfl rfl hc12 ?_
  refine k_if_ne (pc := 21) (tgt := 28) dX3_canPlug_21 rfl (fun c13 => ?_) (fun c13 => ?_)
  · rw [if_neg c13] at h
    refine k_iconst (pc := 28) dX3_canPlug_28 ⟨by decide, by decide⟩ ?_
    obtain ⟨rfl, rfl⟩ := k_pr h
    exact k_ret (pc := 29) dX3_canPlug_29 rfl rfl (by decide +kernel)
  · rw [if_pos (Classical.not_not.mp c13)] at h
    refine k_iconst (pc := 24) dX3_canPlug_24 ⟨by decide, by decide⟩ ?_
    refine k_goto (pc := 25) (tgt := 29) dX3_canPlug_25 rfl ?_
    obtain ⟨rfl, rfl⟩ := k_pr h
    exact k_ret (pc := 29) dX3_canPlug_29 rfl rfl (by decide +kernel)
theorem okX3_canPlug {A : k_H} {x0 x1 x2 : Int} {r : Int} {A1 : k_H} (h : fX3_canPlug A x0 x1 x2 = some (r, A1)) : k_AM 16 mX3_canPlug [(1, x0), (1, x1), (1, x2)] A r A1 :=
  k_AM_of2 (ls := [(1, x0), (1, x1), (1, x2)]) (Or.inl (by decide +kernel)) (by decide +kernel) (by decide) rfl (Nat.le_of_ble_eq_true rfl) ⟨Or.inr rfl, Or.inr rfl, Or.inr rfl, trivial⟩ (okX3_canPlug_b0 A x0 x1 x2 r A1 h)
/-! X3_leastLack -/
def fX3_leastLack_b0 (A : k_H) (v0 v1 v2 : Int) : Option (Int × k_H) := if k_isO A v0 3 then (k_bd (fX3_lay A v0 v1 v2) fun r1 A2 => if k_isO A2 v0 3 then (if k_isA A2 (k_rd A2 v0 2) 21 0 then (k_lt (k_wt A2 v0 8 (k_wr ((k_rd A2 (k_rd A2 v0 2) 0) + 1))) fun A7 => k_bd (fX3_search A7 v0 0 0) fun r9 A10 => if k_isO A10 v0 3 then (some ((k_rd A10 v0 8), A10)) else none) else none) else none) else none
def fX3_leastLack (A : k_H) (x0 x1 x2 : Int) : Option (Int × k_H) := fX3_leastLack_b0 A x0 x1 x2
set_option maxRecDepth 100000 in
theorem okX3_leastLack_b0 (A : k_H) (v0 v1 v2 : Int) (r : Int) (A' : k_H) (h : fX3_leastLack_b0 A v0 v1 v2 = some (r, A')) : k_AW 16 mX3_leastLack 0 [(1, v0), (1, v1), (1, v2)] [] A r A' := by
  unfold fX3_leastLack_b0 at h
  refine k_aload_n (pc := 0) (x := v0) dX3_leastLack_0 rfl rfl ?_
  refine k_aload_n (pc := 1) (x := v1) dX3_leastLack_1 rfl rfl ?_
  refine k_aload_n (pc := 2) (x := v2) dX3_leastLack_2 rfl rfl ?_
  obtain ⟨hc4, h⟩ := k_pk h
  obtain ⟨r1, A2, hq3, h⟩ := k_pb h
  refine k_callV (pc := 3) (ci := 3) (a := v0) (as := [(1, v1), (1, v2)]) (st := []) (st1 := []) dX3_leastLack_3 cbX3_lay (k_gt 432 (by decide +kernel) (by decide +kernel)) cvX3_lay.1 cvX3_lay.2 rfl (by decide) hc4 (by omega) rfl (Nat.le_of_ble_eq_true rfl) (okX3_lay hq3) rfl ?_
  refine k_aload_n (pc := 6) (x := v0) dX3_leastLack_6 rfl rfl ?_
  refine k_aload_n (pc := 7) (x := v0) dX3_leastLack_7 rfl rfl ?_
  obtain ⟨hc5, h⟩ := k_pk h
  refine k_getf (pc := 8) (t := 1) (fi := 2) dX3_leastLack_8 flX3_18 rfl rfl hc5 ?_
  refine k_iconst (pc := 11) dX3_leastLack_11 ⟨by decide, by decide⟩ ?_
  obtain ⟨hc6, h⟩ := k_pk h
  refine k_iaload (pc := 12) dX3_leastLack_12 hc6 ?_
  refine k_iconst (pc := 13) dX3_leastLack_13 ⟨by decide, by decide⟩ ?_
  refine k_iadd (pc := 14) dX3_leastLack_14 ?_
  refine k_putf (pc := 15) (t := 0) (fi := 8) dX3_leastLack_15 flX3_34 rfl rfl hc5 rfl ?_
  obtain ⟨A7, eA8, h⟩ := k_pl h
  refine k_hq eA8 ?_
  refine k_aload_n (pc := 18) (x := v0) dX3_leastLack_18 rfl rfl ?_
  refine k_iconst (pc := 19) dX3_leastLack_19 ⟨by decide, by decide⟩ ?_
  refine k_iconst (pc := 20) dX3_leastLack_20 ⟨by decide, by decide⟩ ?_
  have hf12 := k_oW eA8 hc5
  obtain ⟨r9, A10, hq11, h⟩ := k_pb h
  refine k_callV (pc := 21) (ci := 3) (a := v0) (as := [(0, 0), (0, 0)]) (st := []) (st1 := []) dX3_leastLack_21 cbX3_search (k_gt 438 (by decide +kernel) (by decide +kernel)) cvX3_search.1 cvX3_search.2 rfl (by decide) hf12 (by omega) rfl (Nat.le_of_ble_eq_true rfl) (okX3_search hq11) rfl ?_
  refine k_aload_n (pc := 24) (x := v0) dX3_leastLack_24 rfl rfl ?_
  obtain ⟨hc13, h⟩ := k_pk h
  refine k_getf (pc := 25) (t := 0) (fi := 8) dX3_leastLack_25 flX3_34 rfl rfl hc13 ?_
  obtain ⟨rfl, rfl⟩ := k_pr h
  exact k_ret (pc := 28) dX3_leastLack_28 rfl rfl rfl
theorem okX3_leastLack {A : k_H} {x0 x1 x2 : Int} {r : Int} {A1 : k_H} (h : fX3_leastLack A x0 x1 x2 = some (r, A1)) : k_AM 16 mX3_leastLack [(1, x0), (1, x1), (1, x2)] A r A1 :=
  k_AM_of2 (ls := [(1, x0), (1, x1), (1, x2)]) (Or.inl (by decide +kernel)) (by decide +kernel) (by decide) rfl (Nat.le_of_ble_eq_true rfl) ⟨Or.inr rfl, Or.inr rfl, Or.inr rfl, trivial⟩ (okX3_leastLack_b0 A x0 x1 x2 r A1 h)
/-! X4_build -/
def fX4_build_b0 (A : k_H) (v0 v1 v2 v3 : Int) : Option (Int × k_H) := if k_isO A v0 4 then (k_lt (k_wt A v0 4 v1) fun A2 => k_lt (k_wt A2 v0 5 v2) fun A5 => if k_isO A5 (k_rd A5 v0 0) 0 then (k_bd (fX0_take A5 (k_rd A5 v0 0) v3) fun r8 A9 => some (0, A9)) else none) else none
def fX4_build (A : k_H) (x0 x1 x2 x3 : Int) : Option (Int × k_H) := fX4_build_b0 A x0 x1 x2 x3
set_option maxRecDepth 100000 in
theorem okX4_build_b0 (A : k_H) (v0 v1 v2 v3 : Int) (r : Int) (A' : k_H) (h : fX4_build_b0 A v0 v1 v2 v3 = some (r, A')) : k_AW 3 mX4_build 0 [(1, v0), (0, v1), (0, v2), (1, v3)] [] A r A' := by
  unfold fX4_build_b0 at h
  refine k_aload_n (pc := 0) (x := v0) dX4_build_0 rfl rfl ?_
  refine k_iload_n (pc := 1) (x := v1) dX4_build_1 rfl rfl ?_
  obtain ⟨hc1, h⟩ := k_pk h
  refine k_putf (pc := 2) (t := 0) (fi := 4) dX4_build_2 flX4_47 rfl rfl hc1 rfl ?_
  obtain ⟨A2, eA3, h⟩ := k_pl h
  refine k_hq eA3 ?_
  refine k_aload_n (pc := 5) (x := v0) dX4_build_5 rfl rfl ?_
  refine k_iload_n (pc := 6) (x := v2) dX4_build_6 rfl rfl ?_
  have hf4 := k_oW eA3 hc1
  refine k_putf (pc := 7) (t := 0) (fi := 5) dX4_build_7 flX4_50 rfl rfl hf4 rfl ?_
  obtain ⟨A5, eA6, h⟩ := k_pl h
  refine k_hq eA6 ?_
  refine k_aload_n (pc := 10) (x := v0) dX4_build_10 rfl rfl ?_
  have hf7 := k_oW eA6 hf4
  refine k_getf (pc := 11) (t := 1) (fi := 0) dX4_build_11 flX4_14 rfl rfl hf7 ?_
  refine k_aload_n (pc := 14) (x := v3) dX4_build_14 rfl rfl ?_
  obtain ⟨hc11, h⟩ := k_pk h
  obtain ⟨r8, A9, hq10, h⟩ := k_pb h
  refine k_callV (pc := 15) (ci := 0) (a := (k_rd A5 v0 0)) (as := [(1, v3)]) (st := []) (st1 := []) dX4_build_15 cbX0_take (k_gt 395 (by decide +kernel) (by decide +kernel)) cvX0_take.1 cvX0_take.2 rfl (by decide) hc11 (by omega) rfl (Nat.le_of_ble_eq_true rfl) (okX0_take hq10) rfl ?_
  obtain ⟨rfl, rfl⟩ := k_pr h
  exact k_retv (pc := 18) dX4_build_18 rfl
theorem okX4_build {A : k_H} {x0 x1 x2 x3 : Int} {r : Int} {A1 : k_H} (h : fX4_build A x0 x1 x2 x3 = some (r, A1)) : k_AM 3 mX4_build [(1, x0), (0, x1), (0, x2), (1, x3)] A r A1 :=
  k_AM_of2 (ls := [(1, x0), (0, x1), (0, x2), (1, x3)]) (Or.inl (by decide +kernel)) (by decide +kernel) (by decide) rfl (Nat.le_of_ble_eq_true rfl) ⟨Or.inr rfl, Or.inr rfl, Or.inr rfl, Or.inr rfl, trivial⟩ (okX4_build_b0 A x0 x1 x2 x3 r A1 h)
/-! X6_schemeGives -/
def fX6_schemeGives_b26 (A : k_H) (v0 s0 : Int) : Option (Int × k_H) := if k_isO A v0 6 then (k_bd (fX6_subsidyOfFee A v0) fun r1 A2 => some (k_wr (r1 + s0), A2)) else none
def fX6_schemeGives_b25 (A : k_H) (v0 : Int) : Option (Int × k_H) := fX6_schemeGives_b26 A v0 0
def fX6_schemeGives_b0 (A : k_H) (v0 v1 : Int) : Option (Int × k_H) := if k_isO A v0 6 then (k_bd (fX6_keptBeforeLoss A v0 v1) fun r1 A2 => if k_isO A2 v0 6 then (if (k_rd A2 v0 6) = 0 then (fX6_schemeGives_b25 A2 v0) else (if r1 < 0 then (fX6_schemeGives_b26 A2 v0 (k_wr (Int.tdiv (k_wr (1 - r1)) 2))) else (fX6_schemeGives_b25 A2 v0))) else none) else none
def fX6_schemeGives (A : k_H) (x0 x1 : Int) : Option (Int × k_H) := fX6_schemeGives_b0 A x0 x1
set_option maxRecDepth 100000 in
theorem okX6_schemeGives_b26 (A : k_H) (v0 s0 : Int) (r : Int) (A' : k_H) (h : fX6_schemeGives_b26 A v0 s0 = some (r, A')) : k_AW 4 mX6_schemeGives 26 [(1, v0), (3, 0), (3, 0), (3, 0)] [(0, s0)] A r A' := by
  unfold fX6_schemeGives_b26 at h
  refine k_istore_n (pc := 26) dX6_schemeGives_26 rfl (Nat.le_of_ble_eq_true rfl) rfl ?_
  show k_AW _ _ _ [(1, v0), (3, 0), (3, 0), (0, s0)] _ _ _ _
  refine k_aload_n (pc := 27) (x := v0) dX6_schemeGives_27 rfl rfl ?_
  obtain ⟨hc4, h⟩ := k_pk h
  obtain ⟨r1, A2, hq3, h⟩ := k_pb h
  refine k_callV (pc := 28) (ci := 6) (a := v0) (as := []) (st := []) (st1 := [(0, r1)]) dX6_schemeGives_28 cbX6_subsidyOfFee (k_gt 771 (by decide +kernel) (by decide +kernel)) cvX6_subsidyOfFee.1 cvX6_subsidyOfFee.2 rfl (by decide) hc4 (by omega) rfl (Nat.le_of_ble_eq_true rfl) (okX6_subsidyOfFee hq3) rfl ?_
  refine k_iload_n (pc := 31) (x := s0) dX6_schemeGives_31 rfl rfl ?_
  refine k_iadd (pc := 32) dX6_schemeGives_32 ?_
  obtain ⟨rfl, rfl⟩ := k_pr h
  exact k_ret (pc := 33) dX6_schemeGives_33 rfl rfl rfl
set_option maxRecDepth 100000 in
theorem okX6_schemeGives_b25 (A : k_H) (v0 : Int) (r : Int) (A' : k_H) (h : fX6_schemeGives_b25 A v0 = some (r, A')) : k_AW 4 mX6_schemeGives 25 [(1, v0), (3, 0), (3, 0), (3, 0)] [] A r A' := by
  unfold fX6_schemeGives_b25 at h
  refine k_iconst (pc := 25) dX6_schemeGives_25 ⟨by decide, by decide⟩ ?_
  refine k_sub (ls' := [(1, v0), (3, 0), (3, 0), (3, 0)]) (k_sbl_ok _ _ ⟨Or.inr rfl, Or.inl rfl, Or.inl rfl, Or.inl rfl, trivial⟩) ?_
  exact okX6_schemeGives_b26  _ _ _ _ _ h
set_option maxRecDepth 100000 in
theorem okX6_schemeGives_b0 (A : k_H) (v0 v1 : Int) (r : Int) (A' : k_H) (h : fX6_schemeGives_b0 A v0 v1 = some (r, A')) : k_AW 4 mX6_schemeGives 0 [(1, v0), (0, v1), (3, 0), (3, 0)] [] A r A' := by
  unfold fX6_schemeGives_b0 at h
  refine k_aload_n (pc := 0) (x := v0) dX6_schemeGives_0 rfl rfl ?_
  refine k_iload_n (pc := 1) (x := v1) dX6_schemeGives_1 rfl rfl ?_
  obtain ⟨hc4, h⟩ := k_pk h
  obtain ⟨r1, A2, hq3, h⟩ := k_pb h
  refine k_callV (pc := 2) (ci := 6) (a := v0) (as := [(0, v1)]) (st := []) (st1 := [(0, r1)]) dX6_schemeGives_2 cbX6_keptBeforeLoss (k_gt 767 (by decide +kernel) (by decide +kernel)) cvX6_keptBeforeLoss.1 cvX6_keptBeforeLoss.2 rfl (by decide) hc4 (by omega) rfl (Nat.le_of_ble_eq_true rfl) (okX6_keptBeforeLoss hq3) rfl ?_
  refine k_istore_n (pc := 5) dX6_schemeGives_5 rfl (Nat.le_of_ble_eq_true rfl) rfl ?_
  show k_AW _ _ _ [(1, v0), (0, v1), (0, r1), (3, 0)] _ _ _ _
  refine k_aload_n (pc := 6) (x := v0) dX6_schemeGives_6 rfl rfl ?_
  obtain ⟨hc5, h⟩ := k_pk h
  refine k_getf (pc := 7) (t := 0) (fi := 6) dX6_schemeGives_7 flX6_31 rfl rfl hc5 ?_
  refine k_if_eq (pc := 10) (tgt := 25) dX6_schemeGives_10 rfl (fun c6 => ?_) (fun c6 => ?_)
  · rw [if_pos c6] at h
    refine k_sub (ls' := [(1, v0), (3, 0), (3, 0), (3, 0)]) (k_sbl_ok _ _ ⟨Or.inr rfl, Or.inl rfl, Or.inl rfl, Or.inl rfl, trivial⟩) ?_
    exact okX6_schemeGives_b25  _ _ _ _ h
  · rw [if_neg c6] at h
    refine k_iload_n (pc := 13) (x := r1) dX6_schemeGives_13 rfl rfl ?_
    refine k_if_ge (pc := 14) (tgt := 25) dX6_schemeGives_14 rfl (fun c7 => ?_) (fun c7 => ?_)
    · rw [if_neg (Int.not_lt.mpr c7)] at h
      refine k_sub (ls' := [(1, v0), (3, 0), (3, 0), (3, 0)]) (k_sbl_ok _ _ ⟨Or.inr rfl, Or.inl rfl, Or.inl rfl, Or.inl rfl, trivial⟩) ?_
      exact okX6_schemeGives_b25  _ _ _ _ h
    · rw [if_pos (Int.not_le.mp c7)] at h
      refine k_iconst (pc := 17) dX6_schemeGives_17 ⟨by decide, by decide⟩ ?_
      refine k_iload_n (pc := 18) (x := r1) dX6_schemeGives_18 rfl rfl ?_
      refine k_isub (pc := 19) dX6_schemeGives_19 ?_
      refine k_iconst (pc := 20) dX6_schemeGives_20 ⟨by decide, by decide⟩ ?_
      refine k_idiv (pc := 21) dX6_schemeGives_21 (by decide) ?_
      refine k_goto (pc := 22) (tgt := 26) dX6_schemeGives_22 rfl ?_
      refine k_sub (ls' := [(1, v0), (3, 0), (3, 0), (3, 0)]) (k_sbl_ok _ _ ⟨Or.inr rfl, Or.inl rfl, Or.inl rfl, Or.inl rfl, trivial⟩) ?_
      exact okX6_schemeGives_b26  _ _ _ _ _ h
theorem okX6_schemeGives {A : k_H} {x0 x1 : Int} {r : Int} {A1 : k_H} (h : fX6_schemeGives A x0 x1 = some (r, A1)) : k_AM 4 mX6_schemeGives [(1, x0), (0, x1)] A r A1 :=
  k_AM_of2 (ls := [(1, x0), (0, x1), (3, 0), (3, 0)]) (Or.inl (by decide +kernel)) (by decide +kernel) (by decide) rfl (Nat.le_of_ble_eq_true rfl) ⟨Or.inr rfl, Or.inr rfl, rfl, rfl, trivial⟩ (okX6_schemeGives_b0 A x0 x1 r A1 h)
/-! J1_charAt_3b067 -/
def fJ1_charAt_3b067_b0 (A : k_H) (v0 v1 : Int) : Option (Int × k_H) := if k_isSw v0 then (k_bd (fJ0_checkIndex_df160 A v1 (k_svl v0)) fun r2 A3 => if k_isSv v0 v1 then (if k_isC (k_c16 (k_and (k_sbv v0 v1) 255)) then (some ((k_c16 (k_and (k_sbv v0 v1) 255)), A3)) else none) else none) else none
def fJ1_charAt_3b067 (A : k_H) (x0 x1 : Int) : Option (Int × k_H) := fJ1_charAt_3b067_b0 A x0 x1
set_option maxRecDepth 100000 in
theorem okJ1_charAt_3b067_b0 (A : k_H) (v0 v1 : Int) (r : Int) (A' : k_H) (h : fJ1_charAt_3b067_b0 A v0 v1 = some (r, A')) : k_AW 3 mJ1_charAt_3b067 0 [(1, v0), (0, v1)] [] A r A' := by
  unfold fJ1_charAt_3b067_b0 at h
  refine k_iload_n (pc := 0) (x := v1) dJ1_charAt_3b067_0 rfl rfl ?_
  refine k_aload_n (pc := 1) (x := v0) dJ1_charAt_3b067_1 rfl rfl ?_
  obtain ⟨hc1, h⟩ := k_pk h
  refine k_svlen (pc := 2) dJ1_charAt_3b067_2 hc1 ?_
  obtain ⟨r2, A3, hq4, h⟩ := k_pb h
  refine k_callS (pc := 3) (as := [(0, v1), (0, (k_svl v0))]) (st := []) (st1 := []) dJ1_charAt_3b067_3 cbJ0_checkIndex_df160 (k_gt 658 (by decide +kernel) (by decide +kernel)) (k_gt 659 (by decide +kernel) (by decide +kernel)) (by omega) rfl (Nat.le_of_ble_eq_true rfl) (okJ0_checkIndex_df160 hq4) rfl ?_
  refine k_aload_n (pc := 6) (x := v0) dJ1_charAt_3b067_6 rfl rfl ?_
  refine k_iload_n (pc := 7) (x := v1) dJ1_charAt_3b067_7 rfl rfl ?_
  obtain ⟨hc5, h⟩ := k_pk h
  refine k_sbald (pc := 8) dJ1_charAt_3b067_8 hc5 ?_
  refine k_sipush (pc := 9) dJ1_charAt_3b067_9 ⟨by decide, by decide⟩ (by decide +kernel) ?_
  refine k_iand (pc := 12) dJ1_charAt_3b067_12 ?_
  refine k_i2c (pc := 13) dJ1_charAt_3b067_13 ?_
  obtain ⟨hc6, h⟩ := k_pk h
  obtain ⟨rfl, rfl⟩ := k_pr h
  exact k_ret (pc := 14) dJ1_charAt_3b067_14 rfl rfl (k_nc hc6)
theorem okJ1_charAt_3b067 {A : k_H} {x0 x1 : Int} {r : Int} {A1 : k_H} (h : fJ1_charAt_3b067 A x0 x1 = some (r, A1)) : k_AM 3 mJ1_charAt_3b067 [(1, x0), (0, x1)] A r A1 :=
  k_AM_of2 (ls := [(1, x0), (0, x1)]) (Or.inl (by decide +kernel)) (by decide +kernel) (by decide) rfl (Nat.le_of_ble_eq_true rfl) ⟨Or.inr rfl, Or.inr rfl, trivial⟩ (okJ1_charAt_3b067_b0 A x0 x1 r A1 h)
/-! X6_hallKeeps -/
def fX6_hallKeeps_b0 (A : k_H) (v0 v1 : Int) : Option (Int × k_H) := if k_isO A v0 6 then (k_bd (fX6_schemeGives A v0 v1) fun r1 A2 => if k_isO A2 v0 6 then (k_bd (fX6_companyHas A2 v0 v1) fun r5 A6 => some (k_wr (k_wr (v1 + r1) - r5), A6)) else none) else none
def fX6_hallKeeps (A : k_H) (x0 x1 : Int) : Option (Int × k_H) := fX6_hallKeeps_b0 A x0 x1
set_option maxRecDepth 100000 in
theorem okX6_hallKeeps_b0 (A : k_H) (v0 v1 : Int) (r : Int) (A' : k_H) (h : fX6_hallKeeps_b0 A v0 v1 = some (r, A')) : k_AW 5 mX6_hallKeeps 0 [(1, v0), (0, v1)] [] A r A' := by
  unfold fX6_hallKeeps_b0 at h
  refine k_iload_n (pc := 0) (x := v1) dX6_hallKeeps_0 rfl rfl ?_
  refine k_aload_n (pc := 1) (x := v0) dX6_hallKeeps_1 rfl rfl ?_
  refine k_iload_n (pc := 2) (x := v1) dX6_hallKeeps_2 rfl rfl ?_
  obtain ⟨hc4, h⟩ := k_pk h
  obtain ⟨r1, A2, hq3, h⟩ := k_pb h
  refine k_callV (pc := 3) (ci := 6) (a := v0) (as := [(0, v1)]) (st := [(0, v1)]) (st1 := [(0, r1), (0, v1)]) dX6_hallKeeps_3 cbX6_schemeGives (k_gt 763 (by decide +kernel) (by decide +kernel)) cvX6_schemeGives.1 cvX6_schemeGives.2 rfl (by decide) hc4 (by omega) rfl (Nat.le_of_ble_eq_true rfl) (okX6_schemeGives hq3) rfl ?_
  refine k_iadd (pc := 6) dX6_hallKeeps_6 ?_
  refine k_aload_n (pc := 7) (x := v0) dX6_hallKeeps_7 rfl rfl ?_
  refine k_iload_n (pc := 8) (x := v1) dX6_hallKeeps_8 rfl rfl ?_
  obtain ⟨hc8, h⟩ := k_pk h
  obtain ⟨r5, A6, hq7, h⟩ := k_pb h
  refine k_callV (pc := 9) (ci := 6) (a := v0) (as := [(0, v1)]) (st := [(0, k_wr (v1 + r1))]) (st1 := [(0, r5), (0, k_wr (v1 + r1))]) dX6_hallKeeps_9 cbX6_companyHas (k_gt 775 (by decide +kernel) (by decide +kernel)) cvX6_companyHas.1 cvX6_companyHas.2 rfl (by decide) hc8 (by omega) rfl (Nat.le_of_ble_eq_true rfl) (okX6_companyHas hq7) rfl ?_
  refine k_isub (pc := 12) dX6_hallKeeps_12 ?_
  obtain ⟨rfl, rfl⟩ := k_pr h
  exact k_ret (pc := 13) dX6_hallKeeps_13 rfl rfl rfl
theorem okX6_hallKeeps {A : k_H} {x0 x1 : Int} {r : Int} {A1 : k_H} (h : fX6_hallKeeps A x0 x1 = some (r, A1)) : k_AM 5 mX6_hallKeeps [(1, x0), (0, x1)] A r A1 :=
  k_AM_of2 (ls := [(1, x0), (0, x1)]) (Or.inl (by decide +kernel)) (by decide +kernel) (by decide) rfl (Nat.le_of_ble_eq_true rfl) ⟨Or.inr rfl, Or.inr rfl, trivial⟩ (okX6_hallKeeps_b0 A x0 x1 r A1 h)
/-! J0_charAt_5068e -/
def fJ0_charAt_5068e_b0 (A : k_H) (v0 v1 : Int) : Option (Int × k_H) := if k_isS v0 then (k_bd (fJ0_isLatin1_aae02 A v0) fun r1 A2 => if r1 = 0 then (if k_isS v0 then (none) else none) else (if k_isS v0 then (k_bd (fJ1_charAt_3b067 A2 (v0 - 30) v1) fun r8 A9 => if k_isC r8 then (some (r8, A9)) else none) else none)) else none
def fJ0_charAt_5068e (A : k_H) (x0 x1 : Int) : Option (Int × k_H) := fJ0_charAt_5068e_b0 A x0 x1
set_option maxRecDepth 100000 in
theorem okJ0_charAt_5068e_b0 (A : k_H) (v0 v1 : Int) (r : Int) (A' : k_H) (h : fJ0_charAt_5068e_b0 A v0 v1 = some (r, A')) : k_AW 5 mJ0_charAt_5068e 0 [(1, v0), (0, v1)] [] A r A' := by
  unfold fJ0_charAt_5068e_b0 at h
  refine k_aload_n (pc := 0) (x := v0) dJ0_charAt_5068e_0 rfl rfl ?_
  obtain ⟨hc4, h⟩ := k_pk h
  obtain ⟨r1, A2, hq3, h⟩ := k_pb h
  refine k_callT (pc := 1) (a := v0) (as := []) (st := []) (st1 := [(0, r1)]) dJ0_charAt_5068e_1 cbJ0_isLatin1_aae02 (k_gt 651 (by decide +kernel) (by decide +kernel)) cvJ0_isLatin1_aae02.1 cvJ0_isLatin1_aae02.2 rfl hc4 (by omega) rfl (Nat.le_of_ble_eq_true rfl) (okJ0_isLatin1_aae02 hq3) rfl ?_
  refine k_if_eq (pc := 4) (tgt := 16) dJ0_charAt_5068e_4 rfl (fun c5 => ?_) (fun c5 => ?_)
  · rw [if_pos c5] at h
    refine k_aload_n (pc := 16) (x := v0) dJ0_charAt_5068e_16 rfl rfl ?_
    obtain ⟨hc6, h⟩ := k_pk h
    refine k_getsv (pc := 17) dJ0_charAt_5068e_17 (k_gt 1224 (by decide +kernel) (by decide +kernel)) hc6 ?_
    refine k_iload_n (pc := 20) (x := v1) dJ0_charAt_5068e_20 rfl rfl ?_
    cases h
  · rw [if_neg c5] at h
    refine k_aload_n (pc := 7) (x := v0) dJ0_charAt_5068e_7 rfl rfl ?_
    obtain ⟨hc7, h⟩ := k_pk h
    refine k_getsv (pc := 8) dJ0_charAt_5068e_8 (k_gt 1224 (by decide +kernel) (by decide +kernel)) hc7 ?_
    refine k_iload_n (pc := 11) (x := v1) dJ0_charAt_5068e_11 rfl rfl ?_
    obtain ⟨r8, A9, hq10, h⟩ := k_pb h
    refine k_callS (pc := 12) (as := [(1, (v0 - 30)), (0, v1)]) (st := []) (st1 := [(0, r8)]) dJ0_charAt_5068e_12 cbJ1_charAt_3b067 (k_gt 655 (by decide +kernel) (by decide +kernel)) (k_gt 656 (by decide +kernel) (by decide +kernel)) (by omega) rfl (Nat.le_of_ble_eq_true rfl) (okJ1_charAt_3b067 hq10) rfl ?_
    obtain ⟨hc11, h⟩ := k_pk h
    obtain ⟨rfl, rfl⟩ := k_pr h
    exact k_ret (pc := 15) dJ0_charAt_5068e_15 rfl rfl (k_nc hc11)
theorem okJ0_charAt_5068e {A : k_H} {x0 x1 : Int} {r : Int} {A1 : k_H} (h : fJ0_charAt_5068e A x0 x1 = some (r, A1)) : k_AM 5 mJ0_charAt_5068e [(1, x0), (0, x1)] A r A1 :=
  k_AM_of2 (ls := [(1, x0), (0, x1)]) (Or.inl (by decide +kernel)) (by decide +kernel) (by decide) rfl (Nat.le_of_ble_eq_true rfl) ⟨Or.inr rfl, Or.inr rfl, trivial⟩ (okJ0_charAt_5068e_b0 A x0 x1 r A1 h)
/-! X4_partOfDoor -/
def fX4_partOfDoor_b0 (A : k_H) (v0 v1 v2 : Int) : Option (Int × k_H) := if k_isO A v0 4 then (if k_isA A (k_rd A v0 2) 21 v1 then (if v2 < 1 ∨ 3 < v2 then (some ((k_rd A (k_rd A v0 2) v1), A)) else (if v2 = 1 then (if k_isO A (k_rd A v0 3) 6 then (k_bd (fX6_companyHas A (k_rd A v0 3) (k_rd A (k_rd A v0 2) v1)) fun r4 A5 => some (r4, A5)) else none) else (if v2 = 2 then (if k_isO A (k_rd A v0 3) 6 then (k_bd (fX6_hallKeeps A (k_rd A v0 3) (k_rd A (k_rd A v0 2) v1)) fun r9 A10 => some (r9, A10)) else none) else (if k_isO A (k_rd A v0 3) 6 then (k_bd (fX6_schemeGives A (k_rd A v0 3) (k_rd A (k_rd A v0 2) v1)) fun r14 A15 => some (r14, A15)) else none)))) else none) else none
def fX4_partOfDoor (A : k_H) (x0 x1 x2 : Int) : Option (Int × k_H) := fX4_partOfDoor_b0 A x0 x1 x2
set_option maxRecDepth 100000 in
theorem okX4_partOfDoor_b0 (A : k_H) (v0 v1 v2 : Int) (r : Int) (A' : k_H) (h : fX4_partOfDoor_b0 A v0 v1 v2 = some (r, A')) : k_AW 6 mX4_partOfDoor 0 [(1, v0), (0, v1), (0, v2), (3, 0)] [] A r A' := by
  unfold fX4_partOfDoor_b0 at h
  refine k_aload_n (pc := 0) (x := v0) dX4_partOfDoor_0 rfl rfl ?_
  obtain ⟨hc1, h⟩ := k_pk h
  refine k_getf (pc := 1) (t := 1) (fi := 2) dX4_partOfDoor_1 flX4_24 rfl rfl hc1 ?_
  refine k_iload_n (pc := 4) (x := v1) dX4_partOfDoor_4 rfl rfl ?_
  obtain ⟨hc2, h⟩ := k_pk h
  refine k_iaload (pc := 5) dX4_partOfDoor_5 hc2 ?_
  refine k_istore_n (pc := 6) dX4_partOfDoor_6 rfl (Nat.le_of_ble_eq_true rfl) rfl ?_
  show k_AW _ _ _ [(1, v0), (0, v1), (0, v2), (0, (k_rd A (k_rd A v0 2) v1))] _ _ _ _
  refine k_iload_n (pc := 7) (x := v2) dX4_partOfDoor_7 rfl rfl ?_
  by_cases c3 : v2 < 1 ∨ 3 < v2
  · rw [if_pos c3] at h
    refine k_swout (pc := 8) (tgt := 63) dX4_partOfDoor_8 c3 rfl ?_
    refine k_iload_n (pc := 63) (x := (k_rd A (k_rd A v0 2) v1)) dX4_partOfDoor_63 rfl rfl ?_
    obtain ⟨rfl, rfl⟩ := k_pr h
    exact k_ret (pc := 64) dX4_partOfDoor_64 rfl rfl rfl
  · rw [if_neg c3] at h
    by_cases c8 : v2 = 1
    · rw [if_pos c8] at h
      refine k_swin (pc := 8) (off := 28) (tgt := 36) dX4_partOfDoor_8 (by omega) (by omega) (by rw [show v2 = 1 by omega]; rfl) rfl ?_
      refine k_aload_n (pc := 36) (x := v0) dX4_partOfDoor_36 rfl rfl ?_
      refine k_getf (pc := 37) (t := 1) (fi := 3) dX4_partOfDoor_37 flX4_30 rfl rfl hc1 ?_
      refine k_iload_n (pc := 40) (x := (k_rd A (k_rd A v0 2) v1)) dX4_partOfDoor_40 rfl rfl ?_
      obtain ⟨hc7, h⟩ := k_pk h
      obtain ⟨r4, A5, hq6, h⟩ := k_pb h
      refine k_callV (pc := 41) (ci := 6) (a := (k_rd A v0 3)) (as := [(0, (k_rd A (k_rd A v0 2) v1))]) (st := []) (st1 := [(0, r4)]) dX4_partOfDoor_41 cbX6_companyHas (k_gt 753 (by decide +kernel) (by decide +kernel)) cvX6_companyHas.1 cvX6_companyHas.2 rfl (by decide) hc7 (by omega) rfl (Nat.le_of_ble_eq_true rfl) (okX6_companyHas hq6) rfl ?_
      obtain ⟨rfl, rfl⟩ := k_pr h
      exact k_ret (pc := 44) dX4_partOfDoor_44 rfl rfl rfl
    · rw [if_neg c8] at h
      by_cases c13 : v2 = 2
      · rw [if_pos c13] at h
        refine k_swin (pc := 8) (off := 37) (tgt := 45) dX4_partOfDoor_8 (by omega) (by omega) (by rw [show v2 = 2 by omega]; rfl) rfl ?_
        refine k_aload_n (pc := 45) (x := v0) dX4_partOfDoor_45 rfl rfl ?_
        refine k_getf (pc := 46) (t := 1) (fi := 3) dX4_partOfDoor_46 flX4_30 rfl rfl hc1 ?_
        refine k_iload_n (pc := 49) (x := (k_rd A (k_rd A v0 2) v1)) dX4_partOfDoor_49 rfl rfl ?_
        obtain ⟨hc12, h⟩ := k_pk h
        obtain ⟨r9, A10, hq11, h⟩ := k_pb h
        refine k_callV (pc := 50) (ci := 6) (a := (k_rd A v0 3)) (as := [(0, (k_rd A (k_rd A v0 2) v1))]) (st := []) (st1 := [(0, r9)]) dX4_partOfDoor_50 cbX6_hallKeeps (k_gt 759 (by decide +kernel) (by decide +kernel)) cvX6_hallKeeps.1 cvX6_hallKeeps.2 rfl (by decide) hc12 (by omega) rfl (Nat.le_of_ble_eq_true rfl) (okX6_hallKeeps hq11) rfl ?_
        obtain ⟨rfl, rfl⟩ := k_pr h
        exact k_ret (pc := 53) dX4_partOfDoor_53 rfl rfl rfl
      · rw [if_neg c13] at h
        refine k_swin (pc := 8) (off := 46) (tgt := 54) dX4_partOfDoor_8 (by omega) (by omega) (by rw [show v2 = 3 by omega]; rfl) rfl ?_
        refine k_aload_n (pc := 54) (x := v0) dX4_partOfDoor_54 rfl rfl ?_
        refine k_getf (pc := 55) (t := 1) (fi := 3) dX4_partOfDoor_55 flX4_30 rfl rfl hc1 ?_
        refine k_iload_n (pc := 58) (x := (k_rd A (k_rd A v0 2) v1)) dX4_partOfDoor_58 rfl rfl ?_
        obtain ⟨hc17, h⟩ := k_pk h
        obtain ⟨r14, A15, hq16, h⟩ := k_pb h
        refine k_callV (pc := 59) (ci := 6) (a := (k_rd A v0 3)) (as := [(0, (k_rd A (k_rd A v0 2) v1))]) (st := []) (st1 := [(0, r14)]) dX4_partOfDoor_59 cbX6_schemeGives (k_gt 776 (by decide +kernel) (by decide +kernel)) cvX6_schemeGives.1 cvX6_schemeGives.2 rfl (by decide) hc17 (by omega) rfl (Nat.le_of_ble_eq_true rfl) (okX6_schemeGives hq16) rfl ?_
        obtain ⟨rfl, rfl⟩ := k_pr h
        exact k_ret (pc := 62) dX4_partOfDoor_62 rfl rfl rfl
theorem okX4_partOfDoor {A : k_H} {x0 x1 x2 : Int} {r : Int} {A1 : k_H} (h : fX4_partOfDoor A x0 x1 x2 = some (r, A1)) : k_AM 6 mX4_partOfDoor [(1, x0), (0, x1), (0, x2)] A r A1 :=
  k_AM_of2 (ls := [(1, x0), (0, x1), (0, x2), (3, 0)]) (Or.inl (by decide +kernel)) (by decide +kernel) (by decide) rfl (Nat.le_of_ble_eq_true rfl) ⟨Or.inr rfl, Or.inr rfl, Or.inr rfl, rfl, trivial⟩ (okX4_partOfDoor_b0 A x0 x1 x2 r A1 h)
