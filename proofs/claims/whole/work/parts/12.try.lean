/-! X0_init -/
def fX0_init_b0 (A : k_H) (v0 v1 : Int) : Option (Int × k_H) := if 0 ≤ v0 then (if 0 ≤ (max 0 v1) ∧ (max 0 v1) ≤ 1000000 then (k_lt (k_mk A 21 ((max 0 v1)).toNat) fun A3 => if k_isO A3 v0 0 then (k_lt (k_wt A3 v0 0 (k_N A : Int)) fun A6 => some (0, A6)) else none) else none) else none
def fX0_init (A : k_H) (x0 x1 : Int) : Option (Int × k_H) := fX0_init_b0 A x0 x1
set_option maxRecDepth 100000 in
theorem okX0_init_b0 (A : k_H) (v0 v1 : Int) (r : Int) (A' : k_H) (h : fX0_init_b0 A v0 v1 = some (r, A')) : k_AW 2 mX0_init 0 [(1, v0), (0, v1)] [] A r A' := by
  unfold fX0_init_b0 at h
  refine k_aload_n (pc := 0) (x := v0) dX0_init_0 rfl rfl ?_
  obtain ⟨hc1, h⟩ := k_pk h
  refine k_objInit (pc := 1) dX0_init_1 (k_gt 220 (by decide +kernel) (by decide +kernel)) (by omega) hc1 (Nat.le_of_ble_eq_true rfl) ?_
  refine k_aload_n (pc := 4) (x := v0) dX0_init_4 rfl rfl ?_
  refine k_iconst (pc := 5) dX0_init_5 ⟨by decide, by decide⟩ ?_
  refine k_iload_n (pc := 6) (x := v1) dX0_init_6 rfl rfl ?_
  refine k_mmax (pc := 7) dX0_init_7 (k_gt 221 (by decide +kernel) (by decide +kernel)) (by omega) (Nat.le_of_ble_eq_true rfl) ?_
  obtain ⟨hc2, h⟩ := k_pk h
  refine k_newa (pc := 10) (n := ((max 0 v1)).toNat) dX0_init_10 k_atI (Int.toNat_of_nonneg hc2.1).symm (by omega) ?_
  obtain ⟨A3, eA4, h⟩ := k_pl h
  refine k_hq eA4 ?_
  obtain ⟨hc5, h⟩ := k_pk h
  refine k_putF (pc := 12) (t := 1) (fi := 0) dX0_init_12 flX0_13 rfl (fun Cn Tt Nn h9 => by cases h9; rfl) rfl rfl hc5 rfl ?_
  obtain ⟨A6, eA7, h⟩ := k_pl h
  refine k_hq eA7 ?_
  obtain ⟨rfl, rfl⟩ := k_pr h
  exact k_retv (pc := 15) dX0_init_15 rfl
theorem okX0_init {A : k_H} {x0 x1 : Int} {r : Int} {A1 : k_H} (h : fX0_init A x0 x1 = some (r, A1)) : k_AM 2 mX0_init [(1, x0), (0, x1)] A r A1 :=
  k_AM_of2 (ls := [(1, x0), (0, x1)]) (by decide) rfl (Nat.le_of_ble_eq_true rfl) ⟨Or.inr rfl, Or.inr rfl, trivial⟩ (okX0_init_b0 A x0 x1 r A1 h)
/-! X1_givenToOthers -/
def fX1_givenToOthers_b24 (k4 : k_H → Int → Int → Int → Int → Option (Int × k_H)) (A : k_H) (v0 v1 v2 v3 : Int) : Option (Int × k_H) := k4 A v0 v1 v2 (k_wr (v3 + 1))
def fX1_givenToOthers_h4 : Nat → k_H → Int → Int → Int → Int → Option (Int × k_H)
  | 0, _, _, _, _, _ => none
  | N + 1, A, v0, v1, v2, v3 => if v3 < 6 then (if v3 = v1 then (fX1_givenToOthers_b24 (fX1_givenToOthers_h4 N) A v0 v1 v2 v3) else (if k_isO A v0 1 then (if k_isA A (k_rd A v0 1) 21 v3 then (fX1_givenToOthers_b24 (fX1_givenToOthers_h4 N) A v0 v1 (k_wr (v2 + (k_rd A (k_rd A v0 1) v3))) v3) else none) else none)) else (some (v2, A))
def fX1_givenToOthers_b0 (A : k_H) (v0 v1 : Int) : Option (Int × k_H) := fX1_givenToOthers_h4 k_FU A v0 v1 0 0
def fX1_givenToOthers (A : k_H) (x0 x1 : Int) : Option (Int × k_H) := fX1_givenToOthers_b0 A x0 x1
set_option maxRecDepth 100000 in
theorem okX1_givenToOthers_b24 (k4 : k_H → Int → Int → Int → Int → Option (Int × k_H)) (hk4 : ∀ (A : k_H) (v0 v1 v2 v3 : Int) (r : Int) (A' : k_H), k4 A v0 v1 v2 v3 = some (r, A') → k_AW 1 mX1_givenToOthers 4 [(1, v0), (0, v1), (0, v2), (0, v3)] [] A r A') (A : k_H) (v0 v1 v2 v3 : Int) (r : Int) (A' : k_H) (h : fX1_givenToOthers_b24 k4 A v0 v1 v2 v3 = some (r, A')) : k_AW 1 mX1_givenToOthers 24 [(1, v0), (0, v1), (0, v2), (0, v3)] [] A r A' := by
  unfold fX1_givenToOthers_b24 at h
  refine k_iinc (pc := 24) (x := v3) dX1_givenToOthers_24 (Nat.le_of_ble_eq_true rfl) rfl rfl ?_
  show k_AW _ _ _ [(1, v0), (0, v1), (0, v2), (0, k_wr (v3 + 1))] _ _ _ _
  refine k_goto (pc := 27) (tgt := 4) dX1_givenToOthers_27 rfl ?_
  refine k_sub (ls' := [(1, v0), (0, v1), (0, v2), (0, k_wr (v3 + 1))]) (k_sbl_ok _ _ ⟨Or.inr rfl, Or.inr rfl, Or.inr rfl, Or.inr rfl, trivial⟩) ?_
  exact hk4 _ _ _ _ _ _ _ h
set_option maxRecDepth 100000 in
theorem okX1_givenToOthers_h4 : ∀ (N : Nat) (A : k_H) (v0 v1 v2 v3 : Int) (r : Int) (A' : k_H), fX1_givenToOthers_h4 N A v0 v1 v2 v3 = some (r, A') → k_AW 1 mX1_givenToOthers 4 [(1, v0), (0, v1), (0, v2), (0, v3)] [] A r A' := by
  intro N
  induction N with
  | zero => intro A v0 v1 v2 v3 r A' h; exact absurd h (by simp [fX1_givenToOthers_h4])
  | succ N ih =>
    intro A v0 v1 v2 v3 r A' h
    rw [fX1_givenToOthers_h4] at h
    refine k_iload_n (pc := 4) (x := v3) dX1_givenToOthers_4 rfl rfl ?_
    refine k_bipush (pc := 5) dX1_givenToOthers_5 ⟨by decide, by decide⟩ (by decide +kernel) ?_
    refine k_icmp_ge (pc := 7) (tgt := 30) dX1_givenToOthers_7 rfl (fun c1 => ?_) (fun c1 => ?_)
    · rw [if_neg (Int.not_lt.mpr c1)] at h
      refine k_iload_n (pc := 30) (x := v2) dX1_givenToOthers_30 rfl rfl ?_
      obtain ⟨rfl, rfl⟩ := k_pr h
      exact k_ret (pc := 31) dX1_givenToOthers_31 rfl rfl
    · rw [if_pos (Int.not_le.mp c1)] at h
      refine k_iload_n (pc := 10) (x := v3) dX1_givenToOthers_10 rfl rfl ?_
      refine k_iload_n (pc := 11) (x := v1) dX1_givenToOthers_11 rfl rfl ?_
      refine k_icmp_eq (pc := 12) (tgt := 24) dX1_givenToOthers_12 rfl (fun c2 => ?_) (fun c2 => ?_)
      · rw [if_pos c2] at h
        refine k_sub (ls' := [(1, v0), (0, v1), (0, v2), (0, v3)]) (k_sbl_ok _ _ ⟨Or.inr rfl, Or.inr rfl, Or.inr rfl, Or.inr rfl, trivial⟩) ?_
        exact okX1_givenToOthers_b24 (fX1_givenToOthers_h4 N) ih _ _ _ _ _ _ _ h
      · rw [if_neg c2] at h
        refine k_iload_n (pc := 15) (x := v2) dX1_givenToOthers_15 rfl rfl ?_
        refine k_aload_n (pc := 16) (x := v0) dX1_givenToOthers_16 rfl rfl ?_
        obtain ⟨hc3, h⟩ := k_pk h
        refine k_getf (pc := 17) (t := 1) (fi := 1) dX1_givenToOthers_17 flX1_20 rfl rfl hc3 ?_
        refine k_iload_n (pc := 20) (x := v3) dX1_givenToOthers_20 rfl rfl ?_
        obtain ⟨hc4, h⟩ := k_pk h
        refine k_iaload (pc := 21) dX1_givenToOthers_21 hc4 ?_
        refine k_iadd (pc := 22) dX1_givenToOthers_22 ?_
        refine k_istore_n (pc := 23) dX1_givenToOthers_23 rfl (Nat.le_of_ble_eq_true rfl) rfl ?_
        show k_AW _ _ _ [(1, v0), (0, v1), (0, k_wr (v2 + (k_rd A (k_rd A v0 1) v3))), (0, v3)] _ _ _ _
        refine k_sub (ls' := [(1, v0), (0, v1), (0, k_wr (v2 + (k_rd A (k_rd A v0 1) v3))), (0, v3)]) (k_sbl_ok _ _ ⟨Or.inr rfl, Or.inr rfl, Or.inr rfl, Or.inr rfl, trivial⟩) ?_
        exact okX1_givenToOthers_b24 (fX1_givenToOthers_h4 N) ih _ _ _ _ _ _ _ h
set_option maxRecDepth 100000 in
theorem okX1_givenToOthers_b0 (A : k_H) (v0 v1 : Int) (r : Int) (A' : k_H) (h : fX1_givenToOthers_b0 A v0 v1 = some (r, A')) : k_AW 1 mX1_givenToOthers 0 [(1, v0), (0, v1), (3, 0), (3, 0)] [] A r A' := by
  unfold fX1_givenToOthers_b0 at h
  refine k_iconst (pc := 0) dX1_givenToOthers_0 ⟨by decide, by decide⟩ ?_
  refine k_istore_n (pc := 1) dX1_givenToOthers_1 rfl (Nat.le_of_ble_eq_true rfl) rfl ?_
  show k_AW _ _ _ [(1, v0), (0, v1), (0, 0), (3, 0)] _ _ _ _
  refine k_iconst (pc := 2) dX1_givenToOthers_2 ⟨by decide, by decide⟩ ?_
  refine k_istore_n (pc := 3) dX1_givenToOthers_3 rfl (Nat.le_of_ble_eq_true rfl) rfl ?_
  show k_AW _ _ _ [(1, v0), (0, v1), (0, 0), (0, 0)] _ _ _ _
  refine k_sub (ls' := [(1, v0), (0, v1), (0, 0), (0, 0)]) (k_sbl_ok _ _ ⟨Or.inr rfl, Or.inr rfl, Or.inr rfl, Or.inr rfl, trivial⟩) ?_
  exact okX1_givenToOthers_h4  _ _ _ _ _ _ _ _ h
theorem okX1_givenToOthers {A : k_H} {x0 x1 : Int} {r : Int} {A1 : k_H} (h : fX1_givenToOthers A x0 x1 = some (r, A1)) : k_AM 1 mX1_givenToOthers [(1, x0), (0, x1)] A r A1 :=
  k_AM_of2 (ls := [(1, x0), (0, x1), (3, 0), (3, 0)]) (by decide) rfl (Nat.le_of_ble_eq_true rfl) ⟨Or.inr rfl, Or.inr rfl, rfl, rfl, trivial⟩ (okX1_givenToOthers_b0 A x0 x1 r A1 h)
/-! X1_milesTo -/
def fX1_milesTo_b0 (A : k_H) (v0 v1 : Int) : Option (Int × k_H) := if k_isO A v0 1 then (if k_isO A v1 1 then (some (k_wr ((if 0 ≤ k_wr ((k_rd A v0 2) - (k_rd A v1 2)) then k_wr ((k_rd A v0 2) - (k_rd A v1 2)) else k_wr (-(k_wr ((k_rd A v0 2) - (k_rd A v1 2))))) + (if 0 ≤ k_wr ((k_rd A v0 3) - (k_rd A v1 3)) then k_wr ((k_rd A v0 3) - (k_rd A v1 3)) else k_wr (-(k_wr ((k_rd A v0 3) - (k_rd A v1 3)))))), A)) else none) else none
def fX1_milesTo (A : k_H) (x0 x1 : Int) : Option (Int × k_H) := fX1_milesTo_b0 A x0 x1
set_option maxRecDepth 100000 in
theorem okX1_milesTo_b0 (A : k_H) (v0 v1 : Int) (r : Int) (A' : k_H) (h : fX1_milesTo_b0 A v0 v1 = some (r, A')) : k_AW 2 mX1_milesTo 0 [(1, v0), (1, v1)] [] A r A' := by
  unfold fX1_milesTo_b0 at h
  refine k_aload_n (pc := 0) (x := v0) dX1_milesTo_0 rfl rfl ?_
  obtain ⟨hc1, h⟩ := k_pk h
  refine k_getf (pc := 1) (t := 0) (fi := 2) dX1_milesTo_1 flX1_35 rfl rfl hc1 ?_
  refine k_aload_n (pc := 4) (x := v1) dX1_milesTo_4 rfl rfl ?_
  obtain ⟨hc2, h⟩ := k_pk h
  refine k_getf (pc := 5) (t := 0) (fi := 2) dX1_milesTo_5 flX1_35 rfl rfl hc2 ?_
  refine k_isub (pc := 8) dX1_milesTo_8 ?_
  refine k_mabs (pc := 9) dX1_milesTo_9 (k_gt 501 (by decide +kernel) (by decide +kernel)) (by omega) (Nat.le_of_ble_eq_true rfl) ?_
  refine k_aload_n (pc := 12) (x := v0) dX1_milesTo_12 rfl rfl ?_
  refine k_getf (pc := 13) (t := 0) (fi := 3) dX1_milesTo_13 flX1_44 rfl rfl hc1 ?_
  refine k_aload_n (pc := 16) (x := v1) dX1_milesTo_16 rfl rfl ?_
  refine k_getf (pc := 17) (t := 0) (fi := 3) dX1_milesTo_17 flX1_44 rfl rfl hc2 ?_
  refine k_isub (pc := 20) dX1_milesTo_20 ?_
  refine k_mabs (pc := 21) dX1_milesTo_21 (k_gt 501 (by decide +kernel) (by decide +kernel)) (by omega) (Nat.le_of_ble_eq_true rfl) ?_
  refine k_iadd (pc := 24) dX1_milesTo_24 ?_
  obtain ⟨rfl, rfl⟩ := k_pr h
  exact k_ret (pc := 25) dX1_milesTo_25 rfl rfl
theorem okX1_milesTo {A : k_H} {x0 x1 : Int} {r : Int} {A1 : k_H} (h : fX1_milesTo A x0 x1 = some (r, A1)) : k_AM 2 mX1_milesTo [(1, x0), (1, x1)] A r A1 :=
  k_AM_of2 (ls := [(1, x0), (1, x1)]) (by decide) rfl (Nat.le_of_ble_eq_true rfl) ⟨Or.inr rfl, Or.inr rfl, trivial⟩ (okX1_milesTo_b0 A x0 x1 r A1 h)
/-! X5_init -/
def fX5_init_b0 (A : k_H) (v0 : Int) : Option (Int × k_H) := if 0 ≤ v0 then (k_lt (k_mk A 21 200) fun A2 => if k_isO A2 v0 5 then (k_lt (k_wt A2 v0 0 (k_N A : Int)) fun A5 => some (0, A5)) else none) else none
def fX5_init (A : k_H) (x0 : Int) : Option (Int × k_H) := fX5_init_b0 A x0
set_option maxRecDepth 100000 in
theorem okX5_init_b0 (A : k_H) (v0 : Int) (r : Int) (A' : k_H) (h : fX5_init_b0 A v0 = some (r, A')) : k_AW 1 mX5_init 0 [(1, v0)] [] A r A' := by
  unfold fX5_init_b0 at h
  refine k_aload_n (pc := 0) (x := v0) dX5_init_0 rfl rfl ?_
  obtain ⟨hc1, h⟩ := k_pk h
  refine k_objInit (pc := 1) dX5_init_1 (k_gt 36 (by decide +kernel) (by decide +kernel)) (by omega) hc1 (Nat.le_of_ble_eq_true rfl) ?_
  refine k_aload_n (pc := 4) (x := v0) dX5_init_4 rfl rfl ?_
  refine k_sipush (pc := 5) dX5_init_5 ⟨by decide, by decide⟩ (by decide +kernel) ?_
  refine k_newa (pc := 8) (n := 200) dX5_init_8 k_atI rfl (by decide) ?_
  obtain ⟨A2, eA3, h⟩ := k_pl h
  refine k_hq eA3 ?_
  obtain ⟨hc4, h⟩ := k_pk h
  refine k_putF (pc := 10) (t := 1) (fi := 0) dX5_init_10 flX5_9 rfl (fun Cn Tt Nn h9 => by cases h9; rfl) rfl rfl hc4 rfl ?_
  obtain ⟨A5, eA6, h⟩ := k_pl h
  refine k_hq eA6 ?_
  obtain ⟨rfl, rfl⟩ := k_pr h
  exact k_retv (pc := 13) dX5_init_13 rfl
theorem okX5_init {A : k_H} {x0 : Int} {r : Int} {A1 : k_H} (h : fX5_init A x0 = some (r, A1)) : k_AM 1 mX5_init [(1, x0)] A r A1 :=
  k_AM_of2 (ls := [(1, x0)]) (by decide) rfl (Nat.le_of_ble_eq_true rfl) ⟨Or.inr rfl, trivial⟩ (okX5_init_b0 A x0 r A1 h)
/-! X5_append -/
def fX5_append_h3 : Nat → k_H → Int → Int → Int → Option (Int × k_H)
  | 0, _, _, _, _ => none
  | N + 1, A, v0, v1, v2 => if 0 ≤ v2 then (if k_isO A v0 5 then (if (k_rd A v0 1) < 200 then (if k_isA A (k_rd A v0 0) 21 (k_rd A v0 1) then (k_lt (k_wt A (k_rd A v0 0) (k_rd A v0 1) (k_and (k_ushr v1 v2) 255)) fun A5 => k_lt (k_wt A5 v0 1 (k_wr ((k_rd A5 v0 1) + 1))) fun A8 => (fX5_append_h3 N) A8 v0 v1 (k_wr (v2 + (-8)))) else none) else (some (0, A))) else none) else (some (0, A))
def fX5_append_b0 (A : k_H) (v0 v1 : Int) : Option (Int × k_H) := fX5_append_h3 k_FU A v0 v1 24
def fX5_append (A : k_H) (x0 x1 : Int) : Option (Int × k_H) := fX5_append_b0 A x0 x1
set_option maxRecDepth 100000 in
theorem okX5_append_h3 : ∀ (N : Nat) (A : k_H) (v0 v1 v2 : Int) (r : Int) (A' : k_H), fX5_append_h3 N A v0 v1 v2 = some (r, A') → k_AW 1 mX5_append 3 [(1, v0), (0, v1), (0, v2)] [] A r A' := by
  intro N
  induction N with
  | zero => intro A v0 v1 v2 r A' h; exact absurd h (by simp [fX5_append_h3])
  | succ N ih =>
    intro A v0 v1 v2 r A' h
    rw [fX5_append_h3] at h
    refine k_iload_n (pc := 3) (x := v2) dX5_append_3 rfl rfl ?_
    refine k_if_lt (pc := 4) (tgt := 49) dX5_append_4 rfl (fun c1 => ?_) (fun c1 => ?_)
    · rw [if_neg (Int.not_le.mpr c1)] at h
      obtain ⟨rfl, rfl⟩ := k_pr h
      exact k_retv (pc := 49) dX5_append_49 rfl
    · rw [if_pos (Int.not_lt.mp c1)] at h
      refine k_aload_n (pc := 7) (x := v0) dX5_append_7 rfl rfl ?_
      obtain ⟨hc2, h⟩ := k_pk h
      refine k_getf (pc := 8) (t := 0) (fi := 1) dX5_append_8 flX5_15 rfl rfl hc2 ?_
      refine k_sipush (pc := 11) dX5_append_11 ⟨by decide, by decide⟩ (by decide +kernel) ?_
      refine k_icmp_ge (pc := 14) (tgt := 49) dX5_append_14 rfl (fun c3 => ?_) (fun c3 => ?_)
      · rw [if_neg (Int.not_lt.mpr c3)] at h
        obtain ⟨rfl, rfl⟩ := k_pr h
        exact k_retv (pc := 49) dX5_append_49 rfl
      · rw [if_pos (Int.not_le.mp c3)] at h
        refine k_aload_n (pc := 17) (x := v0) dX5_append_17 rfl rfl ?_
        refine k_getf (pc := 18) (t := 1) (fi := 0) dX5_append_18 flX5_9 rfl rfl hc2 ?_
        refine k_aload_n (pc := 21) (x := v0) dX5_append_21 rfl rfl ?_
        refine k_getf (pc := 22) (t := 0) (fi := 1) dX5_append_22 flX5_15 rfl rfl hc2 ?_
        refine k_iload_n (pc := 25) (x := v1) dX5_append_25 rfl rfl ?_
        refine k_iload_n (pc := 26) (x := v2) dX5_append_26 rfl rfl ?_
        refine k_iushr (pc := 27) dX5_append_27 ?_
        refine k_sipush (pc := 28) dX5_append_28 ⟨by decide, by decide⟩ (by decide +kernel) ?_
        refine k_iand (pc := 31) dX5_append_31 ?_
        obtain ⟨hc4, h⟩ := k_pk h
        refine k_iastore (pc := 32) dX5_append_32 hc4 ?_
        obtain ⟨A5, eA6, h⟩ := k_pl h
        refine k_hq eA6 ?_
        refine k_aload_n (pc := 33) (x := v0) dX5_append_33 rfl rfl ?_
        refine k_dup (pc := 34) dX5_append_34 (Nat.le_of_ble_eq_true rfl) ?_
        have hf7 := k_oW eA6 hc2
        refine k_getf (pc := 35) (t := 0) (fi := 1) dX5_append_35 flX5_15 rfl rfl hf7 ?_
        refine k_iconst (pc := 38) dX5_append_38 ⟨by decide, by decide⟩ ?_
        refine k_iadd (pc := 39) dX5_append_39 ?_
        refine k_putf (pc := 40) (t := 0) (fi := 1) dX5_append_40 flX5_15 rfl rfl hf7 rfl ?_
        obtain ⟨A8, eA9, h⟩ := k_pl h
        refine k_hq eA9 ?_
        refine k_iinc (pc := 43) (x := v2) dX5_append_43 (Nat.le_of_ble_eq_true rfl) rfl rfl ?_
        show k_AW _ _ _ [(1, v0), (0, v1), (0, k_wr (v2 + (-8)))] _ _ _ _
        refine k_goto (pc := 46) (tgt := 3) dX5_append_46 rfl ?_
        refine k_sub (ls' := [(1, v0), (0, v1), (0, k_wr (v2 + (-8)))]) (k_sbl_ok _ _ ⟨Or.inr rfl, Or.inr rfl, Or.inr rfl, trivial⟩) ?_
        exact ih _ _ _ _ _ _ h
set_option maxRecDepth 100000 in
theorem okX5_append_b0 (A : k_H) (v0 v1 : Int) (r : Int) (A' : k_H) (h : fX5_append_b0 A v0 v1 = some (r, A')) : k_AW 1 mX5_append 0 [(1, v0), (0, v1), (3, 0)] [] A r A' := by
  unfold fX5_append_b0 at h
  refine k_bipush (pc := 0) dX5_append_0 ⟨by decide, by decide⟩ (by decide +kernel) ?_
  refine k_istore_n (pc := 2) dX5_append_2 rfl (Nat.le_of_ble_eq_true rfl) rfl ?_
  show k_AW _ _ _ [(1, v0), (0, v1), (0, 24)] _ _ _ _
  refine k_sub (ls' := [(1, v0), (0, v1), (0, 24)]) (k_sbl_ok _ _ ⟨Or.inr rfl, Or.inr rfl, Or.inr rfl, trivial⟩) ?_
  exact okX5_append_h3  _ _ _ _ _ _ _ h
theorem okX5_append {A : k_H} {x0 x1 : Int} {r : Int} {A1 : k_H} (h : fX5_append A x0 x1 = some (r, A1)) : k_AM 1 mX5_append [(1, x0), (0, x1)] A r A1 :=
  k_AM_of2 (ls := [(1, x0), (0, x1), (3, 0)]) (by decide) rfl (Nat.le_of_ble_eq_true rfl) ⟨Or.inr rfl, Or.inr rfl, rfl, trivial⟩ (okX5_append_b0 A x0 x1 r A1 h)
/-! X5_copyFrom -/
def fX5_copyFrom_b0 (A : k_H) (v0 v1 : Int) : Option (Int × k_H) := if k_isO A v1 5 then (if k_isO A v0 5 then (if k_isR A (k_rd A v1 0) 21 then (if k_isR A (k_rd A v0 0) 21 then (if (0 : Int) ≤ 0 ∧ (0 : Int) ≤ 0 ∧ (0 : Int) ≤ 200 ∧ (0 : Int) + 200 ≤ ((k_kd A (k_rd A v1 0)).2 : Int) ∧ (0 : Int) + 200 ≤ ((k_kd A (k_rd A v0 0)).2 : Int) then (k_lt (k_cp A (k_rd A v1 0) 0 (k_rd A v0 0) 0 200) fun A6 => k_lt (k_wt A6 v0 1 (k_rd A6 v1 1)) fun A10 => some (0, A10)) else none) else none) else none) else none) else none
def fX5_copyFrom (A : k_H) (x0 x1 : Int) : Option (Int × k_H) := fX5_copyFrom_b0 A x0 x1
set_option maxRecDepth 100000 in
theorem okX5_copyFrom_b0 (A : k_H) (v0 v1 : Int) (r : Int) (A' : k_H) (h : fX5_copyFrom_b0 A v0 v1 = some (r, A')) : k_AW 1 mX5_copyFrom 0 [(1, v0), (1, v1)] [] A r A' := by
  unfold fX5_copyFrom_b0 at h
  refine k_aload_n (pc := 0) (x := v1) dX5_copyFrom_0 rfl rfl ?_
  obtain ⟨hc1, h⟩ := k_pk h
  refine k_getf (pc := 1) (t := 1) (fi := 0) dX5_copyFrom_1 flX5_9 rfl rfl hc1 ?_
  refine k_iconst (pc := 4) dX5_copyFrom_4 ⟨by decide, by decide⟩ ?_
  refine k_aload_n (pc := 5) (x := v0) dX5_copyFrom_5 rfl rfl ?_
  obtain ⟨hc2, h⟩ := k_pk h
  refine k_getf (pc := 6) (t := 1) (fi := 0) dX5_copyFrom_6 flX5_9 rfl rfl hc2 ?_
  refine k_iconst (pc := 9) dX5_copyFrom_9 ⟨by decide, by decide⟩ ?_
  refine k_sipush (pc := 10) dX5_copyFrom_10 ⟨by decide, by decide⟩ (by decide +kernel) ?_
  obtain ⟨hc3, h⟩ := k_pk h
  obtain ⟨hc4, h⟩ := k_pk h
  obtain ⟨hc5, h⟩ := k_pk h
  refine k_copy (pc := 13) dX5_copyFrom_13 (k_gt 600 (by decide +kernel) (by decide +kernel)) (by omega) (Nat.le_of_ble_eq_true rfl) hc3 hc4 hc5.1 hc5.2.1 hc5.2.2.1 hc5.2.2.2.1 hc5.2.2.2.2 ?_
  obtain ⟨A6, eA7, h⟩ := k_pl h
  refine k_hq eA7 ?_
  refine k_aload_n (pc := 16) (x := v0) dX5_copyFrom_16 rfl rfl ?_
  refine k_aload_n (pc := 17) (x := v1) dX5_copyFrom_17 rfl rfl ?_
  have hf8 := k_oX eA7 hc1
  refine k_getf (pc := 18) (t := 0) (fi := 1) dX5_copyFrom_18 flX5_15 rfl rfl hf8 ?_
  have hf9 := k_oX eA7 hc2
  refine k_putf (pc := 21) (t := 0) (fi := 1) dX5_copyFrom_21 flX5_15 rfl rfl hf9 rfl ?_
  obtain ⟨A10, eA11, h⟩ := k_pl h
  refine k_hq eA11 ?_
  obtain ⟨rfl, rfl⟩ := k_pr h
  exact k_retv (pc := 24) dX5_copyFrom_24 rfl
theorem okX5_copyFrom {A : k_H} {x0 x1 : Int} {r : Int} {A1 : k_H} (h : fX5_copyFrom A x0 x1 = some (r, A1)) : k_AM 1 mX5_copyFrom [(1, x0), (1, x1)] A r A1 :=
  k_AM_of2 (ls := [(1, x0), (1, x1)]) (by decide) rfl (Nat.le_of_ble_eq_true rfl) ⟨Or.inr rfl, Or.inr rfl, trivial⟩ (okX5_copyFrom_b0 A x0 x1 r A1 h)
/-! X5_byteAt -/
def fX5_byteAt_b0 (A : k_H) (v0 v1 : Int) : Option (Int × k_H) := if 0 ≤ v1 then (if k_isO A v0 5 then (if v1 < (k_rd A v0 1) then (if k_isA A (k_rd A v0 0) 21 v1 then (some ((k_rd A (k_rd A v0 0) v1), A)) else none) else (some ((-1), A))) else none) else (some ((-1), A))
def fX5_byteAt (A : k_H) (x0 x1 : Int) : Option (Int × k_H) := fX5_byteAt_b0 A x0 x1
set_option maxRecDepth 100000 in
theorem okX5_byteAt_b0 (A : k_H) (v0 v1 : Int) (r : Int) (A' : k_H) (h : fX5_byteAt_b0 A v0 v1 = some (r, A')) : k_AW 1 mX5_byteAt 0 [(1, v0), (0, v1)] [] A r A' := by
  unfold fX5_byteAt_b0 at h
  refine k_iload_n (pc := 0) (x := v1) dX5_byteAt_0 rfl rfl ?_
  refine k_if_lt (pc := 1) (tgt := 21) dX5_byteAt_1 rfl (fun c1 => ?_) (fun c1 => ?_)
  · rw [if_neg (Int.not_le.mpr c1)] at h
    refine k_iconst (pc := 21) dX5_byteAt_21 ⟨by decide, by decide⟩ ?_
    obtain ⟨rfl, rfl⟩ := k_pr h
    exact k_ret (pc := 22) dX5_byteAt_22 rfl rfl
  · rw [if_pos (Int.not_lt.mp c1)] at h
    refine k_iload_n (pc := 4) (x := v1) dX5_byteAt_4 rfl rfl ?_
    refine k_aload_n (pc := 5) (x := v0) dX5_byteAt_5 rfl rfl ?_
    obtain ⟨hc2, h⟩ := k_pk h
    refine k_getf (pc := 6) (t := 0) (fi := 1) dX5_byteAt_6 flX5_15 rfl rfl hc2 ?_
    refine k_icmp_ge (pc := 9) (tgt := 21) dX5_byteAt_9 rfl (fun c3 => ?_) (fun c3 => ?_)
    · rw [if_neg (Int.not_lt.mpr c3)] at h
      refine k_iconst (pc := 21) dX5_byteAt_21 ⟨by decide, by decide⟩ ?_
      obtain ⟨rfl, rfl⟩ := k_pr h
      exact k_ret (pc := 22) dX5_byteAt_22 rfl rfl
    · rw [if_pos (Int.not_le.mp c3)] at h
      refine k_aload_n (pc := 12) (x := v0) dX5_byteAt_12 rfl rfl ?_
      refine k_getf (pc := 13) (t := 1) (fi := 0) dX5_byteAt_13 flX5_9 rfl rfl hc2 ?_
      refine k_iload_n (pc := 16) (x := v1) dX5_byteAt_16 rfl rfl ?_
      obtain ⟨hc4, h⟩ := k_pk h
      refine k_iaload (pc := 17) dX5_byteAt_17 hc4 ?_
      refine k_goto (pc := 18) (tgt := 22) dX5_byteAt_18 rfl ?_
      obtain ⟨rfl, rfl⟩ := k_pr h
      exact k_ret (pc := 22) dX5_byteAt_22 rfl rfl
theorem okX5_byteAt {A : k_H} {x0 x1 : Int} {r : Int} {A1 : k_H} (h : fX5_byteAt A x0 x1 = some (r, A1)) : k_AM 1 mX5_byteAt [(1, x0), (0, x1)] A r A1 :=
  k_AM_of2 (ls := [(1, x0), (0, x1)]) (by decide) rfl (Nat.le_of_ble_eq_true rfl) ⟨Or.inr rfl, Or.inr rfl, trivial⟩ (okX5_byteAt_b0 A x0 x1 r A1 h)
/-! X5_holdsAmps -/
def fX5_holdsAmps_h20 : Nat → k_H → Int → Int → Option (Int × k_H)
  | 0, _, _, _ => none
  | N + 1, A, v0, v3 => if k_isO A v0 5 then (if v3 < (k_rd A v0 1) then (if k_isA A (k_rd A v0 0) 21 v3 then (if (k_rd A (k_rd A v0 0) v3) = 0 then (some (0, A)) else ((fX5_holdsAmps_h20 N) A v0 (k_wr (v3 + 1)))) else none) else (some (1, A))) else none
def fX5_holdsAmps_b0 (A : k_H) (v0 v1 v2 : Int) : Option (Int × k_H) := if k_isO A v0 5 then (if v1 ≤ (k_rd A v0 1) then (if v2 < (k_rd A v0 1) then (some (0, A)) else (fX5_holdsAmps_h20 k_FU A v0 0)) else (some (0, A))) else none
def fX5_holdsAmps (A : k_H) (x0 x1 x2 : Int) : Option (Int × k_H) := fX5_holdsAmps_b0 A x0 x1 x2
set_option maxRecDepth 100000 in
theorem okX5_holdsAmps_h20 : ∀ (N : Nat) (A : k_H) (v0 v3 : Int) (r : Int) (A' : k_H), fX5_holdsAmps_h20 N A v0 v3 = some (r, A') → k_AW 1 mX5_holdsAmps 20 [(1, v0), (3, 0), (3, 0), (0, v3)] [] A r A' := by
  intro N
  induction N with
  | zero => intro A v0 v3 r A' h; exact absurd h (by simp [fX5_holdsAmps_h20])
  | succ N ih =>
    intro A v0 v3 r A' h
    rw [fX5_holdsAmps_h20] at h
    refine k_iload_n (pc := 20) (x := v3) dX5_holdsAmps_20 rfl rfl ?_
    refine k_aload_n (pc := 21) (x := v0) dX5_holdsAmps_21 rfl rfl ?_
    obtain ⟨hc1, h⟩ := k_pk h
    refine k_getf (pc := 22) (t := 0) (fi := 1) dX5_holdsAmps_22 flX5_15 rfl rfl hc1 ?_
    refine k_icmp_ge (pc := 25) (tgt := 45) dX5_holdsAmps_25 rfl (fun c2 => ?_) (fun c2 => ?_)
    · rw [if_neg (Int.not_lt.mpr c2)] at h
      refine k_iconst (pc := 45) dX5_holdsAmps_45 ⟨by decide, by decide⟩ ?_
      obtain ⟨rfl, rfl⟩ := k_pr h
      exact k_ret (pc := 46) dX5_holdsAmps_46 rfl (by decide +kernel)
    · rw [if_pos (Int.not_le.mp c2)] at h
      refine k_aload_n (pc := 28) (x := v0) dX5_holdsAmps_28 rfl rfl ?_
      refine k_getf (pc := 29) (t := 1) (fi := 0) dX5_holdsAmps_29 flX5_9 rfl rfl hc1 ?_
      refine k_iload_n (pc := 32) (x := v3) dX5_holdsAmps_32 rfl rfl ?_
      obtain ⟨hc3, h⟩ := k_pk h
      refine k_iaload (pc := 33) dX5_holdsAmps_33 hc3 ?_
      refine k_if_ne (pc := 34) (tgt := 39) dX5_holdsAmps_34 rfl (fun c4 => ?_) (fun c4 => ?_)
      · rw [if_neg c4] at h
        refine k_iinc (pc := 39) (x := v3) dX5_holdsAmps_39 (Nat.le_of_ble_eq_true rfl) rfl rfl ?_
        show k_AW _ _ _ [(1, v0), (3, 0), (3, 0), (0, k_wr (v3 + 1))] _ _ _ _
        refine k_goto (pc := 42) (tgt := 20) dX5_holdsAmps_42 rfl ?_
        refine k_sub (ls' := [(1, v0), (3, 0), (3, 0), (0, k_wr (v3 + 1))]) (k_sbl_ok _ _ ⟨Or.inr rfl, Or.inl rfl, Or.inl rfl, Or.inr rfl, trivial⟩) ?_
        exact ih _ _ _ _ _ h
      · rw [if_pos (Classical.not_not.mp c4)] at h
        refine k_iconst (pc := 37) dX5_holdsAmps_37 ⟨by decide, by decide⟩ ?_
        obtain ⟨rfl, rfl⟩ := k_pr h
        exact k_ret (pc := 38) dX5_holdsAmps_38 rfl (by decide +kernel)
set_option maxRecDepth 100000 in
theorem okX5_holdsAmps_b0 (A : k_H) (v0 v1 v2 : Int) (r : Int) (A' : k_H) (h : fX5_holdsAmps_b0 A v0 v1 v2 = some (r, A')) : k_AW 1 mX5_holdsAmps 0 [(1, v0), (0, v1), (0, v2), (3, 0)] [] A r A' := by
  unfold fX5_holdsAmps_b0 at h
  refine k_aload_n (pc := 0) (x := v0) dX5_holdsAmps_0 rfl rfl ?_
  obtain ⟨hc1, h⟩ := k_pk h
  refine k_getf (pc := 1) (t := 0) (fi := 1) dX5_holdsAmps_1 flX5_15 rfl rfl hc1 ?_
  refine k_iload_n (pc := 4) (x := v1) dX5_holdsAmps_4 rfl rfl ?_
  refine k_icmp_lt (pc := 5) (tgt := 16) dX5_holdsAmps_5 rfl (fun c2 => ?_) (fun c2 => ?_)
  · rw [if_neg (Int.not_le.mpr c2)] at h
    refine k_iconst (pc := 16) dX5_holdsAmps_16 ⟨by decide, by decide⟩ ?_
    obtain ⟨rfl, rfl⟩ := k_pr h
    exact k_ret (pc := 17) dX5_holdsAmps_17 rfl (by decide +kernel)
  · rw [if_pos (Int.not_lt.mp c2)] at h
    refine k_aload_n (pc := 8) (x := v0) dX5_holdsAmps_8 rfl rfl ?_
    refine k_getf (pc := 9) (t := 0) (fi := 1) dX5_holdsAmps_9 flX5_15 rfl rfl hc1 ?_
    refine k_iload_n (pc := 12) (x := v2) dX5_holdsAmps_12 rfl rfl ?_
    refine k_icmp_le (pc := 13) (tgt := 18) dX5_holdsAmps_13 rfl (fun c3 => ?_) (fun c3 => ?_)
    · rw [if_neg (Int.not_lt.mpr c3)] at h
      refine k_iconst (pc := 18) dX5_holdsAmps_18 ⟨by decide, by decide⟩ ?_
      refine k_istore_n (pc := 19) dX5_holdsAmps_19 rfl (Nat.le_of_ble_eq_true rfl) rfl ?_
      show k_AW _ _ _ [(1, v0), (0, v1), (0, v2), (0, 0)] _ _ _ _
      refine k_sub (ls' := [(1, v0), (3, 0), (3, 0), (0, 0)]) (k_sbl_ok _ _ ⟨Or.inr rfl, Or.inl rfl, Or.inl rfl, Or.inr rfl, trivial⟩) ?_
      exact okX5_holdsAmps_h20  _ _ _ _ _ _ h
    · rw [if_pos (Int.not_le.mp c3)] at h
      refine k_iconst (pc := 16) dX5_holdsAmps_16 ⟨by decide, by decide⟩ ?_
      obtain ⟨rfl, rfl⟩ := k_pr h
      exact k_ret (pc := 17) dX5_holdsAmps_17 rfl (by decide +kernel)
theorem okX5_holdsAmps {A : k_H} {x0 x1 x2 : Int} {r : Int} {A1 : k_H} (h : fX5_holdsAmps A x0 x1 x2 = some (r, A1)) : k_AM 1 mX5_holdsAmps [(1, x0), (0, x1), (0, x2)] A r A1 :=
  k_AM_of2 (ls := [(1, x0), (0, x1), (0, x2), (3, 0)]) (by decide) rfl (Nat.le_of_ble_eq_true rfl) ⟨Or.inr rfl, Or.inr rfl, Or.inr rfl, rfl, trivial⟩ (okX5_holdsAmps_b0 A x0 x1 x2 r A1 h)
/-! X0_take -/
def fX0_take_h18 : Nat → k_H → Int → Int → Int → Option (Int × k_H)
  | 0, _, _, _, _ => none
  | N + 1, A, v0, v1, v2 => if k_isO A v0 0 then (if v2 < (k_rd A v0 1) then (if k_isO A v1 5 then (k_bd (fX5_byteAt A v1 v2) fun r3 A4 => if k_isA A4 (k_rd A v0 0) 21 v2 then (k_lt (k_wt A4 (k_rd A v0 0) v2 r3) fun A8 => (fX0_take_h18 N) A8 v0 v1 (k_wr (v2 + 1))) else none) else none) else (some (0, A))) else none
def fX0_take_b0 (A : k_H) (v0 v1 : Int) : Option (Int × k_H) := if k_isO A v1 5 then (if k_isO A v0 0 then (if k_isR A (k_rd A v0 0) 21 then (if (k_kd A (k_rd A v0 0)).2 < 2147483648 then (k_lt (k_wt A v0 1 (min (k_rd A v1 1) ((k_kd A (k_rd A v0 0)).2 : Int))) fun A5 => fX0_take_h18 k_FU A5 v0 v1 0) else none) else none) else none) else none
def fX0_take (A : k_H) (x0 x1 : Int) : Option (Int × k_H) := fX0_take_b0 A x0 x1
set_option maxRecDepth 100000 in
theorem okX0_take_h18 : ∀ (N : Nat) (A : k_H) (v0 v1 v2 : Int) (r : Int) (A' : k_H), fX0_take_h18 N A v0 v1 v2 = some (r, A') → k_AW 2 mX0_take 18 [(1, v0), (1, v1), (0, v2)] [] A r A' := by
  intro N
  induction N with
  | zero => intro A v0 v1 v2 r A' h; exact absurd h (by simp [fX0_take_h18])
  | succ N ih =>
    intro A v0 v1 v2 r A' h
    rw [fX0_take_h18] at h
    refine k_iload_n (pc := 18) (x := v2) dX0_take_18 rfl rfl ?_
    refine k_aload_n (pc := 19) (x := v0) dX0_take_19 rfl rfl ?_
    obtain ⟨hc1, h⟩ := k_pk h
    refine k_getf (pc := 20) (t := 0) (fi := 1) dX0_take_20 flX0_28 rfl rfl hc1 ?_
    refine k_icmp_ge (pc := 23) (tgt := 43) dX0_take_23 rfl (fun c2 => ?_) (fun c2 => ?_)
    · rw [if_neg (Int.not_lt.mpr c2)] at h
      obtain ⟨rfl, rfl⟩ := k_pr h
      exact k_retv (pc := 43) dX0_take_43 rfl
    · rw [if_pos (Int.not_le.mp c2)] at h
      refine k_aload_n (pc := 26) (x := v0) dX0_take_26 rfl rfl ?_
      refine k_getf (pc := 27) (t := 1) (fi := 0) dX0_take_27 flX0_13 rfl rfl hc1 ?_
      refine k_iload_n (pc := 30) (x := v2) dX0_take_30 rfl rfl ?_
      refine k_aload_n (pc := 31) (x := v1) dX0_take_31 rfl rfl ?_
      refine k_iload_n (pc := 32) (x := v2) dX0_take_32 rfl rfl ?_
      obtain ⟨hc6, h⟩ := k_pk h
      obtain ⟨r3, A4, hq5, h⟩ := k_pb h
      refine k_callV (pc := 33) (ci := 5) (a := v1) (as := [(0, v2)]) (st := [(0, v2), (1, (k_rd A v0 0))]) (st1 := [(0, r3), (0, v2), (1, (k_rd A v0 0))]) dX0_take_33 cbX5_byteAt (k_gt 382 (by decide +kernel) (by decide +kernel)) cvX5_byteAt.1 cvX5_byteAt.2 rfl (by decide) hc6 (by omega) rfl (Nat.le_of_ble_eq_true rfl) (okX5_byteAt hq5) rfl ?_
      obtain ⟨hc7, h⟩ := k_pk h
      refine k_iastore (pc := 36) dX0_take_36 hc7 ?_
      obtain ⟨A8, eA9, h⟩ := k_pl h
      refine k_hq eA9 ?_
      refine k_iinc (pc := 37) (x := v2) dX0_take_37 (Nat.le_of_ble_eq_true rfl) rfl rfl ?_
      show k_AW _ _ _ [(1, v0), (1, v1), (0, k_wr (v2 + 1))] _ _ _ _
      refine k_goto (pc := 40) (tgt := 18) dX0_take_40 rfl ?_
      refine k_sub (ls' := [(1, v0), (1, v1), (0, k_wr (v2 + 1))]) (k_sbl_ok _ _ ⟨Or.inr rfl, Or.inr rfl, Or.inr rfl, trivial⟩) ?_
      exact ih _ _ _ _ _ _ h
set_option maxRecDepth 100000 in
theorem okX0_take_b0 (A : k_H) (v0 v1 : Int) (r : Int) (A' : k_H) (h : fX0_take_b0 A v0 v1 = some (r, A')) : k_AW 2 mX0_take 0 [(1, v0), (1, v1), (3, 0)] [] A r A' := by
  unfold fX0_take_b0 at h
  refine k_aload_n (pc := 0) (x := v0) dX0_take_0 rfl rfl ?_
  refine k_aload_n (pc := 1) (x := v1) dX0_take_1 rfl rfl ?_
  obtain ⟨hc1, h⟩ := k_pk h
  refine k_getf (pc := 2) (t := 0) (fi := 1) dX0_take_2 flX0_19 rfl rfl hc1 ?_
  refine k_aload_n (pc := 5) (x := v0) dX0_take_5 rfl rfl ?_
  obtain ⟨hc2, h⟩ := k_pk h
  refine k_getf (pc := 6) (t := 1) (fi := 0) dX0_take_6 flX0_13 rfl rfl hc2 ?_
  obtain ⟨hc3, h⟩ := k_pk h
  obtain ⟨hc4, h⟩ := k_pk h
  refine k_alen (pc := 9) (K := 21) dX0_take_9 (by decide) hc3 hc4 ?_
  refine k_mmin (pc := 10) dX0_take_10 (k_gt 379 (by decide +kernel) (by decide +kernel)) (by omega) (Nat.le_of_ble_eq_true rfl) ?_
  refine k_putf (pc := 13) (t := 0) (fi := 1) dX0_take_13 flX0_28 rfl rfl hc2 rfl ?_
  obtain ⟨A5, eA6, h⟩ := k_pl h
  refine k_hq eA6 ?_
  refine k_iconst (pc := 16) dX0_take_16 ⟨by decide, by decide⟩ ?_
  refine k_istore_n (pc := 17) dX0_take_17 rfl (Nat.le_of_ble_eq_true rfl) rfl ?_
  show k_AW _ _ _ [(1, v0), (1, v1), (0, 0)] _ _ _ _
  refine k_sub (ls' := [(1, v0), (1, v1), (0, 0)]) (k_sbl_ok _ _ ⟨Or.inr rfl, Or.inr rfl, Or.inr rfl, trivial⟩) ?_
  exact okX0_take_h18  _ _ _ _ _ _ _ h
theorem okX0_take {A : k_H} {x0 x1 : Int} {r : Int} {A1 : k_H} (h : fX0_take A x0 x1 = some (r, A1)) : k_AM 2 mX0_take [(1, x0), (1, x1)] A r A1 :=
  k_AM_of2 (ls := [(1, x0), (1, x1), (3, 0)]) (by decide) rfl (Nat.le_of_ble_eq_true rfl) ⟨Or.inr rfl, Or.inr rfl, rfl, trivial⟩ (okX0_take_b0 A x0 x1 r A1 h)
/-! X1_init -/
def fX1_init_b0 (A : k_H) (v0 : Int) : Option (Int × k_H) := if 0 ≤ v0 then (k_lt (k_mk A 0 2) fun A2 => if 0 ≤ (k_N A : Int) then (k_bd (fX0_init A2 (k_N A : Int) 4) fun r4 A5 => if k_isO A5 v0 1 then (k_lt (k_wt A5 v0 0 (k_N A : Int)) fun A9 => k_lt (k_mk A9 21 6) fun A11 => if k_isO A11 v0 1 then (k_lt (k_wt A11 v0 1 (k_N A9 : Int)) fun A14 => some (0, A14)) else none) else none) else none) else none
def fX1_init (A : k_H) (x0 : Int) : Option (Int × k_H) := fX1_init_b0 A x0
set_option maxRecDepth 100000 in
theorem okX1_init_b0 (A : k_H) (v0 : Int) (r : Int) (A' : k_H) (h : fX1_init_b0 A v0 = some (r, A')) : k_AW 3 mX1_init 0 [(1, v0)] [] A r A' := by
  unfold fX1_init_b0 at h
  refine k_aload_n (pc := 0) (x := v0) dX1_init_0 rfl rfl ?_
  obtain ⟨hc1, h⟩ := k_pk h
  refine k_objInit (pc := 1) dX1_init_1 (k_gt 214 (by decide +kernel) (by decide +kernel)) (by omega) hc1 (Nat.le_of_ble_eq_true rfl) ?_
  refine k_aload_n (pc := 4) (x := v0) dX1_init_4 rfl rfl ?_
  refine k_new (pc := 5) (ci := 0) (n := 2) dX1_init_5 ncX1_9 rfl ?_
  obtain ⟨A2, eA3, h⟩ := k_pl h
  refine k_hq eA3 ?_
  refine k_dup (pc := 8) dX1_init_8 (Nat.le_of_ble_eq_true rfl) ?_
  refine k_iconst (pc := 9) dX1_init_9 ⟨by decide, by decide⟩ ?_
  obtain ⟨hc7, h⟩ := k_pk h
  obtain ⟨r4, A5, hq6, h⟩ := k_pb h
  refine k_callI (pc := 10) (a := (k_N A : Int)) (as := [(0, 4)]) (st := [(1, (k_N A : Int)), (1, v0)]) (st1 := [(1, (k_N A : Int)), (1, v0)]) dX1_init_10 cbX0_init (k_gt 217 (by decide +kernel) (by decide +kernel)) (k_gt 218 (by decide +kernel) (by decide +kernel)) rfl rfl hc7 (by omega) rfl (Nat.le_of_ble_eq_true rfl) (okX0_init hq6) rfl ?_
  obtain ⟨hc8, h⟩ := k_pk h
  refine k_putF (pc := 13) (t := 1) (fi := 0) dX1_init_13 flX1_14 rfl (fun Cn Tt Nn h9 => by cases h9; rfl) rfl rfl hc8 rfl ?_
  obtain ⟨A9, eA10, h⟩ := k_pl h
  refine k_hq eA10 ?_
  refine k_aload_n (pc := 16) (x := v0) dX1_init_16 rfl rfl ?_
  refine k_bipush (pc := 17) dX1_init_17 ⟨by decide, by decide⟩ (by decide +kernel) ?_
  refine k_newa (pc := 19) (n := 6) dX1_init_19 k_atI rfl (by decide) ?_
  obtain ⟨A11, eA12, h⟩ := k_pl h
  refine k_hq eA12 ?_
  obtain ⟨hc13, h⟩ := k_pk h
  refine k_putF (pc := 21) (t := 1) (fi := 1) dX1_init_21 flX1_20 rfl (fun Cn Tt Nn h9 => by cases h9; rfl) rfl rfl hc13 rfl ?_
  obtain ⟨A14, eA15, h⟩ := k_pl h
  refine k_hq eA15 ?_
  obtain ⟨rfl, rfl⟩ := k_pr h
  exact k_retv (pc := 24) dX1_init_24 rfl
theorem okX1_init {A : k_H} {x0 : Int} {r : Int} {A1 : k_H} (h : fX1_init A x0 = some (r, A1)) : k_AM 3 mX1_init [(1, x0)] A r A1 :=
  k_AM_of2 (ls := [(1, x0)]) (by decide) rfl (Nat.le_of_ble_eq_true rfl) ⟨Or.inr rfl, trivial⟩ (okX1_init_b0 A x0 r A1 h)
/-! X1_build -/
def fX1_build_b0 (A : k_H) (v0 v1 v2 v3 : Int) : Option (Int × k_H) := if k_isO A v0 1 then (k_lt (k_wt A v0 4 v1) fun A2 => k_lt (k_wt A2 v0 5 v2) fun A5 => if k_isO A5 (k_rd A5 v0 0) 0 then (k_bd (fX0_take A5 (k_rd A5 v0 0) v3) fun r8 A9 => some (0, A9)) else none) else none
def fX1_build (A : k_H) (x0 x1 x2 x3 : Int) : Option (Int × k_H) := fX1_build_b0 A x0 x1 x2 x3
set_option maxRecDepth 100000 in
theorem okX1_build_b0 (A : k_H) (v0 v1 v2 v3 : Int) (r : Int) (A' : k_H) (h : fX1_build_b0 A v0 v1 v2 v3 = some (r, A')) : k_AW 3 mX1_build 0 [(1, v0), (0, v1), (0, v2), (1, v3)] [] A r A' := by
  unfold fX1_build_b0 at h
  refine k_aload_n (pc := 0) (x := v0) dX1_build_0 rfl rfl ?_
  refine k_iload_n (pc := 1) (x := v1) dX1_build_1 rfl rfl ?_
  obtain ⟨hc1, h⟩ := k_pk h
  refine k_putf (pc := 2) (t := 0) (fi := 4) dX1_build_2 flX1_24 rfl rfl hc1 rfl ?_
  obtain ⟨A2, eA3, h⟩ := k_pl h
  refine k_hq eA3 ?_
  refine k_aload_n (pc := 5) (x := v0) dX1_build_5 rfl rfl ?_
  refine k_iload_n (pc := 6) (x := v2) dX1_build_6 rfl rfl ?_
  have hf4 := k_oW eA3 hc1
  refine k_putf (pc := 7) (t := 0) (fi := 5) dX1_build_7 flX1_28 rfl rfl hf4 rfl ?_
  obtain ⟨A5, eA6, h⟩ := k_pl h
  refine k_hq eA6 ?_
  refine k_aload_n (pc := 10) (x := v0) dX1_build_10 rfl rfl ?_
  have hf7 := k_oW eA6 hf4
  refine k_getf (pc := 11) (t := 1) (fi := 0) dX1_build_11 flX1_14 rfl rfl hf7 ?_
  refine k_aload_n (pc := 14) (x := v3) dX1_build_14 rfl rfl ?_
  obtain ⟨hc11, h⟩ := k_pk h
  obtain ⟨r8, A9, hq10, h⟩ := k_pb h
  refine k_callV (pc := 15) (ci := 0) (a := (k_rd A5 v0 0)) (as := [(1, v3)]) (st := []) (st1 := []) dX1_build_15 cbX0_take (k_gt 375 (by decide +kernel) (by decide +kernel)) cvX0_take.1 cvX0_take.2 rfl (by decide) hc11 (by omega) rfl (Nat.le_of_ble_eq_true rfl) (okX0_take hq10) rfl ?_
  obtain ⟨rfl, rfl⟩ := k_pr h
  exact k_retv (pc := 18) dX1_build_18 rfl
theorem okX1_build {A : k_H} {x0 x1 x2 x3 : Int} {r : Int} {A1 : k_H} (h : fX1_build A x0 x1 x2 x3 = some (r, A1)) : k_AM 3 mX1_build [(1, x0), (0, x1), (0, x2), (1, x3)] A r A1 :=
  k_AM_of2 (ls := [(1, x0), (0, x1), (0, x2), (1, x3)]) (by decide) rfl (Nat.le_of_ble_eq_true rfl) ⟨Or.inr rfl, Or.inr rfl, Or.inr rfl, Or.inr rfl, trivial⟩ (okX1_build_b0 A x0 x1 x2 x3 r A1 h)
