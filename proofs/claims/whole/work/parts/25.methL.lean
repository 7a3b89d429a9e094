/-! the law and its helpers -/
theorem k_en_mem : ∀ as : List k_V, ∀ w ∈ k_en as, w.1 < 3 → w ∈ as := by
  intro as
  induction as with
  | nil => intro w hw; cases hw
  | cons a l ih =>
    intro w hw h3
    have e : k_en (a :: l) = if a.1 = 2 then a :: (3, 0) :: k_en l else a :: k_en l := rfl
    rw [e] at hw
    split at hw
    · rcases List.mem_cons.mp hw with rfl | hw
      · exact List.mem_cons_self
      · rcases List.mem_cons.mp hw with rfl | hw
        · exact absurd h3 (by decide)
        · exact List.mem_cons_of_mem _ (ih w hw h3)
    · rcases List.mem_cons.mp hw with rfl | hw
      · exact List.mem_cons_self
      · exact List.mem_cons_of_mem _ (ih w hw h3)
theorem k_g3 {n : Nat} {v : k_V} (h3 : ¬ v.1 < 3) : k_gv n v := by
  obtain ⟨t, x⟩ := v
  match t, h3 with
  | t + 3, _ => exact trivial
  | 0, h3 => exact absurd (by show 0 < 3; decide) h3
  | 1, h3 => exact absurd (by show 1 < 3; decide) h3
  | 2, h3 => exact absurd (by show 2 < 3; decide) h3
theorem k_en_gl {n : Nat} {as ls : List k_V} (hs : k_sbl ls (k_en as)) (g : k_gl n as) : k_gl n ls := by
  intro v hv
  by_cases h3 : v.1 < 3
  · obtain ⟨i, hi⟩ := List.getElem?_of_mem hv
    exact g v (k_en_mem as v (List.mem_of_getElem? (k_sbl_ok ls (k_en as) hs i v hi h3)) h3)
  · exact k_g3 h3
theorem k_t3_ok {as : List k_V} (ht : k_t3 as = true) : ∀ v ∈ as, v.1 < 3 := fun v hv => by
  have := List.all_eq_true.mp ht v hv
  simpa using this
theorem k_ATh_of2 {d : Nat} {M : k_M} {as ls : List k_V} {A : k_H} {A1 : k_H} (hM : k_nothr M = false) (hcls : M.1.cls = "VanPlays") (hh0 : k_hh M = none) (hp : plainName M.1.cls = true) (ht : k_t3 as = true) (hl : (k_en as).length ≤ M.2.2.1) (hs : k_sbl ls (k_en as)) (hd6 : 6 ≤ d) (h : k_AW d M 0 ls [] A k_EXC A1) : k_ATh d M as A A1 :=
  k_ATh_of hM hcls hh0 hp (k_t3_ok ht) hl (k_sbl_ok ls (k_en as) hs) (k_en_gl hs) hd6 h
theorem k_AMW_of2 {d : Nat} {M : k_M} {hh : List (Nat × Nat × Nat × Nat)} {as ls : List k_V} {A : k_H} {r : Int} {A1 : k_H} (hnt : k_nothr M = true) (hh0 : k_hh M = some hh) (hp : plainName M.1.cls = true) (ht : k_t3 as = true) (hl : (k_en as).length ≤ M.2.2.1) (hs : k_sbl ls (k_en as)) (h : k_AW d M 0 ls [] A r A1) : k_AMW d M hh as A r A1 :=
  k_AMW_of hnt hh0 hp (k_t3_ok ht) hl (k_sbl_ok ls (k_en as) hs) (k_en_gl hs) h
theorem okTX8_shared {A : k_H} {x0 x1 x2 x3 : Int} {A1 : k_H} (h : fX8_shared A x0 x1 x2 x3 = some (k_EXC, A1)) : k_ATh 8 mX8_shared [(1, x0), (0, x1), (0, x2), (0, x3)] A A1 :=
  k_ATh_of2 (ls := [(1, x0), (0, x1), (0, x2), (0, x3)]) (by decide +kernel) rfl (by decide +kernel) (by decide) rfl (Nat.le_of_ble_eq_true rfl) ⟨Or.inr rfl, Or.inr rfl, Or.inr rfl, Or.inr rfl, trivial⟩ (by decide) (okX8_shared_b0 A x0 x1 x2 x3 k_EXC A1 h)
theorem okTX8_keeps {A : k_H} {x0 x1 : Int} {A1 : k_H} (h : fX8_keeps A x0 x1 = some (k_EXC, A1)) : k_ATh 8 mX8_keeps [(1, x0), (0, x1)] A A1 :=
  k_ATh_of2 (ls := [(1, x0), (0, x1), (3, 0), (3, 0), (3, 0)]) (by decide +kernel) rfl (by decide +kernel) (by decide) rfl (Nat.le_of_ble_eq_true rfl) ⟨Or.inr rfl, Or.inr rfl, rfl, rfl, rfl, trivial⟩ (by decide) (okX8_keeps_b0 A x0 x1 k_EXC A1 h)
theorem cbL_keeps : k_CBW mL_keeps [(0, 9, 12, 13)] 3 := ⟨k_gt 861 (by decide +kernel) (by decide +kernel), k_gt 0 (by decide +kernel) (by decide +kernel), ⟨by decide +kernel, by decide +kernel⟩, by decide +kernel, by decide⟩
theorem cbL_shared : k_CBW mL_shared [(0, 12, 15, 13)] 5 := ⟨k_gt 787 (by decide +kernel) (by decide +kernel), k_gt 0 (by decide +kernel) (by decide +kernel), ⟨by decide +kernel, by decide +kernel⟩, by decide +kernel, by decide⟩
/-! L_shared -/
def fL_shared_b0 (A : k_H) (v0 v1 v2 v3 v4 : Int) : Option (Int × k_H) := if k_isO A v0 8 then (k_bd (fX8_shared A v0 v1 v2 v3) fun r1 A2 => if r1 = k_EXC then (k_lt (k_gc A2) fun A6 => some (1, A6)) else (if k_isA A2 v4 22 0 then (k_lt (k_wt A2 v4 0 r1) fun A9 => some (0, A9)) else none)) else none
def fL_shared (A : k_H) (x0 x1 x2 x3 x4 : Int) : Option (Int × k_H) := fL_shared_b0 A x0 x1 x2 x3 x4
set_option maxRecDepth 100000 in
theorem okL_shared_b0 (A : k_H) (v0 v1 v2 v3 v4 : Int) (r : Int) (A' : k_H) (h : fL_shared_b0 A v0 v1 v2 v3 v4 = some (r, A')) : k_AW 9 mL_shared 0 [(1, v0), (0, v1), (0, v2), (0, v3), (1, v4), (3, 0)] [] A r A' := by
  unfold fL_shared_b0 at h
  refine k_aload (pc := 0) (x := v4) dL_shared_0 rfl ?_
  refine k_iconst (pc := 2) dL_shared_2 ⟨by decide, by decide⟩ ?_
  refine k_aload_n (pc := 3) (x := v0) dL_shared_3 rfl rfl ?_
  refine k_iload_n (pc := 4) (x := v1) dL_shared_4 rfl rfl ?_
  refine k_iload_n (pc := 5) (x := v2) dL_shared_5 rfl rfl ?_
  refine k_iload_n (pc := 6) (x := v3) dL_shared_6 rfl rfl ?_
  obtain ⟨hc4, h⟩ := k_pk h
  obtain ⟨r1, A2, hq3, h⟩ := k_pb h
  by_cases c5 : r1 = k_EXC
  · rw [if_pos c5] at h
    rw [c5] at hq3
    obtain ⟨A6, eA7, h⟩ := k_pl h
    refine k_callX (pc := 7) (ci := 8) (a := v0) (as := [(0, v1), (0, v2), (0, v3)]) (st := [(0, 0), (1, v4)]) (j := 5) (h := 15) (len := 2) (xs := 0) (xe := 12) (ct := 13) dL_shared_7 cbX8_shared (k_gt 789 (by decide +kernel) (by decide +kernel)) cvX8_shared.1 cvX8_shared.2 rfl (by decide) hc4 (by omega) rfl (Nat.le_of_ble_eq_true rfl) (okTX8_shared hq3) (by decide +kernel) ⟨by decide, by decide⟩ (by decide) (k_gt 788 (by decide +kernel) (by decide +kernel)) (Or.inr ⟨dL_shared_15, rfl⟩) (Nat.le_of_ble_eq_true rfl) rfl ?_
    show k_AW _ _ _ [(1, v0), (0, v1), (0, v2), (0, v3), (1, v4), (3, 0)] _ _ _ _
    refine k_hq eA7 ?_
    refine k_iconst (pc := 17) dL_shared_17 ⟨by decide, by decide⟩ ?_
    obtain ⟨rfl, rfl⟩ := k_pr h
    exact k_ret (pc := 18) dL_shared_18 rfl rfl rfl
  · rw [if_neg c5] at h
    refine k_callV (pc := 7) (ci := 8) (a := v0) (as := [(0, v1), (0, v2), (0, v3)]) (st := [(0, 0), (1, v4)]) (st1 := [(0, r1), (0, 0), (1, v4)]) dL_shared_7 cbX8_shared (k_gt 789 (by decide +kernel) (by decide +kernel)) cvX8_shared.1 cvX8_shared.2 rfl (by decide) hc4 (by omega) rfl (Nat.le_of_ble_eq_true rfl) (okX8_shared c5 hq3) rfl ?_
    refine k_i2l (pc := 10) dL_shared_10 ?_
    obtain ⟨hc8, h⟩ := k_pk h
    refine k_lastore (pc := 11) dL_shared_11 hc8 ?_
    obtain ⟨A9, eA10, h⟩ := k_pl h
    refine k_hq eA10 ?_
    refine k_goto (pc := 12) (tgt := 19) dL_shared_12 rfl ?_
    refine k_iconst (pc := 19) dL_shared_19 ⟨by decide, by decide⟩ ?_
    obtain ⟨rfl, rfl⟩ := k_pr h
    exact k_ret (pc := 20) dL_shared_20 rfl rfl rfl
theorem okL_shared {A : k_H} {x0 x1 x2 x3 x4 : Int} {r : Int} {A1 : k_H} (h : fL_shared A x0 x1 x2 x3 x4 = some (r, A1)) : k_AMW 9 mL_shared [(0, 12, 15, 13)] [(1, x0), (0, x1), (0, x2), (0, x3), (1, x4)] A r A1 :=
  k_AMW_of2 (ls := [(1, x0), (0, x1), (0, x2), (0, x3), (1, x4), (3, 0)]) (by decide +kernel) (by decide +kernel) (by decide) rfl (Nat.le_of_ble_eq_true rfl) ⟨Or.inr rfl, Or.inr rfl, Or.inr rfl, Or.inr rfl, Or.inr rfl, rfl, trivial⟩ (okL_shared_b0 A x0 x1 x2 x3 x4 r A1 h)
/-! L_keeps -/
def fL_keeps_b0 (A : k_H) (v0 v1 v2 : Int) : Option (Int × k_H) := if k_isO A v0 8 then (k_bd (fX8_keeps A v0 v1) fun r1 A2 => if r1 = k_EXC then (k_lt (k_gc A2) fun A6 => some (1, A6)) else (if k_isA A2 v2 22 0 then (k_lt (k_wt A2 v2 0 r1) fun A9 => some (0, A9)) else none)) else none
def fL_keeps (A : k_H) (x0 x1 x2 : Int) : Option (Int × k_H) := fL_keeps_b0 A x0 x1 x2
set_option maxRecDepth 100000 in
theorem okL_keeps_b0 (A : k_H) (v0 v1 v2 : Int) (r : Int) (A' : k_H) (h : fL_keeps_b0 A v0 v1 v2 = some (r, A')) : k_AW 9 mL_keeps 0 [(1, v0), (0, v1), (1, v2), (3, 0)] [] A r A' := by
  unfold fL_keeps_b0 at h
  refine k_aload_n (pc := 0) (x := v2) dL_keeps_0 rfl rfl ?_
  refine k_iconst (pc := 1) dL_keeps_1 ⟨by decide, by decide⟩ ?_
  refine k_aload_n (pc := 2) (x := v0) dL_keeps_2 rfl rfl ?_
  refine k_iload_n (pc := 3) (x := v1) dL_keeps_3 rfl rfl ?_
  obtain ⟨hc4, h⟩ := k_pk h
  obtain ⟨r1, A2, hq3, h⟩ := k_pb h
  by_cases c5 : r1 = k_EXC
  · rw [if_pos c5] at h
    rw [c5] at hq3
    obtain ⟨A6, eA7, h⟩ := k_pl h
    refine k_callX (pc := 4) (ci := 8) (a := v0) (as := [(0, v1)]) (st := [(0, 0), (1, v2)]) (j := 3) (h := 12) (len := 1) (xs := 0) (xe := 9) (ct := 13) dL_keeps_4 cbX8_keeps (k_gt 862 (by decide +kernel) (by decide +kernel)) cvX8_keeps.1 cvX8_keeps.2 rfl (by decide) hc4 (by omega) rfl (Nat.le_of_ble_eq_true rfl) (okTX8_keeps hq3) (by decide +kernel) ⟨by decide, by decide⟩ (by decide) (k_gt 788 (by decide +kernel) (by decide +kernel)) (Or.inl ⟨3, rfl, dL_keeps_12, rfl⟩) (Nat.le_of_ble_eq_true rfl) rfl ?_
    show k_AW _ _ _ [(1, v0), (0, v1), (1, v2), (3, 0)] _ _ _ _
    refine k_hq eA7 ?_
    refine k_iconst (pc := 13) dL_keeps_13 ⟨by decide, by decide⟩ ?_
    obtain ⟨rfl, rfl⟩ := k_pr h
    exact k_ret (pc := 14) dL_keeps_14 rfl rfl rfl
  · rw [if_neg c5] at h
    refine k_callV (pc := 4) (ci := 8) (a := v0) (as := [(0, v1)]) (st := [(0, 0), (1, v2)]) (st1 := [(0, r1), (0, 0), (1, v2)]) dL_keeps_4 cbX8_keeps (k_gt 862 (by decide +kernel) (by decide +kernel)) cvX8_keeps.1 cvX8_keeps.2 rfl (by decide) hc4 (by omega) rfl (Nat.le_of_ble_eq_true rfl) (okX8_keeps c5 hq3) rfl ?_
    refine k_i2l (pc := 7) dL_keeps_7 ?_
    obtain ⟨hc8, h⟩ := k_pk h
    refine k_lastore (pc := 8) dL_keeps_8 hc8 ?_
    obtain ⟨A9, eA10, h⟩ := k_pl h
    refine k_hq eA10 ?_
    refine k_goto (pc := 9) (tgt := 15) dL_keeps_9 rfl ?_
    refine k_iconst (pc := 15) dL_keeps_15 ⟨by decide, by decide⟩ ?_
    obtain ⟨rfl, rfl⟩ := k_pr h
    exact k_ret (pc := 16) dL_keeps_16 rfl rfl rfl
theorem okL_keeps {A : k_H} {x0 x1 x2 : Int} {r : Int} {A1 : k_H} (h : fL_keeps A x0 x1 x2 = some (r, A1)) : k_AMW 9 mL_keeps [(0, 9, 12, 13)] [(1, x0), (0, x1), (1, x2)] A r A1 :=
  k_AMW_of2 (ls := [(1, x0), (0, x1), (1, x2), (3, 0)]) (by decide +kernel) (by decide +kernel) (by decide) rfl (Nat.le_of_ble_eq_true rfl) ⟨Or.inr rfl, Or.inr rfl, Or.inr rfl, rfl, trivial⟩ (okL_keeps_b0 A x0 x1 x2 r A1 h)
/-! L_law -/
def fL_law_b1000 (k23 : k_H → Int → Int → Int → Int → Option (Int × k_H)) (A : k_H) (v1 v2 v3 v4 : Int) : Option (Int × k_H) := k23 A v1 v2 v3 (k_wr (v4 + 7))
def fL_law_b972 (k23 : k_H → Int → Int → Int → Int → Option (Int × k_H)) (A : k_H) (v1 v2 v3 v4 : Int) : Option (Int × k_H) := fL_law_b1000 k23 A v1 v2 v3 v4
def fL_law_b891 (k23 : k_H → Int → Int → Int → Int → Option (Int × k_H)) (A : k_H) (v1 v2 v3 v4 : Int) : Option (Int × k_H) := fL_law_b1000 k23 A v1 v2 v3 v4
def fL_law_h23 : Nat → k_H → Int → Int → Int → Int → Option (Int × k_H)
  | 0, _, _, _, _, _ => none
  | N + 1, A, v1, v2, v3, v4 => if (k_kd A (-2)).2 < 2147483648 then (if v4 ≤ k_wr (((k_kd A (-2)).2 : Int) - 7) then (if 0 ≤ v4 ∧ v4 < (k_kd A (-2)).2 then (if (k_and (k_rd A (-2) v4) 31) < 0 ∨ 19 < (k_and (k_rd A (-2) v4) 31) then (fL_law_b1000 (fL_law_h23 N) A v1 v2 v3 v4) else (if (k_and (k_rd A (-2) v4) 31) = 0 then (if 0 ≤ k_wr (v4 + 1) ∧ k_wr (v4 + 1) < (k_kd A (-2)).2 then (if 0 ≤ k_wr (v4 + 2) ∧ k_wr (v4 + 2) < (k_kd A (-2)).2 then (if 0 ≤ k_wr (v4 + 3) ∧ k_wr (v4 + 3) < (k_kd A (-2)).2 then (if 0 ≤ k_wr (v4 + 4) ∧ k_wr (v4 + 4) < (k_kd A (-2)).2 then (if 0 ≤ k_wr (v4 + 5) ∧ k_wr (v4 + 5) < (k_kd A (-2)).2 then (if k_isO A v1 8 then (k_bd (fX8_feed A v1 (k_rd A (-2) (k_wr (v4 + 1))) (k_rd A (-2) (k_wr (v4 + 2))) (k_rd A (-2) (k_wr (v4 + 3))) (k_rd A (-2) (k_wr (v4 + 4))) (k_rd A (-2) (k_wr (v4 + 5)))) fun r10 A11 => if 0 ≤ k_wr (v4 + 1) ∧ k_wr (v4 + 1) < (k_kd A11 (-2)).2 then (if 0 ≤ k_wr (v4 + 2) ∧ k_wr (v4 + 2) < (k_kd A11 (-2)).2 then (if 0 ≤ k_wr (v4 + 3) ∧ k_wr (v4 + 3) < (k_kd A11 (-2)).2 then (if 0 ≤ k_wr (v4 + 4) ∧ k_wr (v4 + 4) < (k_kd A11 (-2)).2 then (if 0 ≤ k_wr (v4 + 5) ∧ k_wr (v4 + 5) < (k_kd A11 (-2)).2 then (if k_isO A11 v2 9 then (k_bd (fX9_feed A11 v2 (k_rd A11 (-2) (k_wr (v4 + 1))) (k_rd A11 (-2) (k_wr (v4 + 2))) (k_rd A11 (-2) (k_wr (v4 + 3))) (k_rd A11 (-2) (k_wr (v4 + 4))) (k_rd A11 (-2) (k_wr (v4 + 5)))) fun r19 A20 => if r10 = r19 then (fL_law_b1000 (fL_law_h23 N) A20 v1 v2 v3 v4) else (some (0, A20))) else none) else none) else none) else none) else none) else none) else none) else none) else none) else none) else none) else none) else (if (k_and (k_rd A (-2) v4) 31) = 1 then (if 0 ≤ k_wr (v4 + 1) ∧ k_wr (v4 + 1) < (k_kd A (-2)).2 then (if k_isO A v1 8 then (k_bd (fX8_end A v1 (k_rd A (-2) (k_wr (v4 + 1)))) fun r26 A27 => if 0 ≤ k_wr (v4 + 1) ∧ k_wr (v4 + 1) < (k_kd A27 (-2)).2 then (if k_isO A27 v2 9 then (k_bd (fX9_end A27 v2 (k_rd A27 (-2) (k_wr (v4 + 1)))) fun r31 A32 => if r26 = r31 then (fL_law_b1000 (fL_law_h23 N) A32 v1 v2 v3 v4) else (some (0, A32))) else none) else none) else none) else none) else (if (k_and (k_rd A (-2) v4) 31) = 2 then (if 0 ≤ k_wr (v4 + 1) ∧ k_wr (v4 + 1) < (k_kd A (-2)).2 then (if 0 ≤ k_wr (v4 + 2) ∧ k_wr (v4 + 2) < (k_kd A (-2)).2 then (if 0 ≤ k_wr (v4 + 3) ∧ k_wr (v4 + 3) < (k_kd A (-2)).2 then (if 0 ≤ k_wr (v4 + 4) ∧ k_wr (v4 + 4) < (k_kd A (-2)).2 then (if k_isO A v1 8 then (k_bd (fX8_hall A v1 (k_rd A (-2) (k_wr (v4 + 1))) (k_rd A (-2) (k_wr (v4 + 2))) (k_rd A (-2) (k_wr (v4 + 3))) (k_rd A (-2) (k_wr (v4 + 4)))) fun r41 A42 => if 0 ≤ k_wr (v4 + 1) ∧ k_wr (v4 + 1) < (k_kd A42 (-2)).2 then (if 0 ≤ k_wr (v4 + 2) ∧ k_wr (v4 + 2) < (k_kd A42 (-2)).2 then (if 0 ≤ k_wr (v4 + 3) ∧ k_wr (v4 + 3) < (k_kd A42 (-2)).2 then (if 0 ≤ k_wr (v4 + 4) ∧ k_wr (v4 + 4) < (k_kd A42 (-2)).2 then (if k_isO A42 v2 9 then (k_bd (fX9_hall A42 v2 (k_rd A42 (-2) (k_wr (v4 + 1))) (k_rd A42 (-2) (k_wr (v4 + 2))) (k_rd A42 (-2) (k_wr (v4 + 3))) (k_rd A42 (-2) (k_wr (v4 + 4)))) fun r49 A50 => if r41 = r49 then (fL_law_b1000 (fL_law_h23 N) A50 v1 v2 v3 v4) else (some (0, A50))) else none) else none) else none) else none) else none) else none) else none) else none) else none) else none) else (if (k_and (k_rd A (-2) v4) 31) = 3 then (if 0 ≤ k_wr (v4 + 1) ∧ k_wr (v4 + 1) < (k_kd A (-2)).2 then (if 0 ≤ k_wr (v4 + 2) ∧ k_wr (v4 + 2) < (k_kd A (-2)).2 then (if 0 ≤ k_wr (v4 + 3) ∧ k_wr (v4 + 3) < (k_kd A (-2)).2 then (if 0 ≤ k_wr (v4 + 4) ∧ k_wr (v4 + 4) < (k_kd A (-2)).2 then (if 0 ≤ k_wr (v4 + 5) ∧ k_wr (v4 + 5) < (k_kd A (-2)).2 then (if 0 ≤ k_wr (v4 + 6) ∧ k_wr (v4 + 6) < (k_kd A (-2)).2 then (if k_isO A v1 8 then (k_bd (fX8_show A v1 (k_rd A (-2) (k_wr (v4 + 1))) (k_rd A (-2) (k_wr (v4 + 2))) (k_rd A (-2) (k_wr (v4 + 3))) (k_rd A (-2) (k_wr (v4 + 4))) (k_rd A (-2) (k_wr (v4 + 5))) (k_rd A (-2) (k_wr (v4 + 6)))) fun r61 A62 => if 0 ≤ k_wr (v4 + 1) ∧ k_wr (v4 + 1) < (k_kd A62 (-2)).2 then (if 0 ≤ k_wr (v4 + 2) ∧ k_wr (v4 + 2) < (k_kd A62 (-2)).2 then (if 0 ≤ k_wr (v4 + 3) ∧ k_wr (v4 + 3) < (k_kd A62 (-2)).2 then (if 0 ≤ k_wr (v4 + 4) ∧ k_wr (v4 + 4) < (k_kd A62 (-2)).2 then (if 0 ≤ k_wr (v4 + 5) ∧ k_wr (v4 + 5) < (k_kd A62 (-2)).2 then (if 0 ≤ k_wr (v4 + 6) ∧ k_wr (v4 + 6) < (k_kd A62 (-2)).2 then (if k_isO A62 v2 9 then (k_bd (fX9_show A62 v2 (k_rd A62 (-2) (k_wr (v4 + 1))) (k_rd A62 (-2) (k_wr (v4 + 2))) (k_rd A62 (-2) (k_wr (v4 + 3))) (k_rd A62 (-2) (k_wr (v4 + 4))) (k_rd A62 (-2) (k_wr (v4 + 5))) (k_rd A62 (-2) (k_wr (v4 + 6)))) fun r71 A72 => if r61 = r71 then (fL_law_b1000 (fL_law_h23 N) A72 v1 v2 v3 v4) else (some (0, A72))) else none) else none) else none) else none) else none) else none) else none) else none) else none) else none) else none) else none) else none) else none) else (if (k_and (k_rd A (-2) v4) 31) = 4 then (if 0 ≤ k_wr (v4 + 1) ∧ k_wr (v4 + 1) < (k_kd A (-2)).2 then (if 0 ≤ k_wr (v4 + 2) ∧ k_wr (v4 + 2) < (k_kd A (-2)).2 then (if 0 ≤ k_wr (v4 + 3) ∧ k_wr (v4 + 3) < (k_kd A (-2)).2 then (if k_isO A v1 8 then (k_bd (fX8_rewire A v1 (k_rd A (-2) (k_wr (v4 + 1))) (k_rd A (-2) (k_wr (v4 + 2))) (k_rd A (-2) (k_wr (v4 + 3)))) fun r80 A81 => if 0 ≤ k_wr (v4 + 1) ∧ k_wr (v4 + 1) < (k_kd A81 (-2)).2 then (if 0 ≤ k_wr (v4 + 2) ∧ k_wr (v4 + 2) < (k_kd A81 (-2)).2 then (if 0 ≤ k_wr (v4 + 3) ∧ k_wr (v4 + 3) < (k_kd A81 (-2)).2 then (if k_isO A81 v2 9 then (k_bd (fX9_rewire A81 v2 (k_rd A81 (-2) (k_wr (v4 + 1))) (k_rd A81 (-2) (k_wr (v4 + 2))) (k_rd A81 (-2) (k_wr (v4 + 3)))) fun r87 A88 => if r80 = r87 then (fL_law_b1000 (fL_law_h23 N) A88 v1 v2 v3 v4) else (some (0, A88))) else none) else none) else none) else none) else none) else none) else none) else none) else (if (k_and (k_rd A (-2) v4) 31) = 5 then (if 0 ≤ k_wr (v4 + 1) ∧ k_wr (v4 + 1) < (k_kd A (-2)).2 then (if 0 ≤ k_wr (v4 + 2) ∧ k_wr (v4 + 2) < (k_kd A (-2)).2 then (if 0 ≤ k_wr (v4 + 3) ∧ k_wr (v4 + 3) < (k_kd A (-2)).2 then (if k_isO A v1 8 then (k_bd (fX8_give A v1 (k_rd A (-2) (k_wr (v4 + 1))) (k_rd A (-2) (k_wr (v4 + 2))) (k_rd A (-2) (k_wr (v4 + 3)))) fun r96 A97 => if 0 ≤ k_wr (v4 + 1) ∧ k_wr (v4 + 1) < (k_kd A97 (-2)).2 then (if 0 ≤ k_wr (v4 + 2) ∧ k_wr (v4 + 2) < (k_kd A97 (-2)).2 then (if 0 ≤ k_wr (v4 + 3) ∧ k_wr (v4 + 3) < (k_kd A97 (-2)).2 then (if k_isO A97 v2 9 then (k_bd (fX9_give A97 v2 (k_rd A97 (-2) (k_wr (v4 + 1))) (k_rd A97 (-2) (k_wr (v4 + 2))) (k_rd A97 (-2) (k_wr (v4 + 3)))) fun r103 A104 => if r96 = r103 then (fL_law_b1000 (fL_law_h23 N) A104 v1 v2 v3 v4) else (some (0, A104))) else none) else none) else none) else none) else none) else none) else none) else none) else (if (k_and (k_rd A (-2) v4) 31) = 6 then (if 0 ≤ k_wr (v4 + 1) ∧ k_wr (v4 + 1) < (k_kd A (-2)).2 then (if 0 ≤ k_wr (v4 + 2) ∧ k_wr (v4 + 2) < (k_kd A (-2)).2 then (if k_isO A v1 8 then (k_bd (fX8_fits A v1 (k_rd A (-2) (k_wr (v4 + 1))) (k_rd A (-2) (k_wr (v4 + 2)))) fun r111 A112 => if 0 ≤ k_wr (v4 + 1) ∧ k_wr (v4 + 1) < (k_kd A112 (-2)).2 then (if 0 ≤ k_wr (v4 + 2) ∧ k_wr (v4 + 2) < (k_kd A112 (-2)).2 then (if k_isO A112 v2 9 then (k_bd (fX9_fits A112 v2 (k_rd A112 (-2) (k_wr (v4 + 1))) (k_rd A112 (-2) (k_wr (v4 + 2)))) fun r117 A118 => if r111 = r117 then (fL_law_b1000 (fL_law_h23 N) A118 v1 v2 v3 v4) else (some (0, A118))) else none) else none) else none) else none) else none) else none) else (if (k_and (k_rd A (-2) v4) 31) = 7 then (if 0 ≤ k_wr (v4 + 1) ∧ k_wr (v4 + 1) < (k_kd A (-2)).2 then (if 0 ≤ k_wr (v4 + 2) ∧ k_wr (v4 + 2) < (k_kd A (-2)).2 then (if 0 ≤ k_wr (v4 + 3) ∧ k_wr (v4 + 3) < (k_kd A (-2)).2 then (if k_isO A v1 8 then (k_bd (fX8_plugged A v1 (k_rd A (-2) (k_wr (v4 + 1))) (k_rd A (-2) (k_wr (v4 + 2))) (k_rd A (-2) (k_wr (v4 + 3)))) fun r126 A127 => if 0 ≤ k_wr (v4 + 1) ∧ k_wr (v4 + 1) < (k_kd A127 (-2)).2 then (if 0 ≤ k_wr (v4 + 2) ∧ k_wr (v4 + 2) < (k_kd A127 (-2)).2 then (if 0 ≤ k_wr (v4 + 3) ∧ k_wr (v4 + 3) < (k_kd A127 (-2)).2 then (if k_isO A127 v2 9 then (k_bd (fX9_plugged A127 v2 (k_rd A127 (-2) (k_wr (v4 + 1))) (k_rd A127 (-2) (k_wr (v4 + 2))) (k_rd A127 (-2) (k_wr (v4 + 3)))) fun r133 A134 => if r126 = r133 then (fL_law_b1000 (fL_law_h23 N) A134 v1 v2 v3 v4) else (some (0, A134))) else none) else none) else none) else none) else none) else none) else none) else none) else (if (k_and (k_rd A (-2) v4) 31) = 8 then (if 0 ≤ k_wr (v4 + 1) ∧ k_wr (v4 + 1) < (k_kd A (-2)).2 then (if 0 ≤ k_wr (v4 + 2) ∧ k_wr (v4 + 2) < (k_kd A (-2)).2 then (if k_isO A v1 8 then (k_bd (fX8_lacks A v1 (k_rd A (-2) (k_wr (v4 + 1))) (k_rd A (-2) (k_wr (v4 + 2)))) fun r141 A142 => if 0 ≤ k_wr (v4 + 1) ∧ k_wr (v4 + 1) < (k_kd A142 (-2)).2 then (if 0 ≤ k_wr (v4 + 2) ∧ k_wr (v4 + 2) < (k_kd A142 (-2)).2 then (if k_isO A142 v2 9 then (k_bd (fX9_lacks A142 v2 (k_rd A142 (-2) (k_wr (v4 + 1))) (k_rd A142 (-2) (k_wr (v4 + 2)))) fun r147 A148 => if r141 = r147 then (fL_law_b1000 (fL_law_h23 N) A148 v1 v2 v3 v4) else (some (0, A148))) else none) else none) else none) else none) else none) else none) else (if (k_and (k_rd A (-2) v4) 31) = 9 then (if 0 ≤ k_wr (v4 + 1) ∧ k_wr (v4 + 1) < (k_kd A (-2)).2 then (if k_isO A v1 8 then (k_bd (fX8_book A v1 (k_rd A (-2) (k_wr (v4 + 1)))) fun r154 A155 => if 0 ≤ k_wr (v4 + 1) ∧ k_wr (v4 + 1) < (k_kd A155 (-2)).2 then (if k_isO A155 v2 9 then (k_bd (fX9_book A155 v2 (k_rd A155 (-2) (k_wr (v4 + 1)))) fun r159 A160 => if r154 = r159 then (fL_law_b1000 (fL_law_h23 N) A160 v1 v2 v3 v4) else (some (0, A160))) else none) else none) else none) else none) else (if (k_and (k_rd A (-2) v4) 31) = 10 then (if 0 ≤ k_wr (v4 + 1) ∧ k_wr (v4 + 1) < (k_kd A (-2)).2 then (if 0 ≤ k_wr (v4 + 2) ∧ k_wr (v4 + 2) < (k_kd A (-2)).2 then (if k_isO A v1 8 then (k_bd (fX8_on A v1 (k_rd A (-2) (k_wr (v4 + 1))) (k_rd A (-2) (k_wr (v4 + 2)))) fun r167 A168 => if 0 ≤ k_wr (v4 + 1) ∧ k_wr (v4 + 1) < (k_kd A168 (-2)).2 then (if 0 ≤ k_wr (v4 + 2) ∧ k_wr (v4 + 2) < (k_kd A168 (-2)).2 then (if k_isO A168 v2 9 then (k_bd (fX9_on A168 v2 (k_rd A168 (-2) (k_wr (v4 + 1))) (k_rd A168 (-2) (k_wr (v4 + 2)))) fun r173 A174 => if r167 = r173 then (fL_law_b1000 (fL_law_h23 N) A174 v1 v2 v3 v4) else (some (0, A174))) else none) else none) else none) else none) else none) else none) else (if (k_and (k_rd A (-2) v4) 31) = 11 then (if 0 ≤ k_wr (v4 + 1) ∧ k_wr (v4 + 1) < (k_kd A (-2)).2 then (if 0 ≤ k_wr (v4 + 2) ∧ k_wr (v4 + 2) < (k_kd A (-2)).2 then (if k_isO A v1 8 then (k_bd (fX8_snow A v1 (k_rd A (-2) (k_wr (v4 + 1))) (k_rd A (-2) (k_wr (v4 + 2)))) fun r181 A182 => if 0 ≤ k_wr (v4 + 1) ∧ k_wr (v4 + 1) < (k_kd A182 (-2)).2 then (if 0 ≤ k_wr (v4 + 2) ∧ k_wr (v4 + 2) < (k_kd A182 (-2)).2 then (if k_isO A182 v2 9 then (k_bd (fX9_snow A182 v2 (k_rd A182 (-2) (k_wr (v4 + 1))) (k_rd A182 (-2) (k_wr (v4 + 2)))) fun r187 A188 => if r181 = r187 then (fL_law_b1000 (fL_law_h23 N) A188 v1 v2 v3 v4) else (some (0, A188))) else none) else none) else none) else none) else none) else none) else (if (k_and (k_rd A (-2) v4) 31) = 12 then (if 0 ≤ k_wr (v4 + 1) ∧ k_wr (v4 + 1) < (k_kd A (-2)).2 then (if k_isO A v1 8 then (k_bd (fX8_worth A v1 (k_rd A (-2) (k_wr (v4 + 1)))) fun r194 A195 => if 0 ≤ k_wr (v4 + 1) ∧ k_wr (v4 + 1) < (k_kd A195 (-2)).2 then (if k_isO A195 v2 9 then (k_bd (fX9_worth A195 v2 (k_rd A195 (-2) (k_wr (v4 + 1)))) fun r199 A200 => if r194 = r199 then (fL_law_b1000 (fL_law_h23 N) A200 v1 v2 v3 v4) else (some (0, A200))) else none) else none) else none) else none) else (if (k_and (k_rd A (-2) v4) 31) = 13 then (if 0 ≤ k_wr (v4 + 1) ∧ k_wr (v4 + 1) < (k_kd A (-2)).2 then (if k_isO A v1 8 then (k_bd (fX8_terms A v1 (k_rd A (-2) (k_wr (v4 + 1)))) fun r206 A207 => if 0 ≤ k_wr (v4 + 1) ∧ k_wr (v4 + 1) < (k_kd A207 (-2)).2 then (if k_isO A207 v2 9 then (k_bd (fX9_terms A207 v2 (k_rd A207 (-2) (k_wr (v4 + 1)))) fun r211 A212 => if r206 = r211 then (fL_law_b1000 (fL_law_h23 N) A212 v1 v2 v3 v4) else (some (0, A212))) else none) else none) else none) else none) else (if (k_and (k_rd A (-2) v4) 31) = 14 then (if k_isO A v1 8 then (k_bd (fX8_fault A v1) fun r217 A218 => if k_isO A218 v2 9 then (k_bd (fX9_fault A218 v2) fun r221 A222 => if r217 = r221 then (fL_law_b1000 (fL_law_h23 N) A222 v1 v2 v3 v4) else (some (0, A222))) else none) else none) else (if (k_and (k_rd A (-2) v4) 31) = 15 then (if 0 ≤ k_wr (v4 + 1) ∧ k_wr (v4 + 1) < (k_kd A (-2)).2 then (if 0 ≤ k_wr (v4 + 2) ∧ k_wr (v4 + 2) < (k_kd A (-2)).2 then (if 0 ≤ k_wr (v4 + 3) ∧ k_wr (v4 + 3) < (k_kd A (-2)).2 then (if k_isO A v1 8 then (k_bd (fX8_door A v1 (k_rd A (-2) (k_wr (v4 + 1))) (k_rd A (-2) (k_wr (v4 + 2))) (k_rd A (-2) (k_wr (v4 + 3)))) fun r230 A231 => if 0 ≤ k_wr (v4 + 1) ∧ k_wr (v4 + 1) < (k_kd A231 (-2)).2 then (if 0 ≤ k_wr (v4 + 2) ∧ k_wr (v4 + 2) < (k_kd A231 (-2)).2 then (if 0 ≤ k_wr (v4 + 3) ∧ k_wr (v4 + 3) < (k_kd A231 (-2)).2 then (if k_isO A231 v2 9 then (k_bd (fX9_door A231 v2 (k_rd A231 (-2) (k_wr (v4 + 1))) (k_rd A231 (-2) (k_wr (v4 + 2))) (k_rd A231 (-2) (k_wr (v4 + 3)))) fun r237 A238 => if r230 = r237 then (fL_law_b1000 (fL_law_h23 N) A238 v1 v2 v3 v4) else (some (0, A238))) else none) else none) else none) else none) else none) else none) else none) else none) else (if (k_and (k_rd A (-2) v4) 31) = 16 then (if 0 ≤ k_wr (v4 + 1) ∧ k_wr (v4 + 1) < (k_kd A (-2)).2 then (if 0 ≤ k_wr (v4 + 2) ∧ k_wr (v4 + 2) < (k_kd A (-2)).2 then (if 0 ≤ k_wr (v4 + 3) ∧ k_wr (v4 + 3) < (k_kd A (-2)).2 then (k_bd (fL_shared A v1 (k_rd A (-2) (k_wr (v4 + 1))) (k_rd A (-2) (k_wr (v4 + 2))) (k_rd A (-2) (k_wr (v4 + 3))) v3) fun r246 A247 => if 0 ≤ k_wr (v4 + 1) ∧ k_wr (v4 + 1) < (k_kd A247 (-2)).2 then (if 0 ≤ k_wr (v4 + 2) ∧ k_wr (v4 + 2) < (k_kd A247 (-2)).2 then (if 0 ≤ k_wr (v4 + 3) ∧ k_wr (v4 + 3) < (k_kd A247 (-2)).2 then (if k_isO A247 v2 9 then (k_bd (fX9_shared A247 v2 (k_rd A247 (-2) (k_wr (v4 + 1))) (k_rd A247 (-2) (k_wr (v4 + 2))) (k_rd A247 (-2) (k_wr (v4 + 3)))) fun r252 A253 => if k_isO A253 v2 9 then (k_bd (fX9_thrown A253 v2) fun r256 A257 => if r256 = r246 then (if r246 = 0 then (if k_isA A257 v3 22 0 then (if (if r252 < (k_rd A257 v3 0) then 1 else if (k_rd A257 v3 0) = r252 then 0 else -1) = 0 then (fL_law_b891 (fL_law_h23 N) A257 v1 v2 v3 v4) else (some (0, A257))) else none) else (fL_law_b891 (fL_law_h23 N) A257 v1 v2 v3 v4)) else (some (0, A257))) else none) else none) else none) else none) else none) else none) else none) else none) else (if (k_and (k_rd A (-2) v4) 31) = 17 then (if 0 ≤ k_wr (v4 + 1) ∧ k_wr (v4 + 1) < (k_kd A (-2)).2 then (if k_isO A v1 8 then (k_bd (fX8_sum A v1 (k_rd A (-2) (k_wr (v4 + 1)))) fun r266 A267 => if 0 ≤ k_wr (v4 + 1) ∧ k_wr (v4 + 1) < (k_kd A267 (-2)).2 then (if k_isO A267 v2 9 then (k_bd (fX9_sum A267 v2 (k_rd A267 (-2) (k_wr (v4 + 1)))) fun r271 A272 => if r266 = r271 then (fL_law_b1000 (fL_law_h23 N) A272 v1 v2 v3 v4) else (some (0, A272))) else none) else none) else none) else none) else (if (k_and (k_rd A (-2) v4) 31) = 18 then (if 0 ≤ k_wr (v4 + 1) ∧ k_wr (v4 + 1) < (k_kd A (-2)).2 then (k_bd (fL_keeps A v1 (k_rd A (-2) (k_wr (v4 + 1))) v3) fun r278 A279 => if 0 ≤ k_wr (v4 + 1) ∧ k_wr (v4 + 1) < (k_kd A279 (-2)).2 then (if k_isO A279 v2 9 then (k_bd (fX9_keeps A279 v2 (k_rd A279 (-2) (k_wr (v4 + 1)))) fun r282 A283 => if k_isO A283 v2 9 then (k_bd (fX9_thrown A283 v2) fun r286 A287 => if r286 = r278 then (if r278 = 0 then (if k_isA A287 v3 22 0 then (if (if r282 < (k_rd A287 v3 0) then 1 else if (k_rd A287 v3 0) = r282 then 0 else -1) = 0 then (fL_law_b972 (fL_law_h23 N) A287 v1 v2 v3 v4) else (some (0, A287))) else none) else (fL_law_b972 (fL_law_h23 N) A287 v1 v2 v3 v4)) else (some (0, A287))) else none) else none) else none) else none) else (if 0 ≤ k_wr (v4 + 1) ∧ k_wr (v4 + 1) < (k_kd A (-2)).2 then (if k_isO A v1 8 then (k_bd (fX8_count A v1 (k_rd A (-2) (k_wr (v4 + 1)))) fun r296 A297 => if 0 ≤ k_wr (v4 + 1) ∧ k_wr (v4 + 1) < (k_kd A297 (-2)).2 then (if k_isO A297 v2 9 then (k_bd (fX9_count A297 v2 (k_rd A297 (-2) (k_wr (v4 + 1)))) fun r301 A302 => if r296 = r301 then (fL_law_b1000 (fL_law_h23 N) A302 v1 v2 v3 v4) else (some (0, A302))) else none) else none) else none) else none))))))))))))))))))))) else none) else (some (1, A))) else none
def fL_law_b0 (A : k_H) : Option (Int × k_H) := k_lt (k_mk A 8 8) fun A1 => if 0 ≤ (k_N A : Int) then (k_bd (fX8_init A1 (k_N A : Int)) fun r3 A4 => if (k_N A : Int) ≠ -1 then (k_lt (k_mk A4 9 43) fun A8 => if 0 ≤ (k_N A4 : Int) then (k_bd (fX9_init A8 (k_N A4 : Int)) fun r10 A11 => if (k_N A4 : Int) ≠ -1 then (k_lt (k_mk A11 22 1) fun A15 => if (k_N A11 : Int) ≠ -1 then (fL_law_h23 k_FU A15 (k_N A : Int) (k_N A4 : Int) (k_N A11 : Int) 0) else none) else none) else none) else none) else none
set_option maxRecDepth 100000 in
theorem okL_law_b1000 (k23 : k_H → Int → Int → Int → Int → Option (Int × k_H)) (hk23 : ∀ (A : k_H) (v1 v2 v3 v4 : Int) (r : Int) (A' : k_H), k23 A v1 v2 v3 v4 = some (r, A') → k_AW 19 mL_law 23 [(1, (-2)), (1, v1), (1, v2), (1, v3), (0, v4), (3, 0), (3, 0)] [] A r A') (A : k_H) (v1 v2 v3 v4 : Int) (r : Int) (A' : k_H) (h : fL_law_b1000 k23 A v1 v2 v3 v4 = some (r, A')) : k_AW 19 mL_law 1000 [(1, (-2)), (1, v1), (1, v2), (1, v3), (0, v4), (3, 0), (3, 0)] [] A r A' := by
  unfold fL_law_b1000 at h
  refine k_iinc (pc := 1000) (x := v4) dL_law_1000 (Nat.le_of_ble_eq_true rfl) rfl rfl ?_
  show k_AW _ _ _ [(1, (-2)), (1, v1), (1, v2), (1, v3), (0, k_wr (v4 + 7)), (3, 0), (3, 0)] _ _ _ _
  refine k_goto (pc := 1003) (tgt := 23) dL_law_1003 rfl ?_
  refine k_sub (ls' := [(1, (-2)), (1, v1), (1, v2), (1, v3), (0, k_wr (v4 + 7)), (3, 0), (3, 0)]) (k_sbl_ok _ _ ⟨Or.inr rfl, Or.inr rfl, Or.inr rfl, Or.inr rfl, Or.inr rfl, Or.inl rfl, Or.inl rfl, trivial⟩) ?_
  exact hk23 _ _ _ _ _ _ _ h
set_option maxRecDepth 100000 in
theorem okL_law_b972 (k23 : k_H → Int → Int → Int → Int → Option (Int × k_H)) (hk23 : ∀ (A : k_H) (v1 v2 v3 v4 : Int) (r : Int) (A' : k_H), k23 A v1 v2 v3 v4 = some (r, A') → k_AW 19 mL_law 23 [(1, (-2)), (1, v1), (1, v2), (1, v3), (0, v4), (3, 0), (3, 0)] [] A r A') (A : k_H) (v1 v2 v3 v4 : Int) (r : Int) (A' : k_H) (h : fL_law_b972 k23 A v1 v2 v3 v4 = some (r, A')) : k_AW 19 mL_law 972 [(1, (-2)), (1, v1), (1, v2), (1, v3), (0, v4), (3, 0), (3, 0)] [] A r A' := by
  unfold fL_law_b972 at h
  refine k_goto (pc := 972) (tgt := 1000) dL_law_972 rfl ?_
  refine k_sub (ls' := [(1, (-2)), (1, v1), (1, v2), (1, v3), (0, v4), (3, 0), (3, 0)]) (k_sbl_ok _ _ ⟨Or.inr rfl, Or.inr rfl, Or.inr rfl, Or.inr rfl, Or.inr rfl, Or.inl rfl, Or.inl rfl, trivial⟩) ?_
  exact okL_law_b1000 k23 hk23 _ _ _ _ _ _ _ h
set_option maxRecDepth 100000 in
theorem okL_law_b891 (k23 : k_H → Int → Int → Int → Int → Option (Int × k_H)) (hk23 : ∀ (A : k_H) (v1 v2 v3 v4 : Int) (r : Int) (A' : k_H), k23 A v1 v2 v3 v4 = some (r, A') → k_AW 19 mL_law 23 [(1, (-2)), (1, v1), (1, v2), (1, v3), (0, v4), (3, 0), (3, 0)] [] A r A') (A : k_H) (v1 v2 v3 v4 : Int) (r : Int) (A' : k_H) (h : fL_law_b891 k23 A v1 v2 v3 v4 = some (r, A')) : k_AW 19 mL_law 891 [(1, (-2)), (1, v1), (1, v2), (1, v3), (0, v4), (3, 0), (3, 0)] [] A r A' := by
  unfold fL_law_b891 at h
  refine k_goto (pc := 891) (tgt := 1000) dL_law_891 rfl ?_
  refine k_sub (ls' := [(1, (-2)), (1, v1), (1, v2), (1, v3), (0, v4), (3, 0), (3, 0)]) (k_sbl_ok _ _ ⟨Or.inr rfl, Or.inr rfl, Or.inr rfl, Or.inr rfl, Or.inr rfl, Or.inl rfl, Or.inl rfl, trivial⟩) ?_
  exact okL_law_b1000 k23 hk23 _ _ _ _ _ _ _ h
set_option maxRecDepth 100000 in
theorem okL_law_h23 : ∀ (N : Nat) (A : k_H) (v1 v2 v3 v4 : Int) (r : Int) (A' : k_H), fL_law_h23 N A v1 v2 v3 v4 = some (r, A') → k_AW 19 mL_law 23 [(1, (-2)), (1, v1), (1, v2), (1, v3), (0, v4), (3, 0), (3, 0)] [] A r A' := by
  intro N
  induction N with
  | zero => intro A v1 v2 v3 v4 r A' h; exact absurd h (by simp [fL_law_h23])
  | succ N ih =>
    intro A v1 v2 v3 v4 r A' h
    rw [fL_law_h23] at h
    refine k_iload (pc := 23) (x := v4) dL_law_23 rfl ?_
    refine k_aload_n (pc := 25) (x := (-2)) dL_law_25 rfl rfl ?_
    obtain ⟨hc1, h⟩ := k_pk h
    refine k_slen (pc := 26) dL_law_26 hc1 ?_
    refine k_bipush (pc := 27) dL_law_27 ⟨by decide, by decide⟩ (by decide +kernel) ?_
    refine k_isub (pc := 29) dL_law_29 ?_
    refine k_icmp_gt (pc := 30) (tgt := 1006) dL_law_30 rfl (fun c2 => ?_) (fun c2 => ?_)
    · rw [if_neg (Int.not_le.mpr c2)] at h
      refine k_iconst (pc := 1006) dL_law_1006 ⟨by decide, by decide⟩ ?_
      obtain ⟨rfl, rfl⟩ := k_pr h
      exact k_ret (pc := 1007) dL_law_1007 rfl rfl (by decide +kernel)
    · rw [if_pos (Int.not_lt.mp c2)] at h
      refine k_aload_n (pc := 33) (x := (-2)) dL_law_33 rfl rfl ?_
      refine k_iload (pc := 34) (x := v4) dL_law_34 rfl ?_
      obtain ⟨hc3, h⟩ := k_pk h
      refine k_sld (pc := 36) dL_law_36 hc3.1 hc3.2 ?_
      refine k_bipush (pc := 37) dL_law_37 ⟨by decide, by decide⟩ (by decide +kernel) ?_
      refine k_iand (pc := 39) dL_law_39 ?_
      by_cases c4 : (k_and (k_rd A (-2) v4) 31) < 0 ∨ 19 < (k_and (k_rd A (-2) v4) 31)
      · rw [if_pos c4] at h
        refine k_swout (pc := 40) (tgt := 1000) dL_law_40 c4 rfl ?_
        refine k_sub (ls' := [(1, (-2)), (1, v1), (1, v2), (1, v3), (0, v4), (3, 0), (3, 0)]) (k_sbl_ok _ _ ⟨Or.inr rfl, Or.inr rfl, Or.inr rfl, Or.inr rfl, Or.inr rfl, Or.inl rfl, Or.inl rfl, trivial⟩) ?_
        exact okL_law_b1000 (fL_law_h23 N) ih _ _ _ _ _ _ _ h
      · rw [if_neg c4] at h
        by_cases c24 : (k_and (k_rd A (-2) v4) 31) = 0
        · rw [if_pos c24] at h
          refine k_swin (pc := 40) (off := 96) (tgt := 136) dL_law_40 (by omega) (by omega) (by rw [show (k_and (k_rd A (-2) v4) 31) = 0 by omega]; rfl) rfl ?_
          refine k_aload_n (pc := 136) (x := v1) dL_law_136 rfl rfl ?_
          refine k_aload_n (pc := 137) (x := (-2)) dL_law_137 rfl rfl ?_
          refine k_iload (pc := 138) (x := v4) dL_law_138 rfl ?_
          refine k_iconst (pc := 140) dL_law_140 ⟨by decide, by decide⟩ ?_
          refine k_iadd (pc := 141) dL_law_141 ?_
          obtain ⟨hc5, h⟩ := k_pk h
          refine k_sld (pc := 142) dL_law_142 hc5.1 hc5.2 ?_
          refine k_aload_n (pc := 143) (x := (-2)) dL_law_143 rfl rfl ?_
          refine k_iload (pc := 144) (x := v4) dL_law_144 rfl ?_
          refine k_iconst (pc := 146) dL_law_146 ⟨by decide, by decide⟩ ?_
          refine k_iadd (pc := 147) dL_law_147 ?_
          obtain ⟨hc6, h⟩ := k_pk h
          refine k_sld (pc := 148) dL_law_148 hc6.1 hc6.2 ?_
          refine k_aload_n (pc := 149) (x := (-2)) dL_law_149 rfl rfl ?_
          refine k_iload (pc := 150) (x := v4) dL_law_150 rfl ?_
          refine k_iconst (pc := 152) dL_law_152 ⟨by decide, by decide⟩ ?_
          refine k_iadd (pc := 153) dL_law_153 ?_
          obtain ⟨hc7, h⟩ := k_pk h
          refine k_sld (pc := 154) dL_law_154 hc7.1 hc7.2 ?_
          refine k_aload_n (pc := 155) (x := (-2)) dL_law_155 rfl rfl ?_
          refine k_iload (pc := 156) (x := v4) dL_law_156 rfl ?_
          refine k_iconst (pc := 158) dL_law_158 ⟨by decide, by decide⟩ ?_
          refine k_iadd (pc := 159) dL_law_159 ?_
          obtain ⟨hc8, h⟩ := k_pk h
          refine k_sld (pc := 160) dL_law_160 hc8.1 hc8.2 ?_
          refine k_aload_n (pc := 161) (x := (-2)) dL_law_161 rfl rfl ?_
          refine k_iload (pc := 162) (x := v4) dL_law_162 rfl ?_
          refine k_iconst (pc := 164) dL_law_164 ⟨by decide, by decide⟩ ?_
          refine k_iadd (pc := 165) dL_law_165 ?_
          obtain ⟨hc9, h⟩ := k_pk h
          refine k_sld (pc := 166) dL_law_166 hc9.1 hc9.2 ?_
          obtain ⟨hc13, h⟩ := k_pk h
          obtain ⟨r10, A11, hq12, h⟩ := k_pb h
          refine k_callV (pc := 167) (ci := 8) (a := v1) (as := [(0, (k_rd A (-2) (k_wr (v4 + 1)))), (0, (k_rd A (-2) (k_wr (v4 + 2)))), (0, (k_rd A (-2) (k_wr (v4 + 3)))), (0, (k_rd A (-2) (k_wr (v4 + 4)))), (0, (k_rd A (-2) (k_wr (v4 + 5))))]) (st := []) (st1 := [(0, r10)]) dL_law_167 cbX8_feed (k_gt 339 (by decide +kernel) (by decide +kernel)) cvX8_feed.1 cvX8_feed.2 rfl (by decide) hc13 (by omega) rfl (Nat.le_of_ble_eq_true rfl) (okX8_feed hq12) rfl ?_
          refine k_aload_n (pc := 170) (x := v2) dL_law_170 rfl rfl ?_
          refine k_aload_n (pc := 171) (x := (-2)) dL_law_171 rfl rfl ?_
          refine k_iload (pc := 172) (x := v4) dL_law_172 rfl ?_
          refine k_iconst (pc := 174) dL_law_174 ⟨by decide, by decide⟩ ?_
          refine k_iadd (pc := 175) dL_law_175 ?_
          obtain ⟨hc14, h⟩ := k_pk h
          refine k_sld (pc := 176) dL_law_176 hc14.1 hc14.2 ?_
          refine k_aload_n (pc := 177) (x := (-2)) dL_law_177 rfl rfl ?_
          refine k_iload (pc := 178) (x := v4) dL_law_178 rfl ?_
          refine k_iconst (pc := 180) dL_law_180 ⟨by decide, by decide⟩ ?_
          refine k_iadd (pc := 181) dL_law_181 ?_
          obtain ⟨hc15, h⟩ := k_pk h
          refine k_sld (pc := 182) dL_law_182 hc15.1 hc15.2 ?_
          refine k_aload_n (pc := 183) (x := (-2)) dL_law_183 rfl rfl ?_
          refine k_iload (pc := 184) (x := v4) dL_law_184 rfl ?_
          refine k_iconst (pc := 186) dL_law_186 ⟨by decide, by decide⟩ ?_
          refine k_iadd (pc := 187) dL_law_187 ?_
          obtain ⟨hc16, h⟩ := k_pk h
          refine k_sld (pc := 188) dL_law_188 hc16.1 hc16.2 ?_
          refine k_aload_n (pc := 189) (x := (-2)) dL_law_189 rfl rfl ?_
          refine k_iload (pc := 190) (x := v4) dL_law_190 rfl ?_
          refine k_iconst (pc := 192) dL_law_192 ⟨by decide, by decide⟩ ?_
          refine k_iadd (pc := 193) dL_law_193 ?_
          obtain ⟨hc17, h⟩ := k_pk h
          refine k_sld (pc := 194) dL_law_194 hc17.1 hc17.2 ?_
          refine k_aload_n (pc := 195) (x := (-2)) dL_law_195 rfl rfl ?_
          refine k_iload (pc := 196) (x := v4) dL_law_196 rfl ?_
          refine k_iconst (pc := 198) dL_law_198 ⟨by decide, by decide⟩ ?_
          refine k_iadd (pc := 199) dL_law_199 ?_
          obtain ⟨hc18, h⟩ := k_pk h
          refine k_sld (pc := 200) dL_law_200 hc18.1 hc18.2 ?_
          obtain ⟨hc22, h⟩ := k_pk h
          obtain ⟨r19, A20, hq21, h⟩ := k_pb h
          refine k_callV (pc := 201) (ci := 9) (a := v2) (as := [(0, (k_rd A11 (-2) (k_wr (v4 + 1)))), (0, (k_rd A11 (-2) (k_wr (v4 + 2)))), (0, (k_rd A11 (-2) (k_wr (v4 + 3)))), (0, (k_rd A11 (-2) (k_wr (v4 + 4)))), (0, (k_rd A11 (-2) (k_wr (v4 + 5))))]) (st := [(0, r10)]) (st1 := [(0, r19), (0, r10)]) dL_law_201 cbX9_feed (k_gt 1007 (by decide +kernel) (by decide +kernel)) cvX9_feed.1 cvX9_feed.2 rfl (by decide) hc22 (by omega) rfl (Nat.le_of_ble_eq_true rfl) (okX9_feed hq21) rfl ?_
          refine k_icmp_eq (pc := 204) (tgt := 1000) dL_law_204 rfl (fun c23 => ?_) (fun c23 => ?_)
          · rw [if_pos c23] at h
            refine k_sub (ls' := [(1, (-2)), (1, v1), (1, v2), (1, v3), (0, v4), (3, 0), (3, 0)]) (k_sbl_ok _ _ ⟨Or.inr rfl, Or.inr rfl, Or.inr rfl, Or.inr rfl, Or.inr rfl, Or.inl rfl, Or.inl rfl, trivial⟩) ?_
            exact okL_law_b1000 (fL_law_h23 N) ih _ _ _ _ _ _ _ h
          · rw [if_neg c23] at h
            refine k_iconst (pc := 207) dL_law_207 ⟨by decide, by decide⟩ ?_
            obtain ⟨rfl, rfl⟩ := k_pr h
            exact k_ret (pc := 208) dL_law_208 rfl rfl (by decide +kernel)
        · rw [if_neg c24] at h
          by_cases c36 : (k_and (k_rd A (-2) v4) 31) = 1
          · rw [if_pos c36] at h
            refine k_swin (pc := 40) (off := 169) (tgt := 209) dL_law_40 (by omega) (by omega) (by rw [show (k_and (k_rd A (-2) v4) 31) = 1 by omega]; rfl) rfl ?_
            refine k_aload_n (pc := 209) (x := v1) dL_law_209 rfl rfl ?_
            refine k_aload_n (pc := 210) (x := (-2)) dL_law_210 rfl rfl ?_
            refine k_iload (pc := 211) (x := v4) dL_law_211 rfl ?_
            refine k_iconst (pc := 213) dL_law_213 ⟨by decide, by decide⟩ ?_
            refine k_iadd (pc := 214) dL_law_214 ?_
            obtain ⟨hc25, h⟩ := k_pk h
            refine k_sld (pc := 215) dL_law_215 hc25.1 hc25.2 ?_
            obtain ⟨hc29, h⟩ := k_pk h
            obtain ⟨r26, A27, hq28, h⟩ := k_pb h
            refine k_callV (pc := 216) (ci := 8) (a := v1) (as := [(0, (k_rd A (-2) (k_wr (v4 + 1))))]) (st := []) (st1 := [(0, r26)]) dL_law_216 cbX8_end (k_gt 347 (by decide +kernel) (by decide +kernel)) cvX8_end.1 cvX8_end.2 rfl (by decide) hc29 (by omega) rfl (Nat.le_of_ble_eq_true rfl) (okX8_end hq28) rfl ?_
            refine k_aload_n (pc := 219) (x := v2) dL_law_219 rfl rfl ?_
            refine k_aload_n (pc := 220) (x := (-2)) dL_law_220 rfl rfl ?_
            refine k_iload (pc := 221) (x := v4) dL_law_221 rfl ?_
            refine k_iconst (pc := 223) dL_law_223 ⟨by decide, by decide⟩ ?_
            refine k_iadd (pc := 224) dL_law_224 ?_
            obtain ⟨hc30, h⟩ := k_pk h
            refine k_sld (pc := 225) dL_law_225 hc30.1 hc30.2 ?_
            obtain ⟨hc34, h⟩ := k_pk h
            obtain ⟨r31, A32, hq33, h⟩ := k_pb h
            refine k_callV (pc := 226) (ci := 9) (a := v2) (as := [(0, (k_rd A27 (-2) (k_wr (v4 + 1))))]) (st := [(0, r26)]) (st1 := [(0, r31), (0, r26)]) dL_law_226 cbX9_end (k_gt 1015 (by decide +kernel) (by decide +kernel)) cvX9_end.1 cvX9_end.2 rfl (by decide) hc34 (by omega) rfl (Nat.le_of_ble_eq_true rfl) (okX9_end hq33) rfl ?_
            refine k_icmp_eq (pc := 229) (tgt := 1000) dL_law_229 rfl (fun c35 => ?_) (fun c35 => ?_)
            · rw [if_pos c35] at h
              refine k_sub (ls' := [(1, (-2)), (1, v1), (1, v2), (1, v3), (0, v4), (3, 0), (3, 0)]) (k_sbl_ok _ _ ⟨Or.inr rfl, Or.inr rfl, Or.inr rfl, Or.inr rfl, Or.inr rfl, Or.inl rfl, Or.inl rfl, trivial⟩) ?_
              exact okL_law_b1000 (fL_law_h23 N) ih _ _ _ _ _ _ _ h
            · rw [if_neg c35] at h
              refine k_iconst (pc := 232) dL_law_232 ⟨by decide, by decide⟩ ?_
              obtain ⟨rfl, rfl⟩ := k_pr h
              exact k_ret (pc := 233) dL_law_233 rfl rfl (by decide +kernel)
          · rw [if_neg c36] at h
            by_cases c54 : (k_and (k_rd A (-2) v4) 31) = 2
            · rw [if_pos c54] at h
              refine k_swin (pc := 40) (off := 194) (tgt := 234) dL_law_40 (by omega) (by omega) (by rw [show (k_and (k_rd A (-2) v4) 31) = 2 by omega]; rfl) rfl ?_
              refine k_aload_n (pc := 234) (x := v1) dL_law_234 rfl rfl ?_
              refine k_aload_n (pc := 235) (x := (-2)) dL_law_235 rfl rfl ?_
              refine k_iload (pc := 236) (x := v4) dL_law_236 rfl ?_
              refine k_iconst (pc := 238) dL_law_238 ⟨by decide, by decide⟩ ?_
              refine k_iadd (pc := 239) dL_law_239 ?_
              obtain ⟨hc37, h⟩ := k_pk h
              refine k_sld (pc := 240) dL_law_240 hc37.1 hc37.2 ?_
              refine k_aload_n (pc := 241) (x := (-2)) dL_law_241 rfl rfl ?_
              refine k_iload (pc := 242) (x := v4) dL_law_242 rfl ?_
              refine k_iconst (pc := 244) dL_law_244 ⟨by decide, by decide⟩ ?_
              refine k_iadd (pc := 245) dL_law_245 ?_
              obtain ⟨hc38, h⟩ := k_pk h
              refine k_sld (pc := 246) dL_law_246 hc38.1 hc38.2 ?_
              refine k_aload_n (pc := 247) (x := (-2)) dL_law_247 rfl rfl ?_
              refine k_iload (pc := 248) (x := v4) dL_law_248 rfl ?_
              refine k_iconst (pc := 250) dL_law_250 ⟨by decide, by decide⟩ ?_
              refine k_iadd (pc := 251) dL_law_251 ?_
              obtain ⟨hc39, h⟩ := k_pk h
              refine k_sld (pc := 252) dL_law_252 hc39.1 hc39.2 ?_
              refine k_aload_n (pc := 253) (x := (-2)) dL_law_253 rfl rfl ?_
              refine k_iload (pc := 254) (x := v4) dL_law_254 rfl ?_
              refine k_iconst (pc := 256) dL_law_256 ⟨by decide, by decide⟩ ?_
              refine k_iadd (pc := 257) dL_law_257 ?_
              obtain ⟨hc40, h⟩ := k_pk h
              refine k_sld (pc := 258) dL_law_258 hc40.1 hc40.2 ?_
              obtain ⟨hc44, h⟩ := k_pk h
              obtain ⟨r41, A42, hq43, h⟩ := k_pb h
              refine k_callV (pc := 259) (ci := 8) (a := v1) (as := [(0, (k_rd A (-2) (k_wr (v4 + 1)))), (0, (k_rd A (-2) (k_wr (v4 + 2)))), (0, (k_rd A (-2) (k_wr (v4 + 3)))), (0, (k_rd A (-2) (k_wr (v4 + 4))))]) (st := []) (st1 := [(0, r41)]) dL_law_259 cbX8_hall (k_gt 351 (by decide +kernel) (by decide +kernel)) cvX8_hall.1 cvX8_hall.2 rfl (by decide) hc44 (by omega) rfl (Nat.le_of_ble_eq_true rfl) (okX8_hall hq43) rfl ?_
              refine k_aload_n (pc := 262) (x := v2) dL_law_262 rfl rfl ?_
              refine k_aload_n (pc := 263) (x := (-2)) dL_law_263 rfl rfl ?_
              refine k_iload (pc := 264) (x := v4) dL_law_264 rfl ?_
              refine k_iconst (pc := 266) dL_law_266 ⟨by decide, by decide⟩ ?_
              refine k_iadd (pc := 267) dL_law_267 ?_
              obtain ⟨hc45, h⟩ := k_pk h
              refine k_sld (pc := 268) dL_law_268 hc45.1 hc45.2 ?_
              refine k_aload_n (pc := 269) (x := (-2)) dL_law_269 rfl rfl ?_
              refine k_iload (pc := 270) (x := v4) dL_law_270 rfl ?_
              refine k_iconst (pc := 272) dL_law_272 ⟨by decide, by decide⟩ ?_
              refine k_iadd (pc := 273) dL_law_273 ?_
              obtain ⟨hc46, h⟩ := k_pk h
              refine k_sld (pc := 274) dL_law_274 hc46.1 hc46.2 ?_
              refine k_aload_n (pc := 275) (x := (-2)) dL_law_275 rfl rfl ?_
              refine k_iload (pc := 276) (x := v4) dL_law_276 rfl ?_
              refine k_iconst (pc := 278) dL_law_278 ⟨by decide, by decide⟩ ?_
              refine k_iadd (pc := 279) dL_law_279 ?_
              obtain ⟨hc47, h⟩ := k_pk h
              refine k_sld (pc := 280) dL_law_280 hc47.1 hc47.2 ?_
              refine k_aload_n (pc := 281) (x := (-2)) dL_law_281 rfl rfl ?_
              refine k_iload (pc := 282) (x := v4) dL_law_282 rfl ?_
              refine k_iconst (pc := 284) dL_law_284 ⟨by decide, by decide⟩ ?_
              refine k_iadd (pc := 285) dL_law_285 ?_
              obtain ⟨hc48, h⟩ := k_pk h
              refine k_sld (pc := 286) dL_law_286 hc48.1 hc48.2 ?_
              obtain ⟨hc52, h⟩ := k_pk h
              obtain ⟨r49, A50, hq51, h⟩ := k_pb h
              refine k_callV (pc := 287) (ci := 9) (a := v2) (as := [(0, (k_rd A42 (-2) (k_wr (v4 + 1)))), (0, (k_rd A42 (-2) (k_wr (v4 + 2)))), (0, (k_rd A42 (-2) (k_wr (v4 + 3)))), (0, (k_rd A42 (-2) (k_wr (v4 + 4))))]) (st := [(0, r41)]) (st1 := [(0, r49), (0, r41)]) dL_law_287 cbX9_hall (k_gt 1019 (by decide +kernel) (by decide +kernel)) cvX9_hall.1 cvX9_hall.2 rfl (by decide) hc52 (by omega) rfl (Nat.le_of_ble_eq_true rfl) (okX9_hall hq51) rfl ?_
              refine k_icmp_eq (pc := 290) (tgt := 1000) dL_law_290 rfl (fun c53 => ?_) (fun c53 => ?_)
              · rw [if_pos c53] at h
                refine k_sub (ls' := [(1, (-2)), (1, v1), (1, v2), (1, v3), (0, v4), (3, 0), (3, 0)]) (k_sbl_ok _ _ ⟨Or.inr rfl, Or.inr rfl, Or.inr rfl, Or.inr rfl, Or.inr rfl, Or.inl rfl, Or.inl rfl, trivial⟩) ?_
                exact okL_law_b1000 (fL_law_h23 N) ih _ _ _ _ _ _ _ h
              · rw [if_neg c53] at h
                refine k_iconst (pc := 293) dL_law_293 ⟨by decide, by decide⟩ ?_
                obtain ⟨rfl, rfl⟩ := k_pr h
                exact k_ret (pc := 294) dL_law_294 rfl rfl (by decide +kernel)
            · rw [if_neg c54] at h
              by_cases c76 : (k_and (k_rd A (-2) v4) 31) = 3
              · rw [if_pos c76] at h
                refine k_swin (pc := 40) (off := 255) (tgt := 295) dL_law_40 (by omega) (by omega) (by rw [show (k_and (k_rd A (-2) v4) 31) = 3 by omega]; rfl) rfl ?_
                refine k_aload_n (pc := 295) (x := v1) dL_law_295 rfl rfl ?_
                refine k_aload_n (pc := 296) (x := (-2)) dL_law_296 rfl rfl ?_
                refine k_iload (pc := 297) (x := v4) dL_law_297 rfl ?_
                refine k_iconst (pc := 299) dL_law_299 ⟨by decide, by decide⟩ ?_
                refine k_iadd (pc := 300) dL_law_300 ?_
                obtain ⟨hc55, h⟩ := k_pk h
                refine k_sld (pc := 301) dL_law_301 hc55.1 hc55.2 ?_
                refine k_aload_n (pc := 302) (x := (-2)) dL_law_302 rfl rfl ?_
                refine k_iload (pc := 303) (x := v4) dL_law_303 rfl ?_
                refine k_iconst (pc := 305) dL_law_305 ⟨by decide, by decide⟩ ?_
                refine k_iadd (pc := 306) dL_law_306 ?_
                obtain ⟨hc56, h⟩ := k_pk h
                refine k_sld (pc := 307) dL_law_307 hc56.1 hc56.2 ?_
                refine k_aload_n (pc := 308) (x := (-2)) dL_law_308 rfl rfl ?_
                refine k_iload (pc := 309) (x := v4) dL_law_309 rfl ?_
                refine k_iconst (pc := 311) dL_law_311 ⟨by decide, by decide⟩ ?_
                refine k_iadd (pc := 312) dL_law_312 ?_
                obtain ⟨hc57, h⟩ := k_pk h
                refine k_sld (pc := 313) dL_law_313 hc57.1 hc57.2 ?_
                refine k_aload_n (pc := 314) (x := (-2)) dL_law_314 rfl rfl ?_
                refine k_iload (pc := 315) (x := v4) dL_law_315 rfl ?_
                refine k_iconst (pc := 317) dL_law_317 ⟨by decide, by decide⟩ ?_
                refine k_iadd (pc := 318) dL_law_318 ?_
                obtain ⟨hc58, h⟩ := k_pk h
                refine k_sld (pc := 319) dL_law_319 hc58.1 hc58.2 ?_
                refine k_aload_n (pc := 320) (x := (-2)) dL_law_320 rfl rfl ?_
                refine k_iload (pc := 321) (x := v4) dL_law_321 rfl ?_
                refine k_iconst (pc := 323) dL_law_323 ⟨by decide, by decide⟩ ?_
                refine k_iadd (pc := 324) dL_law_324 ?_
                obtain ⟨hc59, h⟩ := k_pk h
                refine k_sld (pc := 325) dL_law_325 hc59.1 hc59.2 ?_
                refine k_aload_n (pc := 326) (x := (-2)) dL_law_326 rfl rfl ?_
                refine k_iload (pc := 327) (x := v4) dL_law_327 rfl ?_
                refine k_bipush (pc := 329) dL_law_329 ⟨by decide, by decide⟩ (by decide +kernel) ?_
                refine k_iadd (pc := 331) dL_law_331 ?_
                obtain ⟨hc60, h⟩ := k_pk h
                refine k_sld (pc := 332) dL_law_332 hc60.1 hc60.2 ?_
                obtain ⟨hc64, h⟩ := k_pk h
                obtain ⟨r61, A62, hq63, h⟩ := k_pb h
                refine k_callV (pc := 333) (ci := 8) (a := v1) (as := [(0, (k_rd A (-2) (k_wr (v4 + 1)))), (0, (k_rd A (-2) (k_wr (v4 + 2)))), (0, (k_rd A (-2) (k_wr (v4 + 3)))), (0, (k_rd A (-2) (k_wr (v4 + 4)))), (0, (k_rd A (-2) (k_wr (v4 + 5)))), (0, (k_rd A (-2) (k_wr (v4 + 6))))]) (st := []) (st1 := [(0, r61)]) dL_law_333 cbX8_show (k_gt 384 (by decide +kernel) (by decide +kernel)) cvX8_show.1 cvX8_show.2 rfl (by decide) hc64 (by omega) rfl (Nat.le_of_ble_eq_true rfl) (okX8_show hq63) rfl ?_
                refine k_aload_n (pc := 336) (x := v2) dL_law_336 rfl rfl ?_
                refine k_aload_n (pc := 337) (x := (-2)) dL_law_337 rfl rfl ?_
                refine k_iload (pc := 338) (x := v4) dL_law_338 rfl ?_
                refine k_iconst (pc := 340) dL_law_340 ⟨by decide, by decide⟩ ?_
                refine k_iadd (pc := 341) dL_law_341 ?_
                obtain ⟨hc65, h⟩ := k_pk h
                refine k_sld (pc := 342) dL_law_342 hc65.1 hc65.2 ?_
                refine k_aload_n (pc := 343) (x := (-2)) dL_law_343 rfl rfl ?_
                refine k_iload (pc := 344) (x := v4) dL_law_344 rfl ?_
                refine k_iconst (pc := 346) dL_law_346 ⟨by decide, by decide⟩ ?_
                refine k_iadd (pc := 347) dL_law_347 ?_
                obtain ⟨hc66, h⟩ := k_pk h
                refine k_sld (pc := 348) dL_law_348 hc66.1 hc66.2 ?_
                refine k_aload_n (pc := 349) (x := (-2)) dL_law_349 rfl rfl ?_
                refine k_iload (pc := 350) (x := v4) dL_law_350 rfl ?_
                refine k_iconst (pc := 352) dL_law_352 ⟨by decide, by decide⟩ ?_
                refine k_iadd (pc := 353) dL_law_353 ?_
                obtain ⟨hc67, h⟩ := k_pk h
                refine k_sld (pc := 354) dL_law_354 hc67.1 hc67.2 ?_
                refine k_aload_n (pc := 355) (x := (-2)) dL_law_355 rfl rfl ?_
                refine k_iload (pc := 356) (x := v4) dL_law_356 rfl ?_
                refine k_iconst (pc := 358) dL_law_358 ⟨by decide, by decide⟩ ?_
                refine k_iadd (pc := 359) dL_law_359 ?_
                obtain ⟨hc68, h⟩ := k_pk h
                refine k_sld (pc := 360) dL_law_360 hc68.1 hc68.2 ?_
                refine k_aload_n (pc := 361) (x := (-2)) dL_law_361 rfl rfl ?_
                refine k_iload (pc := 362) (x := v4) dL_law_362 rfl ?_
                refine k_iconst (pc := 364) dL_law_364 ⟨by decide, by decide⟩ ?_
                refine k_iadd (pc := 365) dL_law_365 ?_
                obtain ⟨hc69, h⟩ := k_pk h
                refine k_sld (pc := 366) dL_law_366 hc69.1 hc69.2 ?_
                refine k_aload_n (pc := 367) (x := (-2)) dL_law_367 rfl rfl ?_
                refine k_iload (pc := 368) (x := v4) dL_law_368 rfl ?_
                refine k_bipush (pc := 370) dL_law_370 ⟨by decide, by decide⟩ (by decide +kernel) ?_
                refine k_iadd (pc := 372) dL_law_372 ?_
                obtain ⟨hc70, h⟩ := k_pk h
                refine k_sld (pc := 373) dL_law_373 hc70.1 hc70.2 ?_
                obtain ⟨hc74, h⟩ := k_pk h
                obtain ⟨r71, A72, hq73, h⟩ := k_pb h
                refine k_callV (pc := 374) (ci := 9) (a := v2) (as := [(0, (k_rd A62 (-2) (k_wr (v4 + 1)))), (0, (k_rd A62 (-2) (k_wr (v4 + 2)))), (0, (k_rd A62 (-2) (k_wr (v4 + 3)))), (0, (k_rd A62 (-2) (k_wr (v4 + 4)))), (0, (k_rd A62 (-2) (k_wr (v4 + 5)))), (0, (k_rd A62 (-2) (k_wr (v4 + 6))))]) (st := [(0, r61)]) (st1 := [(0, r71), (0, r61)]) dL_law_374 cbX9_show (k_gt 1046 (by decide +kernel) (by decide +kernel)) cvX9_show.1 cvX9_show.2 rfl (by decide) hc74 (by omega) rfl (Nat.le_of_ble_eq_true rfl) (okX9_show hq73) rfl ?_
                refine k_icmp_eq (pc := 377) (tgt := 1000) dL_law_377 rfl (fun c75 => ?_) (fun c75 => ?_)
                · rw [if_pos c75] at h
                  refine k_sub (ls' := [(1, (-2)), (1, v1), (1, v2), (1, v3), (0, v4), (3, 0), (3, 0)]) (k_sbl_ok _ _ ⟨Or.inr rfl, Or.inr rfl, Or.inr rfl, Or.inr rfl, Or.inr rfl, Or.inl rfl, Or.inl rfl, trivial⟩) ?_
                  exact okL_law_b1000 (fL_law_h23 N) ih _ _ _ _ _ _ _ h
                · rw [if_neg c75] at h
                  refine k_iconst (pc := 380) dL_law_380 ⟨by decide, by decide⟩ ?_
                  obtain ⟨rfl, rfl⟩ := k_pr h
                  exact k_ret (pc := 381) dL_law_381 rfl rfl (by decide +kernel)
              · rw [if_neg c76] at h
                by_cases c92 : (k_and (k_rd A (-2) v4) 31) = 4
                · rw [if_pos c92] at h
                  refine k_swin (pc := 40) (off := 342) (tgt := 382) dL_law_40 (by omega) (by omega) (by rw [show (k_and (k_rd A (-2) v4) 31) = 4 by omega]; rfl) rfl ?_
                  refine k_aload_n (pc := 382) (x := v1) dL_law_382 rfl rfl ?_
                  refine k_aload_n (pc := 383) (x := (-2)) dL_law_383 rfl rfl ?_
                  refine k_iload (pc := 384) (x := v4) dL_law_384 rfl ?_
                  refine k_iconst (pc := 386) dL_law_386 ⟨by decide, by decide⟩ ?_
                  refine k_iadd (pc := 387) dL_law_387 ?_
                  obtain ⟨hc77, h⟩ := k_pk h
                  refine k_sld (pc := 388) dL_law_388 hc77.1 hc77.2 ?_
                  refine k_aload_n (pc := 389) (x := (-2)) dL_law_389 rfl rfl ?_
                  refine k_iload (pc := 390) (x := v4) dL_law_390 rfl ?_
                  refine k_iconst (pc := 392) dL_law_392 ⟨by decide, by decide⟩ ?_
                  refine k_iadd (pc := 393) dL_law_393 ?_
                  obtain ⟨hc78, h⟩ := k_pk h
                  refine k_sld (pc := 394) dL_law_394 hc78.1 hc78.2 ?_
                  refine k_aload_n (pc := 395) (x := (-2)) dL_law_395 rfl rfl ?_
                  refine k_iload (pc := 396) (x := v4) dL_law_396 rfl ?_
                  refine k_iconst (pc := 398) dL_law_398 ⟨by decide, by decide⟩ ?_
                  refine k_iadd (pc := 399) dL_law_399 ?_
                  obtain ⟨hc79, h⟩ := k_pk h
                  refine k_sld (pc := 400) dL_law_400 hc79.1 hc79.2 ?_
                  obtain ⟨hc83, h⟩ := k_pk h
                  obtain ⟨r80, A81, hq82, h⟩ := k_pb h
                  refine k_callV (pc := 401) (ci := 8) (a := v1) (as := [(0, (k_rd A (-2) (k_wr (v4 + 1)))), (0, (k_rd A (-2) (k_wr (v4 + 2)))), (0, (k_rd A (-2) (k_wr (v4 + 3))))]) (st := []) (st1 := [(0, r80)]) dL_law_401 cbX8_rewire (k_gt 400 (by decide +kernel) (by decide +kernel)) cvX8_rewire.1 cvX8_rewire.2 rfl (by decide) hc83 (by omega) rfl (Nat.le_of_ble_eq_true rfl) (okX8_rewire hq82) rfl ?_
                  refine k_aload_n (pc := 404) (x := v2) dL_law_404 rfl rfl ?_
                  refine k_aload_n (pc := 405) (x := (-2)) dL_law_405 rfl rfl ?_
                  refine k_iload (pc := 406) (x := v4) dL_law_406 rfl ?_
                  refine k_iconst (pc := 408) dL_law_408 ⟨by decide, by decide⟩ ?_
                  refine k_iadd (pc := 409) dL_law_409 ?_
                  obtain ⟨hc84, h⟩ := k_pk h
                  refine k_sld (pc := 410) dL_law_410 hc84.1 hc84.2 ?_
                  refine k_aload_n (pc := 411) (x := (-2)) dL_law_411 rfl rfl ?_
                  refine k_iload (pc := 412) (x := v4) dL_law_412 rfl ?_
                  refine k_iconst (pc := 414) dL_law_414 ⟨by decide, by decide⟩ ?_
                  refine k_iadd (pc := 415) dL_law_415 ?_
                  obtain ⟨hc85, h⟩ := k_pk h
                  refine k_sld (pc := 416) dL_law_416 hc85.1 hc85.2 ?_
                  refine k_aload_n (pc := 417) (x := (-2)) dL_law_417 rfl rfl ?_
                  refine k_iload (pc := 418) (x := v4) dL_law_418 rfl ?_
                  refine k_iconst (pc := 420) dL_law_420 ⟨by decide, by decide⟩ ?_
                  refine k_iadd (pc := 421) dL_law_421 ?_
                  obtain ⟨hc86, h⟩ := k_pk h
                  refine k_sld (pc := 422) dL_law_422 hc86.1 hc86.2 ?_
                  obtain ⟨hc90, h⟩ := k_pk h
                  obtain ⟨r87, A88, hq89, h⟩ := k_pb h
                  refine k_callV (pc := 423) (ci := 9) (a := v2) (as := [(0, (k_rd A81 (-2) (k_wr (v4 + 1)))), (0, (k_rd A81 (-2) (k_wr (v4 + 2)))), (0, (k_rd A81 (-2) (k_wr (v4 + 3))))]) (st := [(0, r80)]) (st1 := [(0, r87), (0, r80)]) dL_law_423 cbX9_rewire (k_gt 1038 (by decide +kernel) (by decide +kernel)) cvX9_rewire.1 cvX9_rewire.2 rfl (by decide) hc90 (by omega) rfl (Nat.le_of_ble_eq_true rfl) (okX9_rewire hq89) rfl ?_
                  refine k_icmp_eq (pc := 426) (tgt := 1000) dL_law_426 rfl (fun c91 => ?_) (fun c91 => ?_)
                  · rw [if_pos c91] at h
                    refine k_sub (ls' := [(1, (-2)), (1, v1), (1, v2), (1, v3), (0, v4), (3, 0), (3, 0)]) (k_sbl_ok _ _ ⟨Or.inr rfl, Or.inr rfl, Or.inr rfl, Or.inr rfl, Or.inr rfl, Or.inl rfl, Or.inl rfl, trivial⟩) ?_
                    exact okL_law_b1000 (fL_law_h23 N) ih _ _ _ _ _ _ _ h
                  · rw [if_neg c91] at h
                    refine k_iconst (pc := 429) dL_law_429 ⟨by decide, by decide⟩ ?_
                    obtain ⟨rfl, rfl⟩ := k_pr h
                    exact k_ret (pc := 430) dL_law_430 rfl rfl (by decide +kernel)
                · rw [if_neg c92] at h
                  by_cases c108 : (k_and (k_rd A (-2) v4) 31) = 5
                  · rw [if_pos c108] at h
                    refine k_swin (pc := 40) (off := 391) (tgt := 431) dL_law_40 (by omega) (by omega) (by rw [show (k_and (k_rd A (-2) v4) 31) = 5 by omega]; rfl) rfl ?_
                    refine k_aload_n (pc := 431) (x := v1) dL_law_431 rfl rfl ?_
                    refine k_aload_n (pc := 432) (x := (-2)) dL_law_432 rfl rfl ?_
                    refine k_iload (pc := 433) (x := v4) dL_law_433 rfl ?_
                    refine k_iconst (pc := 435) dL_law_435 ⟨by decide, by decide⟩ ?_
                    refine k_iadd (pc := 436) dL_law_436 ?_
                    obtain ⟨hc93, h⟩ := k_pk h
                    refine k_sld (pc := 437) dL_law_437 hc93.1 hc93.2 ?_
                    refine k_aload_n (pc := 438) (x := (-2)) dL_law_438 rfl rfl ?_
                    refine k_iload (pc := 439) (x := v4) dL_law_439 rfl ?_
                    refine k_iconst (pc := 441) dL_law_441 ⟨by decide, by decide⟩ ?_
                    refine k_iadd (pc := 442) dL_law_442 ?_
                    obtain ⟨hc94, h⟩ := k_pk h
                    refine k_sld (pc := 443) dL_law_443 hc94.1 hc94.2 ?_
                    refine k_aload_n (pc := 444) (x := (-2)) dL_law_444 rfl rfl ?_
                    refine k_iload (pc := 445) (x := v4) dL_law_445 rfl ?_
                    refine k_iconst (pc := 447) dL_law_447 ⟨by decide, by decide⟩ ?_
                    refine k_iadd (pc := 448) dL_law_448 ?_
                    obtain ⟨hc95, h⟩ := k_pk h
                    refine k_sld (pc := 449) dL_law_449 hc95.1 hc95.2 ?_
                    obtain ⟨hc99, h⟩ := k_pk h
                    obtain ⟨r96, A97, hq98, h⟩ := k_pb h
                    refine k_callV (pc := 450) (ci := 8) (a := v1) (as := [(0, (k_rd A (-2) (k_wr (v4 + 1)))), (0, (k_rd A (-2) (k_wr (v4 + 2)))), (0, (k_rd A (-2) (k_wr (v4 + 3))))]) (st := []) (st1 := [(0, r96)]) dL_law_450 cbX8_give (k_gt 408 (by decide +kernel) (by decide +kernel)) cvX8_give.1 cvX8_give.2 rfl (by decide) hc99 (by omega) rfl (Nat.le_of_ble_eq_true rfl) (okX8_give hq98) rfl ?_
                    refine k_aload_n (pc := 453) (x := v2) dL_law_453 rfl rfl ?_
                    refine k_aload_n (pc := 454) (x := (-2)) dL_law_454 rfl rfl ?_
                    refine k_iload (pc := 455) (x := v4) dL_law_455 rfl ?_
                    refine k_iconst (pc := 457) dL_law_457 ⟨by decide, by decide⟩ ?_
                    refine k_iadd (pc := 458) dL_law_458 ?_
                    obtain ⟨hc100, h⟩ := k_pk h
                    refine k_sld (pc := 459) dL_law_459 hc100.1 hc100.2 ?_
                    refine k_aload_n (pc := 460) (x := (-2)) dL_law_460 rfl rfl ?_
                    refine k_iload (pc := 461) (x := v4) dL_law_461 rfl ?_
                    refine k_iconst (pc := 463) dL_law_463 ⟨by decide, by decide⟩ ?_
                    refine k_iadd (pc := 464) dL_law_464 ?_
                    obtain ⟨hc101, h⟩ := k_pk h
                    refine k_sld (pc := 465) dL_law_465 hc101.1 hc101.2 ?_
                    refine k_aload_n (pc := 466) (x := (-2)) dL_law_466 rfl rfl ?_
                    refine k_iload (pc := 467) (x := v4) dL_law_467 rfl ?_
                    refine k_iconst (pc := 469) dL_law_469 ⟨by decide, by decide⟩ ?_
                    refine k_iadd (pc := 470) dL_law_470 ?_
                    obtain ⟨hc102, h⟩ := k_pk h
                    refine k_sld (pc := 471) dL_law_471 hc102.1 hc102.2 ?_
                    obtain ⟨hc106, h⟩ := k_pk h
                    obtain ⟨r103, A104, hq105, h⟩ := k_pb h
                    refine k_callV (pc := 472) (ci := 9) (a := v2) (as := [(0, (k_rd A97 (-2) (k_wr (v4 + 1)))), (0, (k_rd A97 (-2) (k_wr (v4 + 2)))), (0, (k_rd A97 (-2) (k_wr (v4 + 3))))]) (st := [(0, r96)]) (st1 := [(0, r103), (0, r96)]) dL_law_472 cbX9_give (k_gt 1050 (by decide +kernel) (by decide +kernel)) cvX9_give.1 cvX9_give.2 rfl (by decide) hc106 (by omega) rfl (Nat.le_of_ble_eq_true rfl) (okX9_give hq105) rfl ?_
                    refine k_icmp_eq (pc := 475) (tgt := 1000) dL_law_475 rfl (fun c107 => ?_) (fun c107 => ?_)
                    · rw [if_pos c107] at h
                      refine k_sub (ls' := [(1, (-2)), (1, v1), (1, v2), (1, v3), (0, v4), (3, 0), (3, 0)]) (k_sbl_ok _ _ ⟨Or.inr rfl, Or.inr rfl, Or.inr rfl, Or.inr rfl, Or.inr rfl, Or.inl rfl, Or.inl rfl, trivial⟩) ?_
                      exact okL_law_b1000 (fL_law_h23 N) ih _ _ _ _ _ _ _ h
                    · rw [if_neg c107] at h
                      refine k_iconst (pc := 478) dL_law_478 ⟨by decide, by decide⟩ ?_
                      obtain ⟨rfl, rfl⟩ := k_pr h
                      exact k_ret (pc := 479) dL_law_479 rfl rfl (by decide +kernel)
                  · rw [if_neg c108] at h
                    by_cases c122 : (k_and (k_rd A (-2) v4) 31) = 6
                    · rw [if_pos c122] at h
                      refine k_swin (pc := 40) (off := 440) (tgt := 480) dL_law_40 (by omega) (by omega) (by rw [show (k_and (k_rd A (-2) v4) 31) = 6 by omega]; rfl) rfl ?_
                      refine k_aload_n (pc := 480) (x := v1) dL_law_480 rfl rfl ?_
                      refine k_aload_n (pc := 481) (x := (-2)) dL_law_481 rfl rfl ?_
                      refine k_iload (pc := 482) (x := v4) dL_law_482 rfl ?_
                      refine k_iconst (pc := 484) dL_law_484 ⟨by decide, by decide⟩ ?_
                      refine k_iadd (pc := 485) dL_law_485 ?_
                      obtain ⟨hc109, h⟩ := k_pk h
                      refine k_sld (pc := 486) dL_law_486 hc109.1 hc109.2 ?_
                      refine k_aload_n (pc := 487) (x := (-2)) dL_law_487 rfl rfl ?_
                      refine k_iload (pc := 488) (x := v4) dL_law_488 rfl ?_
                      refine k_iconst (pc := 490) dL_law_490 ⟨by decide, by decide⟩ ?_
                      refine k_iadd (pc := 491) dL_law_491 ?_
                      obtain ⟨hc110, h⟩ := k_pk h
                      refine k_sld (pc := 492) dL_law_492 hc110.1 hc110.2 ?_
                      obtain ⟨hc114, h⟩ := k_pk h
                      obtain ⟨r111, A112, hq113, h⟩ := k_pb h
                      refine k_callV (pc := 493) (ci := 8) (a := v1) (as := [(0, (k_rd A (-2) (k_wr (v4 + 1)))), (0, (k_rd A (-2) (k_wr (v4 + 2))))]) (st := []) (st1 := [(0, r111)]) dL_law_493 cbX8_fits (k_gt 420 (by decide +kernel) (by decide +kernel)) cvX8_fits.1 cvX8_fits.2 rfl (by decide) hc114 (by omega) rfl (Nat.le_of_ble_eq_true rfl) (okX8_fits hq113) rfl ?_
                      refine k_aload_n (pc := 496) (x := v2) dL_law_496 rfl rfl ?_
                      refine k_aload_n (pc := 497) (x := (-2)) dL_law_497 rfl rfl ?_
                      refine k_iload (pc := 498) (x := v4) dL_law_498 rfl ?_
                      refine k_iconst (pc := 500) dL_law_500 ⟨by decide, by decide⟩ ?_
                      refine k_iadd (pc := 501) dL_law_501 ?_
                      obtain ⟨hc115, h⟩ := k_pk h
                      refine k_sld (pc := 502) dL_law_502 hc115.1 hc115.2 ?_
                      refine k_aload_n (pc := 503) (x := (-2)) dL_law_503 rfl rfl ?_
                      refine k_iload (pc := 504) (x := v4) dL_law_504 rfl ?_
                      refine k_iconst (pc := 506) dL_law_506 ⟨by decide, by decide⟩ ?_
                      refine k_iadd (pc := 507) dL_law_507 ?_
                      obtain ⟨hc116, h⟩ := k_pk h
                      refine k_sld (pc := 508) dL_law_508 hc116.1 hc116.2 ?_
                      obtain ⟨hc120, h⟩ := k_pk h
                      obtain ⟨r117, A118, hq119, h⟩ := k_pb h
                      refine k_callV (pc := 509) (ci := 9) (a := v2) (as := [(0, (k_rd A112 (-2) (k_wr (v4 + 1)))), (0, (k_rd A112 (-2) (k_wr (v4 + 2))))]) (st := [(0, r111)]) (st1 := [(0, r117), (0, r111)]) dL_law_509 cbX9_fits (k_gt 1058 (by decide +kernel) (by decide +kernel)) cvX9_fits.1 cvX9_fits.2 rfl (by decide) hc120 (by omega) rfl (Nat.le_of_ble_eq_true rfl) (okX9_fits hq119) rfl ?_
                      refine k_icmp_eq (pc := 512) (tgt := 1000) dL_law_512 rfl (fun c121 => ?_) (fun c121 => ?_)
                      · rw [if_pos c121] at h
                        refine k_sub (ls' := [(1, (-2)), (1, v1), (1, v2), (1, v3), (0, v4), (3, 0), (3, 0)]) (k_sbl_ok _ _ ⟨Or.inr rfl, Or.inr rfl, Or.inr rfl, Or.inr rfl, Or.inr rfl, Or.inl rfl, Or.inl rfl, trivial⟩) ?_
                        exact okL_law_b1000 (fL_law_h23 N) ih _ _ _ _ _ _ _ h
                      · rw [if_neg c121] at h
                        refine k_iconst (pc := 515) dL_law_515 ⟨by decide, by decide⟩ ?_
                        obtain ⟨rfl, rfl⟩ := k_pr h
                        exact k_ret (pc := 516) dL_law_516 rfl rfl (by decide +kernel)
                    · rw [if_neg c122] at h
                      by_cases c138 : (k_and (k_rd A (-2) v4) 31) = 7
                      · rw [if_pos c138] at h
                        refine k_swin (pc := 40) (off := 477) (tgt := 517) dL_law_40 (by omega) (by omega) (by rw [show (k_and (k_rd A (-2) v4) 31) = 7 by omega]; rfl) rfl ?_
                        refine k_aload_n (pc := 517) (x := v1) dL_law_517 rfl rfl ?_
                        refine k_aload_n (pc := 518) (x := (-2)) dL_law_518 rfl rfl ?_
                        refine k_iload (pc := 519) (x := v4) dL_law_519 rfl ?_
                        refine k_iconst (pc := 521) dL_law_521 ⟨by decide, by decide⟩ ?_
                        refine k_iadd (pc := 522) dL_law_522 ?_
                        obtain ⟨hc123, h⟩ := k_pk h
                        refine k_sld (pc := 523) dL_law_523 hc123.1 hc123.2 ?_
                        refine k_aload_n (pc := 524) (x := (-2)) dL_law_524 rfl rfl ?_
                        refine k_iload (pc := 525) (x := v4) dL_law_525 rfl ?_
                        refine k_iconst (pc := 527) dL_law_527 ⟨by decide, by decide⟩ ?_
                        refine k_iadd (pc := 528) dL_law_528 ?_
                        obtain ⟨hc124, h⟩ := k_pk h
                        refine k_sld (pc := 529) dL_law_529 hc124.1 hc124.2 ?_
                        refine k_aload_n (pc := 530) (x := (-2)) dL_law_530 rfl rfl ?_
                        refine k_iload (pc := 531) (x := v4) dL_law_531 rfl ?_
                        refine k_iconst (pc := 533) dL_law_533 ⟨by decide, by decide⟩ ?_
                        refine k_iadd (pc := 534) dL_law_534 ?_
                        obtain ⟨hc125, h⟩ := k_pk h
                        refine k_sld (pc := 535) dL_law_535 hc125.1 hc125.2 ?_
                        obtain ⟨hc129, h⟩ := k_pk h
                        obtain ⟨r126, A127, hq128, h⟩ := k_pb h
                        refine k_callV (pc := 536) (ci := 8) (a := v1) (as := [(0, (k_rd A (-2) (k_wr (v4 + 1)))), (0, (k_rd A (-2) (k_wr (v4 + 2)))), (0, (k_rd A (-2) (k_wr (v4 + 3))))]) (st := []) (st1 := [(0, r126)]) dL_law_536 cbX8_plugged (k_gt 457 (by decide +kernel) (by decide +kernel)) cvX8_plugged.1 cvX8_plugged.2 rfl (by decide) hc129 (by omega) rfl (Nat.le_of_ble_eq_true rfl) (okX8_plugged hq128) rfl ?_
                        refine k_aload_n (pc := 539) (x := v2) dL_law_539 rfl rfl ?_
                        refine k_aload_n (pc := 540) (x := (-2)) dL_law_540 rfl rfl ?_
                        refine k_iload (pc := 541) (x := v4) dL_law_541 rfl ?_
                        refine k_iconst (pc := 543) dL_law_543 ⟨by decide, by decide⟩ ?_
                        refine k_iadd (pc := 544) dL_law_544 ?_
                        obtain ⟨hc130, h⟩ := k_pk h
                        refine k_sld (pc := 545) dL_law_545 hc130.1 hc130.2 ?_
                        refine k_aload_n (pc := 546) (x := (-2)) dL_law_546 rfl rfl ?_
                        refine k_iload (pc := 547) (x := v4) dL_law_547 rfl ?_
                        refine k_iconst (pc := 549) dL_law_549 ⟨by decide, by decide⟩ ?_
                        refine k_iadd (pc := 550) dL_law_550 ?_
                        obtain ⟨hc131, h⟩ := k_pk h
                        refine k_sld (pc := 551) dL_law_551 hc131.1 hc131.2 ?_
                        refine k_aload_n (pc := 552) (x := (-2)) dL_law_552 rfl rfl ?_
                        refine k_iload (pc := 553) (x := v4) dL_law_553 rfl ?_
                        refine k_iconst (pc := 555) dL_law_555 ⟨by decide, by decide⟩ ?_
                        refine k_iadd (pc := 556) dL_law_556 ?_
                        obtain ⟨hc132, h⟩ := k_pk h
                        refine k_sld (pc := 557) dL_law_557 hc132.1 hc132.2 ?_
                        obtain ⟨hc136, h⟩ := k_pk h
                        obtain ⟨r133, A134, hq135, h⟩ := k_pb h
                        refine k_callV (pc := 558) (ci := 9) (a := v2) (as := [(0, (k_rd A127 (-2) (k_wr (v4 + 1)))), (0, (k_rd A127 (-2) (k_wr (v4 + 2)))), (0, (k_rd A127 (-2) (k_wr (v4 + 3))))]) (st := [(0, r126)]) (st1 := [(0, r133), (0, r126)]) dL_law_558 cbX9_plugged (k_gt 1070 (by decide +kernel) (by decide +kernel)) cvX9_plugged.1 cvX9_plugged.2 rfl (by decide) hc136 (by omega) rfl (Nat.le_of_ble_eq_true rfl) (okX9_plugged hq135) rfl ?_
                        refine k_icmp_eq (pc := 561) (tgt := 1000) dL_law_561 rfl (fun c137 => ?_) (fun c137 => ?_)
                        · rw [if_pos c137] at h
                          refine k_sub (ls' := [(1, (-2)), (1, v1), (1, v2), (1, v3), (0, v4), (3, 0), (3, 0)]) (k_sbl_ok _ _ ⟨Or.inr rfl, Or.inr rfl, Or.inr rfl, Or.inr rfl, Or.inr rfl, Or.inl rfl, Or.inl rfl, trivial⟩) ?_
                          exact okL_law_b1000 (fL_law_h23 N) ih _ _ _ _ _ _ _ h
                        · rw [if_neg c137] at h
                          refine k_iconst (pc := 564) dL_law_564 ⟨by decide, by decide⟩ ?_
                          obtain ⟨rfl, rfl⟩ := k_pr h
                          exact k_ret (pc := 565) dL_law_565 rfl rfl (by decide +kernel)
                      · rw [if_neg c138] at h
                        by_cases c152 : (k_and (k_rd A (-2) v4) 31) = 8
                        · rw [if_pos c152] at h
                          refine k_swin (pc := 40) (off := 526) (tgt := 566) dL_law_40 (by omega) (by omega) (by rw [show (k_and (k_rd A (-2) v4) 31) = 8 by omega]; rfl) rfl ?_
                          refine k_aload_n (pc := 566) (x := v1) dL_law_566 rfl rfl ?_
                          refine k_aload_n (pc := 567) (x := (-2)) dL_law_567 rfl rfl ?_
                          refine k_iload (pc := 568) (x := v4) dL_law_568 rfl ?_
                          refine k_iconst (pc := 570) dL_law_570 ⟨by decide, by decide⟩ ?_
                          refine k_iadd (pc := 571) dL_law_571 ?_
                          obtain ⟨hc139, h⟩ := k_pk h
                          refine k_sld (pc := 572) dL_law_572 hc139.1 hc139.2 ?_
                          refine k_aload_n (pc := 573) (x := (-2)) dL_law_573 rfl rfl ?_
                          refine k_iload (pc := 574) (x := v4) dL_law_574 rfl ?_
                          refine k_iconst (pc := 576) dL_law_576 ⟨by decide, by decide⟩ ?_
                          refine k_iadd (pc := 577) dL_law_577 ?_
                          obtain ⟨hc140, h⟩ := k_pk h
                          refine k_sld (pc := 578) dL_law_578 hc140.1 hc140.2 ?_
                          obtain ⟨hc144, h⟩ := k_pk h
                          obtain ⟨r141, A142, hq143, h⟩ := k_pb h
                          refine k_callV (pc := 579) (ci := 8) (a := v1) (as := [(0, (k_rd A (-2) (k_wr (v4 + 1)))), (0, (k_rd A (-2) (k_wr (v4 + 2))))]) (st := []) (st1 := [(0, r141)]) dL_law_579 cbX8_lacks (k_gt 465 (by decide +kernel) (by decide +kernel)) cvX8_lacks.1 cvX8_lacks.2 rfl (by decide) hc144 (by omega) rfl (Nat.le_of_ble_eq_true rfl) (okX8_lacks hq143) rfl ?_
                          refine k_aload_n (pc := 582) (x := v2) dL_law_582 rfl rfl ?_
                          refine k_aload_n (pc := 583) (x := (-2)) dL_law_583 rfl rfl ?_
                          refine k_iload (pc := 584) (x := v4) dL_law_584 rfl ?_
                          refine k_iconst (pc := 586) dL_law_586 ⟨by decide, by decide⟩ ?_
                          refine k_iadd (pc := 587) dL_law_587 ?_
                          obtain ⟨hc145, h⟩ := k_pk h
                          refine k_sld (pc := 588) dL_law_588 hc145.1 hc145.2 ?_
                          refine k_aload_n (pc := 589) (x := (-2)) dL_law_589 rfl rfl ?_
                          refine k_iload (pc := 590) (x := v4) dL_law_590 rfl ?_
                          refine k_iconst (pc := 592) dL_law_592 ⟨by decide, by decide⟩ ?_
                          refine k_iadd (pc := 593) dL_law_593 ?_
                          obtain ⟨hc146, h⟩ := k_pk h
                          refine k_sld (pc := 594) dL_law_594 hc146.1 hc146.2 ?_
                          obtain ⟨hc150, h⟩ := k_pk h
                          obtain ⟨r147, A148, hq149, h⟩ := k_pb h
                          refine k_callV (pc := 595) (ci := 9) (a := v2) (as := [(0, (k_rd A142 (-2) (k_wr (v4 + 1)))), (0, (k_rd A142 (-2) (k_wr (v4 + 2))))]) (st := [(0, r141)]) (st1 := [(0, r147), (0, r141)]) dL_law_595 cbX9_lacks (k_gt 1074 (by decide +kernel) (by decide +kernel)) cvX9_lacks.1 cvX9_lacks.2 rfl (by decide) hc150 (by omega) rfl (Nat.le_of_ble_eq_true rfl) (okX9_lacks hq149) rfl ?_
                          refine k_icmp_eq (pc := 598) (tgt := 1000) dL_law_598 rfl (fun c151 => ?_) (fun c151 => ?_)
                          · rw [if_pos c151] at h
                            refine k_sub (ls' := [(1, (-2)), (1, v1), (1, v2), (1, v3), (0, v4), (3, 0), (3, 0)]) (k_sbl_ok _ _ ⟨Or.inr rfl, Or.inr rfl, Or.inr rfl, Or.inr rfl, Or.inr rfl, Or.inl rfl, Or.inl rfl, trivial⟩) ?_
                            exact okL_law_b1000 (fL_law_h23 N) ih _ _ _ _ _ _ _ h
                          · rw [if_neg c151] at h
                            refine k_iconst (pc := 601) dL_law_601 ⟨by decide, by decide⟩ ?_
                            obtain ⟨rfl, rfl⟩ := k_pr h
                            exact k_ret (pc := 602) dL_law_602 rfl rfl (by decide +kernel)
                        · rw [if_neg c152] at h
                          by_cases c164 : (k_and (k_rd A (-2) v4) 31) = 9
                          · rw [if_pos c164] at h
                            refine k_swin (pc := 40) (off := 563) (tgt := 603) dL_law_40 (by omega) (by omega) (by rw [show (k_and (k_rd A (-2) v4) 31) = 9 by omega]; rfl) rfl ?_
                            refine k_aload_n (pc := 603) (x := v1) dL_law_603 rfl rfl ?_
                            refine k_aload_n (pc := 604) (x := (-2)) dL_law_604 rfl rfl ?_
                            refine k_iload (pc := 605) (x := v4) dL_law_605 rfl ?_
                            refine k_iconst (pc := 607) dL_law_607 ⟨by decide, by decide⟩ ?_
                            refine k_iadd (pc := 608) dL_law_608 ?_
                            obtain ⟨hc153, h⟩ := k_pk h
                            refine k_sld (pc := 609) dL_law_609 hc153.1 hc153.2 ?_
                            obtain ⟨hc157, h⟩ := k_pk h
                            obtain ⟨r154, A155, hq156, h⟩ := k_pb h
                            refine k_callV (pc := 610) (ci := 8) (a := v1) (as := [(0, (k_rd A (-2) (k_wr (v4 + 1))))]) (st := []) (st1 := [(0, r154)]) dL_law_610 cbX8_book (k_gt 473 (by decide +kernel) (by decide +kernel)) cvX8_book.1 cvX8_book.2 rfl (by decide) hc157 (by omega) rfl (Nat.le_of_ble_eq_true rfl) (okX8_book hq156) rfl ?_
                            refine k_aload_n (pc := 613) (x := v2) dL_law_613 rfl rfl ?_
                            refine k_aload_n (pc := 614) (x := (-2)) dL_law_614 rfl rfl ?_
                            refine k_iload (pc := 615) (x := v4) dL_law_615 rfl ?_
                            refine k_iconst (pc := 617) dL_law_617 ⟨by decide, by decide⟩ ?_
                            refine k_iadd (pc := 618) dL_law_618 ?_
                            obtain ⟨hc158, h⟩ := k_pk h
                            refine k_sld (pc := 619) dL_law_619 hc158.1 hc158.2 ?_
                            obtain ⟨hc162, h⟩ := k_pk h
                            obtain ⟨r159, A160, hq161, h⟩ := k_pb h
                            refine k_callV (pc := 620) (ci := 9) (a := v2) (as := [(0, (k_rd A155 (-2) (k_wr (v4 + 1))))]) (st := [(0, r154)]) (st1 := [(0, r159), (0, r154)]) dL_law_620 cbX9_book (k_gt 1078 (by decide +kernel) (by decide +kernel)) cvX9_book.1 cvX9_book.2 rfl (by decide) hc162 (by omega) rfl (Nat.le_of_ble_eq_true rfl) (okX9_book hq161) rfl ?_
                            refine k_icmp_eq (pc := 623) (tgt := 1000) dL_law_623 rfl (fun c163 => ?_) (fun c163 => ?_)
                            · rw [if_pos c163] at h
                              refine k_sub (ls' := [(1, (-2)), (1, v1), (1, v2), (1, v3), (0, v4), (3, 0), (3, 0)]) (k_sbl_ok _ _ ⟨Or.inr rfl, Or.inr rfl, Or.inr rfl, Or.inr rfl, Or.inr rfl, Or.inl rfl, Or.inl rfl, trivial⟩) ?_
                              exact okL_law_b1000 (fL_law_h23 N) ih _ _ _ _ _ _ _ h
                            · rw [if_neg c163] at h
                              refine k_iconst (pc := 626) dL_law_626 ⟨by decide, by decide⟩ ?_
                              obtain ⟨rfl, rfl⟩ := k_pr h
                              exact k_ret (pc := 627) dL_law_627 rfl rfl (by decide +kernel)
                          · rw [if_neg c164] at h
                            by_cases c178 : (k_and (k_rd A (-2) v4) 31) = 10
                            · rw [if_pos c178] at h
                              refine k_swin (pc := 40) (off := 588) (tgt := 628) dL_law_40 (by omega) (by omega) (by rw [show (k_and (k_rd A (-2) v4) 31) = 10 by omega]; rfl) rfl ?_
                              refine k_aload_n (pc := 628) (x := v1) dL_law_628 rfl rfl ?_
                              refine k_aload_n (pc := 629) (x := (-2)) dL_law_629 rfl rfl ?_
                              refine k_iload (pc := 630) (x := v4) dL_law_630 rfl ?_
                              refine k_iconst (pc := 632) dL_law_632 ⟨by decide, by decide⟩ ?_
                              refine k_iadd (pc := 633) dL_law_633 ?_
                              obtain ⟨hc165, h⟩ := k_pk h
                              refine k_sld (pc := 634) dL_law_634 hc165.1 hc165.2 ?_
                              refine k_aload_n (pc := 635) (x := (-2)) dL_law_635 rfl rfl ?_
                              refine k_iload (pc := 636) (x := v4) dL_law_636 rfl ?_
                              refine k_iconst (pc := 638) dL_law_638 ⟨by decide, by decide⟩ ?_
                              refine k_iadd (pc := 639) dL_law_639 ?_
                              obtain ⟨hc166, h⟩ := k_pk h
                              refine k_sld (pc := 640) dL_law_640 hc166.1 hc166.2 ?_
                              obtain ⟨hc170, h⟩ := k_pk h
                              obtain ⟨r167, A168, hq169, h⟩ := k_pb h
                              refine k_callV (pc := 641) (ci := 8) (a := v1) (as := [(0, (k_rd A (-2) (k_wr (v4 + 1)))), (0, (k_rd A (-2) (k_wr (v4 + 2))))]) (st := []) (st1 := [(0, r167)]) dL_law_641 cbX8_on (k_gt 568 (by decide +kernel) (by decide +kernel)) cvX8_on.1 cvX8_on.2 rfl (by decide) hc170 (by omega) rfl (Nat.le_of_ble_eq_true rfl) (okX8_on hq169) rfl ?_
                              refine k_aload_n (pc := 644) (x := v2) dL_law_644 rfl rfl ?_
                              refine k_aload_n (pc := 645) (x := (-2)) dL_law_645 rfl rfl ?_
                              refine k_iload (pc := 646) (x := v4) dL_law_646 rfl ?_
                              refine k_iconst (pc := 648) dL_law_648 ⟨by decide, by decide⟩ ?_
                              refine k_iadd (pc := 649) dL_law_649 ?_
                              obtain ⟨hc171, h⟩ := k_pk h
                              refine k_sld (pc := 650) dL_law_650 hc171.1 hc171.2 ?_
                              refine k_aload_n (pc := 651) (x := (-2)) dL_law_651 rfl rfl ?_
                              refine k_iload (pc := 652) (x := v4) dL_law_652 rfl ?_
                              refine k_iconst (pc := 654) dL_law_654 ⟨by decide, by decide⟩ ?_
                              refine k_iadd (pc := 655) dL_law_655 ?_
                              obtain ⟨hc172, h⟩ := k_pk h
                              refine k_sld (pc := 656) dL_law_656 hc172.1 hc172.2 ?_
                              obtain ⟨hc176, h⟩ := k_pk h
                              obtain ⟨r173, A174, hq175, h⟩ := k_pb h
                              refine k_callV (pc := 657) (ci := 9) (a := v2) (as := [(0, (k_rd A168 (-2) (k_wr (v4 + 1)))), (0, (k_rd A168 (-2) (k_wr (v4 + 2))))]) (st := [(0, r167)]) (st1 := [(0, r173), (0, r167)]) dL_law_657 cbX9_on (k_gt 1106 (by decide +kernel) (by decide +kernel)) cvX9_on.1 cvX9_on.2 rfl (by decide) hc176 (by omega) rfl (Nat.le_of_ble_eq_true rfl) (okX9_on hq175) rfl ?_
                              refine k_icmp_eq (pc := 660) (tgt := 1000) dL_law_660 rfl (fun c177 => ?_) (fun c177 => ?_)
                              · rw [if_pos c177] at h
                                refine k_sub (ls' := [(1, (-2)), (1, v1), (1, v2), (1, v3), (0, v4), (3, 0), (3, 0)]) (k_sbl_ok _ _ ⟨Or.inr rfl, Or.inr rfl, Or.inr rfl, Or.inr rfl, Or.inr rfl, Or.inl rfl, Or.inl rfl, trivial⟩) ?_
                                exact okL_law_b1000 (fL_law_h23 N) ih _ _ _ _ _ _ _ h
                              · rw [if_neg c177] at h
                                refine k_iconst (pc := 663) dL_law_663 ⟨by decide, by decide⟩ ?_
                                obtain ⟨rfl, rfl⟩ := k_pr h
                                exact k_ret (pc := 664) dL_law_664 rfl rfl (by decide +kernel)
                            · rw [if_neg c178] at h
                              by_cases c192 : (k_and (k_rd A (-2) v4) 31) = 11
                              · rw [if_pos c192] at h
                                refine k_swin (pc := 40) (off := 625) (tgt := 665) dL_law_40 (by omega) (by omega) (by rw [show (k_and (k_rd A (-2) v4) 31) = 11 by omega]; rfl) rfl ?_
                                refine k_aload_n (pc := 665) (x := v1) dL_law_665 rfl rfl ?_
                                refine k_aload_n (pc := 666) (x := (-2)) dL_law_666 rfl rfl ?_
                                refine k_iload (pc := 667) (x := v4) dL_law_667 rfl ?_
                                refine k_iconst (pc := 669) dL_law_669 ⟨by decide, by decide⟩ ?_
                                refine k_iadd (pc := 670) dL_law_670 ?_
                                obtain ⟨hc179, h⟩ := k_pk h
                                refine k_sld (pc := 671) dL_law_671 hc179.1 hc179.2 ?_
                                refine k_aload_n (pc := 672) (x := (-2)) dL_law_672 rfl rfl ?_
                                refine k_iload (pc := 673) (x := v4) dL_law_673 rfl ?_
                                refine k_iconst (pc := 675) dL_law_675 ⟨by decide, by decide⟩ ?_
                                refine k_iadd (pc := 676) dL_law_676 ?_
                                obtain ⟨hc180, h⟩ := k_pk h
                                refine k_sld (pc := 677) dL_law_677 hc180.1 hc180.2 ?_
                                obtain ⟨hc184, h⟩ := k_pk h
                                obtain ⟨r181, A182, hq183, h⟩ := k_pb h
                                refine k_callV (pc := 678) (ci := 8) (a := v1) (as := [(0, (k_rd A (-2) (k_wr (v4 + 1)))), (0, (k_rd A (-2) (k_wr (v4 + 2))))]) (st := []) (st1 := [(0, r181)]) dL_law_678 cbX8_snow (k_gt 572 (by decide +kernel) (by decide +kernel)) cvX8_snow.1 cvX8_snow.2 rfl (by decide) hc184 (by omega) rfl (Nat.le_of_ble_eq_true rfl) (okX8_snow hq183) rfl ?_
                                refine k_aload_n (pc := 681) (x := v2) dL_law_681 rfl rfl ?_
                                refine k_aload_n (pc := 682) (x := (-2)) dL_law_682 rfl rfl ?_
                                refine k_iload (pc := 683) (x := v4) dL_law_683 rfl ?_
                                refine k_iconst (pc := 685) dL_law_685 ⟨by decide, by decide⟩ ?_
                                refine k_iadd (pc := 686) dL_law_686 ?_
                                obtain ⟨hc185, h⟩ := k_pk h
                                refine k_sld (pc := 687) dL_law_687 hc185.1 hc185.2 ?_
                                refine k_aload_n (pc := 688) (x := (-2)) dL_law_688 rfl rfl ?_
                                refine k_iload (pc := 689) (x := v4) dL_law_689 rfl ?_
                                refine k_iconst (pc := 691) dL_law_691 ⟨by decide, by decide⟩ ?_
                                refine k_iadd (pc := 692) dL_law_692 ?_
                                obtain ⟨hc186, h⟩ := k_pk h
                                refine k_sld (pc := 693) dL_law_693 hc186.1 hc186.2 ?_
                                obtain ⟨hc190, h⟩ := k_pk h
                                obtain ⟨r187, A188, hq189, h⟩ := k_pb h
                                refine k_callV (pc := 694) (ci := 9) (a := v2) (as := [(0, (k_rd A182 (-2) (k_wr (v4 + 1)))), (0, (k_rd A182 (-2) (k_wr (v4 + 2))))]) (st := [(0, r181)]) (st1 := [(0, r187), (0, r181)]) dL_law_694 cbX9_snow (k_gt 1110 (by decide +kernel) (by decide +kernel)) cvX9_snow.1 cvX9_snow.2 rfl (by decide) hc190 (by omega) rfl (Nat.le_of_ble_eq_true rfl) (okX9_snow hq189) rfl ?_
                                refine k_icmp_eq (pc := 697) (tgt := 1000) dL_law_697 rfl (fun c191 => ?_) (fun c191 => ?_)
                                · rw [if_pos c191] at h
                                  refine k_sub (ls' := [(1, (-2)), (1, v1), (1, v2), (1, v3), (0, v4), (3, 0), (3, 0)]) (k_sbl_ok _ _ ⟨Or.inr rfl, Or.inr rfl, Or.inr rfl, Or.inr rfl, Or.inr rfl, Or.inl rfl, Or.inl rfl, trivial⟩) ?_
                                  exact okL_law_b1000 (fL_law_h23 N) ih _ _ _ _ _ _ _ h
                                · rw [if_neg c191] at h
                                  refine k_iconst (pc := 700) dL_law_700 ⟨by decide, by decide⟩ ?_
                                  obtain ⟨rfl, rfl⟩ := k_pr h
                                  exact k_ret (pc := 701) dL_law_701 rfl rfl (by decide +kernel)
                              · rw [if_neg c192] at h
                                by_cases c204 : (k_and (k_rd A (-2) v4) 31) = 12
                                · rw [if_pos c204] at h
                                  refine k_swin (pc := 40) (off := 662) (tgt := 702) dL_law_40 (by omega) (by omega) (by rw [show (k_and (k_rd A (-2) v4) 31) = 12 by omega]; rfl) rfl ?_
                                  refine k_aload_n (pc := 702) (x := v1) dL_law_702 rfl rfl ?_
                                  refine k_aload_n (pc := 703) (x := (-2)) dL_law_703 rfl rfl ?_
                                  refine k_iload (pc := 704) (x := v4) dL_law_704 rfl ?_
                                  refine k_iconst (pc := 706) dL_law_706 ⟨by decide, by decide⟩ ?_
                                  refine k_iadd (pc := 707) dL_law_707 ?_
                                  obtain ⟨hc193, h⟩ := k_pk h
                                  refine k_sld (pc := 708) dL_law_708 hc193.1 hc193.2 ?_
                                  obtain ⟨hc197, h⟩ := k_pk h
                                  obtain ⟨r194, A195, hq196, h⟩ := k_pb h
                                  refine k_callV (pc := 709) (ci := 8) (a := v1) (as := [(0, (k_rd A (-2) (k_wr (v4 + 1))))]) (st := []) (st1 := [(0, r194)]) dL_law_709 cbX8_worth (k_gt 585 (by decide +kernel) (by decide +kernel)) cvX8_worth.1 cvX8_worth.2 rfl (by decide) hc197 (by omega) rfl (Nat.le_of_ble_eq_true rfl) (okX8_worth hq196) rfl ?_
                                  refine k_aload_n (pc := 712) (x := v2) dL_law_712 rfl rfl ?_
                                  refine k_aload_n (pc := 713) (x := (-2)) dL_law_713 rfl rfl ?_
                                  refine k_iload (pc := 714) (x := v4) dL_law_714 rfl ?_
                                  refine k_iconst (pc := 716) dL_law_716 ⟨by decide, by decide⟩ ?_
                                  refine k_iadd (pc := 717) dL_law_717 ?_
                                  obtain ⟨hc198, h⟩ := k_pk h
                                  refine k_sld (pc := 718) dL_law_718 hc198.1 hc198.2 ?_
                                  obtain ⟨hc202, h⟩ := k_pk h
                                  obtain ⟨r199, A200, hq201, h⟩ := k_pb h
                                  refine k_callV (pc := 719) (ci := 9) (a := v2) (as := [(0, (k_rd A195 (-2) (k_wr (v4 + 1))))]) (st := [(0, r194)]) (st1 := [(0, r199), (0, r194)]) dL_law_719 cbX9_worth (k_gt 1118 (by decide +kernel) (by decide +kernel)) cvX9_worth.1 cvX9_worth.2 rfl (by decide) hc202 (by omega) rfl (Nat.le_of_ble_eq_true rfl) (okX9_worth hq201) rfl ?_
                                  refine k_icmp_eq (pc := 722) (tgt := 1000) dL_law_722 rfl (fun c203 => ?_) (fun c203 => ?_)
                                  · rw [if_pos c203] at h
                                    refine k_sub (ls' := [(1, (-2)), (1, v1), (1, v2), (1, v3), (0, v4), (3, 0), (3, 0)]) (k_sbl_ok _ _ ⟨Or.inr rfl, Or.inr rfl, Or.inr rfl, Or.inr rfl, Or.inr rfl, Or.inl rfl, Or.inl rfl, trivial⟩) ?_
                                    exact okL_law_b1000 (fL_law_h23 N) ih _ _ _ _ _ _ _ h
                                  · rw [if_neg c203] at h
                                    refine k_iconst (pc := 725) dL_law_725 ⟨by decide, by decide⟩ ?_
                                    obtain ⟨rfl, rfl⟩ := k_pr h
                                    exact k_ret (pc := 726) dL_law_726 rfl rfl (by decide +kernel)
                                · rw [if_neg c204] at h
                                  by_cases c216 : (k_and (k_rd A (-2) v4) 31) = 13
                                  · rw [if_pos c216] at h
                                    refine k_swin (pc := 40) (off := 687) (tgt := 727) dL_law_40 (by omega) (by omega) (by rw [show (k_and (k_rd A (-2) v4) 31) = 13 by omega]; rfl) rfl ?_
                                    refine k_aload_n (pc := 727) (x := v1) dL_law_727 rfl rfl ?_
                                    refine k_aload_n (pc := 728) (x := (-2)) dL_law_728 rfl rfl ?_
                                    refine k_iload (pc := 729) (x := v4) dL_law_729 rfl ?_
                                    refine k_iconst (pc := 731) dL_law_731 ⟨by decide, by decide⟩ ?_
                                    refine k_iadd (pc := 732) dL_law_732 ?_
                                    obtain ⟨hc205, h⟩ := k_pk h
                                    refine k_sld (pc := 733) dL_law_733 hc205.1 hc205.2 ?_
                                    obtain ⟨hc209, h⟩ := k_pk h
                                    obtain ⟨r206, A207, hq208, h⟩ := k_pb h
                                    refine k_callV (pc := 734) (ci := 8) (a := v1) (as := [(0, (k_rd A (-2) (k_wr (v4 + 1))))]) (st := []) (st1 := [(0, r206)]) dL_law_734 cbX8_terms (k_gt 589 (by decide +kernel) (by decide +kernel)) cvX8_terms.1 cvX8_terms.2 rfl (by decide) hc209 (by omega) rfl (Nat.le_of_ble_eq_true rfl) (okX8_terms hq208) rfl ?_
                                    refine k_aload_n (pc := 737) (x := v2) dL_law_737 rfl rfl ?_
                                    refine k_aload_n (pc := 738) (x := (-2)) dL_law_738 rfl rfl ?_
                                    refine k_iload (pc := 739) (x := v4) dL_law_739 rfl ?_
                                    refine k_iconst (pc := 741) dL_law_741 ⟨by decide, by decide⟩ ?_
                                    refine k_iadd (pc := 742) dL_law_742 ?_
                                    obtain ⟨hc210, h⟩ := k_pk h
                                    refine k_sld (pc := 743) dL_law_743 hc210.1 hc210.2 ?_
                                    obtain ⟨hc214, h⟩ := k_pk h
                                    obtain ⟨r211, A212, hq213, h⟩ := k_pb h
                                    refine k_callV (pc := 744) (ci := 9) (a := v2) (as := [(0, (k_rd A207 (-2) (k_wr (v4 + 1))))]) (st := [(0, r206)]) (st1 := [(0, r211), (0, r206)]) dL_law_744 cbX9_terms (k_gt 1122 (by decide +kernel) (by decide +kernel)) cvX9_terms.1 cvX9_terms.2 rfl (by decide) hc214 (by omega) rfl (Nat.le_of_ble_eq_true rfl) (okX9_terms hq213) rfl ?_
                                    refine k_icmp_eq (pc := 747) (tgt := 1000) dL_law_747 rfl (fun c215 => ?_) (fun c215 => ?_)
                                    · rw [if_pos c215] at h
                                      refine k_sub (ls' := [(1, (-2)), (1, v1), (1, v2), (1, v3), (0, v4), (3, 0), (3, 0)]) (k_sbl_ok _ _ ⟨Or.inr rfl, Or.inr rfl, Or.inr rfl, Or.inr rfl, Or.inr rfl, Or.inl rfl, Or.inl rfl, trivial⟩) ?_
                                      exact okL_law_b1000 (fL_law_h23 N) ih _ _ _ _ _ _ _ h
                                    · rw [if_neg c215] at h
                                      refine k_iconst (pc := 750) dL_law_750 ⟨by decide, by decide⟩ ?_
                                      obtain ⟨rfl, rfl⟩ := k_pr h
                                      exact k_ret (pc := 751) dL_law_751 rfl rfl (by decide +kernel)
                                  · rw [if_neg c216] at h
                                    by_cases c226 : (k_and (k_rd A (-2) v4) 31) = 14
                                    · rw [if_pos c226] at h
                                      refine k_swin (pc := 40) (off := 712) (tgt := 752) dL_law_40 (by omega) (by omega) (by rw [show (k_and (k_rd A (-2) v4) 31) = 14 by omega]; rfl) rfl ?_
                                      refine k_aload_n (pc := 752) (x := v1) dL_law_752 rfl rfl ?_
                                      obtain ⟨hc220, h⟩ := k_pk h
                                      obtain ⟨r217, A218, hq219, h⟩ := k_pb h
                                      refine k_callV (pc := 753) (ci := 8) (a := v1) (as := []) (st := []) (st1 := [(0, r217)]) dL_law_753 cbX8_fault (k_gt 736 (by decide +kernel) (by decide +kernel)) cvX8_fault.1 cvX8_fault.2 rfl (by decide) hc220 (by omega) rfl (Nat.le_of_ble_eq_true rfl) (okX8_fault hq219) rfl ?_
                                      refine k_aload_n (pc := 756) (x := v2) dL_law_756 rfl rfl ?_
                                      obtain ⟨hc224, h⟩ := k_pk h
                                      obtain ⟨r221, A222, hq223, h⟩ := k_pb h
                                      refine k_callV (pc := 757) (ci := 9) (a := v2) (as := []) (st := [(0, r217)]) (st1 := [(0, r221), (0, r217)]) dL_law_757 cbX9_fault (k_gt 1173 (by decide +kernel) (by decide +kernel)) cvX9_fault.1 cvX9_fault.2 rfl (by decide) hc224 (by omega) rfl (Nat.le_of_ble_eq_true rfl) (okX9_fault hq223) rfl ?_
                                      refine k_icmp_eq (pc := 760) (tgt := 1000) dL_law_760 rfl (fun c225 => ?_) (fun c225 => ?_)
                                      · rw [if_pos c225] at h
                                        refine k_sub (ls' := [(1, (-2)), (1, v1), (1, v2), (1, v3), (0, v4), (3, 0), (3, 0)]) (k_sbl_ok _ _ ⟨Or.inr rfl, Or.inr rfl, Or.inr rfl, Or.inr rfl, Or.inr rfl, Or.inl rfl, Or.inl rfl, trivial⟩) ?_
                                        exact okL_law_b1000 (fL_law_h23 N) ih _ _ _ _ _ _ _ h
                                      · rw [if_neg c225] at h
                                        refine k_iconst (pc := 763) dL_law_763 ⟨by decide, by decide⟩ ?_
                                        obtain ⟨rfl, rfl⟩ := k_pr h
                                        exact k_ret (pc := 764) dL_law_764 rfl rfl (by decide +kernel)
                                    · rw [if_neg c226] at h
                                      by_cases c242 : (k_and (k_rd A (-2) v4) 31) = 15
                                      · rw [if_pos c242] at h
                                        refine k_swin (pc := 40) (off := 725) (tgt := 765) dL_law_40 (by omega) (by omega) (by rw [show (k_and (k_rd A (-2) v4) 31) = 15 by omega]; rfl) rfl ?_
                                        refine k_aload_n (pc := 765) (x := v1) dL_law_765 rfl rfl ?_
                                        refine k_aload_n (pc := 766) (x := (-2)) dL_law_766 rfl rfl ?_
                                        refine k_iload (pc := 767) (x := v4) dL_law_767 rfl ?_
                                        refine k_iconst (pc := 769) dL_law_769 ⟨by decide, by decide⟩ ?_
                                        refine k_iadd (pc := 770) dL_law_770 ?_
                                        obtain ⟨hc227, h⟩ := k_pk h
                                        refine k_sld (pc := 771) dL_law_771 hc227.1 hc227.2 ?_
                                        refine k_aload_n (pc := 772) (x := (-2)) dL_law_772 rfl rfl ?_
                                        refine k_iload (pc := 773) (x := v4) dL_law_773 rfl ?_
                                        refine k_iconst (pc := 775) dL_law_775 ⟨by decide, by decide⟩ ?_
                                        refine k_iadd (pc := 776) dL_law_776 ?_
                                        obtain ⟨hc228, h⟩ := k_pk h
                                        refine k_sld (pc := 777) dL_law_777 hc228.1 hc228.2 ?_
                                        refine k_aload_n (pc := 778) (x := (-2)) dL_law_778 rfl rfl ?_
                                        refine k_iload (pc := 779) (x := v4) dL_law_779 rfl ?_
                                        refine k_iconst (pc := 781) dL_law_781 ⟨by decide, by decide⟩ ?_
                                        refine k_iadd (pc := 782) dL_law_782 ?_
                                        obtain ⟨hc229, h⟩ := k_pk h
                                        refine k_sld (pc := 783) dL_law_783 hc229.1 hc229.2 ?_
                                        obtain ⟨hc233, h⟩ := k_pk h
                                        obtain ⟨r230, A231, hq232, h⟩ := k_pb h
                                        refine k_callV (pc := 784) (ci := 8) (a := v1) (as := [(0, (k_rd A (-2) (k_wr (v4 + 1)))), (0, (k_rd A (-2) (k_wr (v4 + 2)))), (0, (k_rd A (-2) (k_wr (v4 + 3))))]) (st := []) (st1 := [(0, r230)]) dL_law_784 cbX8_door (k_gt 740 (by decide +kernel) (by decide +kernel)) cvX8_door.1 cvX8_door.2 rfl (by decide) hc233 (by omega) rfl (Nat.le_of_ble_eq_true rfl) (okX8_door hq232) rfl ?_
                                        refine k_aload_n (pc := 787) (x := v2) dL_law_787 rfl rfl ?_
                                        refine k_aload_n (pc := 788) (x := (-2)) dL_law_788 rfl rfl ?_
                                        refine k_iload (pc := 789) (x := v4) dL_law_789 rfl ?_
                                        refine k_iconst (pc := 791) dL_law_791 ⟨by decide, by decide⟩ ?_
                                        refine k_iadd (pc := 792) dL_law_792 ?_
                                        obtain ⟨hc234, h⟩ := k_pk h
                                        refine k_sld (pc := 793) dL_law_793 hc234.1 hc234.2 ?_
                                        refine k_aload_n (pc := 794) (x := (-2)) dL_law_794 rfl rfl ?_
                                        refine k_iload (pc := 795) (x := v4) dL_law_795 rfl ?_
                                        refine k_iconst (pc := 797) dL_law_797 ⟨by decide, by decide⟩ ?_
                                        refine k_iadd (pc := 798) dL_law_798 ?_
                                        obtain ⟨hc235, h⟩ := k_pk h
                                        refine k_sld (pc := 799) dL_law_799 hc235.1 hc235.2 ?_
                                        refine k_aload_n (pc := 800) (x := (-2)) dL_law_800 rfl rfl ?_
                                        refine k_iload (pc := 801) (x := v4) dL_law_801 rfl ?_
                                        refine k_iconst (pc := 803) dL_law_803 ⟨by decide, by decide⟩ ?_
                                        refine k_iadd (pc := 804) dL_law_804 ?_
                                        obtain ⟨hc236, h⟩ := k_pk h
                                        refine k_sld (pc := 805) dL_law_805 hc236.1 hc236.2 ?_
                                        obtain ⟨hc240, h⟩ := k_pk h
                                        obtain ⟨r237, A238, hq239, h⟩ := k_pb h
                                        refine k_callV (pc := 806) (ci := 9) (a := v2) (as := [(0, (k_rd A231 (-2) (k_wr (v4 + 1)))), (0, (k_rd A231 (-2) (k_wr (v4 + 2)))), (0, (k_rd A231 (-2) (k_wr (v4 + 3))))]) (st := [(0, r230)]) (st1 := [(0, r237), (0, r230)]) dL_law_806 cbX9_door (k_gt 1177 (by decide +kernel) (by decide +kernel)) cvX9_door.1 cvX9_door.2 rfl (by decide) hc240 (by omega) rfl (Nat.le_of_ble_eq_true rfl) (okX9_door hq239) rfl ?_
                                        refine k_icmp_eq (pc := 809) (tgt := 1000) dL_law_809 rfl (fun c241 => ?_) (fun c241 => ?_)
                                        · rw [if_pos c241] at h
                                          refine k_sub (ls' := [(1, (-2)), (1, v1), (1, v2), (1, v3), (0, v4), (3, 0), (3, 0)]) (k_sbl_ok _ _ ⟨Or.inr rfl, Or.inr rfl, Or.inr rfl, Or.inr rfl, Or.inr rfl, Or.inl rfl, Or.inl rfl, trivial⟩) ?_
                                          exact okL_law_b1000 (fL_law_h23 N) ih _ _ _ _ _ _ _ h
                                        · rw [if_neg c241] at h
                                          refine k_iconst (pc := 812) dL_law_812 ⟨by decide, by decide⟩ ?_
                                          obtain ⟨rfl, rfl⟩ := k_pr h
                                          exact k_ret (pc := 813) dL_law_813 rfl rfl (by decide +kernel)
                                      · rw [if_neg c242] at h
                                        by_cases c264 : (k_and (k_rd A (-2) v4) 31) = 16
                                        · rw [if_pos c264] at h
                                          refine k_swin (pc := 40) (off := 774) (tgt := 814) dL_law_40 (by omega) (by omega) (by rw [show (k_and (k_rd A (-2) v4) 31) = 16 by omega]; rfl) rfl ?_
                                          refine k_aload_n (pc := 814) (x := v1) dL_law_814 rfl rfl ?_
                                          refine k_aload_n (pc := 815) (x := (-2)) dL_law_815 rfl rfl ?_
                                          refine k_iload (pc := 816) (x := v4) dL_law_816 rfl ?_
                                          refine k_iconst (pc := 818) dL_law_818 ⟨by decide, by decide⟩ ?_
                                          refine k_iadd (pc := 819) dL_law_819 ?_
                                          obtain ⟨hc243, h⟩ := k_pk h
                                          refine k_sld (pc := 820) dL_law_820 hc243.1 hc243.2 ?_
                                          refine k_aload_n (pc := 821) (x := (-2)) dL_law_821 rfl rfl ?_
                                          refine k_iload (pc := 822) (x := v4) dL_law_822 rfl ?_
                                          refine k_iconst (pc := 824) dL_law_824 ⟨by decide, by decide⟩ ?_
                                          refine k_iadd (pc := 825) dL_law_825 ?_
                                          obtain ⟨hc244, h⟩ := k_pk h
                                          refine k_sld (pc := 826) dL_law_826 hc244.1 hc244.2 ?_
                                          refine k_aload_n (pc := 827) (x := (-2)) dL_law_827 rfl rfl ?_
                                          refine k_iload (pc := 828) (x := v4) dL_law_828 rfl ?_
                                          refine k_iconst (pc := 830) dL_law_830 ⟨by decide, by decide⟩ ?_
                                          refine k_iadd (pc := 831) dL_law_831 ?_
                                          obtain ⟨hc245, h⟩ := k_pk h
                                          refine k_sld (pc := 832) dL_law_832 hc245.1 hc245.2 ?_
                                          refine k_aload_n (pc := 833) (x := v3) dL_law_833 rfl rfl ?_
                                          obtain ⟨r246, A247, hq248, h⟩ := k_pb h
                                          refine k_callSW (pc := 834) (as := [(1, v1), (0, (k_rd A (-2) (k_wr (v4 + 1)))), (0, (k_rd A (-2) (k_wr (v4 + 2)))), (0, (k_rd A (-2) (k_wr (v4 + 3)))), (1, v3)]) (st := []) (st1 := [(0, r246)]) dL_law_834 cbL_shared (k_gt 785 (by decide +kernel) (by decide +kernel)) (k_gt 786 (by decide +kernel) (by decide +kernel)) (by omega) rfl (Nat.le_of_ble_eq_true rfl) (okL_shared hq248) rfl ?_
                                          refine k_istore (pc := 837) dL_law_837 (Nat.le_of_ble_eq_true rfl) rfl ?_
                                          show k_AW _ _ _ [(1, (-2)), (1, v1), (1, v2), (1, v3), (0, v4), (0, r246), (3, 0)] _ _ _ _
                                          refine k_aload_n (pc := 839) (x := v2) dL_law_839 rfl rfl ?_
                                          refine k_aload_n (pc := 840) (x := (-2)) dL_law_840 rfl rfl ?_
                                          refine k_iload (pc := 841) (x := v4) dL_law_841 rfl ?_
                                          refine k_iconst (pc := 843) dL_law_843 ⟨by decide, by decide⟩ ?_
                                          refine k_iadd (pc := 844) dL_law_844 ?_
                                          obtain ⟨hc249, h⟩ := k_pk h
                                          refine k_sld (pc := 845) dL_law_845 hc249.1 hc249.2 ?_
                                          refine k_aload_n (pc := 846) (x := (-2)) dL_law_846 rfl rfl ?_
                                          refine k_iload (pc := 847) (x := v4) dL_law_847 rfl ?_
                                          refine k_iconst (pc := 849) dL_law_849 ⟨by decide, by decide⟩ ?_
                                          refine k_iadd (pc := 850) dL_law_850 ?_
                                          obtain ⟨hc250, h⟩ := k_pk h
                                          refine k_sld (pc := 851) dL_law_851 hc250.1 hc250.2 ?_
                                          refine k_aload_n (pc := 852) (x := (-2)) dL_law_852 rfl rfl ?_
                                          refine k_iload (pc := 853) (x := v4) dL_law_853 rfl ?_
                                          refine k_iconst (pc := 855) dL_law_855 ⟨by decide, by decide⟩ ?_
                                          refine k_iadd (pc := 856) dL_law_856 ?_
                                          obtain ⟨hc251, h⟩ := k_pk h
                                          refine k_sld (pc := 857) dL_law_857 hc251.1 hc251.2 ?_
                                          obtain ⟨hc255, h⟩ := k_pk h
                                          obtain ⟨r252, A253, hq254, h⟩ := k_pb h
                                          refine k_callV (pc := 858) (ci := 9) (a := v2) (as := [(0, (k_rd A247 (-2) (k_wr (v4 + 1)))), (0, (k_rd A247 (-2) (k_wr (v4 + 2)))), (0, (k_rd A247 (-2) (k_wr (v4 + 3))))]) (st := []) (st1 := [(0, r252)]) dL_law_858 cbX9_shared (k_gt 1182 (by decide +kernel) (by decide +kernel)) cvX9_shared.1 cvX9_shared.2 rfl (by decide) hc255 (by omega) rfl (Nat.le_of_ble_eq_true rfl) (okX9_shared hq254) rfl ?_
                                          refine k_istore (pc := 861) dL_law_861 (Nat.le_of_ble_eq_true rfl) rfl ?_
                                          show k_AW _ _ _ [(1, (-2)), (1, v1), (1, v2), (1, v3), (0, v4), (0, r246), (0, r252)] _ _ _ _
                                          refine k_aload_n (pc := 863) (x := v2) dL_law_863 rfl rfl ?_
                                          obtain ⟨hc259, h⟩ := k_pk h
                                          obtain ⟨r256, A257, hq258, h⟩ := k_pb h
                                          refine k_callV (pc := 864) (ci := 9) (a := v2) (as := []) (st := []) (st1 := [(0, r256)]) dL_law_864 cbX9_thrown (k_gt 1003 (by decide +kernel) (by decide +kernel)) cvX9_thrown.1 cvX9_thrown.2 rfl (by decide) hc259 (by omega) rfl (Nat.le_of_ble_eq_true rfl) (okX9_thrown hq258) rfl ?_
                                          refine k_iload (pc := 867) (x := r246) dL_law_867 rfl ?_
                                          refine k_icmp_eq (pc := 869) (tgt := 874) dL_law_869 rfl (fun c260 => ?_) (fun c260 => ?_)
                                          · rw [if_pos c260] at h
                                            refine k_iload (pc := 874) (x := r246) dL_law_874 rfl ?_
                                            refine k_if_ne (pc := 876) (tgt := 891) dL_law_876 rfl (fun c261 => ?_) (fun c261 => ?_)
                                            · rw [if_neg c261] at h
                                              refine k_sub (ls' := [(1, (-2)), (1, v1), (1, v2), (1, v3), (0, v4), (3, 0), (3, 0)]) (k_sbl_ok _ _ ⟨Or.inr rfl, Or.inr rfl, Or.inr rfl, Or.inr rfl, Or.inr rfl, Or.inl rfl, Or.inl rfl, trivial⟩) ?_
                                              exact okL_law_b891 (fL_law_h23 N) ih _ _ _ _ _ _ _ h
                                            · rw [if_pos (Classical.not_not.mp c261)] at h
                                              refine k_aload_n (pc := 879) (x := v3) dL_law_879 rfl rfl ?_
                                              refine k_iconst (pc := 880) dL_law_880 ⟨by decide, by decide⟩ ?_
                                              obtain ⟨hc262, h⟩ := k_pk h
                                              refine k_laload (pc := 881) dL_law_881 hc262 ?_
                                              refine k_iload (pc := 882) (x := r252) dL_law_882 rfl ?_
                                              refine k_i2l (pc := 884) dL_law_884 ?_
                                              refine k_lcmp (pc := 885) dL_law_885 ?_
                                              refine k_if_eq (pc := 886) (tgt := 891) dL_law_886 rfl (fun c263 => ?_) (fun c263 => ?_)
                                              · rw [if_pos c263] at h
                                                refine k_sub (ls' := [(1, (-2)), (1, v1), (1, v2), (1, v3), (0, v4), (3, 0), (3, 0)]) (k_sbl_ok _ _ ⟨Or.inr rfl, Or.inr rfl, Or.inr rfl, Or.inr rfl, Or.inr rfl, Or.inl rfl, Or.inl rfl, trivial⟩) ?_
                                                exact okL_law_b891 (fL_law_h23 N) ih _ _ _ _ _ _ _ h
                                              · rw [if_neg c263] at h
                                                refine k_iconst (pc := 889) dL_law_889 ⟨by decide, by decide⟩ ?_
                                                obtain ⟨rfl, rfl⟩ := k_pr h
                                                exact k_ret (pc := 890) dL_law_890 rfl rfl (by decide +kernel)
                                          · rw [if_neg c260] at h
                                            refine k_iconst (pc := 872) dL_law_872 ⟨by decide, by decide⟩ ?_
                                            obtain ⟨rfl, rfl⟩ := k_pr h
                                            exact k_ret (pc := 873) dL_law_873 rfl rfl (by decide +kernel)
                                        · rw [if_neg c264] at h
                                          by_cases c276 : (k_and (k_rd A (-2) v4) 31) = 17
                                          · rw [if_pos c276] at h
                                            refine k_swin (pc := 40) (off := 854) (tgt := 894) dL_law_40 (by omega) (by omega) (by rw [show (k_and (k_rd A (-2) v4) 31) = 17 by omega]; rfl) rfl ?_
                                            refine k_aload_n (pc := 894) (x := v1) dL_law_894 rfl rfl ?_
                                            refine k_aload_n (pc := 895) (x := (-2)) dL_law_895 rfl rfl ?_
                                            refine k_iload (pc := 896) (x := v4) dL_law_896 rfl ?_
                                            refine k_iconst (pc := 898) dL_law_898 ⟨by decide, by decide⟩ ?_
                                            refine k_iadd (pc := 899) dL_law_899 ?_
                                            obtain ⟨hc265, h⟩ := k_pk h
                                            refine k_sld (pc := 900) dL_law_900 hc265.1 hc265.2 ?_
                                            obtain ⟨hc269, h⟩ := k_pk h
                                            obtain ⟨r266, A267, hq268, h⟩ := k_pb h
                                            refine k_callV (pc := 901) (ci := 8) (a := v1) (as := [(0, (k_rd A (-2) (k_wr (v4 + 1))))]) (st := []) (st1 := [(0, r266)]) dL_law_901 cbX8_sum (k_gt 745 (by decide +kernel) (by decide +kernel)) cvX8_sum.1 cvX8_sum.2 rfl (by decide) hc269 (by omega) rfl (Nat.le_of_ble_eq_true rfl) (okX8_sum hq268) rfl ?_
                                            refine k_aload_n (pc := 904) (x := v2) dL_law_904 rfl rfl ?_
                                            refine k_aload_n (pc := 905) (x := (-2)) dL_law_905 rfl rfl ?_
                                            refine k_iload (pc := 906) (x := v4) dL_law_906 rfl ?_
                                            refine k_iconst (pc := 908) dL_law_908 ⟨by decide, by decide⟩ ?_
                                            refine k_iadd (pc := 909) dL_law_909 ?_
                                            obtain ⟨hc270, h⟩ := k_pk h
                                            refine k_sld (pc := 910) dL_law_910 hc270.1 hc270.2 ?_
                                            obtain ⟨hc274, h⟩ := k_pk h
                                            obtain ⟨r271, A272, hq273, h⟩ := k_pb h
                                            refine k_callV (pc := 911) (ci := 9) (a := v2) (as := [(0, (k_rd A267 (-2) (k_wr (v4 + 1))))]) (st := [(0, r266)]) (st1 := [(0, r271), (0, r266)]) dL_law_911 cbX9_sum (k_gt 1198 (by decide +kernel) (by decide +kernel)) cvX9_sum.1 cvX9_sum.2 rfl (by decide) hc274 (by omega) rfl (Nat.le_of_ble_eq_true rfl) (okX9_sum hq273) rfl ?_
                                            refine k_icmp_eq (pc := 914) (tgt := 1000) dL_law_914 rfl (fun c275 => ?_) (fun c275 => ?_)
                                            · rw [if_pos c275] at h
                                              refine k_sub (ls' := [(1, (-2)), (1, v1), (1, v2), (1, v3), (0, v4), (3, 0), (3, 0)]) (k_sbl_ok _ _ ⟨Or.inr rfl, Or.inr rfl, Or.inr rfl, Or.inr rfl, Or.inr rfl, Or.inl rfl, Or.inl rfl, trivial⟩) ?_
                                              exact okL_law_b1000 (fL_law_h23 N) ih _ _ _ _ _ _ _ h
                                            · rw [if_neg c275] at h
                                              refine k_iconst (pc := 917) dL_law_917 ⟨by decide, by decide⟩ ?_
                                              obtain ⟨rfl, rfl⟩ := k_pr h
                                              exact k_ret (pc := 918) dL_law_918 rfl rfl (by decide +kernel)
                                          · rw [if_neg c276] at h
                                            by_cases c294 : (k_and (k_rd A (-2) v4) 31) = 18
                                            · rw [if_pos c294] at h
                                              refine k_swin (pc := 40) (off := 879) (tgt := 919) dL_law_40 (by omega) (by omega) (by rw [show (k_and (k_rd A (-2) v4) 31) = 18 by omega]; rfl) rfl ?_
                                              refine k_aload_n (pc := 919) (x := v1) dL_law_919 rfl rfl ?_
                                              refine k_aload_n (pc := 920) (x := (-2)) dL_law_920 rfl rfl ?_
                                              refine k_iload (pc := 921) (x := v4) dL_law_921 rfl ?_
                                              refine k_iconst (pc := 923) dL_law_923 ⟨by decide, by decide⟩ ?_
                                              refine k_iadd (pc := 924) dL_law_924 ?_
                                              obtain ⟨hc277, h⟩ := k_pk h
                                              refine k_sld (pc := 925) dL_law_925 hc277.1 hc277.2 ?_
                                              refine k_aload_n (pc := 926) (x := v3) dL_law_926 rfl rfl ?_
                                              obtain ⟨r278, A279, hq280, h⟩ := k_pb h
                                              refine k_callSW (pc := 927) (as := [(1, v1), (0, (k_rd A (-2) (k_wr (v4 + 1)))), (1, v3)]) (st := []) (st1 := [(0, r278)]) dL_law_927 cbL_keeps (k_gt 859 (by decide +kernel) (by decide +kernel)) (k_gt 860 (by decide +kernel) (by decide +kernel)) (by omega) rfl (Nat.le_of_ble_eq_true rfl) (okL_keeps hq280) rfl ?_
                                              refine k_istore (pc := 930) dL_law_930 (Nat.le_of_ble_eq_true rfl) rfl ?_
                                              show k_AW _ _ _ [(1, (-2)), (1, v1), (1, v2), (1, v3), (0, v4), (0, r278), (3, 0)] _ _ _ _
                                              refine k_aload_n (pc := 932) (x := v2) dL_law_932 rfl rfl ?_
                                              refine k_aload_n (pc := 933) (x := (-2)) dL_law_933 rfl rfl ?_
                                              refine k_iload (pc := 934) (x := v4) dL_law_934 rfl ?_
                                              refine k_iconst (pc := 936) dL_law_936 ⟨by decide, by decide⟩ ?_
                                              refine k_iadd (pc := 937) dL_law_937 ?_
                                              obtain ⟨hc281, h⟩ := k_pk h
                                              refine k_sld (pc := 938) dL_law_938 hc281.1 hc281.2 ?_
                                              obtain ⟨hc285, h⟩ := k_pk h
                                              obtain ⟨r282, A283, hq284, h⟩ := k_pb h
                                              refine k_callV (pc := 939) (ci := 9) (a := v2) (as := [(0, (k_rd A279 (-2) (k_wr (v4 + 1))))]) (st := []) (st1 := [(0, r282)]) dL_law_939 cbX9_keeps (k_gt 1202 (by decide +kernel) (by decide +kernel)) cvX9_keeps.1 cvX9_keeps.2 rfl (by decide) hc285 (by omega) rfl (Nat.le_of_ble_eq_true rfl) (okX9_keeps hq284) rfl ?_
                                              refine k_istore (pc := 942) dL_law_942 (Nat.le_of_ble_eq_true rfl) rfl ?_
                                              show k_AW _ _ _ [(1, (-2)), (1, v1), (1, v2), (1, v3), (0, v4), (0, r278), (0, r282)] _ _ _ _
                                              refine k_aload_n (pc := 944) (x := v2) dL_law_944 rfl rfl ?_
                                              obtain ⟨hc289, h⟩ := k_pk h
                                              obtain ⟨r286, A287, hq288, h⟩ := k_pb h
                                              refine k_callV (pc := 945) (ci := 9) (a := v2) (as := []) (st := []) (st1 := [(0, r286)]) dL_law_945 cbX9_thrown (k_gt 1003 (by decide +kernel) (by decide +kernel)) cvX9_thrown.1 cvX9_thrown.2 rfl (by decide) hc289 (by omega) rfl (Nat.le_of_ble_eq_true rfl) (okX9_thrown hq288) rfl ?_
                                              refine k_iload (pc := 948) (x := r278) dL_law_948 rfl ?_
                                              refine k_icmp_eq (pc := 950) (tgt := 955) dL_law_950 rfl (fun c290 => ?_) (fun c290 => ?_)
                                              · rw [if_pos c290] at h
                                                refine k_iload (pc := 955) (x := r278) dL_law_955 rfl ?_
                                                refine k_if_ne (pc := 957) (tgt := 972) dL_law_957 rfl (fun c291 => ?_) (fun c291 => ?_)
                                                · rw [if_neg c291] at h
                                                  refine k_sub (ls' := [(1, (-2)), (1, v1), (1, v2), (1, v3), (0, v4), (3, 0), (3, 0)]) (k_sbl_ok _ _ ⟨Or.inr rfl, Or.inr rfl, Or.inr rfl, Or.inr rfl, Or.inr rfl, Or.inl rfl, Or.inl rfl, trivial⟩) ?_
                                                  exact okL_law_b972 (fL_law_h23 N) ih _ _ _ _ _ _ _ h
                                                · rw [if_pos (Classical.not_not.mp c291)] at h
                                                  refine k_aload_n (pc := 960) (x := v3) dL_law_960 rfl rfl ?_
                                                  refine k_iconst (pc := 961) dL_law_961 ⟨by decide, by decide⟩ ?_
                                                  obtain ⟨hc292, h⟩ := k_pk h
                                                  refine k_laload (pc := 962) dL_law_962 hc292 ?_
                                                  refine k_iload (pc := 963) (x := r282) dL_law_963 rfl ?_
                                                  refine k_i2l (pc := 965) dL_law_965 ?_
                                                  refine k_lcmp (pc := 966) dL_law_966 ?_
                                                  refine k_if_eq (pc := 967) (tgt := 972) dL_law_967 rfl (fun c293 => ?_) (fun c293 => ?_)
                                                  · rw [if_pos c293] at h
                                                    refine k_sub (ls' := [(1, (-2)), (1, v1), (1, v2), (1, v3), (0, v4), (3, 0), (3, 0)]) (k_sbl_ok _ _ ⟨Or.inr rfl, Or.inr rfl, Or.inr rfl, Or.inr rfl, Or.inr rfl, Or.inl rfl, Or.inl rfl, trivial⟩) ?_
                                                    exact okL_law_b972 (fL_law_h23 N) ih _ _ _ _ _ _ _ h
                                                  · rw [if_neg c293] at h
                                                    refine k_iconst (pc := 970) dL_law_970 ⟨by decide, by decide⟩ ?_
                                                    obtain ⟨rfl, rfl⟩ := k_pr h
                                                    exact k_ret (pc := 971) dL_law_971 rfl rfl (by decide +kernel)
                                              · rw [if_neg c290] at h
                                                refine k_iconst (pc := 953) dL_law_953 ⟨by decide, by decide⟩ ?_
                                                obtain ⟨rfl, rfl⟩ := k_pr h
                                                exact k_ret (pc := 954) dL_law_954 rfl rfl (by decide +kernel)
                                            · rw [if_neg c294] at h
                                              refine k_swin (pc := 40) (off := 935) (tgt := 975) dL_law_40 (by omega) (by omega) (by rw [show (k_and (k_rd A (-2) v4) 31) = 19 by omega]; rfl) rfl ?_
                                              refine k_aload_n (pc := 975) (x := v1) dL_law_975 rfl rfl ?_
                                              refine k_aload_n (pc := 976) (x := (-2)) dL_law_976 rfl rfl ?_
                                              refine k_iload (pc := 977) (x := v4) dL_law_977 rfl ?_
                                              refine k_iconst (pc := 979) dL_law_979 ⟨by decide, by decide⟩ ?_
                                              refine k_iadd (pc := 980) dL_law_980 ?_
                                              obtain ⟨hc295, h⟩ := k_pk h
                                              refine k_sld (pc := 981) dL_law_981 hc295.1 hc295.2 ?_
                                              obtain ⟨hc299, h⟩ := k_pk h
                                              obtain ⟨r296, A297, hq298, h⟩ := k_pb h
                                              refine k_callV (pc := 982) (ci := 8) (a := v1) (as := [(0, (k_rd A (-2) (k_wr (v4 + 1))))]) (st := []) (st1 := [(0, r296)]) dL_law_982 cbX8_count (k_gt 777 (by decide +kernel) (by decide +kernel)) cvX8_count.1 cvX8_count.2 rfl (by decide) hc299 (by omega) rfl (Nat.le_of_ble_eq_true rfl) (okX8_count hq298) rfl ?_
                                              refine k_aload_n (pc := 985) (x := v2) dL_law_985 rfl rfl ?_
                                              refine k_aload_n (pc := 986) (x := (-2)) dL_law_986 rfl rfl ?_
                                              refine k_iload (pc := 987) (x := v4) dL_law_987 rfl ?_
                                              refine k_iconst (pc := 989) dL_law_989 ⟨by decide, by decide⟩ ?_
                                              refine k_iadd (pc := 990) dL_law_990 ?_
                                              obtain ⟨hc300, h⟩ := k_pk h
                                              refine k_sld (pc := 991) dL_law_991 hc300.1 hc300.2 ?_
                                              obtain ⟨hc304, h⟩ := k_pk h
                                              obtain ⟨r301, A302, hq303, h⟩ := k_pb h
                                              refine k_callV (pc := 992) (ci := 9) (a := v2) (as := [(0, (k_rd A297 (-2) (k_wr (v4 + 1))))]) (st := [(0, r296)]) (st1 := [(0, r301), (0, r296)]) dL_law_992 cbX9_count (k_gt 1206 (by decide +kernel) (by decide +kernel)) cvX9_count.1 cvX9_count.2 rfl (by decide) hc304 (by omega) rfl (Nat.le_of_ble_eq_true rfl) (okX9_count hq303) rfl ?_
                                              refine k_icmp_eq (pc := 995) (tgt := 1000) dL_law_995 rfl (fun c305 => ?_) (fun c305 => ?_)
                                              · rw [if_pos c305] at h
                                                refine k_sub (ls' := [(1, (-2)), (1, v1), (1, v2), (1, v3), (0, v4), (3, 0), (3, 0)]) (k_sbl_ok _ _ ⟨Or.inr rfl, Or.inr rfl, Or.inr rfl, Or.inr rfl, Or.inr rfl, Or.inl rfl, Or.inl rfl, trivial⟩) ?_
                                                exact okL_law_b1000 (fL_law_h23 N) ih _ _ _ _ _ _ _ h
                                              · rw [if_neg c305] at h
                                                refine k_iconst (pc := 998) dL_law_998 ⟨by decide, by decide⟩ ?_
                                                obtain ⟨rfl, rfl⟩ := k_pr h
                                                exact k_ret (pc := 999) dL_law_999 rfl rfl (by decide +kernel)
set_option maxRecDepth 100000 in
theorem okL_law_b0 (A : k_H) (r : Int) (A' : k_H) (h : fL_law_b0 A  = some (r, A')) : k_AW 19 mL_law 0 [(1, (-2)), (3, 0), (3, 0), (3, 0), (3, 0), (3, 0), (3, 0)] [] A r A' := by
  unfold fL_law_b0 at h
  refine k_new (pc := 0) (ci := 8) (n := 8) dL_law_0 ncL_8 rfl ?_
  obtain ⟨A1, eA2, h⟩ := k_pl h
  refine k_hq eA2 ?_
  refine k_dup (pc := 3) dL_law_3 (Nat.le_of_ble_eq_true rfl) ?_
  obtain ⟨hc6, h⟩ := k_pk h
  obtain ⟨r3, A4, hq5, h⟩ := k_pb h
  refine k_callI (pc := 4) (a := (k_N A : Int)) (as := []) (st := [(1, (k_N A : Int))]) (st1 := [(1, (k_N A : Int))]) dL_law_4 cbX8_init (k_gt 25 (by decide +kernel) (by decide +kernel)) (k_gt 26 (by decide +kernel) (by decide +kernel)) rfl rfl hc6 (by omega) rfl (Nat.le_of_ble_eq_true rfl) (okX8_init hq5) rfl ?_
  obtain ⟨hc7, h⟩ := k_pk h
  refine k_astore_n (pc := 7) dL_law_7 rfl (Nat.le_of_ble_eq_true rfl) rfl hc7 ?_
  show k_AW _ _ _ [(1, (-2)), (1, (k_N A : Int)), (3, 0), (3, 0), (3, 0), (3, 0), (3, 0)] _ _ _ _
  refine k_new (pc := 8) (ci := 9) (n := 43) dL_law_8 ncL_20 rfl ?_
  obtain ⟨A8, eA9, h⟩ := k_pl h
  refine k_hq eA9 ?_
  refine k_dup (pc := 11) dL_law_11 (Nat.le_of_ble_eq_true rfl) ?_
  obtain ⟨hc13, h⟩ := k_pk h
  obtain ⟨r10, A11, hq12, h⟩ := k_pb h
  refine k_callI (pc := 12) (a := (k_N A4 : Int)) (as := []) (st := [(1, (k_N A4 : Int))]) (st1 := [(1, (k_N A4 : Int))]) dL_law_12 cbX9_init (k_gt 869 (by decide +kernel) (by decide +kernel)) (k_gt 870 (by decide +kernel) (by decide +kernel)) rfl rfl hc13 (by omega) rfl (Nat.le_of_ble_eq_true rfl) (okX9_init hq12) rfl ?_
  obtain ⟨hc14, h⟩ := k_pk h
  refine k_astore_n (pc := 15) dL_law_15 rfl (Nat.le_of_ble_eq_true rfl) rfl hc14 ?_
  show k_AW _ _ _ [(1, (-2)), (1, (k_N A : Int)), (1, (k_N A4 : Int)), (3, 0), (3, 0), (3, 0), (3, 0)] _ _ _ _
  refine k_iconst (pc := 16) dL_law_16 ⟨by decide, by decide⟩ ?_
  refine k_newa (pc := 17) (n := 1) dL_law_17 k_atL rfl (by decide) ?_
  obtain ⟨A15, eA16, h⟩ := k_pl h
  refine k_hq eA16 ?_
  obtain ⟨hc17, h⟩ := k_pk h
  refine k_astore_n (pc := 19) dL_law_19 rfl (Nat.le_of_ble_eq_true rfl) rfl hc17 ?_
  show k_AW _ _ _ [(1, (-2)), (1, (k_N A : Int)), (1, (k_N A4 : Int)), (1, (k_N A11 : Int)), (3, 0), (3, 0), (3, 0)] _ _ _ _
  refine k_iconst (pc := 20) dL_law_20 ⟨by decide, by decide⟩ ?_
  refine k_istore (pc := 21) dL_law_21 (Nat.le_of_ble_eq_true rfl) rfl ?_
  show k_AW _ _ _ [(1, (-2)), (1, (k_N A : Int)), (1, (k_N A4 : Int)), (1, (k_N A11 : Int)), (0, 0), (3, 0), (3, 0)] _ _ _ _
  refine k_sub (ls' := [(1, (-2)), (1, (k_N A : Int)), (1, (k_N A4 : Int)), (1, (k_N A11 : Int)), (0, 0), (3, 0), (3, 0)]) (k_sbl_ok _ _ ⟨Or.inr rfl, Or.inr rfl, Or.inr rfl, Or.inr rfl, Or.inr rfl, Or.inl rfl, Or.inl rfl, trivial⟩) ?_
  exact okL_law_h23  _ _ _ _ _ _ _ _ h
