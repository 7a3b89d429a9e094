/-! the law's loop -/
theorem l_len {sc : k_SC} {A : k_H} (hw : k_Wf sc A) : (k_kd A (-2)).2 = sc.1.1 := by rw [hw.2.2.2.1]
theorem l_rd {sc : k_SC} {A : k_H} (hw : k_Wf sc A) {i : Int} (h0 : 0 ≤ i) (h1 : i < sc.1.1) : k_rd A (-2) i = (sc.1.2 i.toNat).toInt := by
  obtain ⟨j, rfl⟩ : ∃ j : Nat, i = j := ⟨i.toNat, by omega⟩
  rw [Int.toNat_natCast]
  exact hw.2.2.2.2 j (by omega)
theorem l_i32 (x : Int32) : -2147483648 ≤ x.toInt ∧ x.toInt < 2147483648 := ⟨Int32.le_toInt x, Int32.toInt_lt x⟩
def l_P (sc : k_SC) (v i : Int) : Int := (sc.1.2 (v + i).toNat).toInt
theorem l_out : k_rw 151 22 1 := ⟨by decide, by decide, by decide +kernel⟩
section
variable {sc : k_SC} {A : k_H} {v : Int}
def l_G (sc : k_SC) (A : k_H) (v : Int) : Prop := ∃ sc' A', (∀ N, fL_law_h23 (N + 1) A 0 120 151 v = fL_law_h23 N A' 0 120 151 (v + 7)) ∧ k_Wf sc' A' ∧ Rel A' ∧ sc'.1 = sc.1 ∧ sc'.2.1 ≤ sc.2.1 + 1 ∧ sc'.2.2 ≤ sc.2.2 + 6
set_option maxHeartbeats 4000000 in
theorem l_c0 (hw : k_Wf sc A) (r : Rel A) (hl : sc.1.1 ≤ 3584) (v0 : 0 ≤ v) (vl : v + 7 ≤ sc.1.1) (hc : k_and (k_rd A (-2) v) 31 = 0) : l_G sc A v := by
  have len := l_len hw
  have p1 : k_rd A (-2) (v + 1) = l_P sc v 1 := l_rd hw (by omega) (by omega)
  have p2 : k_rd A (-2) (v + 2) = l_P sc v 2 := l_rd hw (by omega) (by omega)
  have p3 : k_rd A (-2) (v + 3) = l_P sc v 3 := l_rd hw (by omega) (by omega)
  have p4 : k_rd A (-2) (v + 4) = l_P sc v 4 := l_rd hw (by omega) (by omega)
  have p5 : k_rd A (-2) (v + 5) = l_P sc v 5 := l_rd hw (by omega) (by omega)
  obtain ⟨x, A1, A2, eX, eY, R⟩ := o_feed (A := A) (a := l_P sc v 1) (b := l_P sc v 2) (c := l_P sc v 3) (d := l_P sc v 4) (e := l_P sc v 5) r (l_i32 _) (l_i32 _) (l_i32 _) (l_i32 _) (l_i32 _)
  have f1 : fX8_feed A 0 (l_P sc v 1) (l_P sc v 2) (l_P sc v 3) (l_P sc v 4) (l_P sc v 5) = some (x, A1) ∧ k_Wf sc A1 := sgX8_feed hw eX
  have f2 : fX9_feed A1 120 (l_P sc v 1) (l_P sc v 2) (l_P sc v 3) (l_P sc v 4) (l_P sc v 5) = some (x, A2) ∧ k_Wf sc A2 := sgX9_feed f1.2 eY
  have len1 := l_len f1.2
  have q1 : k_rd A1 (-2) (v + 1) = l_P sc v 1 := l_rd f1.2 (by omega) (by omega)
  have q2 : k_rd A1 (-2) (v + 2) = l_P sc v 2 := l_rd f1.2 (by omega) (by omega)
  have q3 : k_rd A1 (-2) (v + 3) = l_P sc v 3 := l_rd f1.2 (by omega) (by omega)
  have q4 : k_rd A1 (-2) (v + 4) = l_P sc v 4 := l_rd f1.2 (by omega) (by omega)
  have q5 : k_rd A1 (-2) (v + 5) = l_P sc v 5 := l_rd f1.2 (by omega) (by omega)
  refine ⟨sc, A2, fun N => ?_, f2.2, R, rfl, by omega, by omega⟩
  rw [fL_law_h23, len, if_pos (by omega), k_wr_of (x := (sc.1.1 : Int) - 7) (by omega) (by omega), if_pos (by omega), if_pos (by omega), hc, if_neg (by omega), if_pos rfl]
  rw [k_wr_of (x := v + 1) (by omega) (by omega), k_wr_of (x := v + 2) (by omega) (by omega), k_wr_of (x := v + 3) (by omega) (by omega), k_wr_of (x := v + 4) (by omega) (by omega), k_wr_of (x := v + 5) (by omega) (by omega), if_pos (by omega), if_pos (by omega), if_pos (by omega), if_pos (by omega), if_pos (by omega), if_pos (k_wO hw k_K0), p1, p2, p3, p4, p5, f1.1, k_bds, len1, if_pos (by omega), if_pos (by omega), if_pos (by omega), if_pos (by omega), if_pos (by omega), if_pos (k_wO f1.2 k_K120), q1, q2, q3, q4, q5, f2.1, k_bds, if_pos rfl]
  unfold fL_law_b1000
  rw [k_wr_of (x := v + 7) (by omega) (by omega)]
set_option maxHeartbeats 4000000 in
theorem l_c1 (hw : k_Wf sc A) (r : Rel A) (hl : sc.1.1 ≤ 3584) (v0 : 0 ≤ v) (vl : v + 7 ≤ sc.1.1) (hc : k_and (k_rd A (-2) v) 31 = 1) : l_G sc A v := by
  have len := l_len hw
  have p1 : k_rd A (-2) (v + 1) = l_P sc v 1 := l_rd hw (by omega) (by omega)
  obtain ⟨x, A1, A2, eX, eY, R⟩ := o_end (A := A) (n := l_P sc v 1) r
  have f1 : fX8_end A 0 (l_P sc v 1) = some (x, A1) ∧ k_Wf sc A1 := sgX8_end hw eX
  have f2 : fX9_end A1 120 (l_P sc v 1) = some (x, A2) ∧ k_Wf sc A2 := sgX9_end f1.2 eY
  have len1 := l_len f1.2
  have q1 : k_rd A1 (-2) (v + 1) = l_P sc v 1 := l_rd f1.2 (by omega) (by omega)
  refine ⟨sc, A2, fun N => ?_, f2.2, R, rfl, by omega, by omega⟩
  rw [fL_law_h23, len, if_pos (by omega), k_wr_of (x := (sc.1.1 : Int) - 7) (by omega) (by omega), if_pos (by omega), if_pos (by omega), hc, if_neg (by omega), if_neg (by omega), if_pos rfl]
  rw [k_wr_of (x := v + 1) (by omega) (by omega), if_pos (by omega), if_pos (k_wO hw k_K0), p1, f1.1, k_bds, len1, if_pos (by omega), if_pos (k_wO f1.2 k_K120), q1, f2.1, k_bds, if_pos rfl]
  unfold fL_law_b1000
  rw [k_wr_of (x := v + 7) (by omega) (by omega)]
set_option maxHeartbeats 4000000 in
theorem l_c2 (hw : k_Wf sc A) (r : Rel A) (hl : sc.1.1 ≤ 3584) (v0 : 0 ≤ v) (vl : v + 7 ≤ sc.1.1) (hc : k_and (k_rd A (-2) v) 31 = 2) : l_G sc A v := by
  have len := l_len hw
  have p1 : k_rd A (-2) (v + 1) = l_P sc v 1 := l_rd hw (by omega) (by omega)
  have p2 : k_rd A (-2) (v + 2) = l_P sc v 2 := l_rd hw (by omega) (by omega)
  have p3 : k_rd A (-2) (v + 3) = l_P sc v 3 := l_rd hw (by omega) (by omega)
  have p4 : k_rd A (-2) (v + 4) = l_P sc v 4 := l_rd hw (by omega) (by omega)
  obtain ⟨x, A1, A2, eX, eY, R⟩ := o_hall (A := A) (x := l_P sc v 1) (y := l_P sc v 2) (hi := l_P sc v 3) (wi := l_P sc v 4) r
  have f1 : fX8_hall A 0 (l_P sc v 1) (l_P sc v 2) (l_P sc v 3) (l_P sc v 4) = some (x, A1) ∧ k_Wf sc A1 := sgX8_hall hw eX
  have f2 : fX9_hall A1 120 (l_P sc v 1) (l_P sc v 2) (l_P sc v 3) (l_P sc v 4) = some (x, A2) ∧ k_Wf sc A2 := sgX9_hall f1.2 eY
  have len1 := l_len f1.2
  have q1 : k_rd A1 (-2) (v + 1) = l_P sc v 1 := l_rd f1.2 (by omega) (by omega)
  have q2 : k_rd A1 (-2) (v + 2) = l_P sc v 2 := l_rd f1.2 (by omega) (by omega)
  have q3 : k_rd A1 (-2) (v + 3) = l_P sc v 3 := l_rd f1.2 (by omega) (by omega)
  have q4 : k_rd A1 (-2) (v + 4) = l_P sc v 4 := l_rd f1.2 (by omega) (by omega)
  refine ⟨sc, A2, fun N => ?_, f2.2, R, rfl, by omega, by omega⟩
  rw [fL_law_h23, len, if_pos (by omega), k_wr_of (x := (sc.1.1 : Int) - 7) (by omega) (by omega), if_pos (by omega), if_pos (by omega), hc, if_neg (by omega), if_neg (by omega), if_neg (by omega), if_pos rfl]
  rw [k_wr_of (x := v + 1) (by omega) (by omega), k_wr_of (x := v + 2) (by omega) (by omega), k_wr_of (x := v + 3) (by omega) (by omega), k_wr_of (x := v + 4) (by omega) (by omega), if_pos (by omega), if_pos (by omega), if_pos (by omega), if_pos (by omega), if_pos (k_wO hw k_K0), p1, p2, p3, p4, f1.1, k_bds, len1, if_pos (by omega), if_pos (by omega), if_pos (by omega), if_pos (by omega), if_pos (k_wO f1.2 k_K120), q1, q2, q3, q4, f2.1, k_bds, if_pos rfl]
  unfold fL_law_b1000
  rw [k_wr_of (x := v + 7) (by omega) (by omega)]
set_option maxHeartbeats 4000000 in
theorem l_c3 (hw : k_Wf sc A) (r : Rel A) (hl : sc.1.1 ≤ 3584) (v0 : 0 ≤ v) (vl : v + 7 ≤ sc.1.1) (hc : k_and (k_rd A (-2) v) 31 = 3) : l_G sc A v := by
  have len := l_len hw
  have p1 : k_rd A (-2) (v + 1) = l_P sc v 1 := l_rd hw (by omega) (by omega)
  have p2 : k_rd A (-2) (v + 2) = l_P sc v 2 := l_rd hw (by omega) (by omega)
  have p3 : k_rd A (-2) (v + 3) = l_P sc v 3 := l_rd hw (by omega) (by omega)
  have p4 : k_rd A (-2) (v + 4) = l_P sc v 4 := l_rd hw (by omega) (by omega)
  have p5 : k_rd A (-2) (v + 5) = l_P sc v 5 := l_rd hw (by omega) (by omega)
  have p6 : k_rd A (-2) (v + 6) = l_P sc v 6 := l_rd hw (by omega) (by omega)
  obtain ⟨x, A1, A2, eX, eY, R⟩ := o_show (A := A) (hi := l_P sc v 1) (wi := l_P sc v 2) (a := l_P sc v 3) (b := l_P sc v 4) (c := l_P sc v 5) (d := l_P sc v 6) r
  have f1 : fX8_show A 0 (l_P sc v 1) (l_P sc v 2) (l_P sc v 3) (l_P sc v 4) (l_P sc v 5) (l_P sc v 6) = some (x, A1) ∧ k_Wf sc A1 := sgX8_show hw eX
  have f2 : fX9_show A1 120 (l_P sc v 1) (l_P sc v 2) (l_P sc v 3) (l_P sc v 4) (l_P sc v 5) (l_P sc v 6) = some (x, A2) ∧ k_Wf sc A2 := sgX9_show f1.2 eY
  have len1 := l_len f1.2
  have q1 : k_rd A1 (-2) (v + 1) = l_P sc v 1 := l_rd f1.2 (by omega) (by omega)
  have q2 : k_rd A1 (-2) (v + 2) = l_P sc v 2 := l_rd f1.2 (by omega) (by omega)
  have q3 : k_rd A1 (-2) (v + 3) = l_P sc v 3 := l_rd f1.2 (by omega) (by omega)
  have q4 : k_rd A1 (-2) (v + 4) = l_P sc v 4 := l_rd f1.2 (by omega) (by omega)
  have q5 : k_rd A1 (-2) (v + 5) = l_P sc v 5 := l_rd f1.2 (by omega) (by omega)
  have q6 : k_rd A1 (-2) (v + 6) = l_P sc v 6 := l_rd f1.2 (by omega) (by omega)
  refine ⟨sc, A2, fun N => ?_, f2.2, R, rfl, by omega, by omega⟩
  rw [fL_law_h23, len, if_pos (by omega), k_wr_of (x := (sc.1.1 : Int) - 7) (by omega) (by omega), if_pos (by omega), if_pos (by omega), hc, if_neg (by omega), if_neg (by omega), if_neg (by omega), if_neg (by omega), if_pos rfl]
  rw [k_wr_of (x := v + 1) (by omega) (by omega), k_wr_of (x := v + 2) (by omega) (by omega), k_wr_of (x := v + 3) (by omega) (by omega), k_wr_of (x := v + 4) (by omega) (by omega), k_wr_of (x := v + 5) (by omega) (by omega), k_wr_of (x := v + 6) (by omega) (by omega), if_pos (by omega), if_pos (by omega), if_pos (by omega), if_pos (by omega), if_pos (by omega), if_pos (by omega), if_pos (k_wO hw k_K0), p1, p2, p3, p4, p5, p6, f1.1, k_bds, len1, if_pos (by omega), if_pos (by omega), if_pos (by omega), if_pos (by omega), if_pos (by omega), if_pos (by omega), if_pos (k_wO f1.2 k_K120), q1, q2, q3, q4, q5, q6, f2.1, k_bds, if_pos rfl]
  unfold fL_law_b1000
  rw [k_wr_of (x := v + 7) (by omega) (by omega)]
set_option maxHeartbeats 4000000 in
theorem l_c4 (hw : k_Wf sc A) (r : Rel A) (hl : sc.1.1 ≤ 3584) (v0 : 0 ≤ v) (vl : v + 7 ≤ sc.1.1) (hc : k_and (k_rd A (-2) v) 31 = 4) : l_G sc A v := by
  have len := l_len hw
  have p1 : k_rd A (-2) (v + 1) = l_P sc v 1 := l_rd hw (by omega) (by omega)
  have p2 : k_rd A (-2) (v + 2) = l_P sc v 2 := l_rd hw (by omega) (by omega)
  have p3 : k_rd A (-2) (v + 3) = l_P sc v 3 := l_rd hw (by omega) (by omega)
  obtain ⟨x, A1, A2, eX, eY, R⟩ := o_rewire (A := A) (h := l_P sc v 1) (hi := l_P sc v 2) (wi := l_P sc v 3) r
  have f1 : fX8_rewire A 0 (l_P sc v 1) (l_P sc v 2) (l_P sc v 3) = some (x, A1) ∧ k_Wf sc A1 := sgX8_rewire hw eX
  have f2 : fX9_rewire A1 120 (l_P sc v 1) (l_P sc v 2) (l_P sc v 3) = some (x, A2) ∧ k_Wf sc A2 := sgX9_rewire f1.2 eY
  have len1 := l_len f1.2
  have q1 : k_rd A1 (-2) (v + 1) = l_P sc v 1 := l_rd f1.2 (by omega) (by omega)
  have q2 : k_rd A1 (-2) (v + 2) = l_P sc v 2 := l_rd f1.2 (by omega) (by omega)
  have q3 : k_rd A1 (-2) (v + 3) = l_P sc v 3 := l_rd f1.2 (by omega) (by omega)
  refine ⟨sc, A2, fun N => ?_, f2.2, R, rfl, by omega, by omega⟩
  rw [fL_law_h23, len, if_pos (by omega), k_wr_of (x := (sc.1.1 : Int) - 7) (by omega) (by omega), if_pos (by omega), if_pos (by omega), hc, if_neg (by omega), if_neg (by omega), if_neg (by omega), if_neg (by omega), if_neg (by omega), if_pos rfl]
  rw [k_wr_of (x := v + 1) (by omega) (by omega), k_wr_of (x := v + 2) (by omega) (by omega), k_wr_of (x := v + 3) (by omega) (by omega), if_pos (by omega), if_pos (by omega), if_pos (by omega), if_pos (k_wO hw k_K0), p1, p2, p3, f1.1, k_bds, len1, if_pos (by omega), if_pos (by omega), if_pos (by omega), if_pos (k_wO f1.2 k_K120), q1, q2, q3, f2.1, k_bds, if_pos rfl]
  unfold fL_law_b1000
  rw [k_wr_of (x := v + 7) (by omega) (by omega)]
set_option maxHeartbeats 4000000 in
theorem l_c5 (hw : k_Wf sc A) (r : Rel A) (hl : sc.1.1 ≤ 3584) (v0 : 0 ≤ v) (vl : v + 7 ≤ sc.1.1) (hc : k_and (k_rd A (-2) v) 31 = 5) : l_G sc A v := by
  have len := l_len hw
  have p1 : k_rd A (-2) (v + 1) = l_P sc v 1 := l_rd hw (by omega) (by omega)
  have p2 : k_rd A (-2) (v + 2) = l_P sc v 2 := l_rd hw (by omega) (by omega)
  have p3 : k_rd A (-2) (v + 3) = l_P sc v 3 := l_rd hw (by omega) (by omega)
  obtain ⟨x, A1, A2, eX, eY, R⟩ := o_give (A := A) (h := l_P sc v 1) (s := l_P sc v 2) (v := l_P sc v 3) r
  have f1 : fX8_give A 0 (l_P sc v 1) (l_P sc v 2) (l_P sc v 3) = some (x, A1) ∧ k_Wf sc A1 := sgX8_give hw eX
  have f2 : fX9_give A1 120 (l_P sc v 1) (l_P sc v 2) (l_P sc v 3) = some (x, A2) ∧ k_Wf sc A2 := sgX9_give f1.2 eY
  have len1 := l_len f1.2
  have q1 : k_rd A1 (-2) (v + 1) = l_P sc v 1 := l_rd f1.2 (by omega) (by omega)
  have q2 : k_rd A1 (-2) (v + 2) = l_P sc v 2 := l_rd f1.2 (by omega) (by omega)
  have q3 : k_rd A1 (-2) (v + 3) = l_P sc v 3 := l_rd f1.2 (by omega) (by omega)
  refine ⟨sc, A2, fun N => ?_, f2.2, R, rfl, by omega, by omega⟩
  rw [fL_law_h23, len, if_pos (by omega), k_wr_of (x := (sc.1.1 : Int) - 7) (by omega) (by omega), if_pos (by omega), if_pos (by omega), hc, if_neg (by omega), if_neg (by omega), if_neg (by omega), if_neg (by omega), if_neg (by omega), if_neg (by omega), if_pos rfl]
  rw [k_wr_of (x := v + 1) (by omega) (by omega), k_wr_of (x := v + 2) (by omega) (by omega), k_wr_of (x := v + 3) (by omega) (by omega), if_pos (by omega), if_pos (by omega), if_pos (by omega), if_pos (k_wO hw k_K0), p1, p2, p3, f1.1, k_bds, len1, if_pos (by omega), if_pos (by omega), if_pos (by omega), if_pos (k_wO f1.2 k_K120), q1, q2, q3, f2.1, k_bds, if_pos rfl]
  unfold fL_law_b1000
  rw [k_wr_of (x := v + 7) (by omega) (by omega)]
set_option maxHeartbeats 4000000 in
theorem l_c6 (hw : k_Wf sc A) (r : Rel A) (hl : sc.1.1 ≤ 3584) (v0 : 0 ≤ v) (vl : v + 7 ≤ sc.1.1) (hc : k_and (k_rd A (-2) v) 31 = 6) : l_G sc A v := by
  have len := l_len hw
  have p1 : k_rd A (-2) (v + 1) = l_P sc v 1 := l_rd hw (by omega) (by omega)
  have p2 : k_rd A (-2) (v + 2) = l_P sc v 2 := l_rd hw (by omega) (by omega)
  obtain ⟨x, A1, A2, eX, eY, R⟩ := o_fits (A := A) (s := l_P sc v 1) (h := l_P sc v 2) r
  have f1 : fX8_fits A 0 (l_P sc v 1) (l_P sc v 2) = some (x, A1) ∧ k_Wf sc A1 := sgX8_fits hw eX
  have f2 : fX9_fits A1 120 (l_P sc v 1) (l_P sc v 2) = some (x, A2) ∧ k_Wf sc A2 := sgX9_fits f1.2 eY
  have len1 := l_len f1.2
  have q1 : k_rd A1 (-2) (v + 1) = l_P sc v 1 := l_rd f1.2 (by omega) (by omega)
  have q2 : k_rd A1 (-2) (v + 2) = l_P sc v 2 := l_rd f1.2 (by omega) (by omega)
  refine ⟨sc, A2, fun N => ?_, f2.2, R, rfl, by omega, by omega⟩
  rw [fL_law_h23, len, if_pos (by omega), k_wr_of (x := (sc.1.1 : Int) - 7) (by omega) (by omega), if_pos (by omega), if_pos (by omega), hc, if_neg (by omega), if_neg (by omega), if_neg (by omega), if_neg (by omega), if_neg (by omega), if_neg (by omega), if_neg (by omega), if_pos rfl]
  rw [k_wr_of (x := v + 1) (by omega) (by omega), k_wr_of (x := v + 2) (by omega) (by omega), if_pos (by omega), if_pos (by omega), if_pos (k_wO hw k_K0), p1, p2, f1.1, k_bds, len1, if_pos (by omega), if_pos (by omega), if_pos (k_wO f1.2 k_K120), q1, q2, f2.1, k_bds, if_pos rfl]
  unfold fL_law_b1000
  rw [k_wr_of (x := v + 7) (by omega) (by omega)]
set_option maxHeartbeats 4000000 in
theorem l_c7 (hw : k_Wf sc A) (r : Rel A) (hl : sc.1.1 ≤ 3584) (v0 : 0 ≤ v) (vl : v + 7 ≤ sc.1.1) (hc : k_and (k_rd A (-2) v) 31 = 7) : l_G sc A v := by
  have len := l_len hw
  have p1 : k_rd A (-2) (v + 1) = l_P sc v 1 := l_rd hw (by omega) (by omega)
  have p2 : k_rd A (-2) (v + 2) = l_P sc v 2 := l_rd hw (by omega) (by omega)
  have p3 : k_rd A (-2) (v + 3) = l_P sc v 3 := l_rd hw (by omega) (by omega)
  obtain ⟨x, A1, A2, eX, eY, R⟩ := o_plugged (A := A) (s := l_P sc v 1) (h := l_P sc v 2) (l := l_P sc v 3) r
  have f1 : fX8_plugged A 0 (l_P sc v 1) (l_P sc v 2) (l_P sc v 3) = some (x, A1) ∧ k_Wf sc A1 := sgX8_plugged hw eX
  have f2 : fX9_plugged A1 120 (l_P sc v 1) (l_P sc v 2) (l_P sc v 3) = some (x, A2) ∧ k_Wf sc A2 := sgX9_plugged f1.2 eY
  have len1 := l_len f1.2
  have q1 : k_rd A1 (-2) (v + 1) = l_P sc v 1 := l_rd f1.2 (by omega) (by omega)
  have q2 : k_rd A1 (-2) (v + 2) = l_P sc v 2 := l_rd f1.2 (by omega) (by omega)
  have q3 : k_rd A1 (-2) (v + 3) = l_P sc v 3 := l_rd f1.2 (by omega) (by omega)
  refine ⟨sc, A2, fun N => ?_, f2.2, R, rfl, by omega, by omega⟩
  rw [fL_law_h23, len, if_pos (by omega), k_wr_of (x := (sc.1.1 : Int) - 7) (by omega) (by omega), if_pos (by omega), if_pos (by omega), hc, if_neg (by omega), if_neg (by omega), if_neg (by omega), if_neg (by omega), if_neg (by omega), if_neg (by omega), if_neg (by omega), if_neg (by omega), if_pos rfl]
  rw [k_wr_of (x := v + 1) (by omega) (by omega), k_wr_of (x := v + 2) (by omega) (by omega), k_wr_of (x := v + 3) (by omega) (by omega), if_pos (by omega), if_pos (by omega), if_pos (by omega), if_pos (k_wO hw k_K0), p1, p2, p3, f1.1, k_bds, len1, if_pos (by omega), if_pos (by omega), if_pos (by omega), if_pos (k_wO f1.2 k_K120), q1, q2, q3, f2.1, k_bds, if_pos rfl]
  unfold fL_law_b1000
  rw [k_wr_of (x := v + 7) (by omega) (by omega)]
set_option maxHeartbeats 4000000 in
theorem l_c8 (hw : k_Wf sc A) (r : Rel A) (hl : sc.1.1 ≤ 3584) (v0 : 0 ≤ v) (vl : v + 7 ≤ sc.1.1) (hc : k_and (k_rd A (-2) v) 31 = 8) : l_G sc A v := by
  have len := l_len hw
  have p1 : k_rd A (-2) (v + 1) = l_P sc v 1 := l_rd hw (by omega) (by omega)
  have p2 : k_rd A (-2) (v + 2) = l_P sc v 2 := l_rd hw (by omega) (by omega)
  obtain ⟨x, A1, A2, eX, eY, R⟩ := o_lacks (A := A) (s := l_P sc v 1) (h := l_P sc v 2) r
  have f1 : fX8_lacks A 0 (l_P sc v 1) (l_P sc v 2) = some (x, A1) ∧ k_Wf sc A1 := sgX8_lacks hw eX
  have f2 : fX9_lacks A1 120 (l_P sc v 1) (l_P sc v 2) = some (x, A2) ∧ k_Wf sc A2 := sgX9_lacks f1.2 eY
  have len1 := l_len f1.2
  have q1 : k_rd A1 (-2) (v + 1) = l_P sc v 1 := l_rd f1.2 (by omega) (by omega)
  have q2 : k_rd A1 (-2) (v + 2) = l_P sc v 2 := l_rd f1.2 (by omega) (by omega)
  refine ⟨sc, A2, fun N => ?_, f2.2, R, rfl, by omega, by omega⟩
  rw [fL_law_h23, len, if_pos (by omega), k_wr_of (x := (sc.1.1 : Int) - 7) (by omega) (by omega), if_pos (by omega), if_pos (by omega), hc, if_neg (by omega), if_neg (by omega), if_neg (by omega), if_neg (by omega), if_neg (by omega), if_neg (by omega), if_neg (by omega), if_neg (by omega), if_neg (by omega), if_pos rfl]
  rw [k_wr_of (x := v + 1) (by omega) (by omega), k_wr_of (x := v + 2) (by omega) (by omega), if_pos (by omega), if_pos (by omega), if_pos (k_wO hw k_K0), p1, p2, f1.1, k_bds, len1, if_pos (by omega), if_pos (by omega), if_pos (k_wO f1.2 k_K120), q1, q2, f2.1, k_bds, if_pos rfl]
  unfold fL_law_b1000
  rw [k_wr_of (x := v + 7) (by omega) (by omega)]
set_option maxHeartbeats 4000000 in
theorem l_c9 (hw : k_Wf sc A) (r : Rel A) (hl : sc.1.1 ≤ 3584) (v0 : 0 ≤ v) (vl : v + 7 ≤ sc.1.1) (hc : k_and (k_rd A (-2) v) 31 = 9) : l_G sc A v := by
  have len := l_len hw
  have p1 : k_rd A (-2) (v + 1) = l_P sc v 1 := l_rd hw (by omega) (by omega)
  obtain ⟨x, A1, A2, eX, eY, R⟩ := o_book (A := A) (s := l_P sc v 1) r
  have f1 : fX8_book A 0 (l_P sc v 1) = some (x, A1) ∧ k_Wf sc A1 := sgX8_book hw eX
  have f2 : fX9_book A1 120 (l_P sc v 1) = some (x, A2) ∧ k_Wf sc A2 := sgX9_book f1.2 eY
  have len1 := l_len f1.2
  have q1 : k_rd A1 (-2) (v + 1) = l_P sc v 1 := l_rd f1.2 (by omega) (by omega)
  refine ⟨sc, A2, fun N => ?_, f2.2, R, rfl, by omega, by omega⟩
  rw [fL_law_h23, len, if_pos (by omega), k_wr_of (x := (sc.1.1 : Int) - 7) (by omega) (by omega), if_pos (by omega), if_pos (by omega), hc, if_neg (by omega), if_neg (by omega), if_neg (by omega), if_neg (by omega), if_neg (by omega), if_neg (by omega), if_neg (by omega), if_neg (by omega), if_neg (by omega), if_neg (by omega), if_pos rfl]
  rw [k_wr_of (x := v + 1) (by omega) (by omega), if_pos (by omega), if_pos (k_wO hw k_K0), p1, f1.1, k_bds, len1, if_pos (by omega), if_pos (k_wO f1.2 k_K120), q1, f2.1, k_bds, if_pos rfl]
  unfold fL_law_b1000
  rw [k_wr_of (x := v + 7) (by omega) (by omega)]
set_option maxHeartbeats 4000000 in
theorem l_c10 (hw : k_Wf sc A) (r : Rel A) (hl : sc.1.1 ≤ 3584) (v0 : 0 ≤ v) (vl : v + 7 ≤ sc.1.1) (hc : k_and (k_rd A (-2) v) 31 = 10) : l_G sc A v := by
  have len := l_len hw
  have p1 : k_rd A (-2) (v + 1) = l_P sc v 1 := l_rd hw (by omega) (by omega)
  have p2 : k_rd A (-2) (v + 2) = l_P sc v 2 := l_rd hw (by omega) (by omega)
  obtain ⟨x, A1, A2, eX, eY, R⟩ := o_on (A := A) (s := l_P sc v 1) (n := l_P sc v 2) r
  have f1 : fX8_on A 0 (l_P sc v 1) (l_P sc v 2) = some (x, A1) ∧ k_Wf sc A1 := sgX8_on hw eX
  have f2 : fX9_on A1 120 (l_P sc v 1) (l_P sc v 2) = some (x, A2) ∧ k_Wf sc A2 := sgX9_on f1.2 eY
  have len1 := l_len f1.2
  have q1 : k_rd A1 (-2) (v + 1) = l_P sc v 1 := l_rd f1.2 (by omega) (by omega)
  have q2 : k_rd A1 (-2) (v + 2) = l_P sc v 2 := l_rd f1.2 (by omega) (by omega)
  refine ⟨sc, A2, fun N => ?_, f2.2, R, rfl, by omega, by omega⟩
  rw [fL_law_h23, len, if_pos (by omega), k_wr_of (x := (sc.1.1 : Int) - 7) (by omega) (by omega), if_pos (by omega), if_pos (by omega), hc, if_neg (by omega), if_neg (by omega), if_neg (by omega), if_neg (by omega), if_neg (by omega), if_neg (by omega), if_neg (by omega), if_neg (by omega), if_neg (by omega), if_neg (by omega), if_neg (by omega), if_pos rfl]
  rw [k_wr_of (x := v + 1) (by omega) (by omega), k_wr_of (x := v + 2) (by omega) (by omega), if_pos (by omega), if_pos (by omega), if_pos (k_wO hw k_K0), p1, p2, f1.1, k_bds, len1, if_pos (by omega), if_pos (by omega), if_pos (k_wO f1.2 k_K120), q1, q2, f2.1, k_bds, if_pos rfl]
  unfold fL_law_b1000
  rw [k_wr_of (x := v + 7) (by omega) (by omega)]
set_option maxHeartbeats 4000000 in
theorem l_c11 (hw : k_Wf sc A) (r : Rel A) (hl : sc.1.1 ≤ 3584) (v0 : 0 ≤ v) (vl : v + 7 ≤ sc.1.1) (hc : k_and (k_rd A (-2) v) 31 = 11) : l_G sc A v := by
  have len := l_len hw
  have p1 : k_rd A (-2) (v + 1) = l_P sc v 1 := l_rd hw (by omega) (by omega)
  have p2 : k_rd A (-2) (v + 2) = l_P sc v 2 := l_rd hw (by omega) (by omega)
  obtain ⟨x, A1, A2, eX, eY, R⟩ := o_snow (A := A) (h := l_P sc v 1) (n := l_P sc v 2) r
  have f1 : fX8_snow A 0 (l_P sc v 1) (l_P sc v 2) = some (x, A1) ∧ k_Wf sc A1 := sgX8_snow hw eX
  have f2 : fX9_snow A1 120 (l_P sc v 1) (l_P sc v 2) = some (x, A2) ∧ k_Wf sc A2 := sgX9_snow f1.2 eY
  have len1 := l_len f1.2
  have q1 : k_rd A1 (-2) (v + 1) = l_P sc v 1 := l_rd f1.2 (by omega) (by omega)
  have q2 : k_rd A1 (-2) (v + 2) = l_P sc v 2 := l_rd f1.2 (by omega) (by omega)
  refine ⟨sc, A2, fun N => ?_, f2.2, R, rfl, by omega, by omega⟩
  rw [fL_law_h23, len, if_pos (by omega), k_wr_of (x := (sc.1.1 : Int) - 7) (by omega) (by omega), if_pos (by omega), if_pos (by omega), hc, if_neg (by omega), if_neg (by omega), if_neg (by omega), if_neg (by omega), if_neg (by omega), if_neg (by omega), if_neg (by omega), if_neg (by omega), if_neg (by omega), if_neg (by omega), if_neg (by omega), if_neg (by omega), if_pos rfl]
  rw [k_wr_of (x := v + 1) (by omega) (by omega), k_wr_of (x := v + 2) (by omega) (by omega), if_pos (by omega), if_pos (by omega), if_pos (k_wO hw k_K0), p1, p2, f1.1, k_bds, len1, if_pos (by omega), if_pos (by omega), if_pos (k_wO f1.2 k_K120), q1, q2, f2.1, k_bds, if_pos rfl]
  unfold fL_law_b1000
  rw [k_wr_of (x := v + 7) (by omega) (by omega)]
set_option maxHeartbeats 4000000 in
theorem l_c12 (hw : k_Wf sc A) (r : Rel A) (hl : sc.1.1 ≤ 3584) (v0 : 0 ≤ v) (vl : v + 7 ≤ sc.1.1) (hc : k_and (k_rd A (-2) v) 31 = 12) : l_G sc A v := by
  have len := l_len hw
  have p1 : k_rd A (-2) (v + 1) = l_P sc v 1 := l_rd hw (by omega) (by omega)
  obtain ⟨x, A1, A2, eX, eY, R⟩ := o_worth (A := A) (s := l_P sc v 1) r
  have f1 : fX8_worth A 0 (l_P sc v 1) = some (x, A1) ∧ k_Wf sc A1 := sgX8_worth hw eX
  have f2 : fX9_worth A1 120 (l_P sc v 1) = some (x, A2) ∧ k_Wf sc A2 := sgX9_worth f1.2 eY
  have len1 := l_len f1.2
  have q1 : k_rd A1 (-2) (v + 1) = l_P sc v 1 := l_rd f1.2 (by omega) (by omega)
  refine ⟨sc, A2, fun N => ?_, f2.2, R, rfl, by omega, by omega⟩
  rw [fL_law_h23, len, if_pos (by omega), k_wr_of (x := (sc.1.1 : Int) - 7) (by omega) (by omega), if_pos (by omega), if_pos (by omega), hc, if_neg (by omega), if_neg (by omega), if_neg (by omega), if_neg (by omega), if_neg (by omega), if_neg (by omega), if_neg (by omega), if_neg (by omega), if_neg (by omega), if_neg (by omega), if_neg (by omega), if_neg (by omega), if_neg (by omega), if_pos rfl]
  rw [k_wr_of (x := v + 1) (by omega) (by omega), if_pos (by omega), if_pos (k_wO hw k_K0), p1, f1.1, k_bds, len1, if_pos (by omega), if_pos (k_wO f1.2 k_K120), q1, f2.1, k_bds, if_pos rfl]
  unfold fL_law_b1000
  rw [k_wr_of (x := v + 7) (by omega) (by omega)]
set_option maxHeartbeats 4000000 in
theorem l_c13 (hw : k_Wf sc A) (r : Rel A) (hl : sc.1.1 ≤ 3584) (v0 : 0 ≤ v) (vl : v + 7 ≤ sc.1.1) (hc : k_and (k_rd A (-2) v) 31 = 13) : l_G sc A v := by
  have len := l_len hw
  have p1 : k_rd A (-2) (v + 1) = l_P sc v 1 := l_rd hw (by omega) (by omega)
  obtain ⟨x, A1, A2, eX, eY, R⟩ := o_terms (A := A) (s := l_P sc v 1) r
  have f1 : fX8_terms A 0 (l_P sc v 1) = some (x, A1) ∧ k_Wf sc A1 := sgX8_terms hw eX
  have f2 : fX9_terms A1 120 (l_P sc v 1) = some (x, A2) ∧ k_Wf sc A2 := sgX9_terms f1.2 eY
  have len1 := l_len f1.2
  have q1 : k_rd A1 (-2) (v + 1) = l_P sc v 1 := l_rd f1.2 (by omega) (by omega)
  refine ⟨sc, A2, fun N => ?_, f2.2, R, rfl, by omega, by omega⟩
  rw [fL_law_h23, len, if_pos (by omega), k_wr_of (x := (sc.1.1 : Int) - 7) (by omega) (by omega), if_pos (by omega), if_pos (by omega), hc, if_neg (by omega), if_neg (by omega), if_neg (by omega), if_neg (by omega), if_neg (by omega), if_neg (by omega), if_neg (by omega), if_neg (by omega), if_neg (by omega), if_neg (by omega), if_neg (by omega), if_neg (by omega), if_neg (by omega), if_neg (by omega), if_pos rfl]
  rw [k_wr_of (x := v + 1) (by omega) (by omega), if_pos (by omega), if_pos (k_wO hw k_K0), p1, f1.1, k_bds, len1, if_pos (by omega), if_pos (k_wO f1.2 k_K120), q1, f2.1, k_bds, if_pos rfl]
  unfold fL_law_b1000
  rw [k_wr_of (x := v + 7) (by omega) (by omega)]
set_option maxHeartbeats 4000000 in
theorem l_c14 (hw : k_Wf sc A) (r : Rel A) (hl : sc.1.1 ≤ 3584) (v0 : 0 ≤ v) (vl : v + 7 ≤ sc.1.1) (hc : k_and (k_rd A (-2) v) 31 = 14) : l_G sc A v := by
  have len := l_len hw
  obtain ⟨x, A1, A2, eX, eY, R⟩ := o_fault (A := A)  r
  have f1 : fX8_fault A 0 = some (x, A1) ∧ k_Wf sc A1 := sgX8_fault hw eX
  have f2 : fX9_fault A1 120  = some (x, A2) ∧ k_Wf sc A2 := sgX9_fault f1.2 eY
  have len1 := l_len f1.2
  refine ⟨sc, A2, fun N => ?_, f2.2, R, rfl, by omega, by omega⟩
  rw [fL_law_h23, len, if_pos (by omega), k_wr_of (x := (sc.1.1 : Int) - 7) (by omega) (by omega), if_pos (by omega), if_pos (by omega), hc, if_neg (by omega), if_neg (by omega), if_neg (by omega), if_neg (by omega), if_neg (by omega), if_neg (by omega), if_neg (by omega), if_neg (by omega), if_neg (by omega), if_neg (by omega), if_neg (by omega), if_neg (by omega), if_neg (by omega), if_neg (by omega), if_neg (by omega), if_pos rfl]
  rw [if_pos (k_wO hw k_K0), f1.1, k_bds, if_pos (k_wO f1.2 k_K120), f2.1, k_bds, if_pos rfl]
  unfold fL_law_b1000
  rw [k_wr_of (x := v + 7) (by omega) (by omega)]
set_option maxHeartbeats 4000000 in
theorem l_c15 (hw : k_Wf sc A) (r : Rel A) (hl : sc.1.1 ≤ 3584) (v0 : 0 ≤ v) (vl : v + 7 ≤ sc.1.1) (hc : k_and (k_rd A (-2) v) 31 = 15) : l_G sc A v := by
  have len := l_len hw
  have p1 : k_rd A (-2) (v + 1) = l_P sc v 1 := l_rd hw (by omega) (by omega)
  have p2 : k_rd A (-2) (v + 2) = l_P sc v 2 := l_rd hw (by omega) (by omega)
  have p3 : k_rd A (-2) (v + 3) = l_P sc v 3 := l_rd hw (by omega) (by omega)
  obtain ⟨x, A1, A2, eX, eY, R⟩ := o_door (A := A) (s := l_P sc v 1) (n := l_P sc v 2) (v := l_P sc v 3) r
  have f1 : fX8_door A 0 (l_P sc v 1) (l_P sc v 2) (l_P sc v 3) = some (x, A1) ∧ k_Wf sc A1 := sgX8_door hw eX
  have f2 : fX9_door A1 120 (l_P sc v 1) (l_P sc v 2) (l_P sc v 3) = some (x, A2) ∧ k_Wf sc A2 := sgX9_door f1.2 eY
  have len1 := l_len f1.2
  have q1 : k_rd A1 (-2) (v + 1) = l_P sc v 1 := l_rd f1.2 (by omega) (by omega)
  have q2 : k_rd A1 (-2) (v + 2) = l_P sc v 2 := l_rd f1.2 (by omega) (by omega)
  have q3 : k_rd A1 (-2) (v + 3) = l_P sc v 3 := l_rd f1.2 (by omega) (by omega)
  refine ⟨sc, A2, fun N => ?_, f2.2, R, rfl, by omega, by omega⟩
  rw [fL_law_h23, len, if_pos (by omega), k_wr_of (x := (sc.1.1 : Int) - 7) (by omega) (by omega), if_pos (by omega), if_pos (by omega), hc, if_neg (by omega), if_neg (by omega), if_neg (by omega), if_neg (by omega), if_neg (by omega), if_neg (by omega), if_neg (by omega), if_neg (by omega), if_neg (by omega), if_neg (by omega), if_neg (by omega), if_neg (by omega), if_neg (by omega), if_neg (by omega), if_neg (by omega), if_neg (by omega), if_pos rfl]
  rw [k_wr_of (x := v + 1) (by omega) (by omega), k_wr_of (x := v + 2) (by omega) (by omega), k_wr_of (x := v + 3) (by omega) (by omega), if_pos (by omega), if_pos (by omega), if_pos (by omega), if_pos (k_wO hw k_K0), p1, p2, p3, f1.1, k_bds, len1, if_pos (by omega), if_pos (by omega), if_pos (by omega), if_pos (k_wO f1.2 k_K120), q1, q2, q3, f2.1, k_bds, if_pos rfl]
  unfold fL_law_b1000
  rw [k_wr_of (x := v + 7) (by omega) (by omega)]
set_option maxHeartbeats 4000000 in
theorem l_c16 (hw : k_Wf sc A) (r : Rel A) (hl : sc.1.1 ≤ 3584) (v0 : 0 ≤ v) (vl : v + 7 ≤ sc.1.1) (hc : k_and (k_rd A (-2) v) 31 = 16) : l_G sc A v := by
  have len := l_len hw
  have p1 : k_rd A (-2) (v + 1) = l_P sc v 1 := l_rd hw (by omega) (by omega)
  have p2 : k_rd A (-2) (v + 2) = l_P sc v 2 := l_rd hw (by omega) (by omega)
  have p3 : k_rd A (-2) (v + 3) = l_P sc v 3 := l_rd hw (by omega) (by omega)
  obtain ⟨k, b, A1, A2, sc1, eX, W1, e1, e2, e3, eY, e4, e5, R⟩ := l_shared (A := A) (s := l_P sc v 1) (n := l_P sc v 2) (w := l_P sc v 3) hw r
  have f1 : fL_shared A 0 (l_P sc v 1) (l_P sc v 2) (l_P sc v 3) 151 = some (k, A1) := eX
  have f2 : fX9_shared A1 120 (l_P sc v 1) (l_P sc v 2) (l_P sc v 3) = some (b, A2) ∧ k_Wf sc1 A2 := sgX9_shared W1 eY
  have f3 : fX9_thrown A2 120 = some (k, A2) ∧ k_Wf sc1 A2 := sgX9_thrown f2.2 (by show some (k_rd A2 120 0, A2) = _; rw [e4])
  have len1 := l_len W1
  rw [e1] at len1
  have q1 : k_rd A1 (-2) (v + 1) = l_P sc v 1 := by
    rw [l_rd W1 (by omega) (by rw [e1]; omega), e1]; rfl
  have q2 : k_rd A1 (-2) (v + 2) = l_P sc v 2 := by
    rw [l_rd W1 (by omega) (by rw [e1]; omega), e1]; rfl
  have q3 : k_rd A1 (-2) (v + 3) = l_P sc v 3 := by
    rw [l_rd W1 (by omega) (by rw [e1]; omega), e1]; rfl
  refine ⟨sc1, A2, fun N => ?_, f2.2, R, e1, e2, e3⟩
  rw [fL_law_h23, len, if_pos (by omega), k_wr_of (x := (sc.1.1 : Int) - 7) (by omega) (by omega), if_pos (by omega), if_pos (by omega), hc, if_neg (by omega), if_neg (by omega), if_neg (by omega), if_neg (by omega), if_neg (by omega), if_neg (by omega), if_neg (by omega), if_neg (by omega), if_neg (by omega), if_neg (by omega), if_neg (by omega), if_neg (by omega), if_neg (by omega), if_neg (by omega), if_neg (by omega), if_neg (by omega), if_neg (by omega), if_pos rfl]
  rw [k_wr_of (x := v + 1) (by omega) (by omega), k_wr_of (x := v + 2) (by omega) (by omega), k_wr_of (x := v + 3) (by omega) (by omega), if_pos (by omega), if_pos (by omega), if_pos (by omega), p1, p2, p3, f1, k_bds, len1, if_pos (by omega), if_pos (by omega), if_pos (by omega), if_pos (k_wO W1 k_K120), q1, q2, q3, f2.1, k_bds, if_pos (k_wO f2.2 k_K120), f3.1, k_bds, if_pos rfl, if_pos (k_wA f2.2 l_out ⟨by omega, by omega⟩)]
  unfold fL_law_b891 fL_law_b1000
  rw [k_wr_of (x := v + 7) (by omega) (by omega)]
  by_cases z : k = 0
  · rw [if_pos z, e5 z, if_neg (by omega : ¬ b < b), if_pos (rfl : b = b), if_pos (rfl : (0 : Int) = 0)]
  · rw [if_neg z]
set_option maxHeartbeats 4000000 in
theorem l_c17 (hw : k_Wf sc A) (r : Rel A) (hl : sc.1.1 ≤ 3584) (v0 : 0 ≤ v) (vl : v + 7 ≤ sc.1.1) (hc : k_and (k_rd A (-2) v) 31 = 17) : l_G sc A v := by
  have len := l_len hw
  have p1 : k_rd A (-2) (v + 1) = l_P sc v 1 := l_rd hw (by omega) (by omega)
  obtain ⟨x, A1, A2, eX, eY, R⟩ := o_sum (A := A) (w := l_P sc v 1) r
  have f1 : fX8_sum A 0 (l_P sc v 1) = some (x, A1) ∧ k_Wf sc A1 := sgX8_sum hw eX
  have f2 : fX9_sum A1 120 (l_P sc v 1) = some (x, A2) ∧ k_Wf sc A2 := sgX9_sum f1.2 eY
  have len1 := l_len f1.2
  have q1 : k_rd A1 (-2) (v + 1) = l_P sc v 1 := l_rd f1.2 (by omega) (by omega)
  refine ⟨sc, A2, fun N => ?_, f2.2, R, rfl, by omega, by omega⟩
  rw [fL_law_h23, len, if_pos (by omega), k_wr_of (x := (sc.1.1 : Int) - 7) (by omega) (by omega), if_pos (by omega), if_pos (by omega), hc, if_neg (by omega), if_neg (by omega), if_neg (by omega), if_neg (by omega), if_neg (by omega), if_neg (by omega), if_neg (by omega), if_neg (by omega), if_neg (by omega), if_neg (by omega), if_neg (by omega), if_neg (by omega), if_neg (by omega), if_neg (by omega), if_neg (by omega), if_neg (by omega), if_neg (by omega), if_neg (by omega), if_pos rfl]
  rw [k_wr_of (x := v + 1) (by omega) (by omega), if_pos (by omega), if_pos (k_wO hw k_K0), p1, f1.1, k_bds, len1, if_pos (by omega), if_pos (k_wO f1.2 k_K120), q1, f2.1, k_bds, if_pos rfl]
  unfold fL_law_b1000
  rw [k_wr_of (x := v + 7) (by omega) (by omega)]
set_option maxHeartbeats 4000000 in
theorem l_c18 (hw : k_Wf sc A) (r : Rel A) (hl : sc.1.1 ≤ 3584) (v0 : 0 ≤ v) (vl : v + 7 ≤ sc.1.1) (hc : k_and (k_rd A (-2) v) 31 = 18) : l_G sc A v := by
  have len := l_len hw
  have p1 : k_rd A (-2) (v + 1) = l_P sc v 1 := l_rd hw (by omega) (by omega)
  obtain ⟨k, b, A1, A2, sc1, eX, W1, e1, e2, e3, eY, e4, e5, R⟩ := l_keeps (A := A) (h := l_P sc v 1) hw r
  have f1 : fL_keeps A 0 (l_P sc v 1) 151 = some (k, A1) := eX
  have f2 : fX9_keeps A1 120 (l_P sc v 1) = some (b, A2) ∧ k_Wf sc1 A2 := sgX9_keeps W1 eY
  have f3 : fX9_thrown A2 120 = some (k, A2) ∧ k_Wf sc1 A2 := sgX9_thrown f2.2 (by show some (k_rd A2 120 0, A2) = _; rw [e4])
  have len1 := l_len W1
  rw [e1] at len1
  have q1 : k_rd A1 (-2) (v + 1) = l_P sc v 1 := by
    rw [l_rd W1 (by omega) (by rw [e1]; omega), e1]; rfl
  refine ⟨sc1, A2, fun N => ?_, f2.2, R, e1, e2, e3⟩
  rw [fL_law_h23, len, if_pos (by omega), k_wr_of (x := (sc.1.1 : Int) - 7) (by omega) (by omega), if_pos (by omega), if_pos (by omega), hc, if_neg (by omega), if_neg (by omega), if_neg (by omega), if_neg (by omega), if_neg (by omega), if_neg (by omega), if_neg (by omega), if_neg (by omega), if_neg (by omega), if_neg (by omega), if_neg (by omega), if_neg (by omega), if_neg (by omega), if_neg (by omega), if_neg (by omega), if_neg (by omega), if_neg (by omega), if_neg (by omega), if_neg (by omega), if_pos rfl]
  rw [k_wr_of (x := v + 1) (by omega) (by omega), if_pos (by omega), p1, f1, k_bds, len1, if_pos (by omega), if_pos (k_wO W1 k_K120), q1, f2.1, k_bds, if_pos (k_wO f2.2 k_K120), f3.1, k_bds, if_pos rfl, if_pos (k_wA f2.2 l_out ⟨by omega, by omega⟩)]
  unfold fL_law_b972 fL_law_b1000
  rw [k_wr_of (x := v + 7) (by omega) (by omega)]
  by_cases z : k = 0
  · rw [if_pos z, e5 z, if_neg (by omega : ¬ b < b), if_pos (rfl : b = b), if_pos (rfl : (0 : Int) = 0)]
  · rw [if_neg z]
set_option maxHeartbeats 4000000 in
theorem l_c19 (hw : k_Wf sc A) (r : Rel A) (hl : sc.1.1 ≤ 3584) (v0 : 0 ≤ v) (vl : v + 7 ≤ sc.1.1) (hc : k_and (k_rd A (-2) v) 31 = 19) : l_G sc A v := by
  have len := l_len hw
  have p1 : k_rd A (-2) (v + 1) = l_P sc v 1 := l_rd hw (by omega) (by omega)
  obtain ⟨x, A1, A2, eX, eY, R⟩ := o_count (A := A) (w := l_P sc v 1) r
  have f1 : fX8_count A 0 (l_P sc v 1) = some (x, A1) ∧ k_Wf sc A1 := sgX8_count hw eX
  have f2 : fX9_count A1 120 (l_P sc v 1) = some (x, A2) ∧ k_Wf sc A2 := sgX9_count f1.2 eY
  have len1 := l_len f1.2
  have q1 : k_rd A1 (-2) (v + 1) = l_P sc v 1 := l_rd f1.2 (by omega) (by omega)
  refine ⟨sc, A2, fun N => ?_, f2.2, R, rfl, by omega, by omega⟩
  rw [fL_law_h23, len, if_pos (by omega), k_wr_of (x := (sc.1.1 : Int) - 7) (by omega) (by omega), if_pos (by omega), if_pos (by omega), hc, if_neg (by omega), if_neg (by omega), if_neg (by omega), if_neg (by omega), if_neg (by omega), if_neg (by omega), if_neg (by omega), if_neg (by omega), if_neg (by omega), if_neg (by omega), if_neg (by omega), if_neg (by omega), if_neg (by omega), if_neg (by omega), if_neg (by omega), if_neg (by omega), if_neg (by omega), if_neg (by omega), if_neg (by omega), if_neg (by omega)]
  rw [k_wr_of (x := v + 1) (by omega) (by omega), if_pos (by omega), if_pos (k_wO hw k_K0), p1, f1.1, k_bds, len1, if_pos (by omega), if_pos (k_wO f1.2 k_K120), q1, f2.1, k_bds, if_pos rfl]
  unfold fL_law_b1000
  rw [k_wr_of (x := v + 7) (by omega) (by omega)]
theorem l_cd (hw : k_Wf sc A) (r : Rel A) (hl : sc.1.1 ≤ 3584) (v0 : 0 ≤ v) (vl : v + 7 ≤ sc.1.1) (hc : k_and (k_rd A (-2) v) 31 < 0 ∨ 19 < k_and (k_rd A (-2) v) 31) : l_G sc A v := by
  have len := l_len hw
  refine ⟨sc, A, fun N => ?_, hw, r, rfl, by omega, by omega⟩
  rw [fL_law_h23, len, if_pos (by omega), k_wr_of (x := (sc.1.1 : Int) - 7) (by omega) (by omega), if_pos (by omega), if_pos (by omega), if_pos hc]
  unfold fL_law_b1000
  rw [k_wr_of (x := v + 7) (by omega) (by omega)]
theorem l_step (hw : k_Wf sc A) (r : Rel A) (hl : sc.1.1 ≤ 3584) (v0 : 0 ≤ v) (vl : v + 7 ≤ sc.1.1) : l_G sc A v := by
  by_cases d : k_and (k_rd A (-2) v) 31 < 0 ∨ 19 < k_and (k_rd A (-2) v) 31
  · exact l_cd hw r hl v0 vl d
  · have q : k_and (k_rd A (-2) v) 31 = 0 ∨ k_and (k_rd A (-2) v) 31 = 1 ∨ k_and (k_rd A (-2) v) 31 = 2 ∨ k_and (k_rd A (-2) v) 31 = 3 ∨ k_and (k_rd A (-2) v) 31 = 4 ∨ k_and (k_rd A (-2) v) 31 = 5 ∨ k_and (k_rd A (-2) v) 31 = 6 ∨ k_and (k_rd A (-2) v) 31 = 7 ∨ k_and (k_rd A (-2) v) 31 = 8 ∨ k_and (k_rd A (-2) v) 31 = 9 ∨ k_and (k_rd A (-2) v) 31 = 10 ∨ k_and (k_rd A (-2) v) 31 = 11 ∨ k_and (k_rd A (-2) v) 31 = 12 ∨ k_and (k_rd A (-2) v) 31 = 13 ∨ k_and (k_rd A (-2) v) 31 = 14 ∨ k_and (k_rd A (-2) v) 31 = 15 ∨ k_and (k_rd A (-2) v) 31 = 16 ∨ k_and (k_rd A (-2) v) 31 = 17 ∨ k_and (k_rd A (-2) v) 31 = 18 ∨ k_and (k_rd A (-2) v) 31 = 19 := by omega
    rcases q with q | q | q | q | q | q | q | q | q | q | q | q | q | q | q | q | q | q | q | q
    · exact l_c0 hw r hl v0 vl q
    · exact l_c1 hw r hl v0 vl q
    · exact l_c2 hw r hl v0 vl q
    · exact l_c3 hw r hl v0 vl q
    · exact l_c4 hw r hl v0 vl q
    · exact l_c5 hw r hl v0 vl q
    · exact l_c6 hw r hl v0 vl q
    · exact l_c7 hw r hl v0 vl q
    · exact l_c8 hw r hl v0 vl q
    · exact l_c9 hw r hl v0 vl q
    · exact l_c10 hw r hl v0 vl q
    · exact l_c11 hw r hl v0 vl q
    · exact l_c12 hw r hl v0 vl q
    · exact l_c13 hw r hl v0 vl q
    · exact l_c14 hw r hl v0 vl q
    · exact l_c15 hw r hl v0 vl q
    · exact l_c16 hw r hl v0 vl q
    · exact l_c17 hw r hl v0 vl q
    · exact l_c18 hw r hl v0 vl q
    · exact l_c19 hw r hl v0 vl q
end
