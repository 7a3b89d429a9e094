/-! a show is made -/
theorem i_tail {B : k_H} {v p q : Int} {N : Nat} (hN : k_N B = N) (hv : 0 ≤ v ∧ v < N) (h4 : (k_kd B v).1 = 4) (h1 : k_rd B v 1 = p) (h2 : k_rd B v 2 = q) (hp : 0 ≤ p ∧ p < N) (hq : 0 ≤ q ∧ q < N) (pv : p ≠ v) (kp : k_kd B p = (21, 14)) (kq : k_kd B q = (21, 14)) : (k_bd (fJ7_fill_53178 B (k_rd B v 1) (-1)) fun r37 A38 => if k_isO A38 v 4 then (k_bd (fJ7_fill_53178 A38 (k_rd A38 v 2) (-1)) fun r41 A42 => some (0, A42)) else none) = some (0, tw_w (tw_w B p 0 (fun _ => -1) 14) q 0 (fun _ => -1) 14) := by
  have r2 : k_rd (tw_w B p 0 (fun _ => -1) 14) v 2 = q := by rw [tw_n (by omega)]; exact h2
  rw [h1, i_fill hN hp kp, k_bds, if_pos ⟨hv.1, by rw [n_tw, hN]; exact hv.2, by rw [d_tw]; exact h4⟩, r2, i_fill (N := N) (by rw [n_tw]; exact hN) hq (by rw [d_tw]; exact kq), k_bds]
set_option maxHeartbeats 8000000 in
set_option maxRecDepth 20000 in
theorem i_X4 {sc : Nat × (Nat → Int32)} {n t : Nat} {j h s : Int} {A : k_H} (d : i_D sc n t j h s A) (n1 : 1 ≤ n) (n34 : 4 < n) (sq : ∃ q : Nat, q < 6 ∧ n = 72 + 8 * q) (s0 : k_shp (n : Int) = (4, 10)) (s1 : k_shp ((n : Int) + 1) = (0, 2)) (s2 : k_shp ((n : Int) + 2) = (21, 8)) (s3 : k_shp ((n : Int) + 3) = (21, 14)) (s4 : k_shp ((n : Int) + 4) = (21, 14)) (s5 : k_shp ((n : Int) + 5) = (6, 7)) (s6 : k_shp ((n : Int) + 6) = (21, 3)) (s7 : k_shp ((n : Int) + 7) = (21, 3)) : ∃ A', fX4_init (k_mk A 4 10) n = some (0, A') ∧ i_D sc (n + 8) (t + 61) j h s A' := by
  obtain ⟨hN, hU, hT, hk, hs, hr, h0, h3, h4⟩ := d
  obtain ⟨q, q6, rfl⟩ := sq
  unfold fX4_init fX4_init_b0
  rw [if_pos (by omega), p_lt, if_pos (by omega)]
  rw [n_mk, hN, i_a0 (N := 72 + 8 * q + 2) (L := 8) (M := 8) (by simp only [n_wt, n_mk, n_tw, hN]) (by omega) (by simp only [d_mk, n_wt, n_mk, n_tw, hN]; repeat (first | rw [if_pos trivial] | rw [if_neg not_false] | rw [if_neg (by omega)] | rw [if_pos (by omega)])) rfl (by omega), k_bds]
  rw [if_pos ⟨by omega, by simp only [n_wt, n_mk, n_tw, hN]; omega, by simp only [d_wt, d_mk, d_tw, n_wt, n_mk, n_tw, hN]; repeat (first | rw [if_pos trivial] | rw [if_neg not_false] | rw [if_neg (by omega)] | rw [if_pos (by omega)])⟩, p_lt, p_lt, if_pos ⟨by omega, by simp only [n_wt, n_mk, n_tw, hN]; omega, by simp only [d_wt, d_mk, d_tw, n_wt, n_mk, n_tw, hN]; repeat (first | rw [if_pos trivial] | rw [if_neg not_false] | rw [if_neg (by omega)] | rw [if_pos (by omega)])⟩, p_lt, p_lt, if_pos ⟨by omega, by simp only [n_wt, n_mk, n_tw, hN]; omega, by simp only [d_wt, d_mk, d_tw, n_wt, n_mk, n_tw, hN]; repeat (first | rw [if_pos trivial] | rw [if_neg not_false] | rw [if_neg (by omega)] | rw [if_pos (by omega)])⟩, p_lt, p_lt, if_pos (by omega)]
  simp only [n_wt, n_mk, n_tw, hN]
  rw [i_a6 (N := 72 + 8 * q + 6) (by simp only [n_wt, n_mk, n_tw, hN]) (by omega) (by simp only [d_wt, d_mk, n_wt, n_mk, n_tw, hN]; repeat (first | rw [if_pos trivial] | rw [if_neg not_false] | rw [if_neg (by omega)] | rw [if_pos (by omega)])), k_bds]
  rw [if_pos ⟨by omega, by simp only [n_wt, n_mk, n_tw, hN]; omega, by simp only [d_wt, d_mk, d_tw, n_wt, n_mk, n_tw, hN]; repeat (first | rw [if_pos trivial] | rw [if_neg not_false] | rw [if_neg (by omega)] | rw [if_pos (by omega)])⟩, p_lt, p_lt, p_lt]
  rw [i_tail (N := 72 + 8 * q + 8) (p := ((72 + 8 * q : Nat) : Int) + 3) (q := ((72 + 8 * q : Nat) : Int) + 4) (by simp only [n_wt, n_mk, n_tw, hN]) (by omega) (by simp only [d_wt, d_mk, n_wt, n_mk, n_tw, hN]; repeat (first | rw [if_pos trivial] | rw [if_neg not_false] | rw [if_neg (by omega)] | rw [if_pos (by omega)])) (by simp only [p_rw, r_mk, n_wt, n_mk, n_tw, hN, true_and]; repeat (first | rw [if_pos trivial] | rw [if_neg not_false] | rw [if_neg (by omega)] | rw [if_pos (by omega)]); omega) (by simp only [p_rw, r_mk, n_wt, n_mk, n_tw, hN, true_and]; repeat (first | rw [if_pos trivial] | rw [if_neg not_false] | rw [if_neg (by omega)] | rw [if_pos (by omega)]); omega) (by omega) (by omega) (by omega) (by simp only [d_wt, d_mk, n_wt, n_mk, n_tw, hN]; repeat (first | rw [if_pos trivial] | rw [if_neg not_false] | rw [if_neg (by omega)] | rw [if_pos (by omega)])) (by simp only [d_wt, d_mk, n_wt, n_mk, n_tw, hN]; repeat (first | rw [if_pos trivial] | rw [if_neg not_false] | rw [if_neg (by omega)] | rw [if_pos (by omega)]))]
  refine ⟨_, rfl, ?_, ?_, ?_, fun a a0 a1 => ?_, ?_, fun a i a0 a1 i0 x0 x3 x4 => ?_, fun i i0 => ?_, fun q3 i i0 => ?_, fun q4 i i0 => ?_⟩
  · simp only [n_wt, n_mk, n_tw, hN]
  · simp only [u_wt, u_mk, u_tw, hU]
  · simp only [t_wt9, t_mk9, t_tw9, hT]
  · simp only [d_wt, d_mk, d_tw, n_wt, n_mk, n_tw, hN]
    by_cases z : a < ((72 + 8 * q : Nat) : Int)
    · repeat (first | rw [if_pos trivial] | rw [if_neg not_false] | rw [if_neg (by omega)] | rw [if_pos (by omega)])
      exact hk a a0 z
    · have w : a = ((72 + 8 * q : Nat) : Int) ∨ a = ((72 + 8 * q : Nat) : Int) + 1 ∨ a = ((72 + 8 * q : Nat) : Int) + 2 ∨ a = ((72 + 8 * q : Nat) : Int) + 3 ∨ a = ((72 + 8 * q : Nat) : Int) + 4 ∨ a = ((72 + 8 * q : Nat) : Int) + 5 ∨ a = ((72 + 8 * q : Nat) : Int) + 6 ∨ a = ((72 + 8 * q : Nat) : Int) + 7 := by omega
      rcases w with w | w | w | w | w | w | w | w <;> subst w
      · repeat (first | rw [if_pos trivial] | rw [if_neg not_false] | rw [if_neg (by omega)] | rw [if_pos (by omega)])
        exact s0.symm
      · repeat (first | rw [if_pos trivial] | rw [if_neg not_false] | rw [if_neg (by omega)] | rw [if_pos (by omega)])
        exact s1.symm
      · repeat (first | rw [if_pos trivial] | rw [if_neg not_false] | rw [if_neg (by omega)] | rw [if_pos (by omega)])
        exact s2.symm
      · repeat (first | rw [if_pos trivial] | rw [if_neg not_false] | rw [if_neg (by omega)] | rw [if_pos (by omega)])
        exact s3.symm
      · repeat (first | rw [if_pos trivial] | rw [if_neg not_false] | rw [if_neg (by omega)] | rw [if_pos (by omega)])
        exact s4.symm
      · repeat (first | rw [if_pos trivial] | rw [if_neg not_false] | rw [if_neg (by omega)] | rw [if_pos (by omega)])
        exact s5.symm
      · repeat (first | rw [if_pos trivial] | rw [if_neg not_false] | rw [if_neg (by omega)] | rw [if_pos (by omega)])
        exact s6.symm
      · repeat (first | rw [if_pos trivial] | rw [if_neg not_false] | rw [if_neg (by omega)] | rw [if_pos (by omega)])
        exact s7.symm
  · exact s_tw (s_tw (s_wt (s_wt (s_wt (s_wt (s_mk (s_wt (s_mk (s_mk (s_wt (s_mk (s_wt (s_mk (s_wt (s_wt (s_mk (s_mk (s_mk hs))) (by omega)) (by omega))) (by omega))) (by omega)))) (by omega))) (by omega)) (by omega)) (by omega)) (by omega)) (by omega)) (by omega)
  · by_cases z : a < ((72 + 8 * q : Nat) : Int)
    · rw [← hr a i a0 z i0 x0 x3 x4]
      simp only [p_rw, r_mk, tw_r, n_wt, n_mk, n_tw, hN, true_and]
      repeat (first | rw [if_pos trivial] | rw [if_neg not_false] | rw [if_neg (by omega)] | rw [if_pos (by omega)])
    · have w : a = ((72 + 8 * q : Nat) : Int) ∨ a = ((72 + 8 * q : Nat) : Int) + 1 ∨ a = ((72 + 8 * q : Nat) : Int) + 2 ∨ a = ((72 + 8 * q : Nat) : Int) + 3 ∨ a = ((72 + 8 * q : Nat) : Int) + 4 ∨ a = ((72 + 8 * q : Nat) : Int) + 5 ∨ a = ((72 + 8 * q : Nat) : Int) + 6 ∨ a = ((72 + 8 * q : Nat) : Int) + 7 := by omega
      rcases w with w | w | w | w | w | w | w | w <;> subst w
      · simp only [p_rw, r_mk, tw_r, n_wt, n_mk, n_tw, hN, true_and]
        by_cases y0 : i = 0
        · subst y0
          rw [i_cR s0 (by decide +kernel)]
          have pv : k_pv (((72 + 8 * q : Nat) : Int)) 0 = ((72 + 8 * q : Nat) : Int) + 1 := by unfold k_pv; rw [s0]; rfl
          rw [pv]
          repeat (first | rw [if_pos trivial] | rw [if_neg not_false] | rw [if_neg (by omega)] | rw [if_pos (by omega)])
          omega
        by_cases y1 : i = 1
        · subst y1
          rw [i_cR s0 (by decide +kernel)]
          have pv : k_pv (((72 + 8 * q : Nat) : Int)) 1 = ((72 + 8 * q : Nat) : Int) + 3 := by unfold k_pv; rw [s0]; rfl
          rw [pv]
          repeat (first | rw [if_pos trivial] | rw [if_neg not_false] | rw [if_neg (by omega)] | rw [if_pos (by omega)])
          omega
        by_cases y2 : i = 2
        · subst y2
          rw [i_cR s0 (by decide +kernel)]
          have pv : k_pv (((72 + 8 * q : Nat) : Int)) 2 = ((72 + 8 * q : Nat) : Int) + 4 := by unfold k_pv; rw [s0]; rfl
          rw [pv]
          repeat (first | rw [if_pos trivial] | rw [if_neg not_false] | rw [if_neg (by omega)] | rw [if_pos (by omega)])
          omega
        by_cases y3 : i = 3
        · subst y3
          rw [i_cR s0 (by decide +kernel)]
          have pv : k_pv (((72 + 8 * q : Nat) : Int)) 3 = ((72 + 8 * q : Nat) : Int) + 5 := by unfold k_pv; rw [s0]; rfl
          rw [pv]
          repeat (first | rw [if_pos trivial] | rw [if_neg not_false] | rw [if_neg (by omega)] | rw [if_pos (by omega)])
          omega
        have tg := i_t4 i0 y0 y1 y2 y3
        rw [i_c0 s0 tg]
        unfold i_sp
        by_cases z8 : i = 8
        · subst z8
          repeat (first | rw [if_pos trivial] | rw [if_neg not_false] | rw [if_neg (by omega)] | rw [if_pos (by omega)])
        by_cases z9 : i = 9
        · subst z9
          repeat (first | rw [if_pos trivial] | rw [if_neg not_false] | rw [if_neg (by omega)] | rw [if_pos (by omega)])
        repeat (first | rw [if_pos trivial] | rw [if_neg not_false] | rw [if_neg (by omega)] | rw [if_pos (by omega)])
        exact i_d0 tg
      · simp only [p_rw, r_mk, tw_r, n_wt, n_mk, n_tw, hN, true_and]
        by_cases y0 : i = 0
        · subst y0
          rw [i_cR s1 (by decide +kernel)]
          have pv : k_pv (((72 + 8 * q : Nat) : Int) + 1) 0 = ((72 + 8 * q : Nat) : Int) + 1 + 1 := by unfold k_pv; rw [s1]; rfl
          rw [pv]
          repeat (first | rw [if_pos trivial] | rw [if_neg not_false] | rw [if_neg (by omega)] | rw [if_pos (by omega)])
          omega
        have tg := i_t0 i0 y0
        rw [i_c0 s1 tg]
        unfold i_sp
        repeat (first | rw [if_pos trivial] | rw [if_neg not_false] | rw [if_neg (by omega)] | rw [if_pos (by omega)])
        exact i_d0 tg
      · simp only [p_rw, r_mk, tw_r, n_wt, n_mk, n_tw, hN, true_and]
        rw [i_c0 s2 (i_row (by omega) i)]
        unfold i_sp
        repeat (first | rw [if_pos trivial] | rw [if_neg not_false] | rw [if_neg (by omega)] | rw [if_pos (by omega)])
        exact i_d0 (i_row (by omega) i)
      · simp only [p_rw, r_mk, tw_r, n_wt, n_mk, n_tw, hN, true_and]
        rw [i_c0 s3 (i_row (by omega) i)]
        unfold i_sp
        by_cases y : i < 14
        · repeat (first | rw [if_pos trivial] | rw [if_neg not_false] | rw [if_neg (by omega)] | rw [if_pos (by omega)])
        · repeat (first | rw [if_pos trivial] | rw [if_neg not_false] | rw [if_neg (by omega)] | rw [if_pos (by omega)])
          exact i_d0 (i_row (by omega) i)
      · simp only [p_rw, r_mk, tw_r, n_wt, n_mk, n_tw, hN, true_and]
        rw [i_c0 s4 (i_row (by omega) i)]
        unfold i_sp
        by_cases y : i < 14
        · repeat (first | rw [if_pos trivial] | rw [if_neg not_false] | rw [if_neg (by omega)] | rw [if_pos (by omega)])
        · repeat (first | rw [if_pos trivial] | rw [if_neg not_false] | rw [if_neg (by omega)] | rw [if_pos (by omega)])
          exact i_d0 (i_row (by omega) i)
      · simp only [p_rw, r_mk, tw_r, n_wt, n_mk, n_tw, hN, true_and]
        by_cases y0 : i = 0
        · subst y0
          rw [i_cR s5 (by decide +kernel)]
          have pv : k_pv (((72 + 8 * q : Nat) : Int) + 5) 0 = ((72 + 8 * q : Nat) : Int) + 5 + 1 := by unfold k_pv; rw [s5]; rfl
          rw [pv]
          repeat (first | rw [if_pos trivial] | rw [if_neg not_false] | rw [if_neg (by omega)] | rw [if_pos (by omega)])
          omega
        by_cases y1 : i = 1
        · subst y1
          rw [i_cR s5 (by decide +kernel)]
          have pv : k_pv (((72 + 8 * q : Nat) : Int) + 5) 1 = ((72 + 8 * q : Nat) : Int) + 5 + 2 := by unfold k_pv; rw [s5]; rfl
          rw [pv]
          repeat (first | rw [if_pos trivial] | rw [if_neg not_false] | rw [if_neg (by omega)] | rw [if_pos (by omega)])
          omega
        have tg := i_t6 i0 y0 y1
        rw [i_c0 s5 tg]
        unfold i_sp
        repeat (first | rw [if_pos trivial] | rw [if_neg not_false] | rw [if_neg (by omega)] | rw [if_pos (by omega)])
        exact i_d0 tg
      · simp only [p_rw, r_mk, tw_r, n_wt, n_mk, n_tw, hN, true_and]
        rw [i_c0 s6 (i_row (by omega) i)]
        unfold i_sp
        repeat (first | rw [if_pos trivial] | rw [if_neg not_false] | rw [if_neg (by omega)] | rw [if_pos (by omega)])
        exact i_d0 (i_row (by omega) i)
      · simp only [p_rw, r_mk, tw_r, n_wt, n_mk, n_tw, hN, true_and]
        rw [i_c0 s7 (i_row (by omega) i)]
        unfold i_sp
        repeat (first | rw [if_pos trivial] | rw [if_neg not_false] | rw [if_neg (by omega)] | rw [if_pos (by omega)])
        exact i_d0 (i_row (by omega) i)
  · rw [← h0 i i0]
    simp only [p_rw, r_mk, tw_r, n_wt, n_mk, n_tw, hN, true_and]
    repeat (first | rw [if_pos trivial] | rw [if_neg not_false] | rw [if_neg (by omega)] | rw [if_pos (by omega)])
  · rw [← h3 (by omega) i i0]
    simp only [p_rw, r_mk, tw_r, n_wt, n_mk, n_tw, hN, true_and]
    repeat (first | rw [if_pos trivial] | rw [if_neg not_false] | rw [if_neg (by omega)] | rw [if_pos (by omega)])
  · rw [← h4 (by omega) i i0]
    simp only [p_rw, r_mk, tw_r, n_wt, n_mk, n_tw, hN, true_and]
    repeat (first | rw [if_pos trivial] | rw [if_neg not_false] | rw [if_neg (by omega)] | rw [if_pos (by omega)])
