/-! the reference is made -/
set_option maxHeartbeats 8000000 in
set_option maxRecDepth 20000 in
theorem i_X9 {sc : Nat × (Nat → Int32)} {n t : Nat} {j h s : Int} {A : k_H} (d : i_D sc n t j h s A) (n1 : 1 ≤ n) (n34 : 4 < n) (sq : n + 31 ≤ 72 ∨ 120 ≤ n) (s0 : k_shp (n : Int) = (9, 43)) (s1 : k_shp ((n : Int) + 1) = (20, 200)) (s2 : k_shp ((n : Int) + 2) = (21, 12)) (s3 : k_shp ((n : Int) + 3) = (21, 12)) (s4 : k_shp ((n : Int) + 4) = (21, 12)) (s5 : k_shp ((n : Int) + 5) = (21, 12)) (s6 : k_shp ((n : Int) + 6) = (21, 12)) (s7 : k_shp ((n : Int) + 7) = (21, 48)) (s8 : k_shp ((n : Int) + 8) = (21, 6)) (s9 : k_shp ((n : Int) + 9) = (21, 6)) (s10 : k_shp ((n : Int) + 10) = (21, 6)) (s11 : k_shp ((n : Int) + 11) = (21, 48)) (s12 : k_shp ((n : Int) + 12) = (21, 6)) (s13 : k_shp ((n : Int) + 13) = (21, 6)) (s14 : k_shp ((n : Int) + 14) = (21, 6)) (s15 : k_shp ((n : Int) + 15) = (21, 6)) (s16 : k_shp ((n : Int) + 16) = (21, 72)) (s17 : k_shp ((n : Int) + 17) = (21, 8)) (s18 : k_shp ((n : Int) + 18) = (21, 4)) (s19 : k_shp ((n : Int) + 19) = (21, 84)) (s20 : k_shp ((n : Int) + 20) = (21, 84)) (s21 : k_shp ((n : Int) + 21) = (21, 6)) (s22 : k_shp ((n : Int) + 22) = (21, 15)) (s23 : k_shp ((n : Int) + 23) = (21, 15)) (s24 : k_shp ((n : Int) + 24) = (21, 15)) (s25 : k_shp ((n : Int) + 25) = (21, 15)) (s26 : k_shp ((n : Int) + 26) = (21, 15)) (s27 : k_shp ((n : Int) + 27) = (21, 15)) (s28 : k_shp ((n : Int) + 28) = (21, 14)) (s29 : k_shp ((n : Int) + 29) = (22, 22050)) (s30 : k_shp ((n : Int) + 30) = (21, 84)) : ∃ A', fX9_init (k_mk A 9 43) n = some (0, A') ∧ i_D sc (n + 31) (t + 22937) j h s A' := by
  obtain ⟨hN, hU, hT, hk, hs, hr, h0, h3, h4⟩ := d
  unfold fX9_init fX9_init_b0
  rw [if_pos (by omega)]
  rw [p_lt, if_pos ⟨by omega, by simp only [n_wt, n_mk, n_tw, hN]; omega, by simp only [d_wt, d_mk, d_tw, n_wt, n_mk, n_tw, hN]; repeat (first | rw [if_pos trivial] | rw [if_neg not_false] | rw [if_neg (by omega)] | rw [if_pos (by omega)])⟩, p_lt]
  rw [p_lt, if_pos ⟨by omega, by simp only [n_wt, n_mk, n_tw, hN]; omega, by simp only [d_wt, d_mk, d_tw, n_wt, n_mk, n_tw, hN]; repeat (first | rw [if_pos trivial] | rw [if_neg not_false] | rw [if_neg (by omega)] | rw [if_pos (by omega)])⟩, p_lt]
  rw [p_lt, if_pos ⟨by omega, by simp only [n_wt, n_mk, n_tw, hN]; omega, by simp only [d_wt, d_mk, d_tw, n_wt, n_mk, n_tw, hN]; repeat (first | rw [if_pos trivial] | rw [if_neg not_false] | rw [if_neg (by omega)] | rw [if_pos (by omega)])⟩, p_lt]
  rw [p_lt, if_pos ⟨by omega, by simp only [n_wt, n_mk, n_tw, hN]; omega, by simp only [d_wt, d_mk, d_tw, n_wt, n_mk, n_tw, hN]; repeat (first | rw [if_pos trivial] | rw [if_neg not_false] | rw [if_neg (by omega)] | rw [if_pos (by omega)])⟩, p_lt]
  rw [p_lt, if_pos ⟨by omega, by simp only [n_wt, n_mk, n_tw, hN]; omega, by simp only [d_wt, d_mk, d_tw, n_wt, n_mk, n_tw, hN]; repeat (first | rw [if_pos trivial] | rw [if_neg not_false] | rw [if_neg (by omega)] | rw [if_pos (by omega)])⟩, p_lt]
  rw [p_lt, if_pos ⟨by omega, by simp only [n_wt, n_mk, n_tw, hN]; omega, by simp only [d_wt, d_mk, d_tw, n_wt, n_mk, n_tw, hN]; repeat (first | rw [if_pos trivial] | rw [if_neg not_false] | rw [if_neg (by omega)] | rw [if_pos (by omega)])⟩, p_lt]
  rw [p_lt, if_pos ⟨by omega, by simp only [n_wt, n_mk, n_tw, hN]; omega, by simp only [d_wt, d_mk, d_tw, n_wt, n_mk, n_tw, hN]; repeat (first | rw [if_pos trivial] | rw [if_neg not_false] | rw [if_neg (by omega)] | rw [if_pos (by omega)])⟩, p_lt]
  rw [p_lt, if_pos ⟨by omega, by simp only [n_wt, n_mk, n_tw, hN]; omega, by simp only [d_wt, d_mk, d_tw, n_wt, n_mk, n_tw, hN]; repeat (first | rw [if_pos trivial] | rw [if_neg not_false] | rw [if_neg (by omega)] | rw [if_pos (by omega)])⟩, p_lt]
  rw [p_lt, if_pos ⟨by omega, by simp only [n_wt, n_mk, n_tw, hN]; omega, by simp only [d_wt, d_mk, d_tw, n_wt, n_mk, n_tw, hN]; repeat (first | rw [if_pos trivial] | rw [if_neg not_false] | rw [if_neg (by omega)] | rw [if_pos (by omega)])⟩, p_lt]
  rw [p_lt, if_pos ⟨by omega, by simp only [n_wt, n_mk, n_tw, hN]; omega, by simp only [d_wt, d_mk, d_tw, n_wt, n_mk, n_tw, hN]; repeat (first | rw [if_pos trivial] | rw [if_neg not_false] | rw [if_neg (by omega)] | rw [if_pos (by omega)])⟩, p_lt]
  rw [p_lt, if_pos ⟨by omega, by simp only [n_wt, n_mk, n_tw, hN]; omega, by simp only [d_wt, d_mk, d_tw, n_wt, n_mk, n_tw, hN]; repeat (first | rw [if_pos trivial] | rw [if_neg not_false] | rw [if_neg (by omega)] | rw [if_pos (by omega)])⟩, p_lt]
  rw [p_lt, if_pos ⟨by omega, by simp only [n_wt, n_mk, n_tw, hN]; omega, by simp only [d_wt, d_mk, d_tw, n_wt, n_mk, n_tw, hN]; repeat (first | rw [if_pos trivial] | rw [if_neg not_false] | rw [if_neg (by omega)] | rw [if_pos (by omega)])⟩, p_lt]
  rw [p_lt, if_pos ⟨by omega, by simp only [n_wt, n_mk, n_tw, hN]; omega, by simp only [d_wt, d_mk, d_tw, n_wt, n_mk, n_tw, hN]; repeat (first | rw [if_pos trivial] | rw [if_neg not_false] | rw [if_neg (by omega)] | rw [if_pos (by omega)])⟩, p_lt]
  rw [p_lt, if_pos ⟨by omega, by simp only [n_wt, n_mk, n_tw, hN]; omega, by simp only [d_wt, d_mk, d_tw, n_wt, n_mk, n_tw, hN]; repeat (first | rw [if_pos trivial] | rw [if_neg not_false] | rw [if_neg (by omega)] | rw [if_pos (by omega)])⟩, p_lt]
  rw [p_lt, if_pos ⟨by omega, by simp only [n_wt, n_mk, n_tw, hN]; omega, by simp only [d_wt, d_mk, d_tw, n_wt, n_mk, n_tw, hN]; repeat (first | rw [if_pos trivial] | rw [if_neg not_false] | rw [if_neg (by omega)] | rw [if_pos (by omega)])⟩, p_lt]
  rw [p_lt, if_pos ⟨by omega, by simp only [n_wt, n_mk, n_tw, hN]; omega, by simp only [d_wt, d_mk, d_tw, n_wt, n_mk, n_tw, hN]; repeat (first | rw [if_pos trivial] | rw [if_neg not_false] | rw [if_neg (by omega)] | rw [if_pos (by omega)])⟩, p_lt]
  rw [p_lt, if_pos ⟨by omega, by simp only [n_wt, n_mk, n_tw, hN]; omega, by simp only [d_wt, d_mk, d_tw, n_wt, n_mk, n_tw, hN]; repeat (first | rw [if_pos trivial] | rw [if_neg not_false] | rw [if_neg (by omega)] | rw [if_pos (by omega)])⟩, p_lt]
  rw [p_lt, if_pos ⟨by omega, by simp only [n_wt, n_mk, n_tw, hN]; omega, by simp only [d_wt, d_mk, d_tw, n_wt, n_mk, n_tw, hN]; repeat (first | rw [if_pos trivial] | rw [if_neg not_false] | rw [if_neg (by omega)] | rw [if_pos (by omega)])⟩, p_lt]
  rw [p_lt, if_pos ⟨by omega, by simp only [n_wt, n_mk, n_tw, hN]; omega, by simp only [d_wt, d_mk, d_tw, n_wt, n_mk, n_tw, hN]; repeat (first | rw [if_pos trivial] | rw [if_neg not_false] | rw [if_neg (by omega)] | rw [if_pos (by omega)])⟩, p_lt]
  rw [p_lt, if_pos ⟨by omega, by simp only [n_wt, n_mk, n_tw, hN]; omega, by simp only [d_wt, d_mk, d_tw, n_wt, n_mk, n_tw, hN]; repeat (first | rw [if_pos trivial] | rw [if_neg not_false] | rw [if_neg (by omega)] | rw [if_pos (by omega)])⟩, p_lt]
  rw [p_lt, if_pos ⟨by omega, by simp only [n_wt, n_mk, n_tw, hN]; omega, by simp only [d_wt, d_mk, d_tw, n_wt, n_mk, n_tw, hN]; repeat (first | rw [if_pos trivial] | rw [if_neg not_false] | rw [if_neg (by omega)] | rw [if_pos (by omega)])⟩, p_lt]
  rw [p_lt, if_pos ⟨by omega, by simp only [n_wt, n_mk, n_tw, hN]; omega, by simp only [d_wt, d_mk, d_tw, n_wt, n_mk, n_tw, hN]; repeat (first | rw [if_pos trivial] | rw [if_neg not_false] | rw [if_neg (by omega)] | rw [if_pos (by omega)])⟩, p_lt]
  rw [p_lt, if_pos ⟨by omega, by simp only [n_wt, n_mk, n_tw, hN]; omega, by simp only [d_wt, d_mk, d_tw, n_wt, n_mk, n_tw, hN]; repeat (first | rw [if_pos trivial] | rw [if_neg not_false] | rw [if_neg (by omega)] | rw [if_pos (by omega)])⟩, p_lt]
  rw [p_lt, if_pos ⟨by omega, by simp only [n_wt, n_mk, n_tw, hN]; omega, by simp only [d_wt, d_mk, d_tw, n_wt, n_mk, n_tw, hN]; repeat (first | rw [if_pos trivial] | rw [if_neg not_false] | rw [if_neg (by omega)] | rw [if_pos (by omega)])⟩, p_lt]
  rw [p_lt, if_pos ⟨by omega, by simp only [n_wt, n_mk, n_tw, hN]; omega, by simp only [d_wt, d_mk, d_tw, n_wt, n_mk, n_tw, hN]; repeat (first | rw [if_pos trivial] | rw [if_neg not_false] | rw [if_neg (by omega)] | rw [if_pos (by omega)])⟩, p_lt]
  rw [p_lt, if_pos ⟨by omega, by simp only [n_wt, n_mk, n_tw, hN]; omega, by simp only [d_wt, d_mk, d_tw, n_wt, n_mk, n_tw, hN]; repeat (first | rw [if_pos trivial] | rw [if_neg not_false] | rw [if_neg (by omega)] | rw [if_pos (by omega)])⟩, p_lt]
  rw [p_lt, if_pos ⟨by omega, by simp only [n_wt, n_mk, n_tw, hN]; omega, by simp only [d_wt, d_mk, d_tw, n_wt, n_mk, n_tw, hN]; repeat (first | rw [if_pos trivial] | rw [if_neg not_false] | rw [if_neg (by omega)] | rw [if_pos (by omega)])⟩, p_lt]
  rw [p_lt, if_pos ⟨by omega, by simp only [n_wt, n_mk, n_tw, hN]; omega, by simp only [d_wt, d_mk, d_tw, n_wt, n_mk, n_tw, hN]; repeat (first | rw [if_pos trivial] | rw [if_neg not_false] | rw [if_neg (by omega)] | rw [if_pos (by omega)])⟩, p_lt]
  rw [p_lt, if_pos ⟨by omega, by simp only [n_wt, n_mk, n_tw, hN]; omega, by simp only [d_wt, d_mk, d_tw, n_wt, n_mk, n_tw, hN]; repeat (first | rw [if_pos trivial] | rw [if_neg not_false] | rw [if_neg (by omega)] | rw [if_pos (by omega)])⟩, p_lt]
  rw [p_lt, if_pos ⟨by omega, by simp only [n_wt, n_mk, n_tw, hN]; omega, by simp only [d_wt, d_mk, d_tw, n_wt, n_mk, n_tw, hN]; repeat (first | rw [if_pos trivial] | rw [if_neg not_false] | rw [if_neg (by omega)] | rw [if_pos (by omega)])⟩, p_lt]
  simp only [n_wt, n_mk, n_tw, hN]
  refine ⟨_, rfl, ?_, ?_, ?_, fun a a0 a1 => ?_, ?_, fun a i a0 a1 i0 x0 x3 x4 => ?_, fun i i0 => ?_, fun q3 i i0 => ?_, fun q4 i i0 => ?_⟩
  · simp only [n_wt, n_mk, n_tw, hN]
  · simp only [u_wt, u_mk, u_tw, hU]
  · simp only [t_wt9, t_mk9, t_tw9, hT]
  · simp only [d_wt, d_mk, d_tw, n_wt, n_mk, n_tw, hN]
    by_cases z : a < (n : Int)
    · repeat (first | rw [if_pos trivial] | rw [if_neg not_false] | rw [if_neg (by omega)] | rw [if_pos (by omega)])
      exact hk a a0 z
    · have w : a = (n : Int) ∨ a = (n : Int) + 1 ∨ a = (n : Int) + 2 ∨ a = (n : Int) + 3 ∨ a = (n : Int) + 4 ∨ a = (n : Int) + 5 ∨ a = (n : Int) + 6 ∨ a = (n : Int) + 7 ∨ a = (n : Int) + 8 ∨ a = (n : Int) + 9 ∨ a = (n : Int) + 10 ∨ a = (n : Int) + 11 ∨ a = (n : Int) + 12 ∨ a = (n : Int) + 13 ∨ a = (n : Int) + 14 ∨ a = (n : Int) + 15 ∨ a = (n : Int) + 16 ∨ a = (n : Int) + 17 ∨ a = (n : Int) + 18 ∨ a = (n : Int) + 19 ∨ a = (n : Int) + 20 ∨ a = (n : Int) + 21 ∨ a = (n : Int) + 22 ∨ a = (n : Int) + 23 ∨ a = (n : Int) + 24 ∨ a = (n : Int) + 25 ∨ a = (n : Int) + 26 ∨ a = (n : Int) + 27 ∨ a = (n : Int) + 28 ∨ a = (n : Int) + 29 ∨ a = (n : Int) + 30 := by omega
      rcases w with w | w | w | w | w | w | w | w | w | w | w | w | w | w | w | w | w | w | w | w | w | w | w | w | w | w | w | w | w | w | w <;> subst w
      · repeat (first | rw [if_pos trivial] | rw [if_neg not_false] | rw [if_neg (by omega)] | rw [if_pos (by omega)])
        exact s0.symm
      · repeat (first | rw [if_pos trivial] | rw [if_neg not_false] | rw [if_neg (by omega)] | rw [if_pos (by omega)])
        exact s1.symm
      · repeat (first | rw [if_pos trivial] | rw [if_neg not_false] | rw [if_neg (by omega)] | rw [if_pos (by omega)])
        exact s2.symm
      · repeat (first | rw [if_pos trivial] | rw [if_neg not_false] | rw [if_neg (by omega)] | rw [if_pos (by omega)])
        exact s3.symm
      · repeat (first | rw [if_pos trivial] | rw [if_neg not_false] | rw [if_neg (by omega)] | rw [if_pos (by omega)])
        exact s4.symm
      · repeat (first | rw [if_pos trivial] | rw [if_neg not_false] | rw [if_neg (by omega)] | rw [if_pos (by omega)])
        exact s5.symm
      · repeat (first | rw [if_pos trivial] | rw [if_neg not_false] | rw [if_neg (by omega)] | rw [if_pos (by omega)])
        exact s6.symm
      · repeat (first | rw [if_pos trivial] | rw [if_neg not_false] | rw [if_neg (by omega)] | rw [if_pos (by omega)])
        exact s7.symm
      · repeat (first | rw [if_pos trivial] | rw [if_neg not_false] | rw [if_neg (by omega)] | rw [if_pos (by omega)])
        exact s8.symm
      · repeat (first | rw [if_pos trivial] | rw [if_neg not_false] | rw [if_neg (by omega)] | rw [if_pos (by omega)])
        exact s9.symm
      · repeat (first | rw [if_pos trivial] | rw [if_neg not_false] | rw [if_neg (by omega)] | rw [if_pos (by omega)])
        exact s10.symm
      · repeat (first | rw [if_pos trivial] | rw [if_neg not_false] | rw [if_neg (by omega)] | rw [if_pos (by omega)])
        exact s11.symm
      · repeat (first | rw [if_pos trivial] | rw [if_neg not_false] | rw [if_neg (by omega)] | rw [if_pos (by omega)])
        exact s12.symm
      · repeat (first | rw [if_pos trivial] | rw [if_neg not_false] | rw [if_neg (by omega)] | rw [if_pos (by omega)])
        exact s13.symm
      · repeat (first | rw [if_pos trivial] | rw [if_neg not_false] | rw [if_neg (by omega)] | rw [if_pos (by omega)])
        exact s14.symm
      · repeat (first | rw [if_pos trivial] | rw [if_neg not_false] | rw [if_neg (by omega)] | rw [if_pos (by omega)])
        exact s15.symm
      · repeat (first | rw [if_pos trivial] | rw [if_neg not_false] | rw [if_neg (by omega)] | rw [if_pos (by omega)])
        exact s16.symm
      · repeat (first | rw [if_pos trivial] | rw [if_neg not_false] | rw [if_neg (by omega)] | rw [if_pos (by omega)])
        exact s17.symm
      · repeat (first | rw [if_pos trivial] | rw [if_neg not_false] | rw [if_neg (by omega)] | rw [if_pos (by omega)])
        exact s18.symm
      · repeat (first | rw [if_pos trivial] | rw [if_neg not_false] | rw [if_neg (by omega)] | rw [if_pos (by omega)])
        exact s19.symm
      · repeat (first | rw [if_pos trivial] | rw [if_neg not_false] | rw [if_neg (by omega)] | rw [if_pos (by omega)])
        exact s20.symm
      · repeat (first | rw [if_pos trivial] | rw [if_neg not_false] | rw [if_neg (by omega)] | rw [if_pos (by omega)])
        exact s21.symm
      · repeat (first | rw [if_pos trivial] | rw [if_neg not_false] | rw [if_neg (by omega)] | rw [if_pos (by omega)])
        exact s22.symm
      · repeat (first | rw [if_pos trivial] | rw [if_neg not_false] | rw [if_neg (by omega)] | rw [if_pos (by omega)])
        exact s23.symm
      · repeat (first | rw [if_pos trivial] | rw [if_neg not_false] | rw [if_neg (by omega)] | rw [if_pos (by omega)])
        exact s24.symm
      · repeat (first | rw [if_pos trivial] | rw [if_neg not_false] | rw [if_neg (by omega)] | rw [if_pos (by omega)])
        exact s25.symm
      · repeat (first | rw [if_pos trivial] | rw [if_neg not_false] | rw [if_neg (by omega)] | rw [if_pos (by omega)])
        exact s26.symm
      · repeat (first | rw [if_pos trivial] | rw [if_neg not_false] | rw [if_neg (by omega)] | rw [if_pos (by omega)])
        exact s27.symm
      · repeat (first | rw [if_pos trivial] | rw [if_neg not_false] | rw [if_neg (by omega)] | rw [if_pos (by omega)])
        exact s28.symm
      · repeat (first | rw [if_pos trivial] | rw [if_neg not_false] | rw [if_neg (by omega)] | rw [if_pos (by omega)])
        exact s29.symm
      · repeat (first | rw [if_pos trivial] | rw [if_neg not_false] | rw [if_neg (by omega)] | rw [if_pos (by omega)])
        exact s30.symm
  · exact (s_wt (s_mk (s_wt (s_mk (s_wt (s_mk (s_wt (s_mk (s_wt (s_mk (s_wt (s_mk (s_wt (s_mk (s_wt (s_mk (s_wt (s_mk (s_wt (s_mk (s_wt (s_mk (s_wt (s_mk (s_wt (s_mk (s_wt (s_mk (s_wt (s_mk (s_wt (s_mk (s_wt (s_mk (s_wt (s_mk (s_wt (s_mk (s_wt (s_mk (s_wt (s_mk (s_wt (s_mk (s_wt (s_mk (s_wt (s_mk (s_wt (s_mk (s_wt (s_mk (s_wt (s_mk (s_wt (s_mk (s_wt (s_mk (s_wt (s_mk (s_mk hs)) (by omega))) (by omega))) (by omega))) (by omega))) (by omega))) (by omega))) (by omega))) (by omega))) (by omega))) (by omega))) (by omega))) (by omega))) (by omega))) (by omega))) (by omega))) (by omega))) (by omega))) (by omega))) (by omega))) (by omega))) (by omega))) (by omega))) (by omega))) (by omega))) (by omega))) (by omega))) (by omega))) (by omega))) (by omega))) (by omega))
  · by_cases z : a < (n : Int)
    · rw [← hr a i a0 z i0 x0 x3 x4]
      simp only [p_rw, r_mk, tw_r, n_wt, n_mk, n_tw, hN, true_and]
      repeat (first | rw [if_pos trivial] | rw [if_neg not_false] | rw [if_neg (by omega)] | rw [if_pos (by omega)])
    · have w : a = (n : Int) ∨ a = (n : Int) + 1 ∨ a = (n : Int) + 2 ∨ a = (n : Int) + 3 ∨ a = (n : Int) + 4 ∨ a = (n : Int) + 5 ∨ a = (n : Int) + 6 ∨ a = (n : Int) + 7 ∨ a = (n : Int) + 8 ∨ a = (n : Int) + 9 ∨ a = (n : Int) + 10 ∨ a = (n : Int) + 11 ∨ a = (n : Int) + 12 ∨ a = (n : Int) + 13 ∨ a = (n : Int) + 14 ∨ a = (n : Int) + 15 ∨ a = (n : Int) + 16 ∨ a = (n : Int) + 17 ∨ a = (n : Int) + 18 ∨ a = (n : Int) + 19 ∨ a = (n : Int) + 20 ∨ a = (n : Int) + 21 ∨ a = (n : Int) + 22 ∨ a = (n : Int) + 23 ∨ a = (n : Int) + 24 ∨ a = (n : Int) + 25 ∨ a = (n : Int) + 26 ∨ a = (n : Int) + 27 ∨ a = (n : Int) + 28 ∨ a = (n : Int) + 29 ∨ a = (n : Int) + 30 := by omega
      rcases w with w | w | w | w | w | w | w | w | w | w | w | w | w | w | w | w | w | w | w | w | w | w | w | w | w | w | w | w | w | w | w <;> subst w
      · simp only [p_rw, r_mk, tw_r, n_wt, n_mk, n_tw, hN, true_and]
        by_cases y1 : i = 1
        · subst y1
          rw [i_cR s0 (by decide +kernel)]
          have pv : k_pv ((n : Int)) 1 = (n : Int) + 1 := by unfold k_pv; rw [s0]; rfl
          rw [pv]
          repeat (first | rw [if_pos trivial] | rw [if_neg not_false] | rw [if_neg (by omega)] | rw [if_pos (by omega)])
          omega
        by_cases y5 : i = 5
        · subst y5
          rw [i_cR s0 (by decide +kernel)]
          have pv : k_pv ((n : Int)) 5 = (n : Int) + 2 := by unfold k_pv; rw [s0]; rfl
          rw [pv]
          repeat (first | rw [if_pos trivial] | rw [if_neg not_false] | rw [if_neg (by omega)] | rw [if_pos (by omega)])
          omega
        by_cases y6 : i = 6
        · subst y6
          rw [i_cR s0 (by decide +kernel)]
          have pv : k_pv ((n : Int)) 6 = (n : Int) + 3 := by unfold k_pv; rw [s0]; rfl
          rw [pv]
          repeat (first | rw [if_pos trivial] | rw [if_neg not_false] | rw [if_neg (by omega)] | rw [if_pos (by omega)])
          omega
        by_cases y7 : i = 7
        · subst y7
          rw [i_cR s0 (by decide +kernel)]
          have pv : k_pv ((n : Int)) 7 = (n : Int) + 4 := by unfold k_pv; rw [s0]; rfl
          rw [pv]
          repeat (first | rw [if_pos trivial] | rw [if_neg not_false] | rw [if_neg (by omega)] | rw [if_pos (by omega)])
          omega
        by_cases y8 : i = 8
        · subst y8
          rw [i_cR s0 (by decide +kernel)]
          have pv : k_pv ((n : Int)) 8 = (n : Int) + 5 := by unfold k_pv; rw [s0]; rfl
          rw [pv]
          repeat (first | rw [if_pos trivial] | rw [if_neg not_false] | rw [if_neg (by omega)] | rw [if_pos (by omega)])
          omega
        by_cases y9 : i = 9
        · subst y9
          rw [i_cR s0 (by decide +kernel)]
          have pv : k_pv ((n : Int)) 9 = (n : Int) + 6 := by unfold k_pv; rw [s0]; rfl
          rw [pv]
          repeat (first | rw [if_pos trivial] | rw [if_neg not_false] | rw [if_neg (by omega)] | rw [if_pos (by omega)])
          omega
        by_cases y10 : i = 10
        · subst y10
          rw [i_cR s0 (by decide +kernel)]
          have pv : k_pv ((n : Int)) 10 = (n : Int) + 7 := by unfold k_pv; rw [s0]; rfl
          rw [pv]
          repeat (first | rw [if_pos trivial] | rw [if_neg not_false] | rw [if_neg (by omega)] | rw [if_pos (by omega)])
          omega
        by_cases y11 : i = 11
        · subst y11
          rw [i_cR s0 (by decide +kernel)]
          have pv : k_pv ((n : Int)) 11 = (n : Int) + 8 := by unfold k_pv; rw [s0]; rfl
          rw [pv]
          repeat (first | rw [if_pos trivial] | rw [if_neg not_false] | rw [if_neg (by omega)] | rw [if_pos (by omega)])
          omega
        by_cases y12 : i = 12
        · subst y12
          rw [i_cR s0 (by decide +kernel)]
          have pv : k_pv ((n : Int)) 12 = (n : Int) + 9 := by unfold k_pv; rw [s0]; rfl
          rw [pv]
          repeat (first | rw [if_pos trivial] | rw [if_neg not_false] | rw [if_neg (by omega)] | rw [if_pos (by omega)])
          omega
        by_cases y13 : i = 13
        · subst y13
          rw [i_cR s0 (by decide +kernel)]
          have pv : k_pv ((n : Int)) 13 = (n : Int) + 10 := by unfold k_pv; rw [s0]; rfl
          rw [pv]
          repeat (first | rw [if_pos trivial] | rw [if_neg not_false] | rw [if_neg (by omega)] | rw [if_pos (by omega)])
          omega
        by_cases y14 : i = 14
        · subst y14
          rw [i_cR s0 (by decide +kernel)]
          have pv : k_pv ((n : Int)) 14 = (n : Int) + 11 := by unfold k_pv; rw [s0]; rfl
          rw [pv]
          repeat (first | rw [if_pos trivial] | rw [if_neg not_false] | rw [if_neg (by omega)] | rw [if_pos (by omega)])
          omega
        by_cases y15 : i = 15
        · subst y15
          rw [i_cR s0 (by decide +kernel)]
          have pv : k_pv ((n : Int)) 15 = (n : Int) + 12 := by unfold k_pv; rw [s0]; rfl
          rw [pv]
          repeat (first | rw [if_pos trivial] | rw [if_neg not_false] | rw [if_neg (by omega)] | rw [if_pos (by omega)])
          omega
        by_cases y16 : i = 16
        · subst y16
          rw [i_cR s0 (by decide +kernel)]
          have pv : k_pv ((n : Int)) 16 = (n : Int) + 13 := by unfold k_pv; rw [s0]; rfl
          rw [pv]
          repeat (first | rw [if_pos trivial] | rw [if_neg not_false] | rw [if_neg (by omega)] | rw [if_pos (by omega)])
          omega
        by_cases y17 : i = 17
        · subst y17
          rw [i_cR s0 (by decide +kernel)]
          have pv : k_pv ((n : Int)) 17 = (n : Int) + 14 := by unfold k_pv; rw [s0]; rfl
          rw [pv]
          repeat (first | rw [if_pos trivial] | rw [if_neg not_false] | rw [if_neg (by omega)] | rw [if_pos (by omega)])
          omega
        by_cases y18 : i = 18
        · subst y18
          rw [i_cR s0 (by decide +kernel)]
          have pv : k_pv ((n : Int)) 18 = (n : Int) + 15 := by unfold k_pv; rw [s0]; rfl
          rw [pv]
          repeat (first | rw [if_pos trivial] | rw [if_neg not_false] | rw [if_neg (by omega)] | rw [if_pos (by omega)])
          omega
        by_cases y19 : i = 19
        · subst y19
          rw [i_cR s0 (by decide +kernel)]
          have pv : k_pv ((n : Int)) 19 = (n : Int) + 16 := by unfold k_pv; rw [s0]; rfl
          rw [pv]
          repeat (first | rw [if_pos trivial] | rw [if_neg not_false] | rw [if_neg (by omega)] | rw [if_pos (by omega)])
          omega
        by_cases y22 : i = 22
        · subst y22
          rw [i_cR s0 (by decide +kernel)]
          have pv : k_pv ((n : Int)) 22 = (n : Int) + 17 := by unfold k_pv; rw [s0]; rfl
          rw [pv]
          repeat (first | rw [if_pos trivial] | rw [if_neg not_false] | rw [if_neg (by omega)] | rw [if_pos (by omega)])
          omega
        by_cases y23 : i = 23
        · subst y23
          rw [i_cR s0 (by decide +kernel)]
          have pv : k_pv ((n : Int)) 23 = (n : Int) + 18 := by unfold k_pv; rw [s0]; rfl
          rw [pv]
          repeat (first | rw [if_pos trivial] | rw [if_neg not_false] | rw [if_neg (by omega)] | rw [if_pos (by omega)])
          omega
        by_cases y24 : i = 24
        · subst y24
          rw [i_cR s0 (by decide +kernel)]
          have pv : k_pv ((n : Int)) 24 = (n : Int) + 19 := by unfold k_pv; rw [s0]; rfl
          rw [pv]
          repeat (first | rw [if_pos trivial] | rw [if_neg not_false] | rw [if_neg (by omega)] | rw [if_pos (by omega)])
          omega
        by_cases y25 : i = 25
        · subst y25
          rw [i_cR s0 (by decide +kernel)]
          have pv : k_pv ((n : Int)) 25 = (n : Int) + 20 := by unfold k_pv; rw [s0]; rfl
          rw [pv]
          repeat (first | rw [if_pos trivial] | rw [if_neg not_false] | rw [if_neg (by omega)] | rw [if_pos (by omega)])
          omega
        by_cases y26 : i = 26
        · subst y26
          rw [i_cR s0 (by decide +kernel)]
          have pv : k_pv ((n : Int)) 26 = (n : Int) + 21 := by unfold k_pv; rw [s0]; rfl
          rw [pv]
          repeat (first | rw [if_pos trivial] | rw [if_neg not_false] | rw [if_neg (by omega)] | rw [if_pos (by omega)])
          omega
        by_cases y27 : i = 27
        · subst y27
          rw [i_cR s0 (by decide +kernel)]
          have pv : k_pv ((n : Int)) 27 = (n : Int) + 22 := by unfold k_pv; rw [s0]; rfl
          rw [pv]
          repeat (first | rw [if_pos trivial] | rw [if_neg not_false] | rw [if_neg (by omega)] | rw [if_pos (by omega)])
          omega
        by_cases y28 : i = 28
        · subst y28
          rw [i_cR s0 (by decide +kernel)]
          have pv : k_pv ((n : Int)) 28 = (n : Int) + 23 := by unfold k_pv; rw [s0]; rfl
          rw [pv]
          repeat (first | rw [if_pos trivial] | rw [if_neg not_false] | rw [if_neg (by omega)] | rw [if_pos (by omega)])
          omega
        by_cases y29 : i = 29
        · subst y29
          rw [i_cR s0 (by decide +kernel)]
          have pv : k_pv ((n : Int)) 29 = (n : Int) + 24 := by unfold k_pv; rw [s0]; rfl
          rw [pv]
          repeat (first | rw [if_pos trivial] | rw [if_neg not_false] | rw [if_neg (by omega)] | rw [if_pos (by omega)])
          omega
        by_cases y30 : i = 30
        · subst y30
          rw [i_cR s0 (by decide +kernel)]
          have pv : k_pv ((n : Int)) 30 = (n : Int) + 25 := by unfold k_pv; rw [s0]; rfl
          rw [pv]
          repeat (first | rw [if_pos trivial] | rw [if_neg not_false] | rw [if_neg (by omega)] | rw [if_pos (by omega)])
          omega
        by_cases y31 : i = 31
        · subst y31
          rw [i_cR s0 (by decide +kernel)]
          have pv : k_pv ((n : Int)) 31 = (n : Int) + 26 := by unfold k_pv; rw [s0]; rfl
          rw [pv]
          repeat (first | rw [if_pos trivial] | rw [if_neg not_false] | rw [if_neg (by omega)] | rw [if_pos (by omega)])
          omega
        by_cases y32 : i = 32
        · subst y32
          rw [i_cR s0 (by decide +kernel)]
          have pv : k_pv ((n : Int)) 32 = (n : Int) + 27 := by unfold k_pv; rw [s0]; rfl
          rw [pv]
          repeat (first | rw [if_pos trivial] | rw [if_neg not_false] | rw [if_neg (by omega)] | rw [if_pos (by omega)])
          omega
        by_cases y33 : i = 33
        · subst y33
          rw [i_cR s0 (by decide +kernel)]
          have pv : k_pv ((n : Int)) 33 = (n : Int) + 28 := by unfold k_pv; rw [s0]; rfl
          rw [pv]
          repeat (first | rw [if_pos trivial] | rw [if_neg not_false] | rw [if_neg (by omega)] | rw [if_pos (by omega)])
          omega
        by_cases y34 : i = 34
        · subst y34
          rw [i_cR s0 (by decide +kernel)]
          have pv : k_pv ((n : Int)) 34 = (n : Int) + 29 := by unfold k_pv; rw [s0]; rfl
          rw [pv]
          repeat (first | rw [if_pos trivial] | rw [if_neg not_false] | rw [if_neg (by omega)] | rw [if_pos (by omega)])
          omega
        by_cases y35 : i = 35
        · subst y35
          rw [i_cR s0 (by decide +kernel)]
          have pv : k_pv ((n : Int)) 35 = (n : Int) + 30 := by unfold k_pv; rw [s0]; rfl
          rw [pv]
          repeat (first | rw [if_pos trivial] | rw [if_neg not_false] | rw [if_neg (by omega)] | rw [if_pos (by omega)])
          omega
        by_cases y42 : i = 42
        · subst y42
          have e : i_c (n : Int) 42 = 0 := by unfold i_c; rw [s0, if_neg (by decide +kernel), i_sp0 (by omega)]
          rw [e]
          repeat (first | rw [if_pos trivial] | rw [if_neg not_false] | rw [if_neg (by omega)] | rw [if_pos (by omega)])
          decide +kernel
        have tg := i_t9 i0 y1 y5 y6 y7 y8 y9 y10 y11 y12 y13 y14 y15 y16 y17 y18 y19 y22 y23 y24 y25 y26 y27 y28 y29 y30 y31 y32 y33 y34 y35 y42
        rw [i_c0 s0 tg]
        rw [i_sp0 (by omega)]
        repeat (first | rw [if_pos trivial] | rw [if_neg not_false] | rw [if_neg (by omega)] | rw [if_pos (by omega)])
        exact i_d0 tg
      · simp only [p_rw, r_mk, tw_r, n_wt, n_mk, n_tw, hN, true_and]
        rw [i_c0 s1 (i_row (by omega) i), i_sp0 (by omega)]
        repeat (first | rw [if_pos trivial] | rw [if_neg not_false] | rw [if_neg (by omega)] | rw [if_pos (by omega)])
        exact i_d0 (i_row (by omega) i)
      · simp only [p_rw, r_mk, tw_r, n_wt, n_mk, n_tw, hN, true_and]
        rw [i_c0 s2 (i_row (by omega) i), i_sp0 (by omega)]
        repeat (first | rw [if_pos trivial] | rw [if_neg not_false] | rw [if_neg (by omega)] | rw [if_pos (by omega)])
        exact i_d0 (i_row (by omega) i)
      · simp only [p_rw, r_mk, tw_r, n_wt, n_mk, n_tw, hN, true_and]
        rw [i_c0 s3 (i_row (by omega) i), i_sp0 (by omega)]
        repeat (first | rw [if_pos trivial] | rw [if_neg not_false] | rw [if_neg (by omega)] | rw [if_pos (by omega)])
        exact i_d0 (i_row (by omega) i)
      · simp only [p_rw, r_mk, tw_r, n_wt, n_mk, n_tw, hN, true_and]
        rw [i_c0 s4 (i_row (by omega) i), i_sp0 (by omega)]
        repeat (first | rw [if_pos trivial] | rw [if_neg not_false] | rw [if_neg (by omega)] | rw [if_pos (by omega)])
        exact i_d0 (i_row (by omega) i)
      · simp only [p_rw, r_mk, tw_r, n_wt, n_mk, n_tw, hN, true_and]
        rw [i_c0 s5 (i_row (by omega) i), i_sp0 (by omega)]
        repeat (first | rw [if_pos trivial] | rw [if_neg not_false] | rw [if_neg (by omega)] | rw [if_pos (by omega)])
        exact i_d0 (i_row (by omega) i)
      · simp only [p_rw, r_mk, tw_r, n_wt, n_mk, n_tw, hN, true_and]
        rw [i_c0 s6 (i_row (by omega) i), i_sp0 (by omega)]
        repeat (first | rw [if_pos trivial] | rw [if_neg not_false] | rw [if_neg (by omega)] | rw [if_pos (by omega)])
        exact i_d0 (i_row (by omega) i)
      · simp only [p_rw, r_mk, tw_r, n_wt, n_mk, n_tw, hN, true_and]
        rw [i_c0 s7 (i_row (by omega) i), i_sp0 (by omega)]
        repeat (first | rw [if_pos trivial] | rw [if_neg not_false] | rw [if_neg (by omega)] | rw [if_pos (by omega)])
        exact i_d0 (i_row (by omega) i)
      · simp only [p_rw, r_mk, tw_r, n_wt, n_mk, n_tw, hN, true_and]
        rw [i_c0 s8 (i_row (by omega) i), i_sp0 (by omega)]
        repeat (first | rw [if_pos trivial] | rw [if_neg not_false] | rw [if_neg (by omega)] | rw [if_pos (by omega)])
        exact i_d0 (i_row (by omega) i)
      · simp only [p_rw, r_mk, tw_r, n_wt, n_mk, n_tw, hN, true_and]
        rw [i_c0 s9 (i_row (by omega) i), i_sp0 (by omega)]
        repeat (first | rw [if_pos trivial] | rw [if_neg not_false] | rw [if_neg (by omega)] | rw [if_pos (by omega)])
        exact i_d0 (i_row (by omega) i)
      · simp only [p_rw, r_mk, tw_r, n_wt, n_mk, n_tw, hN, true_and]
        rw [i_c0 s10 (i_row (by omega) i), i_sp0 (by omega)]
        repeat (first | rw [if_pos trivial] | rw [if_neg not_false] | rw [if_neg (by omega)] | rw [if_pos (by omega)])
        exact i_d0 (i_row (by omega) i)
      · simp only [p_rw, r_mk, tw_r, n_wt, n_mk, n_tw, hN, true_and]
        rw [i_c0 s11 (i_row (by omega) i), i_sp0 (by omega)]
        repeat (first | rw [if_pos trivial] | rw [if_neg not_false] | rw [if_neg (by omega)] | rw [if_pos (by omega)])
        exact i_d0 (i_row (by omega) i)
      · simp only [p_rw, r_mk, tw_r, n_wt, n_mk, n_tw, hN, true_and]
        rw [i_c0 s12 (i_row (by omega) i), i_sp0 (by omega)]
        repeat (first | rw [if_pos trivial] | rw [if_neg not_false] | rw [if_neg (by omega)] | rw [if_pos (by omega)])
        exact i_d0 (i_row (by omega) i)
      · simp only [p_rw, r_mk, tw_r, n_wt, n_mk, n_tw, hN, true_and]
        rw [i_c0 s13 (i_row (by omega) i), i_sp0 (by omega)]
        repeat (first | rw [if_pos trivial] | rw [if_neg not_false] | rw [if_neg (by omega)] | rw [if_pos (by omega)])
        exact i_d0 (i_row (by omega) i)
      · simp only [p_rw, r_mk, tw_r, n_wt, n_mk, n_tw, hN, true_and]
        rw [i_c0 s14 (i_row (by omega) i), i_sp0 (by omega)]
        repeat (first | rw [if_pos trivial] | rw [if_neg not_false] | rw [if_neg (by omega)] | rw [if_pos (by omega)])
        exact i_d0 (i_row (by omega) i)
      · simp only [p_rw, r_mk, tw_r, n_wt, n_mk, n_tw, hN, true_and]
        rw [i_c0 s15 (i_row (by omega) i), i_sp0 (by omega)]
        repeat (first | rw [if_pos trivial] | rw [if_neg not_false] | rw [if_neg (by omega)] | rw [if_pos (by omega)])
        exact i_d0 (i_row (by omega) i)
      · simp only [p_rw, r_mk, tw_r, n_wt, n_mk, n_tw, hN, true_and]
        rw [i_c0 s16 (i_row (by omega) i), i_sp0 (by omega)]
        repeat (first | rw [if_pos trivial] | rw [if_neg not_false] | rw [if_neg (by omega)] | rw [if_pos (by omega)])
        exact i_d0 (i_row (by omega) i)
      · simp only [p_rw, r_mk, tw_r, n_wt, n_mk, n_tw, hN, true_and]
        rw [i_c0 s17 (i_row (by omega) i), i_sp0 (by omega)]
        repeat (first | rw [if_pos trivial] | rw [if_neg not_false] | rw [if_neg (by omega)] | rw [if_pos (by omega)])
        exact i_d0 (i_row (by omega) i)
      · simp only [p_rw, r_mk, tw_r, n_wt, n_mk, n_tw, hN, true_and]
        rw [i_c0 s18 (i_row (by omega) i), i_sp0 (by omega)]
        repeat (first | rw [if_pos trivial] | rw [if_neg not_false] | rw [if_neg (by omega)] | rw [if_pos (by omega)])
        exact i_d0 (i_row (by omega) i)
      · simp only [p_rw, r_mk, tw_r, n_wt, n_mk, n_tw, hN, true_and]
        rw [i_c0 s19 (i_row (by omega) i), i_sp0 (by omega)]
        repeat (first | rw [if_pos trivial] | rw [if_neg not_false] | rw [if_neg (by omega)] | rw [if_pos (by omega)])
        exact i_d0 (i_row (by omega) i)
      · simp only [p_rw, r_mk, tw_r, n_wt, n_mk, n_tw, hN, true_and]
        rw [i_c0 s20 (i_row (by omega) i), i_sp0 (by omega)]
        repeat (first | rw [if_pos trivial] | rw [if_neg not_false] | rw [if_neg (by omega)] | rw [if_pos (by omega)])
        exact i_d0 (i_row (by omega) i)
      · simp only [p_rw, r_mk, tw_r, n_wt, n_mk, n_tw, hN, true_and]
        rw [i_c0 s21 (i_row (by omega) i), i_sp0 (by omega)]
        repeat (first | rw [if_pos trivial] | rw [if_neg not_false] | rw [if_neg (by omega)] | rw [if_pos (by omega)])
        exact i_d0 (i_row (by omega) i)
      · simp only [p_rw, r_mk, tw_r, n_wt, n_mk, n_tw, hN, true_and]
        rw [i_c0 s22 (i_row (by omega) i), i_sp0 (by omega)]
        repeat (first | rw [if_pos trivial] | rw [if_neg not_false] | rw [if_neg (by omega)] | rw [if_pos (by omega)])
        exact i_d0 (i_row (by omega) i)
      · simp only [p_rw, r_mk, tw_r, n_wt, n_mk, n_tw, hN, true_and]
        rw [i_c0 s23 (i_row (by omega) i), i_sp0 (by omega)]
        repeat (first | rw [if_pos trivial] | rw [if_neg not_false] | rw [if_neg (by omega)] | rw [if_pos (by omega)])
        exact i_d0 (i_row (by omega) i)
      · simp only [p_rw, r_mk, tw_r, n_wt, n_mk, n_tw, hN, true_and]
        rw [i_c0 s24 (i_row (by omega) i), i_sp0 (by omega)]
        repeat (first | rw [if_pos trivial] | rw [if_neg not_false] | rw [if_neg (by omega)] | rw [if_pos (by omega)])
        exact i_d0 (i_row (by omega) i)
      · simp only [p_rw, r_mk, tw_r, n_wt, n_mk, n_tw, hN, true_and]
        rw [i_c0 s25 (i_row (by omega) i), i_sp0 (by omega)]
        repeat (first | rw [if_pos trivial] | rw [if_neg not_false] | rw [if_neg (by omega)] | rw [if_pos (by omega)])
        exact i_d0 (i_row (by omega) i)
      · simp only [p_rw, r_mk, tw_r, n_wt, n_mk, n_tw, hN, true_and]
        rw [i_c0 s26 (i_row (by omega) i), i_sp0 (by omega)]
        repeat (first | rw [if_pos trivial] | rw [if_neg not_false] | rw [if_neg (by omega)] | rw [if_pos (by omega)])
        exact i_d0 (i_row (by omega) i)
      · simp only [p_rw, r_mk, tw_r, n_wt, n_mk, n_tw, hN, true_and]
        rw [i_c0 s27 (i_row (by omega) i), i_sp0 (by omega)]
        repeat (first | rw [if_pos trivial] | rw [if_neg not_false] | rw [if_neg (by omega)] | rw [if_pos (by omega)])
        exact i_d0 (i_row (by omega) i)
      · simp only [p_rw, r_mk, tw_r, n_wt, n_mk, n_tw, hN, true_and]
        rw [i_c0 s28 (i_row (by omega) i), i_sp0 (by omega)]
        repeat (first | rw [if_pos trivial] | rw [if_neg not_false] | rw [if_neg (by omega)] | rw [if_pos (by omega)])
        exact i_d0 (i_row (by omega) i)
      · simp only [p_rw, r_mk, tw_r, n_wt, n_mk, n_tw, hN, true_and]
        have e : i_c ((n : Int) + 29) i = 0 := by
          unfold i_c; rw [s29, if_neg (by rw [i_lng]; omega), i_sp0 (by omega)]
        rw [e]
        repeat (first | rw [if_pos trivial] | rw [if_neg not_false] | rw [if_neg (by omega)] | rw [if_pos (by omega)])
        rfl
      · simp only [p_rw, r_mk, tw_r, n_wt, n_mk, n_tw, hN, true_and]
        rw [i_c0 s30 (i_row (by omega) i), i_sp0 (by omega)]
        repeat (first | rw [if_pos trivial] | rw [if_neg not_false] | rw [if_neg (by omega)] | rw [if_pos (by omega)])
        exact i_d0 (i_row (by omega) i)
  · rw [← h0 i i0]
    simp only [p_rw, r_mk, tw_r, n_wt, n_mk, n_tw, hN, true_and]
    repeat (first | rw [if_pos trivial] | rw [if_neg not_false] | rw [if_neg (by omega)] | rw [if_pos (by omega)])
  · rw [← h3 (by omega) i i0]
    simp only [p_rw, r_mk, tw_r, n_wt, n_mk, n_tw, hN, true_and]
    repeat (first | rw [if_pos trivial] | rw [if_neg not_false] | rw [if_neg (by omega)] | rw [if_pos (by omega)])
  · rw [← h4 (by omega) i i0]
    simp only [p_rw, r_mk, tw_r, n_wt, n_mk, n_tw, hN, true_and]
    repeat (first | rw [if_pos trivial] | rw [if_neg not_false] | rw [if_neg (by omega)] | rw [if_pos (by omega)])
