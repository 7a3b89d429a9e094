/-! the class is made -/
theorem i_shH : ∀ h : Nat, h < 12 → k_shp ((24 + 4 * h : Nat) : Int) = (1, 6) ∧ k_shp (((24 + 4 * h : Nat) : Int) + 1) = (0, 2) ∧ k_shp (((24 + 4 * h : Nat) : Int) + 2) = (21, 4) ∧ k_shp (((24 + 4 * h : Nat) : Int) + 3) = (21, 6) := by decide +kernel
theorem i_shS : ∀ s : Nat, s < 6 → k_shp ((72 + 8 * s : Nat) : Int) = (4, 10) ∧ k_shp (((72 + 8 * s : Nat) : Int) + 1) = (0, 2) ∧ k_shp (((72 + 8 * s : Nat) : Int) + 2) = (21, 8) ∧ k_shp (((72 + 8 * s : Nat) : Int) + 3) = (21, 14) ∧ k_shp (((72 + 8 * s : Nat) : Int) + 4) = (21, 14) ∧ k_shp (((72 + 8 * s : Nat) : Int) + 5) = (6, 7) ∧ k_shp (((72 + 8 * s : Nat) : Int) + 6) = (21, 3) ∧ k_shp (((72 + 8 * s : Nat) : Int) + 7) = (21, 3) := by decide +kernel
section
variable {sc : Nat × (Nat → Int32)} {n t : Nat} {j h s : Int} {A : k_H}
theorem i_set0 (d : i_D sc n t j h s A) (n1 : 1 ≤ n) (j0 : 0 ≤ j) {v : Int} (hv : v = k_pv 0 j) : i_D sc n t (j + 1) h s (k_wt A 0 j v) := by
  obtain ⟨hN, hU, hT, hk, hs, hr, h0, h3, h4⟩ := d
  refine ⟨hN, hU, hT, hk, s_wt hs (by omega), fun a i a0 a1 i0 x0 x3 x4 => by rw [p_rwn (by omega)]; exact hr a i a0 a1 i0 x0 x3 x4, fun i i0 => ?_, fun q i i0 => by rw [p_rwn (by omega)]; exact h3 q i i0, fun q i i0 => by rw [p_rwn (by omega)]; exact h4 q i i0⟩
  rw [p_rw]
  by_cases z : i = j
  · rw [if_pos ⟨rfl, z⟩, if_pos (by omega), z]; exact hv
  · rw [if_neg (fun q => z q.2), h0 i i0]
    by_cases y : i < j
    · rw [if_pos y, if_pos (by omega)]
    · rw [if_neg y, if_neg (by omega)]
theorem i_set3 (d : i_D sc n t j h s A) (n1 : 4 < n) (j0 : 0 ≤ h) {v : Int} (hv : v = 24 + 4 * h) : i_D sc n t j (h + 1) s (k_wt A 3 h v) := by
  obtain ⟨hN, hU, hT, hk, hs, hr, h0, h3, h4⟩ := d
  refine ⟨hN, hU, hT, hk, s_wt hs (by omega), fun a i a0 a1 i0 x0 x3 x4 => by rw [p_rwn (by omega)]; exact hr a i a0 a1 i0 x0 x3 x4, fun i i0 => by rw [p_rwn (by omega)]; exact h0 i i0, fun q i i0 => ?_, fun q i i0 => by rw [p_rwn (by omega)]; exact h4 q i i0⟩
  rw [p_rw]
  by_cases z : i = h
  · rw [if_pos ⟨rfl, z⟩, if_pos (by omega), z]; exact hv
  · rw [if_neg (fun q => z q.2), h3 q i i0]
    by_cases y : i < h
    · rw [if_pos y, if_pos (by omega)]
    · rw [if_neg y, if_neg (by omega)]
theorem i_set4 (d : i_D sc n t j h s A) (n1 : 4 < n) (j0 : 0 ≤ s) {v : Int} (hv : v = 72 + 8 * s) : i_D sc n t j h (s + 1) (k_wt A 4 s v) := by
  obtain ⟨hN, hU, hT, hk, hs, hr, h0, h3, h4⟩ := d
  refine ⟨hN, hU, hT, hk, s_wt hs (by omega), fun a i a0 a1 i0 x0 x3 x4 => by rw [p_rwn (by omega)]; exact hr a i a0 a1 i0 x0 x3 x4, fun i i0 => by rw [p_rwn (by omega)]; exact h0 i i0, fun q i i0 => by rw [p_rwn (by omega)]; exact h3 q i i0, fun q i i0 => ?_⟩
  rw [p_rw]
  by_cases z : i = s
  · rw [if_pos ⟨rfl, z⟩, if_pos (by omega), z]; exact hv
  · rw [if_neg (fun q => z q.2), h4 q i i0]
    by_cases y : i < s
    · rw [if_pos y, if_pos (by omega)]
    · rw [if_neg y, if_neg (by omega)]
theorem i_arr3 (d : i_D sc 3 t j 0 0 A) : i_D sc 4 (t + 12) j 0 0 (k_mk A 23 12) := by
  obtain ⟨hN, hU, hT, hk, hs, hr, h0, h3, h4⟩ := d
  refine ⟨by rw [n_mk, hN], by rw [u_mk, hU], by rw [t_mk9, hT], fun a a0 a1 => ?_, s_mk hs, fun a i a0 a1 i0 x0 x3 x4 => by rw [r_mk, hN, if_neg (by omega)]; exact hr a i a0 (by omega) i0 x0 x3 x4, fun i i0 => by rw [r_mk, hN, if_neg (by omega)]; exact h0 i i0, fun q i i0 => ?_, fun q => by omega⟩
  · rw [d_mk, hN]
    by_cases z : a = 3
    · rw [if_pos (by omega), z]; decide +kernel
    · rw [if_neg (by omega)]; exact hk a a0 (by omega)
  · rw [r_mk, hN, if_pos (by omega), if_neg (by omega)]; rfl
theorem i_arr4 (d : i_D sc 4 t j 0 0 A) : i_D sc 5 (t + 6) j 0 0 (k_mk A 24 6) := by
  obtain ⟨hN, hU, hT, hk, hs, hr, h0, h3, h4⟩ := d
  refine ⟨by rw [n_mk, hN], by rw [u_mk, hU], by rw [t_mk9, hT], fun a a0 a1 => ?_, s_mk hs, fun a i a0 a1 i0 x0 x3 x4 => by rw [r_mk, hN, if_neg (by omega)]; exact hr a i a0 (by omega) i0 x0 x3 x4, fun i i0 => by rw [r_mk, hN, if_neg (by omega)]; exact h0 i i0, fun q i i0 => by rw [r_mk, hN, if_neg (by omega)]; exact h3 (by omega) i i0, fun q i i0 => ?_⟩
  · rw [d_mk, hN]
    by_cases z : a = 4
    · rw [if_pos (by omega), z]; decide +kernel
    · rw [if_neg (by omega)]; exact hk a a0 (by omega)
  · rw [r_mk, hN, if_pos (by omega), if_neg (by omega)]; rfl
theorem i_O0 (d : i_D sc n t j h s A) (n1 : 1 ≤ n) : k_isO A 0 8 := by
  refine ⟨by omega, by rw [d.1]; omega, ?_⟩
  rw [d.2.2.2.1 0 (by omega) (by omega)]; decide +kernel
theorem i_halls : ∀ (k N m t : Nat) (A : k_H), m + k = 12 → i_D sc (24 + 4 * m) t 6 m 0 A → ∃ B, fX8_init_h68 (N + k + 1) A 0 m = fX8_init_h95 k_FU B 0 0 ∧ i_D sc 72 (t + 18 * k) 6 12 0 B := by
  intro k
  induction k with
  | zero =>
    intro N m t A mk d
    have : m = 12 := by omega
    subst this
    exact ⟨A, by rw [fX8_init_h68, if_neg (by omega)], d⟩
  | succ k ih =>
    intro N m t A mk d
    show ∃ B, fX8_init_h68 ((N + k + 1) + 1) A 0 m = _ ∧ _
    obtain ⟨q0, q1, q2, q3⟩ := i_shH m (by omega)
    obtain ⟨A6, e1, d6⟩ := i_X1 d (by omega) (by omega) (by omega) q0 q1 q2 q3
    have r1 : k_rd A 0 1 = 3 := by
      rw [d.2.2.2.2.2.2.1 1 (by omega), if_pos (by omega)]; decide +kernel
    have a3 : k_isA A6 3 23 m := by
      refine ⟨by omega, by rw [d6.1]; omega, ?_, by omega, ?_⟩
      · rw [d6.2.2.2.1 3 (by omega) (by omega)]; decide +kernel
      · rw [d6.2.2.2.1 3 (by omega) (by omega), show k_shp 3 = (23, 12) by decide +kernel]; show (m : Int) < ((12 : Nat) : Int); omega
    have o1 : k_isO A6 ((24 + 4 * m : Nat) : Int) 1 := by
      refine ⟨by omega, by rw [d6.1]; omega, ?_⟩
      rw [d6.2.2.2.1 _ (by omega) (by omega), q0]
    have d7 := i_set3 d6 (by omega) (by omega) (v := ((24 + 4 * m : Nat) : Int)) (by omega)
    have em : (m : Int) + 1 = ((m + 1 : Nat) : Int) := by omega
    have en : 24 + 4 * m + 4 = 24 + 4 * (m + 1) := by omega
    rw [em, en] at d7
    obtain ⟨B, b1, b2⟩ := ih N (m + 1) (t + 18) _ (by omega) d7
    refine ⟨B, ?_, by rw [show t + 18 * (k + 1) = t + 18 + 18 * k by omega]; exact b2⟩
    rw [fX8_init_h68, if_pos (by omega), if_pos (i_O0 d (by omega)), p_lt, d.1, if_pos (by omega), e1, k_bds, r1, if_pos a3, if_pos o1, p_lt, k_wr_of (x := (m : Int) + 1) (by omega) (by omega), em]
    exact b1
theorem i_shows : ∀ (k N m t : Nat) (A : k_H), m + k = 6 → i_D sc (72 + 8 * m) t 6 12 m A → ∃ B, fX8_init_h95 (N + k + 1) A 0 m = some (0, B) ∧ i_D sc 120 (t + 61 * k) 6 12 6 B := by
  intro k
  induction k with
  | zero =>
    intro N m t A mk d
    have : m = 6 := by omega
    subst this
    exact ⟨A, by rw [fX8_init_h95, if_neg (by omega)], d⟩
  | succ k ih =>
    intro N m t A mk d
    show ∃ B, fX8_init_h95 ((N + k + 1) + 1) A 0 m = _ ∧ _
    obtain ⟨q0, q1, q2, q3, q4, q5, q6, q7⟩ := i_shS m (by omega)
    obtain ⟨A6, e1, d6⟩ := i_X4 d (by omega) (by omega) ⟨m, by omega, rfl⟩ q0 q1 q2 q3 q4 q5 q6 q7
    have r1 : k_rd A 0 2 = 4 := by
      rw [d.2.2.2.2.2.2.1 2 (by omega), if_pos (by omega)]; decide +kernel
    have a3 : k_isA A6 4 24 m := by
      refine ⟨by omega, by rw [d6.1]; omega, ?_, by omega, ?_⟩
      · rw [d6.2.2.2.1 4 (by omega) (by omega)]; decide +kernel
      · rw [d6.2.2.2.1 4 (by omega) (by omega), show k_shp 4 = (24, 6) by decide +kernel]; show (m : Int) < ((6 : Nat) : Int); omega
    have o1 : k_isO A6 ((72 + 8 * m : Nat) : Int) 4 := by
      refine ⟨by omega, by rw [d6.1]; omega, ?_⟩
      rw [d6.2.2.2.1 _ (by omega) (by omega), q0]
    have d7 := i_set4 d6 (by omega) (by omega) (v := ((72 + 8 * m : Nat) : Int)) (by omega)
    have em : (m : Int) + 1 = ((m + 1 : Nat) : Int) := by omega
    have en : 72 + 8 * m + 8 = 72 + 8 * (m + 1) := by omega
    rw [em, en] at d7
    obtain ⟨B, b1, b2⟩ := ih N (m + 1) (t + 61) _ (by omega) d7
    refine ⟨B, ?_, by rw [show t + 61 * (k + 1) = t + 61 + 61 * k by omega]; exact b2⟩
    rw [fX8_init_h95, if_pos (by omega), if_pos (i_O0 d (by omega)), p_lt, d.1, if_pos (by omega), e1, k_bds, r1, if_pos a3, if_pos o1, p_lt, k_wr_of (x := (m : Int) + 1) (by omega) (by omega), em]
    exact b1
theorem i_X8 (d : i_D sc 1 t 0 0 0 A) : ∃ B t', fX8_init A 0 = some (0, B) ∧ i_D sc 120 t' 6 12 6 B ∧ t' ≤ t + 40000 := by
  unfold fX8_init fX8_init_b0
  -- the tape
  obtain ⟨A5, e5, d5⟩ := i_X5 d (by omega) (Or.inr rfl) (by omega) (by decide +kernel) (by decide +kernel)
  have d9 := i_set0 d5 (by omega) (by omega) (v := ((1 : Nat) : Int)) (by decide +kernel)
  -- the rows of halls and shows
  have d11 := i_arr3 d9
  have d14 := i_set0 d11 (by omega) (by omega) (v := ((3 : Nat) : Int)) (by decide +kernel)
  have d16 := i_arr4 d14
  have d19 := i_set0 d16 (by omega) (by omega) (v := ((4 : Nat) : Int)) (by decide +kernel)
  obtain ⟨A24, e24, d24⟩ := i_X3 d19 (by omega) (by omega) (by omega) (by decide +kernel) (by decide +kernel) (by decide +kernel) (by decide +kernel) (by decide +kernel) (by decide +kernel) (by decide +kernel)
  have d28 := i_set0 d24 (by omega) (by omega) (v := ((5 : Nat) : Int)) (by decide +kernel)
  obtain ⟨A33, e33, d33⟩ := i_X2 d28 (by omega) (by omega) (by omega) (by decide +kernel) (by decide +kernel) (by decide +kernel) (by decide +kernel) (by decide +kernel) (by decide +kernel)
  have d37 := i_set0 d33 (by omega) (by omega) (v := ((12 : Nat) : Int)) (by decide +kernel)
  obtain ⟨A42, e42, d42⟩ := i_X7 d37 (by omega) (by omega) (by omega) (by decide +kernel) (by decide +kernel) (by decide +kernel) (by decide +kernel) (by decide +kernel) (by decide +kernel)
  have d46 := i_set0 d42 (by omega) (by omega) (v := ((18 : Nat) : Int)) (by decide +kernel)
  obtain ⟨N, hN⟩ := p_FU 13 (by decide)
  obtain ⟨B, b1, b2⟩ := i_halls (sc := sc) 12 N 0 _ _ (by omega) d46
  obtain ⟨M, hM⟩ := p_FU 7 (by decide)
  obtain ⟨C, c1, c2⟩ := i_shows (sc := sc) 6 M 0 _ _ (by omega) b2
  have b1' : fX8_init_h68 k_FU (k_wt A42 0 (0 + 1 + 1 + 1 + 1 + 1) ((18 : Nat) : Int)) 0 0 = fX8_init_h95 k_FU B 0 0 := by
    have hN2 : N + 12 + 1 = k_FU := hN.symm
    have b9 := b1
    rw [hN2] at b9
    exact b9
  have c1' : fX8_init_h95 k_FU B 0 0 = some (0, C) := by
    have hM2 : M + 6 + 1 = k_FU := hM.symm
    have c9 := c1
    rw [hM2] at c9
    exact c9
  refine ⟨C, _, ?_, c2, by omega⟩
  have n0 : k_N A = 1 := d.1
  have n9 : k_N (k_wt A5 0 0 ((1 : Nat) : Int)) = 3 := d9.1
  have n14 : k_N (k_wt (k_mk (k_wt A5 0 0 ((1 : Nat) : Int)) 23 12) 0 (0 + 1) ((3 : Nat) : Int)) = 4 := d14.1
  have n19 := d19.1
  have n28 := d28.1
  have n37 := d37.1
  have e : (0 : Int) + 1 = 1 := rfl
  have e2 : (0 : Int) + 1 + 1 = 2 := rfl
  have e3 : (0 : Int) + 1 + 1 + 1 = 3 := rfl
  have e4 : (0 : Int) + 1 + 1 + 1 + 1 = 4 := rfl
  have e5' : (0 : Int) + 1 + 1 + 1 + 1 + 1 = 5 := rfl
  rw [e5', c1'] at b1'
  rw [if_pos (by omega), p_lt, n0, if_pos (by omega), e5, k_bds, if_pos (i_O0 d5 (by omega)), p_lt, p_lt, if_pos (i_O0 d11 (by omega)), p_lt, p_lt, n9]
  rw [e] at n14 d16 d14
  rw [e2, e] at n19 d19 e24
  rw [if_pos (i_O0 d16 (by omega)), p_lt, p_lt, n14, n19, if_pos (by omega), e24, k_bds, if_pos (i_O0 d24 (by omega)), p_lt, p_lt]
  rw [e3] at n28 e33
  rw [n28, if_pos (by omega), e33, k_bds, if_pos (i_O0 d33 (by omega)), p_lt, p_lt]
  rw [e4] at n37 e42
  rw [n37, if_pos (by omega), e42, k_bds, if_pos (i_O0 d42 (by omega)), p_lt]
  exact b1'
end
