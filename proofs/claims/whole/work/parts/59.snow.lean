/-! snow, both sides -/
theorem r_Ls {A D : k_H} {s n h u : Int} (q : r_L A) (hs : 0 ≤ s ∧ s < k_rd A 120 21) (hh : 0 ≤ h ∧ h < k_rd A 120 20) (hS : k_rd A 120 21 ≤ 6) (h20 : k_rd D 120 20 = k_rd A 120 20) (h21 : k_rd D 120 21 = k_rd A 120 21)
    (e1 : ∀ t k : Int, 0 ≤ t → t < 6 → 0 ≤ k → k < 14 → k_rd D (72 + 8 * t + 3) k = if t = s ∧ k = n then -1 else if t = s ∧ k = u then h else k_rd A (72 + 8 * t + 3) k)
    (e2 : ∀ t k : Int, 0 ≤ t → t < 6 → 0 ≤ k → k < 14 → k_rd D (72 + 8 * t + 4) k = if t = s ∧ k = n then -1 else k_rd A (72 + 8 * t + 4) k)
    (e3 : ∀ t k : Int, 0 ≤ t → t < 6 → 0 ≤ k → k < 14 → k_rd D 139 (14 * t + k) = if t = s ∧ k = n then -1 else if t = s ∧ k = u then h else k_rd A 139 (14 * t + k))
    (e4 : ∀ t k : Int, 0 ≤ t → t < 6 → 0 ≤ k → k < 14 → k_rd D 140 (14 * t + k) = if t = s ∧ k = n then -1 else k_rd A 140 (14 * t + k))
    (hf : 0 ≤ u → u < 14 → ∀ t : Int, 0 ≤ t → t < k_rd A 120 21 → k_rd A (72 + 8 * t + 3) u ≠ h) : r_L D := by
  intro t k t0 t1 k0 k1
  have z := q t k t0 t1 k0 k1
  rw [h20, h21, e1 t k t0 t1 k0 k1, e2 t k t0 t1 k0 k1, e3 t k t0 t1 k0 k1, e4 t k t0 t1 k0 k1]
  by_cases y : t = s ∧ k = n
  · rw [if_pos y, if_pos y, if_pos y, if_pos y]
    exact ⟨fun _ => ⟨rfl, rfl⟩, fun _ => ⟨rfl, rfl⟩, by omega, fun _ _ _ _ _ => rfl⟩
  · rw [if_neg y, if_neg y, if_neg y, if_neg y]
    by_cases x : t = s ∧ k = u
    · rw [if_pos x, if_pos x]
      refine ⟨fun w => ⟨rfl, (z.1 w).2⟩, fun w => by omega, by omega, fun t' a b c => ?_⟩
      rw [e1 t' k a b k0 k1, if_neg (by omega), if_neg (by omega)]
      intro e
      exfalso
      by_cases v : t' < k_rd A 120 21
      · exact hf (by omega) (by omega) t' a v (by rw [← x.2]; exact e)
      · have := (q t' k a b k0 k1).2.1 (by omega)
        omega
    · rw [if_neg x, if_neg x]
      refine ⟨z.1, z.2.1, z.2.2.1, fun t' a b c => ?_⟩
      rw [e1 t' k a b k0 k1]
      by_cases y2 : t' = s ∧ k = n
      · rw [if_pos y2]; omega
      · rw [if_neg y2]
        by_cases x2 : t' = s ∧ k = u
        · rw [if_pos x2]
          intro e
          exfalso
          by_cases v : t < k_rd A 120 21
          · exact hf (by omega) (by omega) t t0 v (by rw [← x2.2]; exact e.symm)
          · have := z.2.1 (by omega)
            omega
        · rw [if_neg x2]; exact z.2.2.2 t' a b c
theorem o_snow {A : k_H} {h n : Int} (r : Rel A) : p_ok A (fun A => gX8_snow A h n) (fun A => gX9_snow A h n) := by
  have eS := r.2.2.2.1.1
  have hS0 := r.2.2.2.1.2.1
  have hS := r.2.2.2.1.2.2.1
  have eH := r.2.1.1
  have hH := r.2.1.2.2.1
  unfold p_ok
  simp only [gX8_snow, gX8_snow_b0, gX9_snow, gX9_snow_b0, p_lt, h_X8isHall, h_X9isHall, h_X8isNight, h_X9isIn, h_X8isShow, k_bds, p_b0]
  rw [eH]
  by_cases h0 : 0 ≤ h ∧ h < k_rd A 120 20
  · by_cases h1 : 0 ≤ n ∧ n ≤ 13
    · rw [if_neg (not_not_intro h0), if_neg (not_not_intro h1)]
      have hn : 0 ≤ n ∧ n < 14 := by omega
      obtain ⟨s, z⟩ := z_atE r (h := h) (n := n) h0.1 hn
      rw [c_at eS hS0 hS hn z, k_bds, eS]
      by_cases hs : 0 ≤ s
      · have z' : 0 ≤ s ∧ s < k_rd A 120 21 ∧ k_rd A (72 + 8 * s + 3) n = h ∧ ∀ t : Int, 0 ≤ t → t < 6 → t ≠ s → k_rd A (72 + 8 * t + 3) n ≠ h := by
          rcases z with z | z
          · omega
          · exact z
        have hs2 : 0 ≤ s ∧ s < k_rd A 120 21 := ⟨hs, z'.2.1⟩
        have hQ := (r.2.2.2.1.2.2.2 s hs (by omega)).2.2.2.2 hs2.2
        rw [if_neg (by omega), if_pos (by omega), if_pos (by omega), if_pos (by omega), k_wr_of (x := n + 1) (by omega) (by omega)]
        have cl : ∃ u, gX8_snow_h63 k_FU (k_wt (k_wt A (72 + 8 * s + 3) n (-1)) (72 + 8 * s + 4) n (-1)) h s (n + 1) = some (u, z_put (z_C A s n) (72 + 8 * s + 3) 0 u h) ∧ u = z_first (z_G A s n h) (k_rd A 133 s - n).toNat (n + 1) := by
          refine ⟨_, ?_, rfl⟩
          obtain ⟨N, hN⟩ := p_FU ((k_rd A 133 s - n).toNat + 1) (by have : k_FU = 1073741824 := rfl; omega)
          rw [hN]
          exact c_snowL (A := z_C A s n) (to := k_rd A 133 s) (by omega) (by rw [z_Cn (by omega) (by omega)]; exact hQ.2.1) (by omega) _ N (n + 1) (by omega) (by omega) (fun k a b => c_move r h0 hn hs2 (by omega))
        obtain ⟨u, cl, eu⟩ := cl
        have ub := z_firstB (G := z_G A s n h) (k_rd A 133 s - n).toNat (n + 1)
        rw [← eu] at ub
        refine ⟨u, z_put (z_C A s n) (72 + 8 * s + 3) 0 u h, z_put (k_wt (k_wt (k_wt (z_put (z_C A s n) (72 + 8 * s + 3) 0 u h) 120 0 0) 139 (14 * s + n) (-1)) 140 (14 * s + n) (-1)) 139 (14 * s) u h, cl, ?_, ?_⟩
        · have e20 : k_rd (k_wt (z_put (z_C A s n) (72 + 8 * s + 3) 0 u h) 120 0 0) 120 20 = k_rd A 120 20 := by rw [p_rwn (by omega), z_rn (by omega), z_Cn (by omega) (by omega)]
          have e21 : k_rd (k_wt (z_put (z_C A s n) (72 + 8 * s + 3) 0 u h) 120 0 0) 120 21 = k_rd A 120 21 := by rw [p_rwn (by omega), z_rn (by omega), z_Cn (by omega) (by omega)]
          have eo : ∀ a i : Int, 121 ≤ a → k_rd (k_wt (z_put (z_C A s n) (72 + 8 * s + 3) 0 u h) 120 0 0) a i = k_rd A a i := fun a i q => by rw [p_rwn (by omega), z_rn (by omega), z_Cn (by omega) (by omega)]
          rw [e20, if_neg (not_not_intro h0), if_neg (not_not_intro h1)]
          obtain ⟨N, em⟩ := m_at (A := k_wt (z_put (z_C A s n) (72 + 8 * s + 3) 0 u h) 120 0 0) (h := h) (n := n) (s := s) (S := k_rd A 120 21) e21 hS0 hS hn (by omega) (fun t a b => by
            rw [eo _ _ (by omega), ← ((r.2.2.2.2.1 t n a (by omega) hn.1 hn.2).1 b).1]
            constructor
            · intro w
              by_cases y : t = s
              · exact y
              · exact absurd w (z'.2.2.2 t a (by omega) y)
            · intro w; rw [w]; exact z'.2.2.1)
          rw [em, if_pos hs2.2, gX9_snow_h30, e21, if_neg (by omega), if_neg (by omega), k_wr_of (x := 14 * s) (by omega) (by omega), k_wr_of (x := 14 * s + n) (by omega) (by omega), if_pos (by omega)]
          simp only [p_lt]
          rw [if_pos (by omega), k_wr_of (x := n + 1) (by omega) (by omega)]
          obtain ⟨N, hN⟩ := p_FU ((k_rd A 133 s - n).toNat + 1) (by have : k_FU = 1073741824 := rfl; omega)
          rw [hN, eu]
          rw [← eu]
          refine (m_snowL (A := k_wt (k_wt (k_wt (z_put (z_C A s n) (72 + 8 * s + 3) 0 u h) 120 0 0) 139 (14 * s + n) (-1)) 140 (14 * s + n) (-1)) (h := h) (to := k_rd A 133 s) (G := z_G A s n h) (by omega) (by rw [p_rwn (by omega), p_rwn (by omega), eo _ _ (by omega)]) (by omega) _ N (n + 1) (by omega) (by omega) (fun k a b => ?_)).trans (by rw [← eu])
          refine m_move r h0 hn hs2 (by omega) (fun a i q => ?_) (fun t j t0 t1 j0 j1 => ?_)
          · rcases q with q | q | q | q | q
            · rw [p_rwn (by omega), p_rwn (by omega), eo _ _ (by omega)]
            · rw [p_rwn (by omega), p_rwn (by omega), eo _ _ (by omega)]
            · rw [p_rwn (by omega), p_rwn (by omega), eo _ _ (by omega)]
            · rw [p_rwn (by omega), p_rwn (by omega), eo _ _ (by omega)]
            · rw [p_rwn (by omega), p_rwn (by omega), q.1, q.2, e21]
          · rw [p_rwn (by omega), p_rw, eo _ _ (by omega)]
            by_cases y : t = s ∧ j = n
            · rw [if_pos (by omega), if_pos y]
            · rw [if_neg (by omega), if_neg y]
        · have ag : ∀ {P : Int → Int → Prop}, (∀ i, ¬ P (72 + 8 * s + 3) i) → (∀ i, ¬ P (72 + 8 * s + 4) i) → ¬ P 120 0 → (∀ i, ¬ P 139 i) → (∀ i, ¬ P 140 i) → p_ag P A (z_put (k_wt (k_wt (k_wt (z_put (z_C A s n) (72 + 8 * s + 3) 0 u h) 120 0 0) 139 (14 * s + n) (-1)) 140 (14 * s + n) (-1)) 139 (14 * s) u h) :=
            fun a b c d e => p_agz (p_agw (p_agw (p_agw (p_agz (p_agw (p_agw p_agr (a _)) (b _)) a) c) (d _)) (e _)) d
          refine ⟨p_fT (ag (by unfold p_T; omega) (by unfold p_T; omega) (by unfold p_T; omega) (by unfold p_T; omega) (by unfold p_T; omega)) r.1, p_fH (ag (by unfold p_H; omega) (by unfold p_H; omega) (by unfold p_H; omega) (by unfold p_H; omega) (by unfold p_H; omega)) r.2.1, p_fG (ag (by unfold p_G; omega) (by unfold p_G; omega) (by unfold p_G; omega) (by unfold p_G; omega) (by unfold p_G; omega)) r.2.2.1, p_fS (ag (by unfold p_S; omega) (by unfold p_S; omega) (by unfold p_S; omega) (by unfold p_S; omega) (by unfold p_S; omega)) r.2.2.2.1, ?_, p_fM (ag (by unfold p_M; omega) (by unfold p_M; omega) (by unfold p_M; omega) (by unfold p_M; omega) (by unfold p_M; omega)) r.2.2.2.2.2.1, p_fF (ag (by unfold p_F; omega) (by unfold p_F; omega) (by unfold p_F; omega) (by unfold p_F; omega) (by unfold p_F; omega)) r.2.2.2.2.2.2⟩
          refine r_Ls (s := s) (n := n) (h := h) (u := u) r.2.2.2.2.1 hs2 h0 hS ?_ ?_ ?_ ?_ ?_ ?_ ?_
          · rw [z_rn (by omega), p_rwn (by omega), p_rwn (by omega), p_rwn (by omega), z_rn (by omega), z_Cn (by omega) (by omega)]
          · rw [z_rn (by omega), p_rwn (by omega), p_rwn (by omega), p_rwn (by omega), z_rn (by omega), z_Cn (by omega) (by omega)]
          · intro t k t0 t1 k0 k1
            rw [z_rn (by omega), p_rwn (by omega), p_rwn (by omega), p_rwn (by omega), z_rp, z_Ct (by omega) (by omega)]
            by_cases y : t = s ∧ k = n
            · rw [if_neg (by omega), if_pos y, if_pos y]
            · rw [if_neg y, if_neg y]
              by_cases x : t = s ∧ k = u
              · rw [if_pos (by omega), if_pos x]
              · rw [if_neg (by omega), if_neg x]
          · intro t k t0 t1 k0 k1
            rw [z_rn (by omega), p_rwn (by omega), p_rwn (by omega), p_rwn (by omega), z_rn (by omega)]
            unfold z_C
            rw [p_rw, p_rwn (by omega)]
            by_cases y : t = s ∧ k = n
            · rw [if_pos (by omega), if_pos y]
            · rw [if_neg (by omega), if_neg y]
          · intro t k t0 t1 k0 k1
            rw [z_rp, p_rwn (by omega), p_rw, p_rwn (by omega), z_rn (by omega), z_Cn (by omega) (by omega)]
            by_cases y : t = s ∧ k = n
            · rw [if_neg (by omega), if_pos (by omega), if_pos y]
            · rw [if_neg y]
              by_cases x : t = s ∧ k = u
              · rw [if_pos (by omega), if_pos x]
              · rw [if_neg (by omega), if_neg (by omega), if_neg x]
          · intro t k t0 t1 k0 k1
            rw [z_rn (by omega), p_rw, p_rwn (by omega), p_rwn (by omega), z_rn (by omega), z_Cn (by omega) (by omega)]
            by_cases y : t = s ∧ k = n
            · rw [if_pos (by omega), if_pos y]
            · rw [if_neg (by omega), if_neg y]
          · intro u0 u1 t t0 t1 e
            rcases ub with ub | ub
            · omega
            · have w := ub.2.2
              unfold z_G at w
              by_cases v : z_T A s n u < 0 ∧ z_fr A h u = 1
              · have v2 := v.2
                unfold z_fr at v2
                rw [if_pos ⟨t, t0, t1, e⟩] at v2
                omega
              · rw [if_neg v] at w; omega
      · have z' : s = -1 ∧ ∀ t : Int, 0 ≤ t → t < k_rd A 120 21 → k_rd A (72 + 8 * t + 3) n ≠ h := by
          rcases z with z | z
          · exact z
          · omega
        refine ⟨-1, A, k_wt A 120 0 0, by rw [if_pos (by omega)], ?_, p_fr0 r⟩
        rw [p_rwn (by omega), if_neg (not_not_intro h0), if_neg (not_not_intro h1)]
        obtain ⟨N, em⟩ := m_at (A := k_wt A 120 0 0) (h := h) (n := n) (s := s) (S := k_rd A 120 21) (p_rwn (by omega)) hS0 hS hn (by omega) (fun t a b => by
          rw [p_rwn (by omega), ← ((r.2.2.2.2.1 t n a (by omega) hn.1 hn.2).1 b).1]
          exact ⟨fun w => absurd w (z'.2 t a b), fun w => by omega⟩)
        rw [em, if_pos (by omega), gX9_snow_h30, p_rwn (by omega), if_neg (by omega), if_pos (by omega)]
    · exact ⟨-1, A, k_wt A 120 0 0, by rw [if_neg (not_not_intro h0), if_pos h1], by rw [p_rwn (by omega), if_neg (not_not_intro h0), if_pos h1], p_fr0 r⟩
  · exact ⟨-1, A, k_wt A 120 0 0, by rw [if_pos h0], by rw [p_rwn (by omega), if_pos h0], p_fr0 r⟩
