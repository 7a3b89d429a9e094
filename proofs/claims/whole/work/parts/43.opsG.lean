/-! hall -/
theorem o_hall {A : k_H} {x y hi wi : Int} (r : Rel A) : p_ok A (fun A => gX8_hall A x y hi wi) (fun A => gX9_hall A x y hi wi) := by
  have e1 := r.1.1
  have e2 := r.1.2.1
  have e3 := r.1.2.2.1
  have hH1 := r.2.1.1
  have hH0 := r.2.1.2.1
  have hH2 := r.2.1.2.2.1
  have cb := c_isHB (hi := hi) (wi := wi) e1 e2 e3
  unfold p_ok
  simp only [gX8_hall, gX8_hall_b0, gX8_hall_b43, gX8_hall_b44, gX8_hall_b109, gX9_hall, gX9_hall_b0, p_lt, h_X8within, h_X9isIn, k_bds, p_b0]
  rw [hH1]
  have tk : gX9_taken (k_wt (k_wt A 1 1 0) 120 0 0) = some (0, k_tk (k_wt A 1 1 0) (k_rd A 120 2)) := m_taken (by rw [p_rwn (by omega)])
  have u20 : k_rd (k_tk (k_wt A 1 1 0) (k_rd A 120 2)) 120 20 = k_rd A 120 20 := by unfold k_tk; simp (disch := omega) only [p_rwn]
  have mb := m_amps (A := k_tk (k_wt A 1 1 0) (k_rd A 120 2)) (L := k_rd A 120 2) (lo := 1) (hi := 4) (by unfold k_tk; simp (disch := omega) only [p_rwn, p_rwe]) e2 e3
  rw [t_okE (A := A) r.1 e3 (fun i => by unfold k_tk; simp (disch := omega) only [p_rwn])] at mb
  by_cases h0 : k_rd A 120 20 < 12 ∧ (0 ≤ x ∧ x ≤ 99) ∧ (0 ≤ y ∧ y ≤ 99) ∧ (0 ≤ hi ∧ hi ≤ 99) ∧ (0 ≤ wi ∧ wi ≤ 99) ∧ t_ok A 1 4 (k_rd A 120 2)
  · obtain ⟨g0, g1, g2, g3, g4, g5⟩ := h0
    have hL4 := g5.2.1
    have hL1 := g5.1
    generalize hL : k_rd A 120 2 = L at *
    generalize hh : k_rd A 120 20 = h at *
    rw [if_pos g0, if_neg (not_not_intro g1), if_neg (not_not_intro g2), cb.1 ⟨g3, g4, g5⟩, k_bds, hH1, if_neg (by decide), if_neg (by decide), if_pos (by omega), c_build (L := L) (by omega) (by rw [p_rwn (by omega), p_rwn (by omega)]; exact e1) (by omega), k_bds]
    have z6 : k_rd (b_c (k_wt (k_wt A (24 + 4 * h) 2 x) (24 + 4 * h) 3 y) h hi wi L) 0 6 = h := by unfold b_c; simp (disch := omega) only [p_rwn, tw_n]; exact hH1
    rw [z6, k_wr_of (by omega) (by omega)]
    generalize hC : k_wt (k_wt (b_c (k_wt (k_wt A (24 + 4 * h) 2 x) (24 + 4 * h) 3 y) h hi wi L) 0 6 (h + 1)) 1 1 0 = C
    have tk2 : gX9_taken (k_wt C 120 0 0) = some (0, k_tk C L) := m_taken (by rw [← hC]; unfold b_c; simp (disch := omega) only [p_rwn, tw_n]; exact hL)
    have mb2 := m_amps (A := k_tk C L) (L := L) (lo := 1) (hi := 4) (by unfold k_tk; simp (disch := omega) only [p_rwn, p_rwe]) e2 e3
    rw [t_okE (A := A) r.1 e3 (fun i => by rw [← hC]; unfold k_tk b_c; simp (disch := omega) only [p_rwn, tw_n])] at mb2
    have u : k_rd (k_tk C L) 120 20 = h := by rw [← hC]; unfold k_tk b_c; simp (disch := omega) only [p_rwn, tw_n]; exact hh
    refine ⟨h, C, k_wt (b_m (k_wt (k_wt (k_tk C L) 122 h x) 123 h y) h hi wi L) 120 20 (h + 1), rfl, ?_, ?_⟩
    · rw [tk2, k_bds, u, if_neg (by omega), if_neg (not_not_intro g1), if_neg (not_not_intro g2), if_neg (not_not_intro g3), if_neg (not_not_intro g4), mb2.1 g5, k_bds, if_neg (by decide), u, if_pos (by omega), p_rwn (by omega), u, if_pos (by omega), p_rwn (by omega), p_rwn (by omega), u, m_wire (L := L) (by omega) (by unfold k_tk; simp (disch := omega) only [p_rwn, p_rwe]) (by omega), k_bds]
      have z7 : k_rd (b_m (k_wt (k_wt (k_tk C L) 122 h x) 123 h y) h hi wi L) 120 20 = h := by unfold b_m; simp (disch := omega) only [p_rwn, tw_n]; exact u
      rw [z7, k_wr_of (x := h + 1) (by omega) (by omega), p_rwe, k_wr_of (by omega) (by omega), show h + 1 - 1 = h by omega]
    · have ag : ∀ {P : Int → Int → Prop}, (∀ i, ¬ P (24 + 4 * h) i) → (∀ i, ¬ P (24 + 4 * h + 1) i) → (∀ i, ¬ P (24 + 4 * h + 1 + 1) i) → (¬ P 0 6 ∧ ¬ P 1 1 ∧ ¬ P 120 0 ∧ ¬ P 120 3 ∧ ¬ P 120 2 ∧ ¬ P 120 4 ∧ ¬ P 120 20) → (∀ a i, 122 ≤ a → a ≤ 127 → ¬ P a i) → p_ag P A (k_wt (b_m (k_wt (k_wt (k_tk C L) 122 h x) 123 h y) h hi wi L) 120 20 (h + 1)) := by
        intro P a b c d m
        rw [← hC]
        exact p_agw (p_agf _ (p_agw (p_agw (p_agw (p_agw (p_agw (p_agw (p_agw (p_agw (p_agw (p_agw (p_agw (p_agf _ (p_agw (p_agw (p_agw (p_agw (p_agw p_agr (a _)) (a _)) (a _)) (a _)) (b _)) c) d.1) d.2.1) d.2.2.1) d.2.2.2.1) d.2.2.2.2.1) d.2.2.2.2.2.1) (m 122 _ (by omega) (by omega))) (m 123 _ (by omega) (by omega))) (m 124 _ (by omega) (by omega))) (m 125 _ (by omega) (by omega))) (m 126 _ (by omega) (by omega))) (fun i => m 127 i (by omega) (by omega))) d.2.2.2.2.2.2
      have z20 : k_rd (k_wt (b_m (k_wt (k_wt (k_tk C L) 122 h x) 123 h y) h hi wi L) 120 20 (h + 1)) 120 20 = h + 1 := p_rwe
      have fr : p_ag (fun a i => p_G a i ∨ p_S a i ∨ p_L2 a i ∨ p_M a i ∨ p_F a i) A (k_wt (b_m (k_wt (k_wt (k_tk C L) 122 h x) 123 h y) h hi wi L) 120 20 (h + 1)) := ag (by unfold p_G p_S p_L2 p_M p_F; omega) (by unfold p_G p_S p_L2 p_M p_F; omega) (by unfold p_G p_S p_L2 p_M p_F; omega) (by unfold p_G p_S p_L2 p_M p_F; omega) (by unfold p_G p_S p_L2 p_M p_F; omega)
      refine ⟨?_, ?_, p_fG (p_agm fr (fun a i q => Or.inl q)) r.2.2.1, p_fS (p_agm fr (fun a i q => Or.inr (Or.inl q))) r.2.2.2.1, p_fL2 (p_agm fr (fun a i q => Or.inr (Or.inr (Or.inl q)))) (by rw [z20, hh]; omega) r.2.2.2.2.1, p_fM (p_agm fr (fun a i q => Or.inr (Or.inr (Or.inr (Or.inl q))))) r.2.2.2.2.2.1, p_fF (p_agm fr (fun a i q => Or.inr (Or.inr (Or.inr (Or.inr q))))) r.2.2.2.2.2.2⟩
      · rw [← hC]; unfold b_m k_tk b_c
        exact r_Tz r.1 (by simp (disch := omega) only [p_rwn, p_rwe, tw_n]) (by simp (disch := omega) only [p_rwn, p_rwe, tw_n]) (fun i => by simp (disch := omega) only [p_rwn, tw_n]) (fun i => by simp (disch := omega) only [p_rwn, tw_n])
      · rw [← hC]; unfold b_m k_tk b_c
        have R := r.2.1
        refine ⟨by simp (disch := omega) only [p_rwn, tw_n, p_rwe], by simp (disch := omega) only [p_rwe]; omega, by simp (disch := omega) only [p_rwe]; omega, fun v v0 v1 => ?_⟩
        have q := R.2.2.2 v v0 v1
        by_cases y : v = h
        · subst y
          refine ⟨by simp (disch := omega) only [p_rwn, tw_n, p_rwe]; exact ⟨trivial, g1⟩, by simp (disch := omega) only [p_rwn, tw_n, p_rwe]; exact ⟨trivial, g2⟩, by simp (disch := omega) only [p_rwn, tw_n, p_rwe], by simp (disch := omega) only [p_rwn, tw_n, p_rwe], by simp (disch := omega) only [p_rwn, tw_n, p_rwe]; exact ⟨trivial, by omega, by omega, fun _ => by omega⟩, fun c c0 c1 => ?_⟩
          have qc := q.2.2.2.2.2 c c0 c1
          by_cases cl : c < L
          · have t := r.1.2.2.2 c c0 (by omega)
            rw [p_rwn (b := 24 + 4 * v + 1 + 1) (by omega), tw_n (b := 24 + 4 * v + 1 + 1) (by omega)]
            simp (disch := omega) only [p_rwn]
            rw [tw_r, if_pos (by omega), tw_r, if_pos (by omega), Int.sub_zero]
            simp (disch := omega) only [p_rwn, tw_n]
            rw [show 4 * v + c - 4 * v = c by omega, t.1]
            omega
          · simp (disch := omega) only [p_rwn, tw_n]
            exact qc
        · refine ⟨by simp (disch := omega) only [p_rwn, tw_n]; exact q.1, by simp (disch := omega) only [p_rwn, tw_n]; exact q.2.1, by simp (disch := omega) only [p_rwn, tw_n]; exact q.2.2.1, by simp (disch := omega) only [p_rwn, tw_n]; exact q.2.2.2.1, by simp (disch := omega) only [p_rwn, tw_n, p_rwe]; exact ⟨q.2.2.2.2.1.1, q.2.2.2.2.1.2.1, q.2.2.2.2.1.2.2.1, fun w => q.2.2.2.2.1.2.2.2 (by omega)⟩, fun c c0 c1 => ?_⟩
          simp (disch := omega) only [p_rwn, tw_n]
          exact q.2.2.2.2.2 c c0 c1
  · refine ⟨-1, k_wt A 1 1 0, k_tk (k_wt A 1 1 0) (k_rd A 120 2), ?_, ?_, p_fail r⟩
    · by_cases g0 : k_rd A 120 20 < 12
      · rw [if_pos g0]
        by_cases g1 : 0 ≤ x ∧ x ≤ 99
        · rw [if_neg (not_not_intro g1)]
          by_cases g2 : 0 ≤ y ∧ y ≤ 99
          · rw [if_neg (not_not_intro g2), cb.2 (fun c => h0 ⟨g0, g1, g2, c⟩), k_bds, if_pos rfl, if_pos trivial]
          · rw [if_pos g2, if_pos trivial]
        · rw [if_pos g1, if_pos trivial]
      · rw [if_neg g0, if_pos trivial]
    · rw [tk, k_bds, u20]
      by_cases g0 : k_rd A 120 20 < 12
      · rw [if_neg (by omega)]
        by_cases g1 : 0 ≤ x ∧ x ≤ 99
        · rw [if_neg (not_not_intro g1)]
          by_cases g2 : 0 ≤ y ∧ y ≤ 99
          · rw [if_neg (not_not_intro g2)]
            by_cases g3 : 0 ≤ hi ∧ hi ≤ 99
            · rw [if_neg (not_not_intro g3)]
              by_cases g4 : 0 ≤ wi ∧ wi ≤ 99
              · rw [if_neg (not_not_intro g4), mb.2 (fun c => h0 ⟨g0, g1, g2, g3, g4, c⟩), k_bds, if_pos rfl]
              · rw [if_pos g4]
            · rw [if_pos g3]
          · rw [if_pos g2]
        · rw [if_pos g1]
      · rw [if_pos (by omega)]
