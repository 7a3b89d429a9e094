/-! show -/
def s_m (A : k_H) (s hi wi a b c d L : Int) : k_H := k_wt (k_wt (k_wt (k_wt (k_wt (k_wt (k_wt A 128 s hi) 129 s wi) 132 s a) 133 s b) 134 s c) 135 s d) 130 s L
theorem o_show {A : k_H} {hi wi a b c d : Int} (r : Rel A) : p_ok A (fun A => gX8_show A hi wi a b c d) (fun A => gX9_show A hi wi a b c d) := by
  have e1 := r.1.1
  have e2 := r.1.2.1
  have e3 := r.1.2.2.1
  have hS1 := r.2.2.2.1.1
  have hS0 := r.2.2.2.1.2.1
  have hS2 := r.2.2.2.1.2.2.1
  have cb := c_amps (A := A) (lo := 0) (hi := 8) e1 e2 e3
  unfold p_ok
  simp only [gX8_show, gX8_show_b0, gX8_show_b84, gX8_show_b85, gX8_show_b144, gX9_show, gX9_show_b0, p_lt, h_X8within, h_X8isSize, h_X8isNight, h_X9isIn, k_bds, p_b0, c_plan]
  rw [hS1]
  have tk : gX9_taken (k_wt (k_wt A 1 1 0) 120 0 0) = some (0, k_tk (k_wt A 1 1 0) (k_rd A 120 2)) := m_taken (by rw [p_rwn (by omega)])
  have u21 : k_rd (k_tk (k_wt A 1 1 0) (k_rd A 120 2)) 120 21 = k_rd A 120 21 := by unfold k_tk; simp (disch := omega) only [p_rwn]
  have mb := m_amps (A := k_tk (k_wt A 1 1 0) (k_rd A 120 2)) (L := k_rd A 120 2) (lo := 0) (hi := 8) (by unfold k_tk; simp (disch := omega) only [p_rwn, p_rwe]) e2 e3
  rw [t_okE (A := A) r.1 e3 (fun i => by unfold k_tk; simp (disch := omega) only [p_rwn])] at mb
  by_cases h0 : k_rd A 120 21 < 6 ∧ (0 ≤ hi ∧ hi ≤ 99) ∧ (0 ≤ wi ∧ wi ≤ 99) ∧ (0 ≤ a ∧ a ≤ b ∧ b ≤ 13) ∧ (1 ≤ c ∧ c ≤ 200) ∧ (1 ≤ d ∧ d ≤ 14) ∧ t_ok A 0 8 (k_rd A 120 2)
  · obtain ⟨g0, g1, g2, g3, g4, g5, g6⟩ := h0
    have hL8 := g6.2.1
    generalize hL : k_rd A 120 2 = L at *
    generalize hs : k_rd A 120 21 = s at *
    rw [if_pos g0, if_neg (not_not_intro g1), if_neg (not_not_intro g2), if_neg (not_not_intro (⟨by omega, by omega⟩ : 0 ≤ a ∧ a ≤ 13)), if_neg (not_not_intro (⟨by omega, by omega⟩ : 0 ≤ b ∧ b ≤ 13)), if_pos (by omega), if_neg (not_not_intro g4), if_neg (not_not_intro g5), cb.1 g6, k_bds, hS1, if_neg (by decide), if_neg (by decide), if_pos (by omega), c_buildS (L := L) (by omega) e1 (by omega), k_bds]
    have z6 : k_rd (k_wt (k_wt (k_wt (k_wt (s_c A s hi wi L) (72 + 8 * s) 6 a) (72 + 8 * s) 7 b) (72 + 8 * s) 8 c) (72 + 8 * s) 9 d) 0 7 = s := by unfold s_c; simp (disch := omega) only [p_rwn, tw_n]; exact hS1
    rw [z6, k_wr_of (by omega) (by omega)]
    generalize hC : k_wt (k_wt (k_wt (k_wt (k_wt (k_wt (s_c A s hi wi L) (72 + 8 * s) 6 a) (72 + 8 * s) 7 b) (72 + 8 * s) 8 c) (72 + 8 * s) 9 d) 0 7 (s + 1)) 1 1 0 = C
    have tk2 : gX9_taken (k_wt C 120 0 0) = some (0, k_tk C L) := m_taken (by rw [← hC]; unfold s_c; simp (disch := omega) only [p_rwn, tw_n]; exact hL)
    have mb2 := m_amps (A := k_tk C L) (L := L) (lo := 0) (hi := 8) (by unfold k_tk; simp (disch := omega) only [p_rwn, p_rwe]) e2 e3
    rw [t_okE (A := A) r.1 e3 (fun i => by rw [← hC]; unfold k_tk s_c; simp (disch := omega) only [p_rwn, tw_n])] at mb2
    have u : k_rd (k_tk C L) 120 21 = s := by rw [← hC]; unfold k_tk s_c; simp (disch := omega) only [p_rwn, tw_n]; exact hs
    have u3 : k_rd (k_tk C L) 120 3 = L := by unfold k_tk; simp (disch := omega) only [p_rwn, p_rwe]
    refine ⟨s, C, k_wt (tv_w (tw_w (s_m (k_tk C L) s hi wi a b c d L) 131 (8 * s) (fun i => k_rd (s_m (k_tk C L) s hi wi a b c d L) 121 i % 256) L.toNat) (14 * s) 14) 120 21 (s + 1), rfl, ?_, ?_⟩
    · rw [tk2, k_bds, u, if_neg (by omega), if_neg (not_not_intro g1), if_neg (not_not_intro g2), if_neg (not_not_intro (⟨by omega, by omega⟩ : 0 ≤ b ∧ b ≤ 13)), if_neg (not_not_intro (⟨by omega, by omega⟩ : 0 ≤ a ∧ a ≤ b)), if_neg (not_not_intro g4), if_neg (not_not_intro g5), mb2.1 g6, k_bds, if_neg (by decide), u, if_pos (by omega), if_pos (by omega), if_pos (by omega), if_pos (by omega), if_pos (by omega), if_pos (by omega), if_pos (by omega)]
      have w3 : k_rd (k_wt (k_wt (k_wt (k_wt (k_wt (k_wt (k_tk C L) 128 s hi) 129 s wi) 132 s a) 133 s b) 134 s c) 135 s d) 120 3 = L := by simp (disch := omega) only [p_rwn]; exact u3
      rw [w3]
      exact m_show1 (A := s_m (k_tk C L) s hi wi a b c d L) (by omega) (by unfold s_m; simp (disch := omega) only [p_rwn]; exact u) (by unfold s_m; simp (disch := omega) only [p_rwn]; exact u3) (by omega)
    · have ag : ∀ {P : Int → Int → Prop}, (∀ i, ¬ P (72 + 8 * s) i) → (∀ i, ¬ P (72 + 8 * s + 1) i) → (∀ i, ¬ P (72 + 8 * s + 1 + 1) i) → (¬ P 0 7 ∧ ¬ P 1 1 ∧ ¬ P 120 0 ∧ ¬ P 120 3 ∧ ¬ P 120 2 ∧ ¬ P 120 4 ∧ ¬ P 120 21) → (∀ a i, 128 ≤ a → a ≤ 135 → ¬ P a i) → (∀ i, ¬ P 139 i) → (∀ i, ¬ P 140 i) → p_ag P A (k_wt (tv_w (tw_w (s_m (k_tk C L) s hi wi a b c d L) 131 (8 * s) (fun i => k_rd (s_m (k_tk C L) s hi wi a b c d L) 121 i % 256) L.toNat) (14 * s) 14) 120 21 (s + 1)) := by
        intro P x y z w m t0 t1
        rw [← hC]
        refine p_agw (p_agv _ (p_agf _ (p_agw (p_agw (p_agw (p_agw (p_agw (p_agw (p_agw (p_agw (p_agw (p_agw (p_agw (p_agw (p_agw (p_agw (p_agw (p_agw (p_agw (p_agf _ (p_agw (p_agw (p_agw p_agr (x _)) (x _)) (y _)) z) (x _)) (x _)) (x _)) (x _)) w.1) w.2.1) w.2.2.1) w.2.2.2.1) w.2.2.2.2.1) w.2.2.2.2.2.1) (m 128 _ (by omega) (by omega))) (m 129 _ (by omega) (by omega))) (m 132 _ (by omega) (by omega))) (m 133 _ (by omega) (by omega))) (m 134 _ (by omega) (by omega))) (m 135 _ (by omega) (by omega))) (m 130 _ (by omega) (by omega))) (fun i => m 131 i (by omega) (by omega))) t0 t1) w.2.2.2.2.2.2
      have fr : p_ag (fun a i => p_H a i ∨ p_G2 a i ∨ p_M a i ∨ p_F a i) A _ := ag (by unfold p_H p_G2 p_M p_F; omega) (by unfold p_H p_G2 p_M p_F; omega) (by unfold p_H p_G2 p_M p_F; omega) (by unfold p_H p_G2 p_M p_F; omega) (by unfold p_H p_G2 p_M p_F; omega) (by unfold p_H p_G2 p_M p_F; omega) (by unfold p_H p_G2 p_M p_F; omega)
      refine ⟨?_, p_fH (p_agm fr (fun a i q => Or.inl q)) r.2.1, p_fG2 (p_agm fr (fun a i q => Or.inr (Or.inl q))) (by rw [p_rwe, hs]; omega) r.2.2.1, ?_, ?_, p_fM (p_agm fr (fun a i q => Or.inr (Or.inr (Or.inl q)))) r.2.2.2.2.2.1, p_fF (p_agm fr (fun a i q => Or.inr (Or.inr (Or.inr q)))) r.2.2.2.2.2.2⟩
      · rw [← hC]; unfold s_m k_tk s_c
        exact r_Tz r.1 (by simp (disch := omega) only [p_rwn, p_rwe, tw_n, tv_n]) (by simp (disch := omega) only [p_rwn, p_rwe, tw_n, tv_n]) (fun i => by simp (disch := omega) only [p_rwn, tw_n, tv_n]) (fun i => by simp (disch := omega) only [p_rwn, tw_n, tv_n])
      · rw [← hC]; unfold s_m k_tk s_c
        have R := r.2.2.2.1
        refine ⟨by simp (disch := omega) only [p_rwn, tw_n, tv_n, p_rwe], by simp (disch := omega) only [p_rwe]; omega, by simp (disch := omega) only [p_rwe]; omega, fun v v0 v1 => ?_⟩
        have q := R.2.2.2 v v0 v1
        by_cases y : v = s
        · subst y
          refine ⟨by simp (disch := omega) only [p_rwn, tw_n, tv_n, p_rwe], by simp (disch := omega) only [p_rwn, tw_n, tv_n, p_rwe], by simp (disch := omega) only [p_rwn, tw_n, tv_n, p_rwe]; exact ⟨trivial, by omega, by omega⟩, fun l l0 l1 => ?_, fun _ => by simp (disch := omega) only [p_rwn, tw_n, tv_n, p_rwe]; exact ⟨trivial, trivial, trivial, trivial, by omega, by omega, by omega, by omega, by omega, by omega, by omega⟩⟩
          have qc := q.2.2.2.1 l l0 l1
          by_cases cl : l < L
          · have t := r.1.2.2.2 l l0 (by omega)
            rw [p_rwn (b := 72 + 8 * v + 1 + 1) (by omega), tv_n (b := 72 + 8 * v + 1 + 1) (by omega), tw_n (b := 72 + 8 * v + 1 + 1) (by omega)]
            simp (disch := omega) only [p_rwn, tv_n]
            rw [tw_r, if_pos (by omega), tw_r, if_pos (by omega), Int.sub_zero]
            simp (disch := omega) only [p_rwn, tw_n]
            rw [show 8 * v + l - 8 * v = l by omega, t.1]
            omega
          · simp (disch := omega) only [p_rwn, tw_n, tv_n]
            exact qc
        · refine ⟨by simp (disch := omega) only [p_rwn, tw_n, tv_n]; exact q.1, by simp (disch := omega) only [p_rwn, tw_n, tv_n]; exact q.2.1, by simp (disch := omega) only [p_rwn, tw_n, tv_n]; exact q.2.2.1, fun l l0 l1 => by simp (disch := omega) only [p_rwn, tw_n, tv_n]; exact q.2.2.2.1 l l0 l1, fun w => ?_⟩
          have w' : v < s := by rw [p_rwe] at w; omega
          simp (disch := omega) only [p_rwn, tw_n, tv_n]
          exact q.2.2.2.2 (by omega)
      · rw [← hC]; unfold s_m k_tk s_c
        intro v n v0 v1 n0 n1
        have q := r.2.2.2.2.1 v n v0 v1 n0 n1
        rw [hs] at q
        have qn : ∀ t : Int, 0 ≤ t → t < 6 → t ≠ v → k_rd A (72 + 8 * t + 3) n = k_rd A (72 + 8 * v + 3) n → k_rd A (72 + 8 * v + 3) n = -1 := q.2.2.2
        have q3 := q.2.2.1
        by_cases y : v = s
        · subst y
          have q2 := q.2.1 (by omega)
          refine ⟨fun _ => ?_, fun w => ?_, ?_, fun t t0 t1 t2 => ?_⟩
          · rw [p_rwn (b := 139) (by omega), tv_r, if_pos (by omega), p_rwn (b := 140) (by omega), tv_r, if_pos (by omega)]
            simp (disch := omega) only [p_rwn, tw_n, tv_n]
            exact q2
          · rw [p_rwe] at w; omega
          · simp (disch := omega) only [p_rwn, tw_n, tv_n]
            exact q3
          · simp (disch := omega) only [p_rwn, tw_n, tv_n]
            exact qn t t0 t1 t2
        · refine ⟨fun w => ?_, fun w => ?_, ?_, fun t t0 t1 t2 => ?_⟩
          · have w' : v < s := by rw [p_rwe] at w; omega
            simp (disch := omega) only [p_rwn, tw_n, tv_n]
            exact q.1 w'
          · have w' : s ≤ v := by rw [p_rwe] at w; omega
            simp (disch := omega) only [p_rwn, tw_n, tv_n]
            exact q.2.1 w'
          · simp (disch := omega) only [p_rwn, tw_n, tv_n]
            exact q3
          · simp (disch := omega) only [p_rwn, tw_n, tv_n]
            exact qn t t0 t1 t2
  · refine ⟨-1, k_wt A 1 1 0, k_tk (k_wt A 1 1 0) (k_rd A 120 2), ?_, ?_, p_fail r⟩
    · by_cases g0 : k_rd A 120 21 < 6
      · rw [if_pos g0]
        by_cases g1 : 0 ≤ hi ∧ hi ≤ 99
        · rw [if_neg (not_not_intro g1)]
          by_cases g2 : 0 ≤ wi ∧ wi ≤ 99
          · rw [if_neg (not_not_intro g2)]
            by_cases g3 : 0 ≤ a ∧ a ≤ 13
            · rw [if_neg (not_not_intro g3)]
              by_cases g4 : 0 ≤ b ∧ b ≤ 13
              · rw [if_neg (not_not_intro g4)]
                by_cases g5 : a ≤ b
                · rw [if_pos g5]
                  by_cases g6 : 1 ≤ c ∧ c ≤ 200
                  · rw [if_neg (not_not_intro g6)]
                    by_cases g7 : 1 ≤ d ∧ d ≤ 14
                    · rw [if_neg (not_not_intro g7), cb.2 (fun z => h0 ⟨g0, g1, g2, ⟨g3.1, g5, g4.2⟩, g6, g7, z⟩), k_bds, if_pos rfl, if_pos trivial]
                    · rw [if_pos g7, if_pos trivial]
                  · rw [if_pos g6, if_pos trivial]
                · rw [if_neg g5, if_pos trivial]
              · rw [if_pos g4, if_pos trivial]
            · rw [if_pos g3, if_pos trivial]
          · rw [if_pos g2, if_pos trivial]
        · rw [if_pos g1, if_pos trivial]
      · rw [if_neg g0, if_pos trivial]
    · rw [tk, k_bds, u21]
      by_cases g0 : k_rd A 120 21 < 6
      · rw [if_neg (by omega)]
        by_cases g1 : 0 ≤ hi ∧ hi ≤ 99
        · rw [if_neg (not_not_intro g1)]
          by_cases g2 : 0 ≤ wi ∧ wi ≤ 99
          · rw [if_neg (not_not_intro g2)]
            by_cases g4 : 0 ≤ b ∧ b ≤ 13
            · rw [if_neg (not_not_intro g4)]
              by_cases g3 : 0 ≤ a ∧ a ≤ b
              · rw [if_neg (not_not_intro g3)]
                by_cases g6 : 1 ≤ c ∧ c ≤ 200
                · rw [if_neg (not_not_intro g6)]
                  by_cases g7 : 1 ≤ d ∧ d ≤ 14
                  · rw [if_neg (not_not_intro g7), mb.2 (fun z => h0 ⟨g0, g1, g2, ⟨g3.1, g3.2, g4.2⟩, g6, g7, z⟩), k_bds, if_pos rfl]
                  · rw [if_pos g7]
                · rw [if_pos g6]
              · rw [if_pos g3]
            · rw [if_pos g4]
          · rw [if_pos g2]
        · rw [if_pos g1]
      · rw [if_pos (by omega)]
