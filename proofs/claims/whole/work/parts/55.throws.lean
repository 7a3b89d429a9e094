theorem m_thr (A : k_H) (v : Int) (hv : v = 0 ∨ v = 1) : gX9_throwsIf A v = some (v, k_wt A 120 0 v) := by
  unfold gX9_throwsIf gX9_throwsIf_b0 gX9_throwsIf_b10
  rcases hv with h | h
  · rw [if_pos h, p_lt, if_pos (Or.inl h), h]
  · rw [if_neg (by omega), p_lt, if_pos (Or.inr h), h]
theorem l_shared {sc : k_SC} {A : k_H} {s n w : Int} (hw : k_Wf sc A) (r : Rel A) : l_ok sc A (fun A => fL_shared A 0 s n w 151) (fun A => gX9_shared A s n w) := by
  have hS := r.2.2.2.1.2.2.1
  have hS0 := r.2.2.2.1.2.1
  have hS1 := r.2.2.2.1.1
  have O := k_wO hw k_K0
  have is := (sgX8_isShow hw (h_X8isShow A s)).1
  have ni := (sgX8_isNight hw (h_X8isNight A n)).1
  have wi := (sgX8_isWithin hw (h_X8within A w 0 3)).1
  have bad : fX8_shared A 0 s n w = some (k_EXC, A) → gX9_shared (k_gc A) s n w = some (0, k_wt (k_gc A) 120 0 1) → l_ok sc A (fun A => fL_shared A 0 s n w 151) (fun A => gX9_shared A s n w) := by
    intro f g
    refine ⟨1, 0, k_gc A, k_wt (k_gc A) 120 0 1, (sc.1, sc.2.1 + 1, sc.2.2 + 6), ?_, l_gc hw, rfl, Nat.le_refl _, Nat.le_refl _, g, p_rwe, fun z => absurd z (by decide), p_fr1 (p_frg r)⟩
    show fL_shared_b0 A 0 s n w 151 = _
    unfold fL_shared_b0
    rw [if_pos O, f, k_bds, if_pos rfl, p_lt]
  have e21 : k_rd (k_gc A) 120 21 = k_rd A 120 21 := rfl
  by_cases h0 : 0 ≤ s ∧ s < k_rd A 120 21
  · by_cases h1 : 0 ≤ n ∧ n ≤ 13
    · have q := r.2.2.2.2.1 s n h0.1 (by omega) h1.1 (by omega)
      have q1 := q.1 h0.2
      by_cases h2 : 0 ≤ w ∧ w ≤ 3
      · by_cases h3 : k_rd A (72 + 8 * s + 4) n = -1
        · refine bad ?_ ?_
          · show fX8_shared_b0 A 0 s n w = _
            unfold fX8_shared_b0
            have p24 := k_wA (i := s) hw k_R4 (by omega)
            have pa := k_a24 (i := s) hw (by omega)
            have pk := k_b24 (i := s) (by omega)
            rw [if_pos O, is, k_bds, p_bt (by omega), if_neg (by decide), ni, k_bds, p_bt h1, if_neg (by decide), wi, k_bds, p_bt h2, if_neg (by decide), if_pos O, k_p8_2 hw, if_pos p24, pa, if_pos (k_wO hw pk), k_p4_2 hw pk, if_pos (k_wA hw (k_q4_2 pk) (by omega)), if_pos h3]
          · show gX9_shared_b0 (k_gc A) s n w = _
            unfold gX9_shared_b0 gX9_shared_b42 gX9_shared_b47
            have e4 : k_rd (k_gc A) 140 (14 * s + n) = k_rd A 140 (14 * s + n) := rfl
            rw [h_X9isShow, k_bds, e21, p_bt h0, if_neg (by decide), h_X9isIn, k_bds, p_bt h1, if_neg (by decide), k_wr_of (x := 14 * s) (by omega) (by omega), k_wr_of (x := 14 * s + n) (by omega) (by omega), if_pos (by omega), e4, if_neg (by omega), m_thr _ _ (Or.inr rfl), k_bds, if_neg (by decide)]
        · have cp := c_partR r.2.2.2.2.2.1 (night := n) h2 ⟨h0.1, by omega⟩ ⟨h1.1, by omega⟩ rfl (by omega)
          generalize hP : k_rd A (72 + 8 * s + 4) n = P at *
          have yb := y_Ab r.2.2.2.2.2.1 (s := s) (p := P) (w := w) ⟨h0.1, by omega⟩ (by omega)
          generalize hV : y_A A s P w = V at *
          have g : gX8_shared A s n w = some (V, A) := by
            unfold gX8_shared gX8_shared_b0
            rw [h_X8isShow, k_bds, p_bt (by omega), if_neg (by decide), h_X8isNight, k_bds, p_bt h1, if_neg (by decide), h_X8within, k_bds, p_bt h2, if_neg (by decide), if_pos (by omega), if_pos (by omega), hP, if_neg h3, cp, k_bds]
          have f := sgX8_shared hw g
          have w1 : k_Wf sc (k_wt A 151 0 V) := k_wa hw k_R151 (by decide)
          have r1 : Rel (k_wt (k_wt A 151 0 V) 120 0 0) := p_fr1 (p_fr (p_agw p_agr (p_scr (by omega))) r)
          refine ⟨0, V, k_wt A 151 0 V, k_wt (k_wt A 151 0 V) 120 0 0, sc, ?_, w1, rfl, by omega, by omega, ?_, p_rwe, fun _ => by rw [p_rwn (by omega), p_rwe], r1⟩
          · show fL_shared_b0 A 0 s n w 151 = _
            unfold fL_shared_b0
            rw [if_pos O, f.1, k_bds, if_neg (by unfold k_EXC; omega), if_pos (k_wA hw k_R151 (by omega)), p_lt]
          · show gX9_shared_b0 _ s n w = _
            unfold gX9_shared_b0 gX9_shared_b42 gX9_shared_b47
            rw [h_X9isShow, k_bds, p_rwn (b := 120) (by omega), p_bt h0, if_neg (by decide), h_X9isIn, k_bds, p_bt h1, if_neg (by decide), k_wr_of (x := 14 * s) (by omega) (by omega), k_wr_of (x := 14 * s + n) (by omega) (by omega), if_pos (by omega), p_rwn (b := 140) (by omega), if_pos (by omega), h_X9isIn, k_bds, p_bt h2, if_neg (by decide), m_thr _ _ (Or.inl rfl), k_bds, if_pos rfl, if_pos (by omega), p_rwn (b := 140) (by omega), p_rwn (b := 140) (by omega), ← q1.2, m_shareR r1.2.2.2.2.2.1 h2 ⟨h0.1, by omega⟩ (by omega), k_bds, ← hV]
            unfold y_A y_sh y_ab
            simp (disch := omega) only [p_rwn]
      · refine bad ?_ ?_
        · show fX8_shared_b0 A 0 s n w = _
          unfold fX8_shared_b0 fX8_shared_b24
          rw [if_pos O, is, k_bds, p_bt (by omega), if_neg (by decide), ni, k_bds, p_bt h1, if_neg (by decide), wi, k_bds, p_bf h2, if_pos rfl]
        · show gX9_shared_b0 (k_gc A) s n w = _
          unfold gX9_shared_b0 gX9_shared_b42 gX9_shared_b47
          rw [h_X9isShow, k_bds, e21, p_bt h0, if_neg (by decide), h_X9isIn, k_bds, p_bt h1, if_neg (by decide), k_wr_of (x := 14 * s) (by omega) (by omega), k_wr_of (x := 14 * s + n) (by omega) (by omega), if_pos (by omega), h_X9isIn, k_bds, p_bf h2, if_pos rfl, m_thr _ _ (Or.inr rfl), k_bds]
          by_cases d : 0 ≤ k_rd (k_gc A) 140 (14 * s + n)
          · rw [if_pos d, if_neg (by decide)]
          · rw [if_neg d, if_neg (by decide)]
    · refine bad ?_ ?_
      · show fX8_shared_b0 A 0 s n w = _
        unfold fX8_shared_b0 fX8_shared_b24
        rw [if_pos O, is, k_bds, p_bt (by omega), if_neg (by decide), ni, k_bds, p_bf h1, if_pos rfl]
      · show gX9_shared_b0 (k_gc A) s n w = _
        unfold gX9_shared_b0 gX9_shared_b42 gX9_shared_b47
        rw [h_X9isShow, k_bds, e21, p_bt h0, if_neg (by decide), h_X9isIn, k_bds, p_bf h1, if_pos rfl, m_thr _ _ (Or.inr rfl), k_bds, if_neg (by decide)]
  · refine bad ?_ ?_
    · show fX8_shared_b0 A 0 s n w = _
      unfold fX8_shared_b0 fX8_shared_b24
      rw [if_pos O, is, k_bds, p_bf (by omega), if_pos rfl]
    · show gX9_shared_b0 (k_gc A) s n w = _
      unfold gX9_shared_b0 gX9_shared_b42 gX9_shared_b47
      rw [h_X9isShow, k_bds, e21, p_bf h0, if_pos rfl, m_thr _ _ (Or.inr rfl), k_bds, if_neg (by decide)]
