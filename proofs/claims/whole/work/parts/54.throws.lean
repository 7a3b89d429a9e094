/-! the law's two helpers that catch -/
theorem l_gc {sc : k_SC} {A : k_H} (hw : k_Wf sc A) : k_Wf (sc.1, sc.2.1 + 1, sc.2.2 + 6) (k_gc A) := by
  refine ⟨?_, hw.2.1, hw.2.2.1, hw.2.2.2⟩
  have h := hw.1
  show (k_N A, k_U A + 1, k_T A + 6) = _
  unfold k_N k_U k_T
  rw [h]
def l_ok (sc : k_SC) (A : k_H) (X Y : k_H → Option (Int × k_H)) : Prop := ∃ k b A1 A2 sc', X A = some (k, A1) ∧ k_Wf sc' A1 ∧ sc'.1 = sc.1 ∧ sc'.2.1 ≤ sc.2.1 + 1 ∧ sc'.2.2 ≤ sc.2.2 + 6 ∧ Y A1 = some (b, A2) ∧ k_rd A2 120 0 = k ∧ (k = 0 → k_rd A2 151 0 = b) ∧ Rel A2
theorem p_fr1 {A : k_H} {v : Int} (r : Rel A) : Rel (k_wt A 120 0 v) := p_fr (p_agw p_agr (p_scr (by omega))) r
theorem p_frg {A : k_H} (r : Rel A) : Rel (k_gc A) := p_fr (fun _ _ _ => rfl) r
theorem l_keeps {sc : k_SC} {A : k_H} {h : Int} (hw : k_Wf sc A) (r : Rel A) : l_ok sc A (fun A => fL_keeps A 0 h 151) (fun A => gX9_keeps A h) := by
  have hS := r.2.2.2.1.2.2.1
  have hS0 := r.2.2.2.1.2.1
  have hS1 := r.2.2.2.1.1
  have hH1 := r.2.1.1
  have O := k_wO hw k_K0
  by_cases h0 : 0 ≤ h ∧ h < k_rd A 120 20
  · have ck := c_keeps (h := h) r.2.2.2.2.2.1 (n := (k_rd A 120 21).toNat) (by omega) (by omega) (fun s n a b c d => by have q := r.2.2.2.2.1 s n a b c d; omega)
    generalize hV : p_sum (fun s => p_sum (fun n => v_v A h s (k_rd A (72 + 8 * s + 3) n) (k_rd A (72 + 8 * s + 4) n)) 14) (k_rd A 120 21).toNat = V at ck
    have g : gX8_keeps A h = some (V, A) := by
      unfold gX8_keeps gX8_keeps_b0
      rw [h_X8isHall, k_bds, p_bt (by omega), if_neg (by decide)]
      exact ck.1
    have f := sgX8_keeps hw g
    have w1 : k_Wf sc (k_wt A 151 0 V) := k_wa hw k_R151 (by decide)
    have r1 : Rel (k_wt (k_wt A 151 0 V) 120 0 0) := p_fr1 (p_fr (p_agw p_agr (p_scr (by omega))) r)
    refine ⟨0, V, k_wt A 151 0 V, k_wt (k_wt A 151 0 V) 120 0 0, sc, ?_, w1, rfl, by omega, by omega, ?_, p_rwe, fun _ => by rw [p_rwn (by omega), p_rwe], r1⟩
    · show fL_keeps_b0 A 0 h 151 = _
      unfold fL_keeps_b0
      rw [if_pos O, f.1, k_bds, if_neg (by unfold k_EXC; omega), if_pos (k_wA hw k_R151 (by omega)), p_lt]
    · show gX9_keeps_b0 _ h = _
      unfold gX9_keeps_b0 gX9_keeps_b14 gX9_throwsIf gX9_throwsIf_b0 gX9_throwsIf_b10
      rw [h_X9isHall, k_bds, p_rwn (by omega), p_bt h0, if_neg (by decide), if_pos rfl, p_lt, if_pos (Or.inl rfl), k_bds, if_pos rfl]
      rw [m_keeps r1.2.2.2.2.2.1 (n := (k_rd A 120 21).toNat) (by simp (disch := omega) only [p_rwn]; omega) (by omega) (fun s n a b c d => by
        have q := r.2.2.2.2.1 s n a (by omega) c d
        have q1 := q.1 (by omega)
        simp (disch := omega) only [p_rwn]; omega)]
      rw [p_sumE (g := fun s => p_sum (fun n => v_v A h s (k_rd A (72 + 8 * s + 3) n) (k_rd A (72 + 8 * s + 4) n)) 14) _ (fun s s0 s1 => p_sumE 14 (fun i i0 i1 => by
        have q := r.2.2.2.2.1 s i s0 (by omega) i0 i1
        have q1 := q.1 (by omega)
        simp (disch := omega) only [p_rwn]
        rw [← q1.2, ← q1.1]
        unfold v_v y_A y_sh y_ab
        simp (disch := omega) only [p_rwn])), hV]
  · refine ⟨1, 0, k_gc A, k_wt (k_gc A) 120 0 1, (sc.1, sc.2.1 + 1, sc.2.2 + 6), ?_, l_gc hw, rfl, Nat.le_refl _, Nat.le_refl _, ?_, p_rwe, fun z => absurd z (by decide), p_fr1 (p_frg r)⟩
    · show fL_keeps_b0 A 0 h 151 = _
      unfold fL_keeps_b0 fX8_keeps fX8_keeps_b0
      rw [if_pos O, if_pos O, (sgX8_isHall hw (h_X8isHall A h)).1, k_bds, p_bf (by omega), if_pos rfl, k_bds, if_pos rfl, p_lt]
    · show gX9_keeps_b0 (k_gc A) h = _
      unfold gX9_keeps_b0 gX9_keeps_b14 gX9_throwsIf gX9_throwsIf_b0 gX9_throwsIf_b10
      have e : k_rd (k_gc A) 120 20 = k_rd A 120 20 := rfl
      rw [h_X9isHall, k_bds, e, p_bf h0, if_pos rfl, if_neg (by decide), p_lt, if_pos (Or.inr rfl), k_bds, if_neg (by decide)]
