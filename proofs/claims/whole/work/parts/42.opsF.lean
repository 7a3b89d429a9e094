/-! hall and rewire -/
def p_L2 (a i : Int) : Prop := (a = 120 ∧ i = 21) ∨ (72 ≤ a ∧ a < 120 ∧ ((a - 72) % 8 = 3 ∨ (a - 72) % 8 = 4)) ∨ a = 139 ∨ a = 140
theorem p_fL2 {A B : k_H} (h : p_ag p_L2 A B) (hm : k_rd A 120 20 ≤ k_rd B 120 20) (r : r_L A) : r_L B := by
  unfold r_L
  rw [h 120 21 (by unfold p_L2; omega)]
  intro s n h0 h1 h2 h3
  have q := r s n h0 h1 h2 h3
  rw [h (72 + 8 * s + 3) n (by unfold p_L2; omega), h (72 + 8 * s + 4) n (by unfold p_L2; omega), h 139 (14 * s + n) (by unfold p_L2; omega), h 140 (14 * s + n) (by unfold p_L2; omega)]
  refine ⟨q.1, q.2.1, by have := q.2.2.1; omega, fun t t0 t1 => ?_⟩
  rw [h (72 + 8 * t + 3) n (by unfold p_L2; omega)]
  exact q.2.2.2 t t0 t1
theorem p_agf {P : Int → Int → Prop} {A B : k_H} {a o : Int} {f : Int → Int} (n : Nat) (h : p_ag P A B) (hn : ∀ i, ¬ P a i) : p_ag P A (tw_w B a o f n) := by
  intro b j q
  rw [tw_r, if_neg]
  · exact h b j q
  · rintro ⟨rfl, _⟩; exact hn j q
theorem p_fail {A : k_H} {L : Int} (r : Rel A) : Rel (k_tk (k_wt A 1 1 0) L) := by
  have ag : ∀ {P : Int → Int → Prop}, ¬ P 1 1 → ¬ P 120 0 → ¬ P 120 3 → ¬ P 120 2 → ¬ P 120 4 → p_ag P A (k_tk (k_wt A 1 1 0) L) := fun a b c d e => p_agw (p_agw (p_agw (p_agw (p_agw p_agr a) b) c) d) e
  refine ⟨?_, p_fH (ag (by unfold p_H; omega) (by unfold p_H; omega) (by unfold p_H; omega) (by unfold p_H; omega) (by unfold p_H; omega)) r.2.1, p_fG (ag (by unfold p_G; omega) (by unfold p_G; omega) (by unfold p_G; omega) (by unfold p_G; omega) (by unfold p_G; omega)) r.2.2.1, p_fS (ag (by unfold p_S; omega) (by unfold p_S; omega) (by unfold p_S; omega) (by unfold p_S; omega) (by unfold p_S; omega)) r.2.2.2.1, p_fL (ag (by unfold p_L; omega) (by unfold p_L; omega) (by unfold p_L; omega) (by unfold p_L; omega) (by unfold p_L; omega)) r.2.2.2.2.1, p_fM (ag (by unfold p_M; omega) (by unfold p_M; omega) (by unfold p_M; omega) (by unfold p_M; omega) (by unfold p_M; omega)) r.2.2.2.2.2.1, p_fF (ag (by unfold p_F; omega) (by unfold p_F; omega) (by unfold p_F; omega) (by unfold p_F; omega) (by unfold p_F; omega)) r.2.2.2.2.2.2⟩
  unfold k_tk
  exact r_Tz r.1 (by simp (disch := omega) only [p_rwn, p_rwe]) (by simp (disch := omega) only [p_rwn, p_rwe]) (fun i => by simp (disch := omega) only [p_rwn]) (fun i => by simp (disch := omega) only [p_rwn])
theorem o_rewire {A : k_H} {h hi wi : Int} (r : Rel A) : p_ok A (fun A => gX8_rewire A h hi wi) (fun A => gX9_rewire A h hi wi) := by
  have e1 := r.1.1
  have e2 := r.1.2.1
  have e3 := r.1.2.2.1
  have hH1 := r.2.1.1
  have hH2 := r.2.1.2.2.1
  have cb := c_isHB (hi := hi) (wi := wi) e1 e2 e3
  unfold p_ok
  simp only [gX8_rewire, gX8_rewire_b0, gX8_rewire_b21, gX8_rewire_b22, gX8_rewire_b44, gX9_rewire, gX9_rewire_b0, p_lt, h_X8isHall, h_X9isHall, h_X9isIn, k_bds, p_b0]
  rw [hH1]
  have tk : gX9_taken (k_wt (k_wt A 1 1 0) 120 0 0) = some (0, k_tk (k_wt A 1 1 0) (k_rd A 120 2)) := m_taken (by rw [p_rwn (by omega)])
  have u20 : k_rd (k_tk (k_wt A 1 1 0) (k_rd A 120 2)) 120 20 = k_rd A 120 20 := by unfold k_tk; simp (disch := omega) only [p_rwn]
  have mb := m_amps (A := k_tk (k_wt A 1 1 0) (k_rd A 120 2)) (L := k_rd A 120 2) (lo := 1) (hi := 4) (by unfold k_tk; simp (disch := omega) only [p_rwn, p_rwe]) e2 e3
  rw [t_okE (A := A) r.1 e3 (fun i => by unfold k_tk; simp (disch := omega) only [p_rwn])] at mb
  by_cases h0 : 0 ≤ h ∧ h < k_rd A 120 20
  · rw [if_neg (not_not_intro h0)]
    by_cases h1 : (0 ≤ hi ∧ hi ≤ 99) ∧ (0 ≤ wi ∧ wi ≤ 99) ∧ t_ok A 1 4 (k_rd A 120 2)
    · have hL4 := h1.2.2.2.1
      have hL1 := h1.2.2.1
      generalize hL : k_rd A 120 2 = L at *
      rw [cb.1 h1, k_bds, if_neg (by decide), if_neg (by decide), if_pos (by omega), c_build (L := L) (by omega) e1 (by omega), k_bds, if_pos (Or.inr trivial)]
      have tk2 : gX9_taken (k_wt (k_wt (b_c A h hi wi L) 1 1 0) 120 0 0) = some (0, k_tk (k_wt (b_c A h hi wi L) 1 1 0) L) := m_taken (by unfold b_c; simp (disch := omega) only [p_rwn, tw_n]; exact hL)
      have mb2 := m_amps (A := k_tk (k_wt (b_c A h hi wi L) 1 1 0) L) (L := L) (lo := 1) (hi := 4) (by unfold k_tk; simp (disch := omega) only [p_rwn, p_rwe]) e2 e3
      rw [t_okE (A := A) r.1 e3 (fun i => by unfold k_tk b_c; simp (disch := omega) only [p_rwn, tw_n])] at mb2
      refine ⟨1, k_wt (b_c A h hi wi L) 1 1 0, b_m (k_tk (k_wt (b_c A h hi wi L) 1 1 0) L) h hi wi L, rfl, ?_, ?_⟩
      · rw [tk2, k_bds]
        have u : k_rd (k_tk (k_wt (b_c A h hi wi L) 1 1 0) L) 120 20 = k_rd A 120 20 := by unfold k_tk b_c; simp (disch := omega) only [p_rwn, tw_n]
        rw [u, if_neg (not_not_intro h0), if_neg (not_not_intro h1.1), if_neg (not_not_intro h1.2.1), mb2.1 h1.2.2, k_bds, if_neg (by decide), m_wire (L := L) (by omega) (by unfold k_tk; simp (disch := omega) only [p_rwn, p_rwe]) (by omega), k_bds]
      · unfold b_m k_tk b_c
        have ag : ∀ {P : Int → Int → Prop}, (∀ i, ¬ P (24 + 4 * h) i) → (∀ i, ¬ P (24 + 4 * h + 1) i) → (∀ i, ¬ P (24 + 4 * h + 1 + 1) i) → ¬ P 1 1 → ¬ P 120 0 → ¬ P 120 3 → ¬ P 120 2 → ¬ P 120 4 → (∀ i, ¬ P 124 i) → (∀ i, ¬ P 125 i) → (∀ i, ¬ P 126 i) → (∀ i, ¬ P 127 i) → p_ag P A (b_m (k_tk (k_wt (b_c A h hi wi L) 1 1 0) L) h hi wi L) := fun a b c d e f g i j k l m => p_agf _ (p_agw (p_agw (p_agw (p_agw (p_agw (p_agw (p_agw (p_agw (p_agf _ (p_agw (p_agw (p_agw p_agr (a _)) (a _)) (b _)) c) d) e) f) g) i) (j _)) (k _)) (l _)) m
        unfold b_m k_tk b_c at ag
        refine ⟨r_Tz r.1 (by simp (disch := omega) only [p_rwn, p_rwe, tw_n]) (by simp (disch := omega) only [p_rwn, p_rwe, tw_n]) (fun i => by simp (disch := omega) only [p_rwn, tw_n]) (fun i => by simp (disch := omega) only [p_rwn, tw_n]), ?_, p_fG (ag (by unfold p_G; omega) (by unfold p_G; omega) (by unfold p_G; omega) (by unfold p_G; omega) (by unfold p_G; omega) (by unfold p_G; omega) (by unfold p_G; omega) (by unfold p_G; omega) (by unfold p_G; omega) (by unfold p_G; omega) (by unfold p_G; omega) (by unfold p_G; omega)) r.2.2.1, p_fS (ag (by unfold p_S; omega) (by unfold p_S; omega) (by unfold p_S; omega) (by unfold p_S; omega) (by unfold p_S; omega) (by unfold p_S; omega) (by unfold p_S; omega) (by unfold p_S; omega) (by unfold p_S; omega) (by unfold p_S; omega) (by unfold p_S; omega) (by unfold p_S; omega)) r.2.2.2.1, p_fL (ag (by unfold p_L; omega) (by unfold p_L; omega) (by unfold p_L; omega) (by unfold p_L; omega) (by unfold p_L; omega) (by unfold p_L; omega) (by unfold p_L; omega) (by unfold p_L; omega) (by unfold p_L; omega) (by unfold p_L; omega) (by unfold p_L; omega) (by unfold p_L; omega)) r.2.2.2.2.1, p_fM (ag (by unfold p_M; omega) (by unfold p_M; omega) (by unfold p_M; omega) (by unfold p_M; omega) (by unfold p_M; omega) (by unfold p_M; omega) (by unfold p_M; omega) (by unfold p_M; omega) (by unfold p_M; omega) (by unfold p_M; omega) (by unfold p_M; omega) (by unfold p_M; omega)) r.2.2.2.2.2.1, p_fF (ag (by unfold p_F; omega) (by unfold p_F; omega) (by unfold p_F; omega) (by unfold p_F; omega) (by unfold p_F; omega) (by unfold p_F; omega) (by unfold p_F; omega) (by unfold p_F; omega) (by unfold p_F; omega) (by unfold p_F; omega) (by unfold p_F; omega) (by unfold p_F; omega)) r.2.2.2.2.2.2⟩
        have R := r.2.1
        refine ⟨by simp (disch := omega) only [p_rwn, tw_n]; exact R.1, by simp (disch := omega) only [p_rwn, tw_n]; exact R.2.1, by simp (disch := omega) only [p_rwn, tw_n]; exact R.2.2.1, fun x x0 x1 => ?_⟩
        have q := R.2.2.2 x x0 x1
        by_cases y : x = h
        · subst y
          refine ⟨by simp (disch := omega) only [p_rwn, tw_n]; exact q.1, by simp (disch := omega) only [p_rwn, tw_n]; exact q.2.1, by simp (disch := omega) only [p_rwn, tw_n, p_rwe], by simp (disch := omega) only [p_rwn, tw_n, p_rwe], by simp (disch := omega) only [p_rwn, tw_n, p_rwe]; exact ⟨trivial, by omega, by omega, fun _ => by omega⟩, fun c c0 c1 => ?_⟩
          have qc := q.2.2.2.2.2 c c0 c1
          by_cases cl : c < L
          · have t := r.1.2.2.2 c c0 (by omega)
            rw [tw_n (b := 24 + 4 * x + 1 + 1) (by omega)]
            simp (disch := omega) only [p_rwn]
            rw [tw_r, if_pos (by omega), tw_r, if_pos (by omega), Int.sub_zero]
            simp (disch := omega) only [p_rwn, tw_n]
            rw [show 4 * x + c - 4 * x = c by omega, t.1]
            omega
          · simp (disch := omega) only [p_rwn, tw_n]
            exact qc
        · refine ⟨by simp (disch := omega) only [p_rwn, tw_n]; exact q.1, by simp (disch := omega) only [p_rwn, tw_n]; exact q.2.1, by simp (disch := omega) only [p_rwn, tw_n]; exact q.2.2.1, by simp (disch := omega) only [p_rwn, tw_n]; exact q.2.2.2.1, by simp (disch := omega) only [p_rwn, tw_n]; exact q.2.2.2.2.1, fun c c0 c1 => ?_⟩
          simp (disch := omega) only [p_rwn, tw_n]
          exact q.2.2.2.2.2 c c0 c1
    · rw [cb.2 h1, k_bds, if_pos rfl, if_pos trivial, if_pos (Or.inl trivial)]
      refine ⟨0, k_wt A 1 1 0, k_tk (k_wt A 1 1 0) (k_rd A 120 2), rfl, ?_, p_fail r⟩
      rw [tk, k_bds, u20, if_neg (not_not_intro h0)]
      by_cases a : 0 ≤ hi ∧ hi ≤ 99
      · by_cases b : 0 ≤ wi ∧ wi ≤ 99
        · rw [if_neg (not_not_intro a), if_neg (not_not_intro b), mb.2 (fun c => h1 ⟨a, b, c⟩), k_bds, if_pos rfl]
        · rw [if_neg (not_not_intro a), if_pos b]
      · rw [if_pos a]
  · rw [if_pos h0, if_pos trivial, if_pos (Or.inl trivial)]
    exact ⟨0, k_wt A 1 1 0, k_tk (k_wt A 1 1 0) (k_rd A 120 2), rfl, by rw [tk, k_bds, u20, if_pos h0], p_fail r⟩
