/-! end, fault, on, door -/
theorem p_scr {a i : Int} (h : (5 ≤ a ∧ a ≤ 17) ∨ (19 ≤ a ∧ a ≤ 23) ∨ (a = 18 ∧ i ≠ 2) ∨ (a = 120 ∧ i ≠ 2 ∧ i ≠ 20 ∧ i ≠ 21 ∧ i ≠ 39) ∨ a = 137 ∨ a = 138 ∨ (141 ≤ a ∧ a ≤ 149) ∨ (a = 150 ∧ 72 ≤ i) ∨ a = 151) : ¬ p_P a i := by
  unfold p_P p_T p_H p_G p_S p_L p_M p_F; omega
theorem p_fr0 {A : k_H} (r : Rel A) : Rel (k_wt A 120 0 0) := p_fr (p_agw p_agr (p_scr (by omega))) r
theorem o_end {A : k_H} {n : Int} (r : Rel A) : p_ok A (fun A => gX8_end A n) (fun A => gX9_end A n) := by
  have hT := r.1
  have e := hT.1
  unfold p_ok
  simp only [gX8_end, gX8_end_b0, gX9_end, gX9_end_b0, p_lt]
  by_cases h0 : 0 ≤ n
  · by_cases h1 : k_rd A 120 2 < n
    · exact ⟨0, A, k_wt A 120 0 0, by rw [if_pos h0, if_pos (by omega)], by rw [if_pos h0, p_rwn (by omega), if_pos h1], p_fr0 r⟩
    · refine ⟨1, k_wt A 1 1 n, k_wt (k_wt (k_wt A 1 1 n) 120 0 0) 120 2 n, by rw [if_pos h0, if_neg (by omega)], by rw [if_pos h0, p_rwn (by omega), p_rwn (by omega), if_neg h1], ?_⟩
      have ag : ∀ {P : Int → Int → Prop}, ¬ P 1 1 → ¬ P 120 0 → ¬ P 120 2 → p_ag P A (k_wt (k_wt (k_wt A 1 1 n) 120 0 0) 120 2 n) := fun a b c => p_agw (p_agw (p_agw p_agr a) b) c
      refine ⟨?_, p_fH (ag (by unfold p_H; omega) (by unfold p_H; omega) (by unfold p_H; omega)) r.2.1, p_fG (ag (by unfold p_G; omega) (by unfold p_G; omega) (by unfold p_G; omega)) r.2.2.1, p_fS (ag (by unfold p_S; omega) (by unfold p_S; omega) (by unfold p_S; omega)) r.2.2.2.1, p_fL (ag (by unfold p_L; omega) (by unfold p_L; omega) (by unfold p_L; omega)) r.2.2.2.2.1, p_fM (ag (by unfold p_M; omega) (by unfold p_M; omega) (by unfold p_M; omega)) r.2.2.2.2.2.1, p_fF (ag (by unfold p_F; omega) (by unfold p_F; omega) (by unfold p_F; omega)) r.2.2.2.2.2.2⟩
      refine ⟨?_, ?_, ?_, fun i i0 i1 => ?_⟩
      · rw [p_rwe, p_rwn (by omega), p_rwn (by omega), p_rwe]
      · rw [p_rwe]; exact h0
      · rw [p_rwe]; have := hT.2.2.1; omega
      · rw [p_rwn (by omega), p_rwn (by omega), p_rwn (by omega), p_rwn (by omega), p_rwn (by omega), p_rwn (by omega)]
        exact hT.2.2.2 i i0 i1
  · exact ⟨0, A, k_wt A 120 0 0, by rw [if_neg h0], by rw [if_neg h0], p_fr0 r⟩
theorem o_fault {A : k_H} (r : Rel A) : p_ok A (fun A => gX8_fault A) (fun A => gX9_fault A) := by
  refine ⟨k_rd A 120 39, A, k_wt A 120 0 0, ?_, ?_, p_fr0 r⟩
  · show some (k_rd A 18 2, A) = _
    rw [r.2.2.2.2.2.2]
  · show some (k_rd (k_wt A 120 0 0) 120 39, k_wt A 120 0 0) = _
    rw [p_rwn (by omega)]
/-! small helpers' answers -/
def p_bz (c : Prop) [Decidable c] : Int := if c then 1 else 0
theorem p_bt {c : Prop} [Decidable c] (h : c) : p_bz c = 1 := if_pos h
theorem p_bf {c : Prop} [Decidable c] (h : ¬ c) : p_bz c = 0 := if_neg h
theorem h_X8isShow (A : k_H) (s : Int) : gX8_isShow A s = some (p_bz (0 ≤ s ∧ s < k_rd A 0 7), A) := by
  unfold gX8_isShow gX8_isShow_b0 p_bz
  by_cases h0 : 0 ≤ s
  · by_cases h1 : s < k_rd A 0 7 <;> simp [h0, h1]
  · simp [h0]
theorem h_X8isHall (A : k_H) (s : Int) : gX8_isHall A s = some (p_bz (0 ≤ s ∧ s < k_rd A 0 6), A) := by
  unfold gX8_isHall gX8_isHall_b0 p_bz
  by_cases h0 : 0 ≤ s
  · by_cases h1 : s < k_rd A 0 6 <;> simp [h0, h1]
  · simp [h0]
theorem h_X9isShow (A : k_H) (s : Int) : gX9_isShow A s = some (p_bz (0 ≤ s ∧ s < k_rd A 120 21), A) := by
  unfold gX9_isShow gX9_isShow_b0 p_bz
  by_cases h0 : 0 ≤ s
  · by_cases h1 : s < k_rd A 120 21 <;> simp [h0, h1]
  · simp [h0]
theorem h_X9isHall (A : k_H) (s : Int) : gX9_isHall A s = some (p_bz (0 ≤ s ∧ s < k_rd A 120 20), A) := by
  unfold gX9_isHall gX9_isHall_b0 p_bz
  by_cases h0 : 0 ≤ s
  · by_cases h1 : s < k_rd A 120 20 <;> simp [h0, h1]
  · simp [h0]
theorem h_X8within (A : k_H) (s a b : Int) : gX8_isWithin A s a b = some (p_bz (a ≤ s ∧ s ≤ b), A) := by
  unfold gX8_isWithin gX8_isWithin_b0 p_bz
  by_cases h0 : a ≤ s
  · by_cases h1 : s ≤ b <;> simp [h0, h1]
  · simp [h0]
theorem h_X9isIn (A : k_H) (s a b : Int) : gX9_isIn A s a b = some (p_bz (a ≤ s ∧ s ≤ b), A) := by
  unfold gX9_isIn gX9_isIn_b0 p_bz
  by_cases h0 : a ≤ s
  · by_cases h1 : s ≤ b <;> simp [h0, h1]
  · simp [h0]
theorem p_b01 (c : Prop) [Decidable c] : p_bz c = 0 ∨ p_bz c = 1 := by unfold p_bz; split <;> simp
theorem h_X8isNight (A : k_H) (s : Int) : gX8_isNight A s = some (p_bz (0 ≤ s ∧ s ≤ 13), A) := by
  unfold gX8_isNight gX8_isNight_b0
  rw [h_X8within, k_bds, if_pos (p_b01 _)]
theorem h_X8isSize (A : k_H) (s : Int) : gX8_isSize A s = some (p_bz (0 ≤ s ∧ s ≤ 99), A) := by
  unfold gX8_isSize gX8_isSize_b0
  rw [h_X8within, k_bds, if_pos (p_b01 _)]
theorem p_b0 {c : Prop} [Decidable c] : p_bz c = 0 ↔ ¬ c := by unfold p_bz; split <;> simp_all
theorem o_on {A : k_H} {s n : Int} (r : Rel A) : p_ok A (fun A => gX8_on A s n) (fun A => gX9_on A s n) := by
  have eS := r.2.2.2.1.1
  have hS := r.2.2.2.1.2.2.1
  unfold p_ok
  simp only [gX8_on, gX8_on_b0, gX9_on, gX9_on_b0, p_lt, h_X8isShow, h_X9isShow, h_X8isNight, h_X9isIn, k_bds, p_b0]
  rw [eS]
  by_cases h0 : 0 ≤ s ∧ s < k_rd A 120 21
  · by_cases h1 : 0 ≤ n ∧ n ≤ 13
    · have q := (r.2.2.2.2.1 s n h0.1 (by omega) h1.1 (by omega)).1 h0.2
      refine ⟨k_rd A 139 (14 * s + n), A, k_wt A 120 0 0, ?_, ?_, p_fr0 r⟩
      · rw [if_neg (not_not_intro h0), if_neg (not_not_intro h1), if_pos (by omega), if_pos (by omega), q.1]
      · rw [p_rwn (by omega), if_neg (not_not_intro h0), if_neg (not_not_intro h1), k_wr_of (x := 14 * s) (by omega) (by omega), k_wr_of (x := 14 * s + n) (by omega) (by omega), if_pos (by omega), p_rwn (by omega)]
    · exact ⟨-1, A, k_wt A 120 0 0, by rw [if_neg (not_not_intro h0), if_pos h1], by rw [p_rwn (by omega), if_neg (not_not_intro h0), if_pos h1], p_fr0 r⟩
  · exact ⟨-1, A, k_wt A 120 0 0, by rw [if_pos h0], by rw [p_rwn (by omega), if_pos h0], p_fr0 r⟩
