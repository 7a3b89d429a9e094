/-! fits, plugged -/
def q_Wf (A : k_H) (s : Int) (j : Int) : Int := k_rd A 131 (8 * s + j)
def q_Pf (A : k_H) (h : Int) (c : Int) : Int := k_rd A 127 (4 * h + c)
section
variable {A B : k_H} {s h : Int}
theorem c_pB (rH : r_H A) (rS : r_S A) (hs : 0 ≤ s ∧ s < 6) (hh : 0 ≤ h ∧ h < 12) (aH : p_ag p_H A B) (aS : p_ag p_S A B) : ∃ r C, gX3_canPlug B (72 + 8 * s + 1) (24 + 4 * h + 1) = some (r, C) ∧ (∀ a i : Int, a < 5 ∨ 11 < a → k_rd C a i = k_rd B a i) ∧ k_rd C 5 6 = k_rd A 130 s ∧ q_res (q_Wf A s) (q_Pf A h) (k_rd A 126 h) (k_rd A 130 s) r (k_rd C 11) := by
  have qH := rH.2.2.2 h hh.1 hh.2
  have qS := rS.2.2.2 s hs.1 hs.2
  obtain ⟨m, hm⟩ : ∃ m : Nat, k_rd A 126 h = m := ⟨(k_rd A 126 h).toNat, by omega⟩
  rw [hm]
  exact c_canPlug hs hh (by rw [aS _ _ (by unfold p_S; omega)]; exact qS.2.2.1.1) (by omega) (by rw [aH _ _ (by unfold p_H; omega), ← hm]; exact qH.2.2.2.2.1.1) (by omega) (fun c x y => by
    rw [aH _ _ (by unfold p_H; omega)]; exact qH.2.2.2.2.2 c x (by omega)) (fun j x y => by
    rw [aS _ _ (by unfold p_S; omega)]; exact qS.2.2.2.1 j x (by omega))
theorem m_pB (rH : r_H A) (rS : r_S A) (hs : 0 ≤ s ∧ s < 6) (hh : 0 ≤ h ∧ h < 12) (aH : p_ag p_H A B) (aS : p_ag p_S A B) : ∃ r C, gX9_plug B s h = some (r, C) ∧ (∀ a i : Int, a ≠ 137 ∧ a ≠ 138 → k_rd C a i = k_rd B a i) ∧ q_res (q_Wf A s) (q_Pf A h) (k_rd A 126 h) (k_rd A 130 s) r (k_rd C 137) := by
  have qH := rH.2.2.2 h hh.1 hh.2
  have qS := rS.2.2.2 s hs.1 hs.2
  obtain ⟨m, hm⟩ : ∃ m : Nat, k_rd A 126 h = m := ⟨(k_rd A 126 h).toNat, by omega⟩
  rw [hm]
  exact m_plugA hs hh (aS _ _ (by unfold p_S; omega)) (by omega) (by rw [aH _ _ (by unfold p_H; omega)]; exact hm) (by omega) (fun c x y => by
    rw [aH _ _ (by unfold p_H; omega)]; exact ⟨rfl, (qH.2.2.2.2.2 c x (by omega)).2⟩) (fun j x y => by
    rw [aS _ _ (by unfold p_S; omega)]; exact ⟨rfl, (qS.2.2.2.1 j x (by omega)).2⟩)
theorem o_fit (rH : r_H A) (rS : r_S A) (hs : 0 ≤ s ∧ s < 6) (hh : 0 ≤ h ∧ h < 12) : ∃ v : Int, ∀ B, p_ag p_H A B → p_ag p_S A B → (∃ C, gX8_fitOf B (72 + 8 * s) (24 + 4 * h) = some (v, C) ∧ ∀ a i : Int, a < 5 ∨ 11 < a → k_rd C a i = k_rd B a i) ∧ (∃ D, gX9_fit B s h = some (v, D) ∧ ∀ a i : Int, a ≠ 137 ∧ a ≠ 138 → k_rd D a i = k_rd B a i) := by
  have qH := rH.2.2.2 h hh.1 hh.2
  have qS := rS.2.2.2 s hs.1 hs.2
  have c4 : ∀ B, p_ag p_H A B → k_rd B (24 + 4 * h) 4 = k_rd A 124 h ∧ k_rd B (24 + 4 * h) 5 = k_rd A 125 h ∧ k_rd B 124 h = k_rd A 124 h ∧ k_rd B 125 h = k_rd A 125 h := fun B aH => ⟨by rw [aH _ _ (by unfold p_H; omega)]; exact qH.2.2.1, by rw [aH _ _ (by unfold p_H; omega)]; exact qH.2.2.2.1, aH _ _ (by unfold p_H; omega), aH _ _ (by unfold p_H; omega)⟩
  have d4 : ∀ B, p_ag p_S A B → k_rd B (72 + 8 * s) 4 = k_rd A 128 s ∧ k_rd B (72 + 8 * s) 5 = k_rd A 129 s ∧ k_rd B 128 s = k_rd A 128 s ∧ k_rd B 129 s = k_rd A 129 s := fun B aS => ⟨by rw [aS _ _ (by unfold p_S; omega)]; exact qS.1, by rw [aS _ _ (by unfold p_S; omega)]; exact qS.2.1, aS _ _ (by unfold p_S; omega), aS _ _ (by unfold p_S; omega)⟩
  by_cases z1 : k_rd A 124 h < k_rd A 128 s
  · refine ⟨0, fun B aH aS => ⟨⟨B, ?_, fun _ _ _ => rfl⟩, ⟨B, ?_, fun _ _ _ => rfl⟩⟩⟩
    · unfold gX8_fitOf gX8_fitOf_b0
      rw [(c4 B aH).1, (d4 B aS).1, if_pos z1]
    · unfold gX9_fit gX9_fit_b0
      rw [if_pos (by omega), if_pos (by omega), (c4 B aH).2.2.1, (d4 B aS).2.2.1, if_pos z1]
  · by_cases z2 : k_rd A 125 h < k_rd A 129 s
    · refine ⟨-1, fun B aH aS => ⟨⟨B, ?_, fun _ _ _ => rfl⟩, ⟨B, ?_, fun _ _ _ => rfl⟩⟩⟩
      · unfold gX8_fitOf gX8_fitOf_b0
        rw [(c4 B aH).1, (d4 B aS).1, if_neg z1, (c4 B aH).2.1, (d4 B aS).2.1, if_pos z2]
      · unfold gX9_fit gX9_fit_b0
        rw [if_pos (by omega), if_pos (by omega), (c4 B aH).2.2.1, (d4 B aS).2.2.1, if_neg z1, if_pos (by omega), if_pos (by omega), (c4 B aH).2.2.2, (d4 B aS).2.2.2, if_pos z2]
    · obtain ⟨r0, C0, _, _, _, u0⟩ := c_pB rH rS hs hh (p_agr (P := p_H) (A := A)) (p_agr (P := p_S) (A := A))
      refine ⟨if r0 = 0 then -2 else 1, fun B aH aS => ⟨?_, ?_⟩⟩
      · obtain ⟨r1, C1, e1, f1, _, u1⟩ := c_pB rH rS hs hh aH aS
        refine ⟨C1, ?_, f1⟩
        unfold gX8_fitOf gX8_fitOf_b0
        rw [(c4 B aH).1, (d4 B aS).1, if_neg z1, (c4 B aH).2.1, (d4 B aS).2.1, if_neg z2, e1, k_bds, (q_resU u0 u1).1]
        split <;> rfl
      · obtain ⟨r1, C1, e1, f1, u1⟩ := m_pB rH rS hs hh aH aS
        refine ⟨C1, ?_, f1⟩
        unfold gX9_fit gX9_fit_b0
        rw [if_pos (by omega), if_pos (by omega), (c4 B aH).2.2.1, (d4 B aS).2.2.1, if_neg z1, if_pos (by omega), if_pos (by omega), (c4 B aH).2.2.2, (d4 B aS).2.2.2, if_neg z2, e1, k_bds, (q_resU u0 u1).1]
        split <;> rfl
end
theorem p_frq {A C D : k_H} (r : Rel A) (h1 : ∀ a i : Int, a < 5 ∨ 11 < a → k_rd C a i = k_rd A a i) (h2 : ∀ a i : Int, a ≠ 137 ∧ a ≠ 138 → k_rd D a i = k_rd (k_wt C 120 0 0) a i) : Rel D := by
  refine p_fr (fun a i q => ?_) r
  have n1 : ¬ (5 ≤ a ∧ a ≤ 17) := fun z => p_scr (by omega) q
  have n2 : ¬ (a = 137 ∨ a = 138) := fun z => p_scr (by omega) q
  have n3 : ¬ (a = 120 ∧ i = 0) := fun z => p_scr (by omega) q
  rw [h2 a i (by omega), p_rwn (by omega), h1 a i (by omega)]
theorem p_agq {P : Int → Int → Prop} {A C : k_H} (h1 : ∀ a i : Int, a < 5 ∨ 11 < a → k_rd C a i = k_rd A a i) (h2 : ∀ a i, P a i → a < 5 ∨ 11 < a) (h3 : ¬ P 120 0) : p_ag P A (k_wt C 120 0 0) := p_agw (fun a i q => h1 a i (h2 a i q)) h3
theorem o_fits {A : k_H} {s h : Int} (r : Rel A) : p_ok A (fun A => gX8_fits A s h) (fun A => gX9_fits A s h) := by
  have eS := r.2.2.2.1.1
  have hS := r.2.2.2.1.2.2.1
  have eH := r.2.1.1
  have hH := r.2.1.2.2.1
  unfold p_ok
  simp only [gX8_fits, gX8_fits_b0, gX9_fits, gX9_fits_b0, p_lt, h_X8isHall, h_X9isHall, h_X8isShow, h_X9isShow, k_bds, p_b0]
  rw [eH, eS]
  by_cases h0 : 0 ≤ s ∧ s < k_rd A 120 21
  · by_cases h1 : 0 ≤ h ∧ h < k_rd A 120 20
    · obtain ⟨v, hv⟩ := o_fit r.2.1 r.2.2.2.1 (s := s) (h := h) (by omega) (by omega)
      obtain ⟨⟨C, e1, f1⟩, _⟩ := hv A p_agr p_agr
      obtain ⟨_, ⟨D, e2, f2⟩⟩ := hv (k_wt C 120 0 0) (p_agq f1 (by unfold p_H; omega) (by unfold p_H; omega)) (p_agq f1 (by unfold p_S; omega) (by unfold p_S; omega))
      refine ⟨v, C, D, ?_, ?_, p_frq r f1 f2⟩
      · rw [if_neg (not_not_intro h0), if_neg (not_not_intro h1), if_pos (by omega), if_pos (by omega), e1, k_bds]
      · rw [p_rwn (by omega), p_rwn (by omega), f1 _ _ (by omega), f1 _ _ (by omega), if_neg (not_not_intro h0), if_neg (not_not_intro h1), e2, k_bds]
    · exact ⟨-3, A, k_wt A 120 0 0, by rw [if_neg (not_not_intro h0), if_pos h1], by rw [p_rwn (by omega), p_rwn (by omega), if_neg (not_not_intro h0), if_pos h1], p_fr0 r⟩
  · exact ⟨-3, A, k_wt A 120 0 0, by rw [if_pos h0], by rw [p_rwn (by omega), if_pos h0], p_fr0 r⟩
theorem o_plugged {A : k_H} {s h l : Int} (r : Rel A) : p_ok A (fun A => gX8_plugged A s h l) (fun A => gX9_plugged A s h l) := by
  have eS := r.2.2.2.1.1
  have hS := r.2.2.2.1.2.2.1
  have eH := r.2.1.1
  have hH := r.2.1.2.2.1
  unfold p_ok
  simp only [gX8_plugged, gX8_plugged_b0, gX9_plugged, gX9_plugged_b0, p_lt, h_X8isHall, h_X9isHall, h_X8isShow, h_X9isShow, k_bds, p_b0]
  rw [eH, eS]
  by_cases h0 : 0 ≤ s ∧ s < k_rd A 120 21
  · have qS := (r.2.2.2.1.2.2.2 s h0.1 (by omega)).2.2.1
    by_cases h1 : 0 ≤ h ∧ h < k_rd A 120 20
    · by_cases h2 : 0 ≤ l
      · by_cases h3 : k_rd A 130 s ≤ l
        · exact ⟨-1, A, k_wt A 120 0 0, by rw [if_neg (not_not_intro h0), if_neg (not_not_intro h1), if_pos h2, if_pos (by omega), if_pos (by omega)], by rw [p_rwn (by omega), p_rwn (by omega), p_rwn (by omega), if_neg (not_not_intro h0), if_neg (not_not_intro h1), if_pos h2, if_pos (by omega), if_pos h3], p_fr0 r⟩
        · obtain ⟨r1, C, e1, f1, n1, u1⟩ := c_pB r.2.1 r.2.2.2.1 (s := s) (h := h) (by omega) (by omega) (p_agr (A := A)) p_agr
          obtain ⟨r2, D, e2, f2, u2⟩ := m_pB r.2.1 r.2.2.2.1 (s := s) (h := h) (B := k_wt C 120 0 0) (by omega) (by omega) (p_agq f1 (by unfold p_H; omega) (by unfold p_H; omega)) (p_agq f1 (by unfold p_S; omega) (by unfold p_S; omega))
          have uu := q_resU u1 u2
          by_cases z : r1 = 0
          · refine ⟨-1, C, D, ?_, ?_, p_frq r f1 f2⟩
            · rw [if_neg (not_not_intro h0), if_neg (not_not_intro h1), if_pos h2, if_pos (by omega), if_neg (by omega), if_pos (by omega), e1, k_bds, if_pos z]
            · rw [p_rwn (by omega), p_rwn (by omega), p_rwn (by omega), f1 _ _ (by omega), f1 _ _ (by omega), f1 _ _ (by omega), if_neg (not_not_intro h0), if_neg (not_not_intro h1), if_pos h2, if_pos (by omega), if_neg h3, e2, k_bds, if_pos (by omega)]
          · have z1 : r1 = 1 := by rcases u1 with u | u <;> omega
            refine ⟨k_rd D 137 l, C, D, ?_, ?_, p_frq r f1 f2⟩
            · rw [if_neg (not_not_intro h0), if_neg (not_not_intro h1), if_pos h2, if_pos (by omega), if_neg (by omega), if_pos (by omega), e1, k_bds, if_neg z]
              unfold gX3_circuitOf gX3_circuitOf_b0
              rw [if_pos h2, n1, if_pos (by omega), if_pos (by omega), k_bds, uu.2 z1 l h2 (by omega)]
            · rw [p_rwn (by omega), p_rwn (by omega), p_rwn (by omega), f1 _ _ (by omega), f1 _ _ (by omega), f1 _ _ (by omega), if_neg (not_not_intro h0), if_neg (not_not_intro h1), if_pos h2, if_pos (by omega), if_neg h3, e2, k_bds, if_neg (by omega), if_pos (by omega)]
      · exact ⟨-1, A, k_wt A 120 0 0, by rw [if_neg (not_not_intro h0), if_neg (not_not_intro h1), if_neg h2], by rw [p_rwn (by omega), p_rwn (by omega), if_neg (not_not_intro h0), if_neg (not_not_intro h1), if_neg h2], p_fr0 r⟩
    · exact ⟨-1, A, k_wt A 120 0 0, by rw [if_neg (not_not_intro h0), if_pos h1], by rw [p_rwn (by omega), p_rwn (by omega), if_neg (not_not_intro h0), if_pos h1], p_fr0 r⟩
  · exact ⟨-1, A, k_wt A 120 0 0, by rw [if_pos h0], by rw [p_rwn (by omega), if_pos h0], p_fr0 r⟩
