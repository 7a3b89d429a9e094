/-! terms: the pieces of a term, both sides -/
def x_to (T : Int → Int) (Ln p f kd n e w : Int) : Prop := x_ok T Ln p f kd n e w ∧ (∀ A, x_c T Ln A → k_rd A 18 8 = p → ∃ A', gX7_nextToken A = some (0, A') ∧ x_tc A' f kd n e ∧ x_fc A A') ∧ (∀ A, x_m T Ln A → k_rd A 120 4 = p → ∃ A', gX9_next A = some (0, A') ∧ x_tm A' f kd n e w ∧ x_gm A A')
def x_oc (A B : k_H) : Prop := ∀ a i : Int, a < 18 ∨ 23 < a → k_rd B a i = k_rd A a i
def x_om (A B : k_H) : Prop := ∀ a i : Int, ¬ (a = 120 ∧ (i = 4 ∨ (36 ≤ i ∧ i ≤ 42))) → ¬ (a = 150 ∧ 72 ≤ i) → k_rd B a i = k_rd A a i
def x_Fc (A B : k_H) (flt pl : Int) : Prop := k_rd B 18 2 = flt ∧ k_rd B 18 3 = pl ∧ x_oc A B
def x_Fm (A B : k_H) (flt pl : Int) : Prop := k_rd B 120 39 = flt ∧ k_rd B 120 40 = pl ∧ x_om A B
def x_ft (kd : Int) : Int := if kd = 0 then 1 else 2
def x_fn (kd n lo hi : Int) : Int := if kd = 2 then (if lo ≤ n ∧ n ≤ hi then 0 else 3) else x_ft kd
theorem h_ref (A : k_H) (v : Int) : gX7_refuse A v = some (0, k_wt (k_wt A 18 2 v) 18 3 (k_rd A 18 9)) := by
  unfold gX7_refuse gX7_refuse_b0
  rw [p_lt, p_lt, p_rwn (by omega)]
theorem h_reft (A : k_H) : gX7_refuseToken A = some (0, k_wt (k_wt A 18 2 (x_ft (k_rd A 18 10))) 18 3 (k_rd A 18 9)) := by
  unfold gX7_refuseToken gX7_refuseToken_b0 x_ft
  simp only [gX7_refuseToken_b13, h_ref, k_bds]
  by_cases z : k_rd A 18 10 = 0
  · rw [if_pos z, if_pos (Or.inl trivial), if_pos z]
  · rw [if_neg z, if_pos (Or.inl trivial), if_neg z]
theorem h_wrg (A : k_H) (k w : Int) : gX9_wrong A k w = some (0, k_wt (k_wt A 120 39 k) 120 40 w) := by
  unfold gX9_wrong gX9_wrong_b0
  rw [p_lt, p_lt]
theorem h_cant (A : k_H) : gX9_cant A = some (0, k_wt (k_wt A 120 39 (if k_rd A 120 36 = 4 then 1 else 2)) 120 40 (k_rd A 120 37)) := by
  unfold gX9_cant gX9_cant_b0
  simp only [gX9_cant_b14, h_wrg, k_bds]
  by_cases z : k_rd A 120 36 = 4
  · rw [if_pos z, if_pos (Or.inl trivial), if_pos z]
  · rw [if_neg z, if_pos (Or.inl trivial), if_neg z]
theorem x_FcR {A B : k_H} {v pl : Int} (f : x_fc A B) (h : k_rd B 18 9 = pl) : x_Fc A (k_wt (k_wt B 18 2 v) 18 3 (k_rd B 18 9)) v pl := ⟨by rw [p_rwn (by omega), p_rwe], by rw [p_rwe]; exact h, fun a i q => by rw [p_rwn (by omega), p_rwn (by omega)]; exact f a i (by omega)⟩
theorem x_FmR {A : k_H} {v pl : Int} : x_Fm A (k_wt (k_wt A 120 39 v) 120 40 pl) v pl := ⟨by rw [p_rwn (by omega), p_rwe], p_rwe, fun a i q1 q2 => by rw [p_rwn (by omega), p_rwn (by omega)]⟩
theorem x_cF {T : Int → Int} {Ln : Int} {A B : k_H} (h : x_c T Ln A) (f : x_fc A B) : x_c T Ln B := ⟨by rw [f _ _ (by omega)]; exact h.1, fun i x y => by rw [f _ _ (by omega)]; exact h.2 i x y⟩
theorem x_mF {T : Int → Int} {Ln : Int} {A B : k_H} (h : x_m T Ln A) (f : x_gm A B) : x_m T Ln B := ⟨by rw [f _ _ (by omega)]; exact h.1, fun i x y => by rw [f _ _ (by omega)]; exact h.2 i x y⟩
section
variable {T : Int → Int} {Ln p f kd n e w f2 kd2 n2 e2 w2 : Int}
theorem c_num {A : k_H} (to : x_to T Ln p f kd n e w) (hA : x_c T Ln A) (h8 : k_rd A 18 8 = p) (lo hi : Int) : (x_fn kd n lo hi = 0 → ∃ A', gX7_readNumber A lo hi = some (1, A') ∧ x_tc A' f kd n e ∧ x_fc A A' ∧ k_rd A' 18 11 = n) ∧ (x_fn kd n lo hi ≠ 0 → ∃ A', gX7_readNumber A lo hi = some (0, A') ∧ x_Fc A A' (x_fn kd n lo hi) f) := by
  obtain ⟨A1, e1, tc, fc⟩ := to.2.1 A hA h8
  unfold gX7_readNumber gX7_readNumber_b0
  simp only [gX7_readNumber_b37]
  rw [e1, k_bds, tc.2.1, h_reft, tc.2.1]
  unfold x_fn
  by_cases z : kd = 2
  · rw [if_pos z, if_pos z, h_X8within, k_bds, tc.2.2.2 z]
    by_cases y : lo ≤ n ∧ n ≤ hi
    · rw [if_pos y, p_bt y, if_neg (by omega)]
      exact ⟨fun _ => ⟨A1, rfl, tc, fc, tc.2.2.2 z⟩, fun q => absurd rfl q⟩
    · rw [if_neg y, p_bf y, if_pos rfl, h_ref, k_bds, if_pos rfl]
      exact ⟨fun q => by omega, fun _ => ⟨_, rfl, x_FcR fc tc.1⟩⟩
  · rw [if_neg z, if_neg z, k_bds, if_pos (Or.inl rfl)]
    refine ⟨fun q => ?_, fun _ => ⟨_, rfl, x_FcR fc tc.1⟩⟩
    exfalso
    unfold x_ft at q
    revert q
    split <;> omega
theorem m_take {A : k_H} (hk : 0 ≤ kd ∧ kd ≤ 4) (to2 : x_to T Ln e f2 kd2 n2 e2 w2) (hA : x_m T Ln A) (tm : x_tm A f kd n e w) (pl hi lo : Int) (hpl : 0 ≤ pl ∧ pl ≤ 11) : (x_fn kd n lo hi = 0 → ∃ A', gX9_take A pl hi (lo - 1) = some (1, A') ∧ x_tm A' f2 kd2 n2 e2 w2 ∧ x_gm (k_wt A 150 (72 + pl) n) A') ∧ (x_fn kd n lo hi ≠ 0 → ∃ A', gX9_take A pl hi (lo - 1) = some (0, A') ∧ x_Fm A A' (x_fn kd n lo hi) f) := by
  have km := x_km hk
  unfold gX9_take gX9_take_b0
  simp only [gX9_take_b29]
  rw [tm.2.1, h_cant, h_wrg, tm.1, tm.2.1]
  unfold x_fn
  by_cases z : kd = 2
  · rw [if_pos (km.2.1.2 z), if_pos z, tm.2.2.2.1 z, k_wr_of (x := 72 + pl) (by omega) (by omega)]
    by_cases y : lo ≤ n ∧ n ≤ hi
    · obtain ⟨B, e1, tb, fb⟩ := to2.2.2 (k_wt A 150 (72 + pl) n) (x_mw hA (by omega)) (by rw [p_rwn (by omega)]; exact tm.2.2.1)
      rw [if_pos y, if_pos y.2, if_neg (by omega : ¬ n ≤ lo - 1), if_pos (by omega), p_lt, e1, k_bds]
      exact ⟨fun _ => ⟨B, rfl, tb, fb⟩, fun q => absurd rfl q⟩
    · rw [if_neg y]
      refine ⟨fun q => by omega, fun _ => ?_⟩
      by_cases y2 : n ≤ hi
      · rw [if_pos y2, if_pos (by omega), k_bds, if_pos (Or.inl rfl)]
        exact ⟨_, rfl, x_FmR⟩
      · rw [if_neg y2, k_bds, if_pos (Or.inl rfl)]
        exact ⟨_, rfl, x_FmR⟩
  · rw [if_neg (fun q => z (km.2.1.1 q)), if_neg z, k_bds, if_pos (Or.inl rfl)]
    have ft : (if (if kd = 0 then 4 else if kd = 4 then 0 else kd) = 4 then (1 : Int) else 2) = x_ft kd := by
      unfold x_ft
      by_cases k0 : kd = 0
      · rw [if_pos (km.2.2.2.1.2 k0), if_pos k0]
      · rw [if_neg (fun q => k0 (km.2.2.2.1.1 q)), if_neg k0]
    rw [ft]
    refine ⟨fun q => ?_, fun _ => ⟨_, rfl, x_FmR⟩⟩
    exfalso
    unfold x_ft at q
    revert q
    split <;> omega
theorem x_ftm (hk : 0 ≤ kd ∧ kd ≤ 4) : (if (if kd = 0 then 4 else if kd = 4 then 0 else kd) = 4 then (1 : Int) else 2) = x_ft kd := by
  have km := x_km hk
  unfold x_ft
  by_cases k0 : kd = 0
  · rw [if_pos (km.2.2.2.1.2 k0), if_pos k0]
  · rw [if_neg (fun q => k0 (km.2.2.2.1.1 q)), if_neg k0]
theorem c_word {A : k_H} (to : x_to T Ln p f kd n e w) (hA : x_c T Ln A) (h8 : k_rd A 18 8 = p) {id b : Int} (hb : ∀ A, x_c T Ln A → x_tc A f kd n e → gX7_isWord A id = some (b, A)) : (b ≠ 0 → ∃ A', gX7_readWord A id = some (1, A') ∧ x_tc A' f kd n e ∧ x_fc A A') ∧ (b = 0 → ∃ A', gX7_readWord A id = some (0, A') ∧ x_Fc A A' (x_ft kd) f) := by
  obtain ⟨A1, e1, tc, fc⟩ := to.2.1 A hA h8
  unfold gX7_readWord gX7_readWord_b0
  simp only [gX7_readWord_b19]
  rw [e1, k_bds, hb A1 (x_cF hA fc) tc, k_bds]
  refine ⟨fun z => ?_, fun z => ?_⟩
  · rw [if_neg z]; exact ⟨A1, rfl, tc, fc⟩
  · rw [if_pos z, h_reft, k_bds, if_pos rfl, tc.2.1]
    exact ⟨_, rfl, x_FcR fc tc.1⟩
theorem m_word {A : k_H} (hk : 0 ≤ kd ∧ kd ≤ 4) (to2 : x_to T Ln e f2 kd2 n2 e2 w2) (hA : x_m T Ln A) (tm : x_tm A f kd n e w) {c b : Int} (hb : ∀ A, x_tm A f kd n e w → gX9_isWord A c = some (b, A)) : (b ≠ 0 → ∃ A', gX9_behind A c = some (1, A') ∧ x_tm A' f2 kd2 n2 e2 w2 ∧ x_gm A A') ∧ (b = 0 → ∃ A', gX9_behind A c = some (0, A') ∧ x_Fm A A' (x_ft kd) f) := by
  unfold gX9_behind gX9_behind_b0
  rw [hb A tm, k_bds]
  refine ⟨fun z => ?_, fun z => ?_⟩
  · obtain ⟨B, e1, tb, fb⟩ := to2.2.2 A hA tm.2.2.1
    rw [if_neg z, e1, k_bds]; exact ⟨B, rfl, tb, fb⟩
  · rw [if_pos z, h_cant, k_bds, if_pos (Or.inl rfl), tm.1, tm.2.1, x_ftm hk]
    exact ⟨_, rfl, x_FmR⟩
theorem c_stop {A : k_H} (to : x_to T Ln p f kd n e w) (hA : x_c T Ln A) (h8 : k_rd A 18 8 = p) : (kd = 3 → ∃ A', gX7_readStop A = some (1, A') ∧ x_tc A' f kd n e ∧ x_fc A A') ∧ (kd ≠ 3 → ∃ A', gX7_readStop A = some (0, A') ∧ x_Fc A A' (x_ft kd) f) := by
  obtain ⟨A1, e1, tc, fc⟩ := to.2.1 A hA h8
  unfold gX7_readStop gX7_readStop_b0
  simp only [gX7_readStop_b19]
  rw [e1, k_bds, tc.2.1]
  refine ⟨fun z => ?_, fun z => ?_⟩
  · rw [if_pos z]; exact ⟨A1, rfl, tc, fc⟩
  · rw [if_neg z, h_reft, k_bds, if_pos rfl, tc.2.1]
    exact ⟨_, rfl, x_FcR fc tc.1⟩
theorem m_end {A : k_H} (hk : 0 ≤ kd ∧ kd ≤ 4) (to2 : x_to T Ln e f2 kd2 n2 e2 w2) (hA : x_m T Ln A) (tm : x_tm A f kd n e w) {cn : Int} (hc : k_rd A 150 83 = cn) (cb : 0 ≤ cn ∧ cn ≤ 1000) : (kd = 3 → ∃ A', gX9_term_b337 A 1 = some (1, A') ∧ x_tm A' f2 kd2 n2 e2 w2 ∧ x_gm (k_wt A 150 83 (cn + 1)) A') ∧ (kd ≠ 3 → ∃ A', gX9_term_b337 A 1 = some (0, A') ∧ x_Fm A A' (x_ft kd) f) := by
  have km := x_km hk
  unfold gX9_term_b337
  rw [if_neg (by omega : ¬ (1 : Int) = 0), tm.2.1, hc, k_wr_of (x := cn + 1) (by omega) (by omega)]
  refine ⟨fun z => ?_, fun z => ?_⟩
  · obtain ⟨B, e1, tb, fb⟩ := to2.2.2 (k_wt A 150 83 (cn + 1)) (x_mw hA (by omega)) (by rw [p_rwn (by omega)]; exact tm.2.2.1)
    rw [if_pos (km.2.2.1.2 z), p_lt, e1, k_bds]; exact ⟨B, rfl, tb, fb⟩
  · rw [if_neg (fun q => z (km.2.2.1.1 q)), h_cant, k_bds, if_pos (Or.inl rfl), tm.1, tm.2.1, x_ftm hk]
    exact ⟨_, rfl, x_FmR⟩
end
