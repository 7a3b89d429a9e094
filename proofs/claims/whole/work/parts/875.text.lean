/-! terms: the text -/
section
variable {T : Int → Int} {Ln : Int}
theorem x_lp (hT : x_T T Ln) : ∀ (k : Nat) (p f kd n e w : Int) (g : Int → Int), 0 ≤ p → p ≤ Ln → Ln ≤ p + k → g 11 ≤ p → x_gv g → x_to T Ln p f kd n e w → (∃ flt pl : Int, (0 ≤ pl ∧ pl ≤ 200) ∧ (∀ (N : Nat) (A : k_H) (v : Int), x_c T Ln A → k_rd A 18 8 = p → x_gc g A → 0 ≤ v → v ≤ p → ∃ A', gX7_readText_h7 (N + k + 1) A v = some (0, A') ∧ x_Fc A A' flt pl) ∧ (∀ (N : Nat) (B : k_H) (s : Int), x_m T Ln B → x_tm B f kd n e w → x_hm g B → ∃ B', gX9_terms_h59 (N + k + 1) B s = some (k_wr (-1 - pl), B') ∧ x_Fm B B' flt pl)) ∨ (∃ g' : Int → Int, x_gv g' ∧ (∀ (N : Nat) (A : k_H) (v : Int), x_c T Ln A → k_rd A 18 8 = p → x_gc g A → 0 ≤ v → v ≤ p → ∃ A', gX7_readText_h7 (N + k + 1) A v = some (1, A') ∧ x_gc g' A' ∧ x_oc A A' ∧ k_rd A' 18 2 = k_rd A 18 2) ∧ (∀ (N : Nat) (B : k_H) (s : Int), x_m T Ln B → x_tm B f kd n e w → x_hm g B → ∃ B', gX9_terms_h59 (N + k + 1) B s = gX9_terms_h82 k_FU B' s 0 ∧ x_hm g' B' ∧ x_om B B' ∧ k_rd B' 120 39 = k_rd B 120 39)) := by
  have hL := hT.2.1
  -- at the end of the text
  have last : ∀ (k : Nat) (p f kd n e w : Int) (g : Int → Int), 0 ≤ p → p ≤ Ln → x_gv g → x_to T Ln p f kd n e w → kd = 4 → (∃ g' : Int → Int, x_gv g' ∧ (∀ (N : Nat) (A : k_H) (v : Int), x_c T Ln A → k_rd A 18 8 = p → x_gc g A → 0 ≤ v → v ≤ p → ∃ A', gX7_readText_h7 (N + k + 1) A v = some (1, A') ∧ x_gc g' A' ∧ x_oc A A' ∧ k_rd A' 18 2 = k_rd A 18 2) ∧ (∀ (N : Nat) (B : k_H) (s : Int), x_m T Ln B → x_tm B f kd n e w → x_hm g B → ∃ B', gX9_terms_h59 (N + k + 1) B s = gX9_terms_h82 k_FU B' s 0 ∧ x_hm g' B' ∧ x_om B B' ∧ k_rd B' 120 39 = k_rd B 120 39)) := by
    intro k p f kd n e w g p0 pL gv to k4
    refine ⟨g, gv, fun N A v hA h8 gc v0 vp => ?_, fun N B s hB tm hm => ?_⟩
    · obtain ⟨A3, r1, r2, r3⟩ := to.2.1 A hA h8
      obtain ⟨h1, h2, h3, h4, h5, h6, h7, h8', h9, h10⟩ := gc
      refine ⟨A3, ?_, ⟨by rw [r3 _ _ (by omega)]; exact h1, by rw [r3 _ _ (by omega)]; exact h2, by rw [r3 _ _ (by omega)]; exact h3, by rw [r3 _ _ (by omega)]; exact h4, by rw [r3 _ _ (by omega)]; exact h5, by rw [r3 _ _ (by omega)]; exact h6, by rw [r3 _ _ (by omega)]; exact h7, by rw [r3 _ _ (by omega)]; exact h8', by rw [r3 _ _ (by omega)]; exact h9, fun i x y => by rw [r3 _ _ (by omega), r3 _ _ (by omega)]; exact h10 i x y⟩, fun a i q => r3 a i (by omega), r3 _ _ (by omega)⟩
      rw [gX7_readText_h7, if_pos (by omega), r1, k_bds, r2.2.1, if_pos k4]
    · refine ⟨B, ?_, hm, x_omR, rfl⟩
      rw [gX9_terms_h59, tm.2.1, if_pos ((x_km to.1.2.2.2.1).2.2.2.2.2 k4)]
  intro k
  induction k with
  | zero =>
    intro p f kd n e w g p0 pL pk gp gv to
    obtain ⟨o1, o2, o3, o4, o5, o6, o7, o8⟩ := to.1
    refine Or.inr (last 0 p f kd n e w g p0 pL gv to ?_)
    by_cases z : kd = 4
    · exact z
    · have := o6 z; omega
  | succ k ih =>
    intro p f kd n e w g p0 pL pk gp gv to
    by_cases k4 : kd = 4
    · exact Or.inr (last (k + 1) p f kd n e w g p0 pL gv to k4)
    · obtain ⟨o1, o2, o3, o4, o5, o6, o7, o8⟩ := to.1
      have fe := o6 k4
      have g0 := gv.2.2.2.2.2.1
      have km := x_km o4
      rcases x_term hT p0 to.1 gv with ⟨flt, pl, pb, ca, ma⟩ | ⟨g', p', f', kd', n', e', w', q1, q2, q3, q4, q5, ca, ma⟩
      · refine Or.inl ⟨flt, pl, pb, fun N A v hA h8 gc v0 vp => ?_, fun N B s hB tm hm => ?_⟩
        · obtain ⟨A3, r1, r2, r3⟩ := to.2.1 A hA h8
          obtain ⟨h1, h2, h3, h4, h5, h6, h7, h8', h9, h10⟩ := gc
          obtain ⟨A8, s1, s2⟩ := ca A3 (x_cF hA r3) r2 ⟨by rw [r3 _ _ (by omega)]; exact h1, by rw [r3 _ _ (by omega)]; exact h2, by rw [r3 _ _ (by omega)]; exact h3, by rw [r3 _ _ (by omega)]; exact h4, by rw [r3 _ _ (by omega)]; exact h5, by rw [r3 _ _ (by omega)]; exact h6, by rw [r3 _ _ (by omega)]; exact h7, by rw [r3 _ _ (by omega)]; exact h8', by rw [r3 _ _ (by omega)]; exact h9, fun i x y => by rw [r3 _ _ (by omega), r3 _ _ (by omega)]; exact h10 i x y⟩
          refine ⟨A8, ?_, x_FcT s2 (fun a i q => r3 a i (by omega))⟩
          rw [gX7_readText_h7, if_pos (by omega), r1, k_bds, r2.2.1, if_neg k4, s1, k_bds, if_pos rfl]
        · obtain ⟨B3, s1, s2⟩ := ma B hB tm hm
          refine ⟨B3, ?_, s2⟩
          rw [gX9_terms_h59, tm.2.1, if_neg (fun q => k4 (km.2.2.2.2.1 q)), s1, k_bds, if_pos rfl, s2.2.1]
      · have gn : x_gv (q_up g' 11 (g 11 + 1)) := by
          obtain ⟨v0, v1, v8, v9, v10, v11, v12, v13, v14, vs⟩ := q4
          unfold x_gv
          simp (disch := omega) only [q_upn, q_upe]
          refine ⟨v0, v1, v8, v9, v10, by omega, v12, v13, v14, fun i i0 i1 => ?_⟩
          simp (disch := omega) only [q_upn]
          exact vs i i0 i1
        have nx := ih p' f' kd' n' e' w' (q_up g' 11 (g 11 + 1)) (by omega) q2 (by omega) (by rw [q_upe]; omega) gn q3
        -- the class goes on
        have cgo : ∀ (N : Nat) (A : k_H) (v : Int), x_c T Ln A → k_rd A 18 8 = p → x_gc g A → 0 ≤ v → v ≤ p → ∃ A12, gX7_readText_h7 (N + (k + 1) + 1) A v = gX7_readText_h7 (N + k + 1) A12 (v + 1) ∧ x_c T Ln A12 ∧ k_rd A12 18 8 = p' ∧ x_gc (q_up g' 11 (g 11 + 1)) A12 ∧ x_oc A A12 ∧ k_rd A12 18 2 = k_rd A 18 2 := by
          intro N A v hA h8 gc v0 vp
          obtain ⟨A3, r1, r2, r3⟩ := to.2.1 A hA h8
          obtain ⟨h1, h2, h3, h4, h5, h6, h7, h8', h9, h10⟩ := gc
          obtain ⟨A8, s1, s2, s3, s4, s5, s6⟩ := ca A3 (x_cF hA r3) r2 ⟨by rw [r3 _ _ (by omega)]; exact h1, by rw [r3 _ _ (by omega)]; exact h2, by rw [r3 _ _ (by omega)]; exact h3, by rw [r3 _ _ (by omega)]; exact h4, by rw [r3 _ _ (by omega)]; exact h5, by rw [r3 _ _ (by omega)]; exact h6, by rw [r3 _ _ (by omega)]; exact h7, by rw [r3 _ _ (by omega)]; exact h8', by rw [r3 _ _ (by omega)]; exact h9, fun i x y => by rw [r3 _ _ (by omega), r3 _ _ (by omega)]; exact h10 i x y⟩
          obtain ⟨t1, t2, t3, t4, t5, t6, t7, t8, t9, t10⟩ := s4
          refine ⟨k_wt A8 18 1 (g 11 + 1), ?_, x_cw s2 (by omega), by rw [p_rwn (by omega)]; exact s3, ?_, fun a i q => by rw [p_rwn (by omega), s5 a i q, r3 a i (by omega)], by rw [p_rwn (by omega), s6, r3 _ _ (by omega)]⟩
          · show gX7_readText_h7 ((N + k + 1) + 1) A v = _
            rw [gX7_readText_h7, if_pos (by omega), r1, k_bds, r2.2.1, if_neg k4, s1, k_bds, if_neg (by omega), p_lt, t6, q5, k_wr_of (x := g 11 + 1) (by omega) (by omega), k_wr_of (x := v + 1) (by omega) (by omega)]
          · unfold x_gc
            simp (disch := omega) only [q_upn, q_upe]
            refine ⟨by rw [p_rwn (by omega)]; exact t1, by rw [p_rwn (by omega)]; exact t2, by rw [p_rwn (by omega)]; exact t3, by rw [p_rwn (by omega)]; exact t4, by rw [p_rwn (by omega)]; exact t5, p_rwe, by rw [p_rwn (by omega)]; exact t7, by rw [p_rwn (by omega)]; exact t8, by rw [p_rwn (by omega)]; exact t9, fun i i0 i1 => ?_⟩
            have := q4.2.1
            simp (disch := omega) only [q_upn]
            rw [p_rwn (by omega), p_rwn (by omega)]
            exact t10 i i0 i1
        have mgo : ∀ (N : Nat) (B : k_H) (s : Int), x_m T Ln B → x_tm B f kd n e w → x_hm g B → ∃ B3, gX9_terms_h59 (N + (k + 1) + 1) B s = gX9_terms_h59 (N + k + 1) B3 s ∧ x_m T Ln B3 ∧ x_tm B3 f' kd' n' e' w' ∧ x_hm (q_up g' 11 (g 11 + 1)) B3 ∧ x_om B B3 ∧ k_rd B3 120 39 = k_rd B 120 39 := by
          intro N B s hB tm hm
          obtain ⟨B3, s1, s2, s3, s4, s5, s6⟩ := ma B hB tm hm
          refine ⟨B3, ?_, s2, s3, s4, s5, s6⟩
          show gX9_terms_h59 ((N + k + 1) + 1) B s = _
          rw [gX9_terms_h59, tm.2.1, if_neg (fun q => k4 (km.2.2.2.2.1 q)), s1, k_bds, if_neg (by omega)]
        rcases nx with ⟨flt, pl, pb, na, nb⟩ | ⟨g2, gv2, na, nb⟩
        · refine Or.inl ⟨flt, pl, pb, fun N A v hA h8 gc v0 vp => ?_, fun N B s hB tm hm => ?_⟩
          · obtain ⟨A12, c1, c2, c3, c4, c5, c6⟩ := cgo N A v hA h8 gc v0 vp
            obtain ⟨A', d1, d2⟩ := na N A12 (v + 1) c2 c3 c4 (by omega) (by omega)
            exact ⟨A', by rw [c1, d1], x_FcT d2 c5⟩
          · obtain ⟨B3, c1, c2, c3, c4, c5, c6⟩ := mgo N B s hB tm hm
            obtain ⟨B', d1, d2⟩ := nb N B3 s c2 c3 c4
            exact ⟨B', by rw [c1, d1], x_FmT d2 c5⟩
        · refine Or.inr ⟨g2, gv2, fun N A v hA h8 gc v0 vp => ?_, fun N B s hB tm hm => ?_⟩
          · obtain ⟨A12, c1, c2, c3, c4, c5, c6⟩ := cgo N A v hA h8 gc v0 vp
            obtain ⟨A', d1, d2, d3, d4⟩ := na N A12 (v + 1) c2 c3 c4 (by omega) (by omega)
            exact ⟨A', by rw [c1, d1], d2, fun a i q => by rw [d3 a i q, c5 a i q], by rw [d4, c6]⟩
          · obtain ⟨B3, c1, c2, c3, c4, c5, c6⟩ := mgo N B s hB tm hm
            obtain ⟨B', d1, d2, d3, d4⟩ := nb N B3 s c2 c3 c4
            exact ⟨B', by rw [c1, d1], d2, x_omT c5 d3, by rw [d4, c6]⟩
end
theorem c_start {A : k_H} {Ln : Int} (h1 : k_rd A 1 1 = Ln) : ∃ A0, gX7_start A 1 = some (0, A0) ∧ x_c (k_rd A 2) Ln A0 ∧ k_rd A0 18 8 = 0 ∧ x_gc (fun _ => 0) A0 ∧ x_oc A A0 ∧ k_rd A0 18 2 = 0 := by
  have cp := fun b j => p_rcp A (1 + 1) 0 (22 + 1) 0 200 b j
  unfold gX7_start gX7_start_b0 gX5_copyFrom gX5_copyFrom_b0 gX6_clear gX6_clear_b0
  rw [if_pos (by omega), p_lt, p_lt]
  generalize k_cp A (1 + 1) 0 (22 + 1) 0 200 = C at cp
  rw [k_bds]
  simp only [p_lt, k_bds]
  have c1 : k_rd C 1 1 = Ln := by rw [cp, if_neg (by omega)]; exact h1
  rw [c1]
  refine ⟨_, rfl, ⟨?_, fun i x y => ?_⟩, p_rwe, ⟨?_, ?_, ?_, ?_, ?_, ?_, ?_, ?_, ?_, fun i x y => by have y2 : i < 0 := y; omega⟩, fun a i q => ?_, ?_⟩
  · simp (disch := omega) only [p_rwn, p_rwe]
  · simp (disch := omega) only [p_rwn]
    rw [cp, if_pos (by omega), show (1 : Int) + 1 = 2 from rfl]
    congr 1; omega
  · simp (disch := omega) only [p_rwn, p_rwe]
  · simp (disch := omega) only [p_rwn, p_rwe]
  · simp (disch := omega) only [p_rwn, p_rwe]
  · simp (disch := omega) only [p_rwn, p_rwe]
  · simp (disch := omega) only [p_rwn, p_rwe]
  · simp (disch := omega) only [p_rwn, p_rwe]
  · simp (disch := omega) only [p_rwn, p_rwe]
  · simp (disch := omega) only [p_rwn, p_rwe]
  · simp (disch := omega) only [p_rwn, p_rwe]
  · simp (disch := omega) only [p_rwn]
    rw [cp, if_neg (by omega)]
  · simp (disch := omega) only [p_rwn, p_rwe]
