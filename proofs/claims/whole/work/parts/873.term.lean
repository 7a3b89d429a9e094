/-! terms: subsidy and loss -/
section
variable {T : Int → Int} {Ln p f kd n e w : Int} {g : Int → Int}
theorem x_tSub (hT : x_T T Ln) (p0 : 0 ≤ p) (ok : x_ok T Ln p f kd n e w) (gv : x_gv g) : x_Res T Ln f kd n e w g gX7_readSubsidy (fun B => gX9_term_b59 B 8) := by
  have hL := hT.2.1
  obtain ⟨o1, o2, o3, o4, o5, o6, o7, o8⟩ := ok
  obtain ⟨v0, v1, v8, v9, v10, v11, v12, v13, v14, vs⟩ := gv
  have b0 : ∀ B : k_H, gX9_term_b270 B = some (0, B) := fun B => by
    unfold gX9_term_b270 gX9_term_b271 gX9_term_b337
    rw [if_pos rfl]
  by_cases told : g 13 = 1
  · refine Or.inl ⟨4, f, by omega, fun A hA tc gc => ?_, fun B hB tm hm => ?_⟩
    · unfold gX7_readSubsidy gX7_readSubsidy_b0
      rw [gc.2.2.2.2.2.2.2.1, told, if_neg (by omega), h_ref, k_bds, if_pos (Or.inl rfl)]
      exact ⟨_, rfl, x_FcR (fun _ _ _ => rfl) tc.1⟩
    · obtain ⟨x, x1, x2, x3, x4, x5⟩ := m_told hm (k := 8) (by omega)
      show ∃ B', gX9_term_b59 B 8 = _ ∧ _
      unfold gX9_term_b59
      rw [if_neg (by omega), if_neg (by omega), show (8 : Int) = ((8 : Nat) : Int) from rfl, x2, if_pos (x4.2 told), if_pos rfl, m_often tm]
      exact ⟨_, rfl, x_FmR⟩
  · have g13 : g 13 = 0 := by omega
    obtain ⟨f1, kd1, n1, e1, w1, to1⟩ := x_tok hT (p := e) (by omega) o3
    have to1 : x_to T Ln e f1 kd1 n1 e1 w1 := to1
    obtain ⟨a1, a2, a3, a4, a5, a6, a7, a8⟩ := to1.1
    obtain ⟨f2, kd2, n2, e2, w2, to2⟩ := x_tok hT (p := e1) (by omega) a3
    have to2 : x_to T Ln e1 f2 kd2 n2 e2 w2 := to2
    obtain ⟨b1, b2, b3, b4, b5, b6, b7, b8⟩ := to2.1
    obtain ⟨f3, kd3, n3, e3, w3, to3⟩ := x_tok hT (p := e2) (by omega) b3
    have to3 : x_to T Ln e2 f3 kd3 n3 e3 w3 := to3
    obtain ⟨c1, c2, c3, c4, c5, c6, c7, c8⟩ := to3.1
    obtain ⟨f4, kd4, n4, e4, w4, to4⟩ := x_tok hT (p := e3) (by omega) c3
    have to4 : x_to T Ln e3 f4 kd4 n4 e4 w4 := to4
    obtain ⟨b, bb, _, wc, wm⟩ := x_isW hT (by omega) to2.1 x_most
    have ref : ∀ B, x_m T Ln B → x_tm B f kd n e w → x_hm g B → ∃ B5, gX9_term_b59 B 8 = (k_bd (gX9_take B5 8 100 (-1)) fun r26 A27 => if r26 = 0 then (gX9_term_b270 A27) else (k_bd (gX9_behind A27 1836020596) fun r31 A32 => if r31 = 0 then (gX9_term_b270 A32) else (k_bd (gX9_take A32 9 99999 (-1)) fun r36 A37 => if r36 = 0 then (gX9_term_b270 A37) else (gX9_term_b271 A37 1)))) ∧ x_m T Ln B5 ∧ x_tm B5 f1 kd1 n1 e1 w1 ∧ x_om B B5 ∧ k_rd B5 120 39 = k_rd B 120 39 ∧ x_hm (q_up g 13 1) B5 := by
      intro B hB tm hm
      obtain ⟨y, z1, z2, z3, z4, z5⟩ := m_told hm (k := 8) (by omega)
      obtain ⟨B5, x, q1, q2, q3, q4, q5, q6, q7, q8, q9, q10, q11⟩ := m_begin hB tm hm (k := 8) (by omega) to1
      refine ⟨B5, ?_, q2, q3, q4, q5, fun j j0 j1 => by rw [q6, q_upn (by omega)]; exact hm.1 j j0 j1, x, q7, q8, ?_, ?_, ?_⟩
      · have e8 : ((8 : Nat) : Int) = 8 := rfl
        rw [e8] at z2 q1
        unfold gX9_term_b59
        rw [if_neg (by omega), if_neg (by omega), z2, if_neg (fun q => told (z4.1 q)), if_neg (by omega)]
        unfold gX9_term_b112
        rw [p_lt, q1, k_bds, if_neg (by omega), if_neg (by omega), if_pos rfl]
      · rw [q9, q_upn (by omega)]; omega
      · rw [q10, q_upe]; exact ⟨fun _ => rfl, fun _ => Or.inr rfl⟩
      · rw [q11, q_upn (by omega)]; omega
    by_cases q1 : x_fn kd1 n1 0 100 = 0
    · have n1b := x_fn2 q1
      have cls1 : ∀ A, x_c T Ln A → x_tc A f kd n e → x_gc g A → ∃ A10, gX7_readSubsidy A = (k_bd (gX7_readWord A10 (-14)) fun r13 A14 => if r13 = 0 then (some (0, A14)) else (k_bd (gX7_readNumber A14 0 99999) fun r18 A19 => if r18 = 0 then (some (0, A19)) else (k_lt (k_wt A19 19 5 (k_rd A19 18 11)) fun A23 => k_bd (gX7_readStop A23) fun r26 A27 => if r26 = 0 ∨ r26 = 1 then (some (r26, A27)) else none))) ∧ x_c T Ln A10 ∧ k_rd A10 18 8 = e1 ∧ k_rd A10 19 4 = n1 ∧ k_rd A10 18 6 = 1 ∧ ∀ a i : Int, ¬ (a = 18 ∧ 8 ≤ i ∧ i ≤ 11) → (a ≠ 19 ∨ i ≠ 4) → (a ≠ 18 ∨ i ≠ 6) → k_rd A10 a i = k_rd A a i := by
        intro A hA tc gc
        obtain ⟨A6, r1, r2, r3, r4⟩ := (c_num (A := k_wt A 18 6 1) to1 (x_cw hA (by omega)) (by rw [p_rwn (by omega)]; exact tc.2.2.1) 0 100).1 q1
        refine ⟨k_wt A6 19 4 n1, ?_, x_cw (x_cF (x_cw hA (by omega)) r3) (by omega), by rw [p_rwn (by omega)]; exact r2.2.2.1, p_rwe, by rw [p_rwn (by omega), r3 _ _ (by omega), p_rwe], fun a i x y z => by rw [p_rwn (by omega), r3 a i x, p_rwn (by omega)]⟩
        unfold gX7_readSubsidy gX7_readSubsidy_b0
        rw [gc.2.2.2.2.2.2.2.1, g13, if_pos rfl, p_lt, r1, k_bds, if_neg (by omega), p_lt, r4]
      have ref1 : ∀ B, x_m T Ln B → x_tm B f kd n e w → x_hm g B → ∃ B6, gX9_term_b59 B 8 = (k_bd (gX9_behind B6 1836020596) fun r31 A32 => if r31 = 0 then (gX9_term_b270 A32) else (k_bd (gX9_take A32 9 99999 (-1)) fun r36 A37 => if r36 = 0 then (gX9_term_b270 A37) else (gX9_term_b271 A37 1))) ∧ x_m T Ln B6 ∧ x_tm B6 f2 kd2 n2 e2 w2 ∧ x_om B B6 ∧ k_rd B6 120 39 = k_rd B 120 39 ∧ x_hm (q_up (q_up g 13 1) 8 n1) B6 := by
        intro B hB tm hm
        obtain ⟨B5, s1, s2, s3, s4, s5, s6⟩ := ref B hB tm hm
        obtain ⟨B6, t1, t2, t3⟩ := (m_take (A := B5) a4 to2 s2 s3 8 100 0 (by omega)).1 q1
        obtain ⟨s7, x, x1, x2, x3, x4, x5⟩ := s6
        refine ⟨B6, ?_, x_mF (x_mw s2 (by omega)) t3, t2, x_omT (x_omW s4 (by omega)) (x_omG t3), by rw [t3 _ _ (by omega), p_rwn (by omega)]; exact s5, fun j j0 j1 => ?_, x, x1, ?_, ?_, ?_, ?_⟩
        · rw [s1, show (-1 : Int) = 0 - 1 from rfl, t1, k_bds, if_neg (by omega)]
        · rw [t3 _ _ (by omega)]
          by_cases z : j = 8
          · subst z
            rw [q_upe]; exact p_rwe
          · rw [q_upn z, p_rwn (by omega)]; exact s7 j j0 j1
        · rw [t3 _ _ (by omega), p_rwn (by omega)]; exact x2
        · rw [q_upn (by omega)]; exact x3
        · rw [q_upn (by omega)]; exact x4
        · rw [q_upn (by omega)]; exact x5
      by_cases q2 : b = 0
      · refine Or.inl ⟨x_ft kd2, f2, by omega, fun A hA tc gc => ?_, fun B hB tm hm => ?_⟩
        · obtain ⟨A10, s1, s2, s3, s4, s5, s6⟩ := cls1 A hA tc gc
          obtain ⟨A14, t1, t2⟩ := (c_word to2 s2 s3 wc).2 q2
          exact ⟨A14, by rw [s1, t1, k_bds, if_pos rfl], x_FcT t2 (fun a i q => s6 a i (by omega) (by omega) (by omega))⟩
        · obtain ⟨B6, s1, s2, s3, s4, s5, s6⟩ := ref1 B hB tm hm
          obtain ⟨B7, t1, t2⟩ := (m_word b4 to3 s2 s3 wm).2 q2
          refine ⟨B7, ?_, x_FmT t2 s4⟩
          show gX9_term_b59 B 8 = _
          rw [s1, t1, k_bds, if_pos rfl, b0]
      · by_cases q3 : x_fn kd3 n3 0 99999 = 0
        · have n3b := x_fn2 q3
          refine x_fin hT (by omega) (g' := q_up (q_up (q_up g 13 1) 8 n1) 9 n3) ?_ (by simp (disch := omega) only [q_upn]) (q := e3) (by omega) c3 to4 (fun A hA tc gc => ?_) (fun B hB tm hm => ?_)
          · unfold x_gv
            simp (disch := omega) only [q_upn, q_upe]
            refine ⟨v0, v1, n1b.2, n3b.2, v10, v11, v12, Or.inr trivial, v14, fun i i0 i1 => ?_⟩
            simp (disch := omega) only [q_upn]
            exact vs i i0 i1
          · obtain ⟨A10, s1, s2, s3, s4, s5, s6⟩ := cls1 A hA tc gc
            obtain ⟨A14, t1, t2, t3⟩ := (c_word to2 s2 s3 wc).1 q2
            obtain ⟨A19, u1, u2, u3, u4⟩ := (c_num to3 (x_cF s2 t3) t2.2.2.1 0 99999).1 q3
            obtain ⟨h1, h2, h3, h4, h5, h6, h7, h8, h9, h10⟩ := gc
            have rd : ∀ a i : Int, ¬ (a = 18 ∧ 8 ≤ i ∧ i ≤ 11) → (a ≠ 19 ∨ (i ≠ 4 ∧ i ≠ 5)) → (a ≠ 18 ∨ i ≠ 6) → k_rd (k_wt A19 19 5 n3) a i = k_rd A a i := fun a i x y z => by rw [p_rwn (by omega), u3 a i x, t3 a i x, s6 a i x (by omega) z]
            refine ⟨k_wt A19 19 5 n3, ?_, x_cw (x_cF (x_cF s2 t3) u3) (by omega), by rw [p_rwn (by omega)]; exact u2.2.2.1, ?_, fun a i q => rd a i (by omega) (by omega) (by omega), rd _ _ (by omega) (by omega) (by omega)⟩
            · rw [s1, t1, k_bds, if_neg (by omega), u1, k_bds, if_neg (by omega), p_lt, u4]
            · unfold x_gc
              simp (disch := omega) only [q_upn, q_upe]
              refine ⟨by rw [rd _ _ (by omega) (by omega) (by omega)]; exact h1, by rw [rd _ _ (by omega) (by omega) (by omega)]; exact h2, by rw [p_rwn (by omega), u3 _ _ (by omega), t3 _ _ (by omega)]; exact s4, p_rwe, by rw [rd _ _ (by omega) (by omega) (by omega)]; exact h5, by rw [rd _ _ (by omega) (by omega) (by omega)]; exact h6, by rw [rd _ _ (by omega) (by omega) (by omega)]; exact h7, by rw [p_rwn (by omega), u3 _ _ (by omega), t3 _ _ (by omega)]; exact s5, by rw [rd _ _ (by omega) (by omega) (by omega)]; exact h9, fun i i0 i1 => ?_⟩
              simp (disch := omega) only [q_upn]
              rw [rd _ _ (by omega) (by omega) (by omega), rd _ _ (by omega) (by omega) (by omega)]
              exact h10 i i0 i1
          · obtain ⟨B6, s1, s2, s3, s4, s5, s6⟩ := ref1 B hB tm hm
            obtain ⟨B7, t1, t2, t3⟩ := (m_word b4 to3 s2 s3 wm).1 q2
            obtain ⟨B8, u1, u2, u3⟩ := (m_take (A := B7) c4 to4 (x_mF s2 t3) t2 9 99999 0 (by omega)).1 q3
            obtain ⟨s7, x, x1, x2, x3, x4, x5⟩ := s6
            refine ⟨B8, ?_, x_mF (x_mw (x_mF s2 t3) (by omega)) u3, u2, ⟨fun j j0 j1 => ?_, x, x1, ?_, ?_, ?_, ?_⟩, x_omT (x_omW (x_omT s4 (x_omG t3)) (by omega)) (x_omG u3), by rw [u3 _ _ (by omega), p_rwn (by omega), t3 _ _ (by omega)]; exact s5⟩
            · show gX9_term_b59 B 8 = _
              rw [s1, t1, k_bds, if_neg (by omega), show (-1 : Int) = 0 - 1 from rfl, u1, k_bds, if_neg (by omega)]
              rfl
            · rw [u3 _ _ (by omega)]
              by_cases z : j = 9
              · subst z
                rw [q_upe]; exact p_rwe
              · rw [q_upn z, p_rwn (by omega), t3 _ _ (by omega)]; exact s7 j j0 j1
            · rw [u3 _ _ (by omega), p_rwn (by omega), t3 _ _ (by omega)]; exact x2
            · rw [q_upn (by omega)]; exact x3
            · rw [q_upn (by omega)]; exact x4
            · rw [q_upn (by omega)]; exact x5
        · refine Or.inl ⟨x_fn kd3 n3 0 99999, f3, by omega, fun A hA tc gc => ?_, fun B hB tm hm => ?_⟩
          · obtain ⟨A10, s1, s2, s3, s4, s5, s6⟩ := cls1 A hA tc gc
            obtain ⟨A14, t1, t2, t3⟩ := (c_word to2 s2 s3 wc).1 q2
            obtain ⟨A19, u1, u2⟩ := (c_num to3 (x_cF s2 t3) t2.2.2.1 0 99999).2 q3
            exact ⟨A19, by rw [s1, t1, k_bds, if_neg (by omega), u1, k_bds, if_pos rfl], x_FcT u2 (fun a i q => by rw [t3 a i (by omega), s6 a i (by omega) (by omega) (by omega)])⟩
          · obtain ⟨B6, s1, s2, s3, s4, s5, s6⟩ := ref1 B hB tm hm
            obtain ⟨B7, t1, t2, t3⟩ := (m_word b4 to3 s2 s3 wm).1 q2
            obtain ⟨B8, u1, u2⟩ := (m_take (A := B7) c4 to4 (x_mF s2 t3) t2 9 99999 0 (by omega)).2 q3
            refine ⟨B8, ?_, x_FmT u2 (x_omT s4 (x_omG t3))⟩
            show gX9_term_b59 B 8 = _
            rw [s1, t1, k_bds, if_neg (by omega), show (-1 : Int) = 0 - 1 from rfl, u1, k_bds, if_pos rfl, b0]
    · refine Or.inl ⟨x_fn kd1 n1 0 100, f1, by omega, fun A hA tc gc => ?_, fun B hB tm hm => ?_⟩
      · obtain ⟨A6, r1, r2⟩ := (c_num (A := k_wt A 18 6 1) to1 (x_cw hA (by omega)) (by rw [p_rwn (by omega)]; exact tc.2.2.1) 0 100).2 q1
        refine ⟨A6, ?_, x_FcT r2 (fun a i q => p_rwn (by omega))⟩
        unfold gX7_readSubsidy gX7_readSubsidy_b0
        rw [gc.2.2.2.2.2.2.2.1, g13, if_pos rfl, p_lt, r1, k_bds, if_pos rfl]
      · obtain ⟨B5, s1, s2, s3, s4, s5, s6⟩ := ref B hB tm hm
        obtain ⟨B6, t1, t2⟩ := (m_take (A := B5) a4 to2 s2 s3 8 100 0 (by omega)).2 q1
        refine ⟨B6, ?_, x_FmT t2 s4⟩
        show gX9_term_b59 B 8 = _
        rw [s1, show (-1 : Int) = 0 - 1 from rfl, t1, k_bds, if_pos rfl, b0]
theorem x_tLoss (hT : x_T T Ln) (p0 : 0 ≤ p) (ok : x_ok T Ln p f kd n e w) (gv : x_gv g) : x_Res T Ln f kd n e w g gX7_readLoss (fun B => gX9_term_b59 B 10) := by
  have hL := hT.2.1
  obtain ⟨o1, o2, o3, o4, o5, o6, o7, o8⟩ := ok
  obtain ⟨v0, v1, v8, v9, v10, v11, v12, v13, v14, vs⟩ := gv
  by_cases told : g 14 = 1
  · refine Or.inl ⟨4, f, by omega, fun A hA tc gc => ?_, fun B hB tm hm => ?_⟩
    · unfold gX7_readLoss gX7_readLoss_b0
      rw [gc.2.2.2.2.2.2.2.2.1, told, if_neg (by omega), h_ref, k_bds, if_pos (Or.inl rfl)]
      exact ⟨_, rfl, x_FcR (fun _ _ _ => rfl) tc.1⟩
    · obtain ⟨x, x1, x2, x3, x4, x5⟩ := m_told hm (k := 10) (by omega)
      show ∃ B', gX9_term_b59 B 10 = _ ∧ _
      unfold gX9_term_b59
      rw [if_neg (by omega), if_neg (by omega), show (10 : Int) = ((10 : Nat) : Int) from rfl, x2, if_pos (x5.2 told), if_pos rfl, m_often tm]
      exact ⟨_, rfl, x_FmR⟩
  · have g14 : g 14 = 0 := by omega
    obtain ⟨f1, kd1, n1, e1, w1, to1⟩ := x_tok hT (p := e) (by omega) o3
    have to1 : x_to T Ln e f1 kd1 n1 e1 w1 := to1
    obtain ⟨a1, a2, a3, a4, a5, a6, a7, a8⟩ := to1.1
    obtain ⟨f2, kd2, n2, e2, w2, to2⟩ := x_tok hT (p := e1) (by omega) a3
    have to2 : x_to T Ln e1 f2 kd2 n2 e2 w2 := to2
    obtain ⟨b, bb, _, bc, bm⟩ := x_isW hT (by omega) to1.1 x_both
    obtain ⟨h, hb, _, hc, hmm⟩ := x_isW hT (by omega) to1.1 x_hall
    have ref : ∀ B, x_m T Ln B → x_tm B f kd n e w → x_hm g B → ∃ B5, gX9_term_b59 B 10 = (if b = 0 then (if h = 0 then (k_bd (gX9_cant B5) fun r21 A22 => if r21 = 0 then (gX9_term_b311 A22 b 0) else (gX9_term_b306 A22 b)) else (gX9_term_b306 B5 b)) else (gX9_term_b306 B5 b)) ∧ x_m T Ln B5 ∧ x_tm B5 f1 kd1 n1 e1 w1 ∧ x_om B B5 ∧ k_rd B5 120 39 = k_rd B 120 39 ∧ x_hm (q_up g 14 1) B5 := by
      intro B hB tm hm
      obtain ⟨y, z1, z2, z3, z4, z5⟩ := m_told hm (k := 10) (by omega)
      obtain ⟨B5, x, q1, q2, q3, q4, q5, q6, q7, q8, q9, q10, q11⟩ := m_begin hB tm hm (k := 10) (by omega) to1
      refine ⟨B5, ?_, q2, q3, q4, q5, fun j j0 j1 => by rw [q6, q_upn (by omega)]; exact hm.1 j j0 j1, x, q7, q8, ?_, ?_, ?_⟩
      · have e8 : ((10 : Nat) : Int) = 10 := rfl
        rw [e8] at z2 q1
        unfold gX9_term_b59
        rw [if_neg (by omega), if_neg (by omega), z2, if_neg (fun q => told (z5.1 q)), if_neg (by omega)]
        unfold gX9_term_b112
        rw [p_lt, q1, k_bds, if_neg (by omega), if_neg (by omega), if_neg (by omega), bm B5 q3, k_bds, hmm B5 q3, k_bds]
      · rw [q9, q_upn (by omega)]; omega
      · rw [q10, q_upn (by omega)]; omega
      · rw [q11, q_upe]; exact ⟨fun _ => rfl, fun _ => Or.inr rfl⟩
    by_cases no : b = 0 ∧ h = 0
    · refine Or.inl ⟨x_ft kd1, f1, by omega, fun A hA tc gc => ?_, fun B hB tm hm => ?_⟩
      · obtain ⟨A6, r1, r2, r3⟩ := to1.2.1 (k_wt A 18 7 1) (x_cw hA (by omega)) (by rw [p_rwn (by omega)]; exact tc.2.2.1)
        have xc6 := x_cF (x_cw hA (by omega)) r3
        have tc14 : x_tc (k_wt A6 19 6 b) f1 kd1 n1 e1 := ⟨by rw [p_rwn (by omega)]; exact r2.1, by rw [p_rwn (by omega)]; exact r2.2.1, by rw [p_rwn (by omega)]; exact r2.2.2.1, fun q => by rw [p_rwn (by omega)]; exact r2.2.2.2 q⟩
        unfold gX7_readLoss gX7_readLoss_b0
        rw [gc.2.2.2.2.2.2.2.2.1, g14, if_pos rfl, p_lt, r1, k_bds, bc A6 xc6 r2, k_bds, if_pos bb, p_lt, p_rwe, if_pos no.1, hc _ (x_cw xc6 (by omega)) tc14, k_bds, if_pos no.2, h_reft, k_bds, if_pos (Or.inl rfl), tc14.2.1]
        refine ⟨_, rfl, ?_⟩
        have := x_FcR (A := k_wt A6 19 6 b) (B := k_wt A6 19 6 b) (v := x_ft kd1) (pl := f1) (fun _ _ _ => rfl) tc14.1
        exact x_FcT this (fun a i q => by rw [p_rwn (by omega), r3 a i (by omega), p_rwn (by omega)])
      · obtain ⟨B5, s1, s2, s3, s4, s5, s6⟩ := ref B hB tm hm
        show ∃ B', gX9_term_b59 B 10 = _ ∧ _
        rw [s1, if_pos no.1, if_pos no.2, h_cant, k_bds, if_pos rfl, s3.1, s3.2.1, x_ftm a4]
        unfold gX9_term_b311 gX9_term_b328
        rw [if_pos no.1, if_pos (by omega), p_lt, if_pos rfl]
        unfold gX9_term_b337
        rw [if_pos rfl]
        refine ⟨_, rfl, ?_⟩
        have fm := x_FmT (x_FmR (A := B5) (v := x_ft kd1) (pl := f1)) s4
        exact ⟨by rw [p_rwn (by omega)]; exact fm.1, by rw [p_rwn (by omega)]; exact fm.2.1, x_omW fm.2.2 (by omega)⟩
    · refine x_fin hT (by omega) (g' := q_up (q_up g 14 1) 10 b) ?_ (by simp (disch := omega) only [q_upn]) (q := e1) (by omega) a3 to2 (fun A hA tc gc => ?_) (fun B hB tm hm => ?_)
      · unfold x_gv
        simp (disch := omega) only [q_upn, q_upe]
        refine ⟨v0, v1, v8, v9, bb, v11, v12, v13, Or.inr trivial, fun i i0 i1 => ?_⟩
        simp (disch := omega) only [q_upn]
        exact vs i i0 i1
      · obtain ⟨A6, r1, r2, r3⟩ := to1.2.1 (k_wt A 18 7 1) (x_cw hA (by omega)) (by rw [p_rwn (by omega)]; exact tc.2.2.1)
        have xc6 := x_cF (x_cw hA (by omega)) r3
        have tc14 : x_tc (k_wt A6 19 6 b) f1 kd1 n1 e1 := ⟨by rw [p_rwn (by omega)]; exact r2.1, by rw [p_rwn (by omega)]; exact r2.2.1, by rw [p_rwn (by omega)]; exact r2.2.2.1, fun q => by rw [p_rwn (by omega)]; exact r2.2.2.2 q⟩
        obtain ⟨h1, h2, h3, h4, h5, h6, h7, h8, h9, h10⟩ := gc
        have rd : ∀ a i : Int, ¬ (a = 18 ∧ 8 ≤ i ∧ i ≤ 11) → (a ≠ 19 ∨ i ≠ 6) → (a ≠ 18 ∨ i ≠ 7) → k_rd (k_wt A6 19 6 b) a i = k_rd A a i := fun a i x y z => by rw [p_rwn (by omega), r3 a i x, p_rwn (by omega)]
        refine ⟨k_wt A6 19 6 b, ?_, x_cw xc6 (by omega), tc14.2.2.1, ?_, fun a i q => rd a i (by omega) (by omega) (by omega), rd _ _ (by omega) (by omega) (by omega)⟩
        · unfold gX7_readLoss gX7_readLoss_b0
          simp only [gX7_readLoss_b59]
          rw [h9, g14, if_pos rfl, p_lt, r1, k_bds, bc A6 xc6 r2, k_bds, if_pos bb, p_lt, p_rwe]
          by_cases bz : b = 0
          · rw [if_pos bz, hc _ (x_cw xc6 (by omega)) tc14, k_bds, if_neg (fun q => no ⟨bz, q⟩)]
          · rw [if_neg bz]
        · unfold x_gc
          simp (disch := omega) only [q_upn, q_upe]
          refine ⟨by rw [rd _ _ (by omega) (by omega) (by omega)]; exact h1, by rw [rd _ _ (by omega) (by omega) (by omega)]; exact h2, by rw [rd _ _ (by omega) (by omega) (by omega)]; exact h3, by rw [rd _ _ (by omega) (by omega) (by omega)]; exact h4, p_rwe, by rw [rd _ _ (by omega) (by omega) (by omega)]; exact h6, by rw [rd _ _ (by omega) (by omega) (by omega)]; exact h7, by rw [rd _ _ (by omega) (by omega) (by omega)]; exact h8, by rw [p_rwn (by omega), r3 _ _ (by omega), p_rwe], fun i i0 i1 => ?_⟩
          simp (disch := omega) only [q_upn]
          rw [rd _ _ (by omega) (by omega) (by omega), rd _ _ (by omega) (by omega) (by omega)]
          exact h10 i i0 i1
      · obtain ⟨B5, s1, s2, s3, s4, s5, s6⟩ := ref B hB tm hm
        obtain ⟨s7, x, x1, x2, x3, x4, x5⟩ := s6
        obtain ⟨B6, t1, t2, t3⟩ := to2.2.2 (k_wt B5 150 82 b) (x_mw s2 (by omega)) (by rw [p_rwn (by omega)]; exact s3.2.2.1)
        refine ⟨B6, ?_, x_mF (x_mw s2 (by omega)) t3, t2, ⟨fun j j0 j1 => ?_, x, x1, ?_, ?_, ?_, ?_⟩, x_omT (x_omW s4 (by omega)) (x_omG t3), by rw [t3 _ _ (by omega), p_rwn (by omega)]; exact s5⟩
        · show gX9_term_b59 B 10 = _
          have fin : gX9_term_b306 B5 b = gX9_term_b337 B6 1 := by
            unfold gX9_term_b306 gX9_term_b311 gX9_term_b328
            rcases bb with z | z
            · rw [if_pos z, if_pos (by omega), p_lt, if_neg (by omega)]
              rw [z] at t1
              rw [t1, k_bds]
            · rw [if_neg (by omega), if_pos (by omega), p_lt, if_neg (by omega)]
              rw [z] at t1
              rw [t1, k_bds]
          rw [s1, fin]
          by_cases bz : b = 0
          · rw [if_pos bz, if_neg (fun q => no ⟨bz, q⟩)]
          · rw [if_neg bz]
        · rw [t3 _ _ (by omega)]
          by_cases z : j = 10
          · subst z
            rw [q_upe]; exact p_rwe
          · rw [q_upn z, p_rwn (by omega)]; exact s7 j j0 j1
        · rw [t3 _ _ (by omega), p_rwn (by omega)]; exact x2
        · rw [q_upn (by omega)]; exact x3
        · rw [q_upn (by omega)]; exact x4
        · rw [q_upn (by omega)]; exact x5
end
