/-! terms: share -/
section
variable {T : Int → Int} {Ln p f kd n e w : Int} {g : Int → Int}
theorem x_tShare (hT : x_T T Ln) (p0 : 0 ≤ p) (ok : x_ok T Ln p f kd n e w) (gv : x_gv g) : x_Res T Ln f kd n e w g gX7_readShare (fun B => gX9_term_b59 B 2) := by
  have hL := hT.2.1
  obtain ⟨o1, o2, o3, o4, o5, o6, o7, o8⟩ := ok
  obtain ⟨v0, v1, v8, v9, v10, v11, v12, v13, v14, vs⟩ := gv
  have b0 : ∀ (B : k_H) (v : Int), gX9_term_b207 B v = some (0, B) := fun B v => by
    unfold gX9_term_b207 gX9_term_b208 gX9_term_b337
    rw [if_pos rfl, if_pos rfl]
  by_cases told : g 1 = 3
  · refine Or.inl ⟨4, f, by omega, fun A hA tc gc => ?_, fun B hB tm hm => ?_⟩
    · unfold gX7_readShare gX7_readShare_b0
      rw [gc.1, if_pos (by omega), h_ref, k_bds, if_pos (Or.inl rfl)]
      exact ⟨_, rfl, x_FcR (fun _ _ _ => rfl) tc.1⟩
    · show ∃ B', gX9_term_b59 B 2 = _ ∧ _
      have h73 : k_rd B 150 73 = g 1 := hm.1 1 (by omega) (by omega)
      unfold gX9_term_b59
      rw [if_neg (by omega), if_pos rfl, h73, if_pos told, m_often tm]
      exact ⟨_, rfl, x_FmR⟩
  · obtain ⟨i, hi⟩ : ∃ i : Nat, g 1 = i := ⟨(g 1).toNat, by omega⟩
    have i2 : i ≤ 2 := by omega
    obtain ⟨f1, kd1, n1, e1, w1, to1⟩ := x_tok hT (p := e) (by omega) o3
    have to1 : x_to T Ln e f1 kd1 n1 e1 w1 := to1
    obtain ⟨a1, a2, a3, a4, a5, a6, a7, a8⟩ := to1.1
    obtain ⟨f2, kd2, n2, e2, w2, to2⟩ := x_tok hT (p := e1) (by omega) a3
    have to2 : x_to T Ln e1 f2 kd2 n2 e2 w2 := to2
    obtain ⟨b1, b2, b3, b4, b5, b6, b7, b8⟩ := to2.1
    obtain ⟨f3, kd3, n3, e3, w3, to3⟩ := x_tok hT (p := e2) (by omega) b3
    have to3 : x_to T Ln e2 f3 kd3 n3 e3 w3 := to3
    obtain ⟨c1, c2, c3, c4, c5, c6, c7, c8⟩ := to3.1
    obtain ⟨f4, kd4, n4, e4, w4, to4⟩ := x_tok hT (p := e3) (by omega) c3
    have to4 : x_to T Ln e3 f4 kd4 n4 e4 w4 := to4
    obtain ⟨b, bb, _, wc, wm⟩ := x_isW hT (by omega) to2.1 x_above
    obtain ⟨lo, hlo, lo0, lo1⟩ : ∃ lo : Int, lo = (if i = 0 then 0 else g (5 + ((i : Int) - 1)) + 1) ∧ 0 ≤ lo ∧ lo ≤ 100000 := by
      refine ⟨_, rfl, ?_⟩
      by_cases z : i = 0
      · rw [if_pos z]; omega
      · have := vs ((i : Int) - 1) (by omega) (by omega)
        rw [if_neg z]; omega
    have ref : ∀ B, x_m T Ln B → x_tm B f kd n e w → x_hm g B → ∃ B5, gX9_term_b59 B 2 = (k_bd (gX9_take B5 (2 + i) 100 (-1)) fun r41 A42 => if r41 = 0 then (gX9_term_b207 A42 i) else (k_bd (gX9_behind A42 418263299685) fun r46 A47 => if r46 = 0 then (gX9_term_b207 A47 i) else (if (i : Int) = 0 then (gX9_term_b197 A47 i (5 + i) 99999 (-1)) else (gX9_term_b197 A47 i (5 + i) 99999 (k_rd A47 150 (77 + i - 1)))))) ∧ x_m T Ln B5 ∧ x_tm B5 f1 kd1 n1 e1 w1 ∧ x_om B B5 ∧ k_rd B5 120 39 = k_rd B 120 39 ∧ x_hm g B5 := by
      intro B hB tm hm
      obtain ⟨B5, x, q1, q2, q3, q4, q5, q6, q7, q8, q9, q10, q11⟩ := m_begin hB tm hm (k := 2) (by omega) to1
      have h73 : k_rd B 150 73 = g 1 := hm.1 1 (by omega) (by omega)
      refine ⟨B5, ?_, q2, q3, q4, q5, fun j j0 j1 => by rw [q6]; exact hm.1 j j0 j1, x, q7, q8, ?_, ?_, ?_⟩
      · have e8 : ((2 : Nat) : Int) = 2 := rfl
        rw [e8] at q1
        unfold gX9_term_b59
        rw [if_neg (by omega), if_pos rfl, h73, if_neg told, hi]
        unfold gX9_term_b112
        rw [p_lt, q1, k_bds, if_neg (by omega), if_pos rfl, k_wr_of (x := 2 + (i : Int)) (by omega) (by omega), k_wr_of (x := 5 + (i : Int)) (by omega) (by omega), k_wr_of (x := 77 + (i : Int)) (by omega) (by omega), k_wr_of (x := 77 + (i : Int) - 1) (by omega) (by omega)]
        simp only [if_pos (show 0 ≤ 77 + (i : Int) - 1 ∧ 77 + (i : Int) - 1 < ((84 : Nat) : Int) by omega)]
      · rw [q9]; omega
      · rw [q10]; omega
      · rw [q11]; omega
    by_cases q1 : x_fn kd1 n1 0 100 = 0
    · have n1b := x_fn2 q1
      have cls1 : ∀ A, x_c T Ln A → x_tc A f kd n e → x_gc g A → ∃ A8, gX7_readShare A = gX7_readShare_b65 A8 i lo ∧ x_c T Ln A8 ∧ k_rd A8 18 8 = e1 ∧ k_rd A8 20 i = n1 ∧ ∀ a j : Int, ¬ (a = 18 ∧ 8 ≤ j ∧ j ≤ 11) → (a ≠ 20 ∨ j ≠ i) → k_rd A8 a j = k_rd A a j := by
        intro A hA tc gc
        obtain ⟨A3, r1, r2, r3, r4⟩ := (c_num (A := A) to1 hA tc.2.2.1 0 100).1 q1
        obtain ⟨h1, h2, h3, h4, h5, h6, h7, h8, h9, h10⟩ := gc
        refine ⟨k_wt A3 20 i n1, ?_, x_cw (x_cF hA r3) (by omega), by rw [p_rwn (by omega)]; exact r2.2.2.1, p_rwe, fun a j x y => by rw [p_rwn (by omega), r3 a j x]⟩
        unfold gX7_readShare gX7_readShare_b0
        rw [h1, hi, if_neg (by omega), r1, k_bds, if_neg (by omega), if_pos (by omega), p_lt, r4, k_wr_of (x := (i : Int) - 1) (by omega) (by omega)]
        by_cases z : i = 0
        · rw [if_neg (by omega), hlo, if_pos z]
        · have hh := h10 ((i : Int) - 1) (by omega) (by omega)
          have vv := vs ((i : Int) - 1) (by omega) (by omega)
          rw [if_pos (by omega), if_pos (by omega), p_rwn (by omega), r3 _ _ (by omega), hh.2, hlo, if_neg z, k_wr_of (by omega) (by omega)]
      have ref1 : ∀ B, x_m T Ln B → x_tm B f kd n e w → x_hm g B → ∃ B6, gX9_term_b59 B 2 = (k_bd (gX9_behind B6 418263299685) fun r46 A47 => if r46 = 0 then (gX9_term_b207 A47 i) else (if (i : Int) = 0 then (gX9_term_b197 A47 i (5 + i) 99999 (-1)) else (gX9_term_b197 A47 i (5 + i) 99999 (k_rd A47 150 (77 + i - 1))))) ∧ x_m T Ln B6 ∧ x_tm B6 f2 kd2 n2 e2 w2 ∧ x_om B B6 ∧ k_rd B6 120 39 = k_rd B 120 39 ∧ x_hm (q_up g (2 + i) n1) B6 := by
        intro B hB tm hm
        obtain ⟨B5, s1, s2, s3, s4, s5, s6⟩ := ref B hB tm hm
        obtain ⟨B6, t1, t2, t3⟩ := (m_take (A := B5) a4 to2 s2 s3 (2 + i) 100 0 (by omega)).1 q1
        obtain ⟨s7, x, x1, x2, x3, x4, x5⟩ := s6
        refine ⟨B6, ?_, x_mF (x_mw s2 (by omega)) t3, t2, x_omT (x_omW s4 (by omega)) (x_omG t3), by rw [t3 _ _ (by omega), p_rwn (by omega)]; exact s5, fun j j0 j1 => ?_, x, x1, ?_, ?_, ?_, ?_⟩
        · rw [s1, show (-1 : Int) = 0 - 1 from rfl, t1, k_bds, if_neg (by omega)]
        · rw [t3 _ _ (by omega)]
          by_cases z : j = 2 + i
          · rw [z, q_upe, p_rwe]
          · rw [q_upn z, p_rwn (by omega)]; exact s7 j j0 j1
        · rw [t3 _ _ (by omega), p_rwn (by omega)]; exact x2
        · rw [q_upn (by omega)]; exact x3
        · rw [q_upn (by omega)]; exact x4
        · rw [q_upn (by omega)]; exact x5
      by_cases q2 : b = 0
      · refine Or.inl ⟨x_ft kd2, f2, by omega, fun A hA tc gc => ?_, fun B hB tm hm => ?_⟩
        · obtain ⟨A8, s1, s2, s3, s4, s5⟩ := cls1 A hA tc gc
          obtain ⟨A14, t1, t2⟩ := (c_word to2 s2 s3 wc).2 q2
          refine ⟨A14, ?_, x_FcT t2 (fun a j q => s5 a j (by omega) (by omega))⟩
          rw [s1]
          unfold gX7_readShare_b65
          rw [t1, k_bds, if_pos rfl]
        · obtain ⟨B6, s1, s2, s3, s4, s5, s6⟩ := ref1 B hB tm hm
          obtain ⟨B7, t1, t2⟩ := (m_word b4 to3 s2 s3 wm).2 q2
          refine ⟨B7, ?_, x_FmT t2 s4⟩
          show gX9_term_b59 B 2 = _
          rw [s1, t1, k_bds, if_pos rfl, b0]
      · -- the reference looks at the number
        have ref2 : ∀ B, x_m T Ln B → x_tm B f kd n e w → x_hm g B → ∃ B7, gX9_term_b59 B 2 = (k_bd (gX9_take B7 (5 + i) 99999 (lo - 1)) fun r1 A2 => if r1 = 0 then (gX9_term_b207 A2 i) else (gX9_term_b208 A2 i 1)) ∧ x_m T Ln B7 ∧ x_tm B7 f3 kd3 n3 e3 w3 ∧ x_om B B7 ∧ k_rd B7 120 39 = k_rd B 120 39 ∧ x_hm (q_up g (2 + i) n1) B7 := by
          intro B hB tm hm
          obtain ⟨B6, s1, s2, s3, s4, s5, s6⟩ := ref1 B hB tm hm
          obtain ⟨B7, t1, t2, t3⟩ := (m_word b4 to3 s2 s3 wm).1 q2
          obtain ⟨s7, x, x1, x2, x3, x4, x5⟩ := s6
          have h7 : ∀ j : Int, 0 ≤ j → j ≤ 11 → k_rd B7 150 (72 + j) = q_up g (2 + i) n1 j := fun j j0 j1 => by rw [t3 _ _ (by omega)]; exact s7 j j0 j1
          refine ⟨B7, ?_, x_mF s2 t3, t2, x_omT s4 (x_omG t3), by rw [t3 _ _ (by omega)]; exact s5, h7, x, x1, by rw [t3 _ _ (by omega)]; exact x2, x3, x4, x5⟩
          rw [s1, t1, k_bds, if_neg (by omega)]
          unfold gX9_term_b197
          by_cases z : i = 0
          · rw [if_pos (by omega), hlo, if_pos z]
            rfl
          · rw [if_neg (by omega), hlo, if_neg z]
            have := h7 (5 + ((i : Int) - 1)) (by omega) (by omega)
            rw [q_upn (by omega)] at this
            have e5 : (72 : Int) + (5 + ((i : Int) - 1)) = 77 + i - 1 := by omega
            rw [e5] at this
            rw [this, show g (5 + ((i : Int) - 1)) + 1 - 1 = g (5 + ((i : Int) - 1)) by omega]
        by_cases q3 : x_fn kd3 n3 lo 99999 = 0
        · have n3b := x_fn2 q3
          refine x_fin hT (by omega) (g' := q_up (q_up (q_up g (2 + i) n1) (5 + i) n3) 1 ((i : Int) + 1)) ?_ (by simp (disch := omega) only [q_upn]) (q := e3) (by omega) c3 to4 (fun A hA tc gc => ?_) (fun B hB tm hm => ?_)
          · unfold x_gv
            simp (disch := omega) only [q_upn, q_upe]
            refine ⟨v0, by omega, v8, v9, v10, v11, v12, v13, v14, fun j j0 j1 => ?_⟩
            by_cases z : j = i
            · subst z
              simp (disch := omega) only [q_upn, q_upe]
              omega
            · simp (disch := omega) only [q_upn]
              exact vs j j0 (by omega)
          · obtain ⟨A8, s1, s2, s3, s4, s5⟩ := cls1 A hA tc gc
            obtain ⟨A14, t1, t2, t3⟩ := (c_word to2 s2 s3 wc).1 q2
            obtain ⟨A7, u1, u2, u3, u4⟩ := (c_num to3 (x_cF s2 t3) t2.2.2.1 lo 99999).1 q3
            obtain ⟨h1, h2, h3, h4, h5, h6, h7, h8, h9, h10⟩ := gc
            have rd : ∀ a j : Int, ¬ (a = 18 ∧ 8 ≤ j ∧ j ≤ 11) → (a ≠ 20 ∨ j ≠ i) → (a ≠ 21 ∨ j ≠ i) → (a ≠ 19 ∨ j ≠ 2) → k_rd (k_wt (k_wt A7 21 i n3) 19 2 ((i : Int) + 1)) a j = k_rd A a j := fun a j x y z w => by rw [p_rwn (by omega), p_rwn (by omega), u3 a j x, t3 a j x, s5 a j x y]
            refine ⟨k_wt (k_wt A7 21 i n3) 19 2 ((i : Int) + 1), ?_, x_cw (x_cw (x_cF (x_cF s2 t3) u3) (by omega)) (by omega), by rw [p_rwn (by omega), p_rwn (by omega)]; exact u2.2.2.1, ?_, fun a j q => rd a j (by omega) (by omega) (by omega) (by omega), rd _ _ (by omega) (by omega) (by omega) (by omega)⟩
            · rw [s1]
              unfold gX7_readShare_b65
              rw [t1, k_bds, if_neg (by omega), u1, k_bds, if_neg (by omega), if_pos (by omega), p_lt, p_lt, u4, k_wr_of (x := (i : Int) + 1) (by omega) (by omega)]
            · unfold x_gc
              simp (disch := omega) only [q_upn, q_upe]
              refine ⟨p_rwe, by rw [rd _ _ (by omega) (by omega) (by omega) (by omega)]; exact h2, by rw [rd _ _ (by omega) (by omega) (by omega) (by omega)]; exact h3, by rw [rd _ _ (by omega) (by omega) (by omega) (by omega)]; exact h4, by rw [rd _ _ (by omega) (by omega) (by omega) (by omega)]; exact h5, by rw [rd _ _ (by omega) (by omega) (by omega) (by omega)]; exact h6, by rw [rd _ _ (by omega) (by omega) (by omega) (by omega)]; exact h7, by rw [rd _ _ (by omega) (by omega) (by omega) (by omega)]; exact h8, by rw [rd _ _ (by omega) (by omega) (by omega) (by omega)]; exact h9, fun j j0 j1 => ?_⟩
              by_cases z : j = i
              · subst z
                simp (disch := omega) only [q_upn, q_upe]
                exact ⟨by rw [p_rwn (by omega), p_rwn (by omega), u3 _ _ (by omega), t3 _ _ (by omega)]; exact s4, by rw [p_rwn (by omega), p_rwe]⟩
              · simp (disch := omega) only [q_upn]
                rw [rd _ _ (by omega) (by omega) (by omega) (by omega), rd _ _ (by omega) (by omega) (by omega) (by omega)]
                exact h10 j j0 (by omega)
          · obtain ⟨B7, s1, s2, s3, s4, s5, s6⟩ := ref2 B hB tm hm
            obtain ⟨B8, u1, u2, u3⟩ := (m_take (A := B7) c4 to4 s2 s3 (5 + i) 99999 lo (by omega)).1 q3
            obtain ⟨s7, x, x1, x2, x3, x4, x5⟩ := s6
            have w1 := x_mw (x_mF (x_mw s2 (by omega)) u3) (a := 150) (i := 73) (v := (i : Int) + 1) (by omega)
            refine ⟨k_wt B8 150 73 ((i : Int) + 1), ?_, w1, ⟨by rw [p_rwn (by omega)]; exact u2.1, by rw [p_rwn (by omega)]; exact u2.2.1, by rw [p_rwn (by omega)]; exact u2.2.2.1, fun q => by rw [p_rwn (by omega)]; exact u2.2.2.2.1 q, fun q => by rw [p_rwn (by omega)]; exact u2.2.2.2.2 q⟩, ⟨fun j j0 j1 => ?_, x, x1, ?_, ?_, ?_, ?_⟩, x_omW (x_omT (x_omW s4 (by omega)) (x_omG u3)) (by omega), by rw [p_rwn (by omega), u3 _ _ (by omega), p_rwn (by omega)]; exact s5⟩
            · show gX9_term_b59 B 2 = _
              rw [s1, u1, k_bds, if_neg (by omega)]
              unfold gX9_term_b208
              rw [if_neg (by omega), p_lt, k_wr_of (x := (i : Int) + 1) (by omega) (by omega)]
            · by_cases z : j = 1
              · subst z
                rw [q_upe]; exact p_rwe
              · rw [q_upn z, p_rwn (by omega), u3 _ _ (by omega)]
                by_cases y : j = 5 + i
                · rw [y, q_upe, p_rwe]
                · rw [q_upn y, p_rwn (by omega)]; exact s7 j j0 j1
            · rw [p_rwn (by omega), u3 _ _ (by omega), p_rwn (by omega)]; exact x2
            · simp (disch := omega) only [q_upn] at x3 ⊢; exact x3
            · simp (disch := omega) only [q_upn] at x4 ⊢; exact x4
            · simp (disch := omega) only [q_upn] at x5 ⊢; exact x5
        · refine Or.inl ⟨x_fn kd3 n3 lo 99999, f3, by omega, fun A hA tc gc => ?_, fun B hB tm hm => ?_⟩
          · obtain ⟨A8, s1, s2, s3, s4, s5⟩ := cls1 A hA tc gc
            obtain ⟨A14, t1, t2, t3⟩ := (c_word to2 s2 s3 wc).1 q2
            obtain ⟨A7, u1, u2⟩ := (c_num to3 (x_cF s2 t3) t2.2.2.1 lo 99999).2 q3
            refine ⟨A7, ?_, x_FcT u2 (fun a j q => by rw [t3 a j (by omega), s5 a j (by omega) (by omega)])⟩
            rw [s1]
            unfold gX7_readShare_b65
            rw [t1, k_bds, if_neg (by omega), u1, k_bds, if_pos rfl]
          · obtain ⟨B7, s1, s2, s3, s4, s5, s6⟩ := ref2 B hB tm hm
            obtain ⟨B8, u1, u2⟩ := (m_take (A := B7) c4 to4 s2 s3 (5 + i) 99999 lo (by omega)).2 q3
            refine ⟨B8, ?_, x_FmT u2 s4⟩
            show gX9_term_b59 B 2 = _
            rw [s1, u1, k_bds, if_pos rfl, b0]
    · refine Or.inl ⟨x_fn kd1 n1 0 100, f1, by omega, fun A hA tc gc => ?_, fun B hB tm hm => ?_⟩
      · obtain ⟨A6, r1, r2⟩ := (c_num (A := A) to1 hA tc.2.2.1 0 100).2 q1
        refine ⟨A6, ?_, r2⟩
        unfold gX7_readShare gX7_readShare_b0
        rw [gc.1, if_neg (by omega), r1, k_bds, if_pos rfl]
      · obtain ⟨B5, s1, s2, s3, s4, s5, s6⟩ := ref B hB tm hm
        obtain ⟨B6, t1, t2⟩ := (m_take (A := B5) a4 to2 s2 s3 (2 + i) 100 0 (by omega)).2 q1
        refine ⟨B6, ?_, x_FmT t2 s4⟩
        show gX9_term_b59 B 2 = _
        rw [s1, show (-1 : Int) = 0 - 1 from rfl, t1, k_bds, if_pos rfl, b0]
/-- any term -/
theorem x_term (hT : x_T T Ln) (p0 : 0 ≤ p) (ok : x_ok T Ln p f kd n e w) (gv : x_gv g) : x_Res T Ln f kd n e w g gX7_readTerm gX9_term := by
  have hL := hT.2.1
  obtain ⟨r1, r1b, _, c1, m1⟩ := x_isW hT p0 ok x_fee
  obtain ⟨r2, r2b, _, c2, m2⟩ := x_isW hT p0 ok x_share
  obtain ⟨r3, r3b, _, c3, m3⟩ := x_isW hT p0 ok x_subs
  obtain ⟨r4, r4b, _, c4, m4⟩ := x_isW hT p0 ok x_loss
  -- what the class and the reference do with such a word
  have pass : ∀ (X Y : k_H → Option (Int × k_H)), x_Res T Ln f kd n e w g X Y → (∀ A, x_c T Ln A → x_tc A f kd n e → gX7_readTerm A = (k_bd (X A) fun r A' => if r = 0 ∨ r = 1 then (some (r, A')) else none)) → (∀ B, x_tm B f kd n e w → gX9_term B = Y B) → x_Res T Ln f kd n e w g gX7_readTerm gX9_term := by
    intro X Y res hX hY
    rcases res with ⟨flt, pl, pb, ca, ma⟩ | ⟨g', p', f', kd', n', e', w', q1, q2, q3, q4, q5, ca, ma⟩
    · refine Or.inl ⟨flt, pl, pb, fun A hA tc gc => ?_, fun B hB tm hm => ?_⟩
      · obtain ⟨A', s1, s2⟩ := ca A hA tc gc
        exact ⟨A', by rw [hX A hA tc, s1, k_bds, if_pos (Or.inl rfl)], s2⟩
      · obtain ⟨B', s1, s2⟩ := ma B hB tm hm
        exact ⟨B', by rw [hY B tm]; exact s1, s2⟩
    · refine Or.inr ⟨g', p', f', kd', n', e', w', q1, q2, q3, q4, q5, fun A hA tc gc => ?_, fun B hB tm hm => ?_⟩
      · obtain ⟨A', s1, s2⟩ := ca A hA tc gc
        exact ⟨A', by rw [hX A hA tc, s1, k_bds, if_pos (Or.inr rfl)], s2⟩
      · obtain ⟨B', s1, s2⟩ := ma B hB tm hm
        exact ⟨B', by rw [hY B tm]; exact s1, s2⟩
  by_cases z1 : r1 = 0
  · by_cases z2 : r2 = 0
    · by_cases z3 : r3 = 0
      · by_cases z4 : r4 = 0
        · refine Or.inl ⟨x_ft kd, f, by have := ok.1; have := ok.2.1; have := ok.2.2.1; omega, fun A hA tc gc => ?_, fun B hB tm hm => ?_⟩
          · unfold gX7_readTerm gX7_readTerm_b0
            rw [c1 A hA tc, k_bds, if_pos z1, c2 A hA tc, k_bds, if_pos z2, c3 A hA tc, k_bds, if_pos z3, c4 A hA tc, k_bds, if_pos z4, h_reft, k_bds, if_pos (Or.inl rfl), tc.2.1]
            exact ⟨_, rfl, x_FcR (fun _ _ _ => rfl) tc.1⟩
          · unfold gX9_term gX9_term_b0
            rw [m1 B tm, k_bds, if_pos z1, m2 B tm, k_bds, if_pos z2, m3 B tm, k_bds, if_pos z3, m4 B tm, k_bds, if_pos z4]
            unfold gX9_term_b59
            rw [if_pos (by omega), h_cant, k_bds, if_pos (Or.inl rfl), tm.1, tm.2.1, x_ftm ok.2.2.2.1]
            exact ⟨_, rfl, x_FmR⟩
        · refine pass _ _ (x_tLoss hT p0 ok gv) (fun A hA tc => ?_) (fun B tm => ?_)
          · unfold gX7_readTerm gX7_readTerm_b0
            rw [c1 A hA tc, k_bds, if_pos z1, c2 A hA tc, k_bds, if_pos z2, c3 A hA tc, k_bds, if_pos z3, c4 A hA tc, k_bds, if_neg z4]
          · unfold gX9_term gX9_term_b0
            rw [m1 B tm, k_bds, if_pos z1, m2 B tm, k_bds, if_pos z2, m3 B tm, k_bds, if_pos z3, m4 B tm, k_bds, if_neg z4]
      · refine pass _ _ (x_tSub hT p0 ok gv) (fun A hA tc => ?_) (fun B tm => ?_)
        · unfold gX7_readTerm gX7_readTerm_b0
          rw [c1 A hA tc, k_bds, if_pos z1, c2 A hA tc, k_bds, if_pos z2, c3 A hA tc, k_bds, if_neg z3]
        · unfold gX9_term gX9_term_b0
          rw [m1 B tm, k_bds, if_pos z1, m2 B tm, k_bds, if_pos z2, m3 B tm, k_bds, if_neg z3]
    · refine pass _ _ (x_tShare hT p0 ok gv) (fun A hA tc => ?_) (fun B tm => ?_)
      · unfold gX7_readTerm gX7_readTerm_b0
        rw [c1 A hA tc, k_bds, if_pos z1, c2 A hA tc, k_bds, if_neg z2]
      · unfold gX9_term gX9_term_b0
        rw [m1 B tm, k_bds, if_pos z1, m2 B tm, k_bds, if_neg z2]
  · refine pass _ _ (x_tFee hT p0 ok gv) (fun A hA tc => ?_) (fun B tm => ?_)
    · unfold gX7_readTerm gX7_readTerm_b0
      rw [c1 A hA tc, k_bds, if_neg z1]
    · unfold gX9_term gX9_term_b0
      rw [m1 B tm, k_bds, if_neg z1]
end
