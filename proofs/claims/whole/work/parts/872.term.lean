/-! terms: one term, both sides -/
def x_gc (g : Int → Int) (A : k_H) : Prop := k_rd A 19 2 = g 1 ∧ k_rd A 19 3 = g 0 ∧ k_rd A 19 4 = g 8 ∧ k_rd A 19 5 = g 9 ∧ k_rd A 19 6 = g 10 ∧ k_rd A 18 1 = g 11 ∧ k_rd A 18 5 = g 12 ∧ k_rd A 18 6 = g 13 ∧ k_rd A 18 7 = g 14 ∧ ∀ i : Int, 0 ≤ i → i < g 1 → k_rd A 20 i = g (2 + i) ∧ k_rd A 21 i = g (5 + i)
def x_hm (g : Int → Int) (B : k_H) : Prop := (∀ j : Int, 0 ≤ j → j ≤ 11 → k_rd B 150 (72 + j) = g j) ∧ ∃ x : Nat, x < 4096 ∧ k_rd B 120 41 = x ∧ (x.testBit 0 = true ↔ g 12 = 1) ∧ (x.testBit 8 = true ↔ g 13 = 1) ∧ (x.testBit 10 = true ↔ g 14 = 1)
def x_gv (g : Int → Int) : Prop := (0 ≤ g 0 ∧ g 0 ≤ 99999) ∧ (0 ≤ g 1 ∧ g 1 ≤ 3) ∧ (0 ≤ g 8 ∧ g 8 ≤ 100) ∧ (0 ≤ g 9 ∧ g 9 ≤ 99999) ∧ (g 10 = 0 ∨ g 10 = 1) ∧ (0 ≤ g 11 ∧ g 11 ≤ 500) ∧ (g 12 = 0 ∨ g 12 = 1) ∧ (g 13 = 0 ∨ g 13 = 1) ∧ (g 14 = 0 ∨ g 14 = 1) ∧ ∀ i : Int, 0 ≤ i → i < g 1 → (0 ≤ g (2 + i) ∧ g (2 + i) ≤ 100) ∧ 0 ≤ g (5 + i) ∧ g (5 + i) ≤ 99999
def x_Res (T : Int → Int) (Ln f kd n e w : Int) (g : Int → Int) (X Y : k_H → Option (Int × k_H)) : Prop := (∃ flt pl : Int, (0 ≤ pl ∧ pl ≤ 200) ∧ (∀ A, x_c T Ln A → x_tc A f kd n e → x_gc g A → ∃ A', X A = some (0, A') ∧ x_Fc A A' flt pl) ∧ (∀ B, x_m T Ln B → x_tm B f kd n e w → x_hm g B → ∃ B', Y B = some (0, B') ∧ x_Fm B B' flt pl)) ∨ (∃ (g' : Int → Int) (p' f' kd' n' e' w' : Int), e ≤ p' ∧ p' ≤ Ln ∧ x_to T Ln p' f' kd' n' e' w' ∧ x_gv g' ∧ g' 11 = g 11 ∧ (∀ A, x_c T Ln A → x_tc A f kd n e → x_gc g A → ∃ A', X A = some (1, A') ∧ x_c T Ln A' ∧ k_rd A' 18 8 = p' ∧ x_gc g' A' ∧ x_oc A A' ∧ k_rd A' 18 2 = k_rd A 18 2) ∧ (∀ B, x_m T Ln B → x_tm B f kd n e w → x_hm g B → ∃ B', Y B = some (1, B') ∧ x_m T Ln B' ∧ x_tm B' f' kd' n' e' w' ∧ x_hm (q_up g' 11 (g 11 + 1)) B' ∧ x_om B B' ∧ k_rd B' 120 39 = k_rd B 120 39))
theorem x_cO {T : Int → Int} {Ln : Int} {A B : k_H} (h : x_c T Ln A) (f : ∀ a i : Int, a = 22 ∨ a = 23 → k_rd B a i = k_rd A a i) : x_c T Ln B := ⟨by rw [f _ _ (by omega)]; exact h.1, fun i x y => by rw [f _ _ (by omega)]; exact h.2 i x y⟩
theorem x_mO {T : Int → Int} {Ln : Int} {A B : k_H} (h : x_m T Ln A) (f : ∀ a i : Int, (a = 120 ∧ i = 3) ∨ a = 121 → k_rd B a i = k_rd A a i) : x_m T Ln B := ⟨by rw [f _ _ (by omega)]; exact h.1, fun i x y => by rw [f _ _ (by omega)]; exact h.2 i x y⟩
theorem x_FcT {A B C : k_H} {v pl : Int} (h : x_Fc B C v pl) (f : x_oc A B) : x_Fc A C v pl := ⟨h.1, h.2.1, fun a i q => by rw [h.2.2 a i q, f a i q]⟩
theorem x_FmT {A B C : k_H} {v pl : Int} (h : x_Fm B C v pl) (f : x_om A B) : x_Fm A C v pl := ⟨h.1, h.2.1, fun a i q1 q2 => by rw [h.2.2 a i q1 q2, f a i q1 q2]⟩
theorem x_omR {A : k_H} : x_om A A := fun _ _ _ _ => rfl
theorem x_omT {A B C : k_H} (h : x_om A B) (k : x_om B C) : x_om A C := fun a i q1 q2 => by rw [k a i q1 q2, h a i q1 q2]
theorem x_omG {A B : k_H} (h : x_gm A B) : x_om A B := fun a i q1 q2 => h a i (by omega)
theorem x_omW {A B : k_H} {a i v : Int} (h : x_om A B) (q : (a = 120 ∧ (i = 4 ∨ (36 ≤ i ∧ i ≤ 42))) ∨ (a = 150 ∧ 72 ≤ i)) : x_om A (k_wt B a i v) := fun b j q1 q2 => by rw [p_rwn (by omega)]; exact h b j q1 q2
theorem x_bit {x i : Nat} (hx : x < 4096) (hi : i < 12) : k_or x (k_shl 1 i) = ((x ||| 2 ^ i : Nat) : Int) ∧ x ||| 2 ^ i < 4096 := ⟨b_or (by omega) (by omega), Nat.or_lt_two_pow (n := 12) hx (Nat.pow_lt_pow_right (a := 2) (n := 12) (by omega) hi)⟩
section
variable {T : Int → Int} {Ln p f kd n e w : Int} {g : Int → Int}
/-- the word is told too often -/
theorem m_often {B : k_H} (tm : x_tm B f kd n e w) : gX9_term_b102 B = some (0, k_wt (k_wt B 120 39 4) 120 40 f) := by
  unfold gX9_term_b102
  rw [tm.1, h_wrg, k_bds, if_pos (Or.inl rfl)]
theorem x_fin (hT : x_T T Ln) {X Y : k_H → Option (Int × k_H)} (e0 : 0 ≤ e) {g' : Int → Int} (gv : x_gv g') (g11 : g' 11 = g 11) {q f2 kd2 n2 e2 w2 : Int} (eq : e ≤ q) (qL : q ≤ Ln) (to2 : x_to T Ln q f2 kd2 n2 e2 w2) (cls : ∀ A, x_c T Ln A → x_tc A f kd n e → x_gc g A → ∃ A10, X A = (k_bd (gX7_readStop A10) fun r13 A14 => if r13 = 0 ∨ r13 = 1 then (some (r13, A14)) else none) ∧ x_c T Ln A10 ∧ k_rd A10 18 8 = q ∧ x_gc g' A10 ∧ x_oc A A10 ∧ k_rd A10 18 2 = k_rd A 18 2) (rfs : ∀ B, x_m T Ln B → x_tm B f kd n e w → x_hm g B → ∃ B6, Y B = gX9_term_b337 B6 1 ∧ x_m T Ln B6 ∧ x_tm B6 f2 kd2 n2 e2 w2 ∧ x_hm g' B6 ∧ x_om B B6 ∧ k_rd B6 120 39 = k_rd B 120 39) : x_Res T Ln f kd n e w g X Y := by
  have hL := hT.2.1
  obtain ⟨b1, b2, b3, b4, b5, b6, b7, b8⟩ := to2.1
  obtain ⟨f3, kd3, n3, e3, w3, to3⟩ := x_tok hT (p := e2) (by omega) b3
  have to3 : x_to T Ln e2 f3 kd3 n3 e3 w3 := to3
  have v11 := gv.2.2.2.2.2.1
  by_cases q2 : kd2 = 3
  · refine Or.inr ⟨g', e2, f3, kd3, n3, e3, w3, by omega, b3, to3, gv, g11, fun A hA tc gc => ?_, fun B hB tm hm => ?_⟩
    · obtain ⟨A10, s1, s2, s3, s4, s5, s6⟩ := cls A hA tc gc
      obtain ⟨A14, t1, t2, t3⟩ := (c_stop to2 s2 s3).1 q2
      obtain ⟨h1, h2, h3, h4, h5, h6, h7, h8, h9, h10⟩ := s4
      refine ⟨A14, by rw [s1, t1, k_bds, if_pos (Or.inr rfl)], x_cF s2 t3, t2.2.2.1, ?_, fun a i q => by rw [t3 a i (by omega), s5 a i q], by rw [t3 _ _ (by omega), s6]⟩
      exact ⟨by rw [t3 _ _ (by omega)]; exact h1, by rw [t3 _ _ (by omega)]; exact h2, by rw [t3 _ _ (by omega)]; exact h3, by rw [t3 _ _ (by omega)]; exact h4, by rw [t3 _ _ (by omega)]; exact h5, by rw [t3 _ _ (by omega)]; exact h6, by rw [t3 _ _ (by omega)]; exact h7, by rw [t3 _ _ (by omega)]; exact h8, by rw [t3 _ _ (by omega)]; exact h9, fun i x y => by rw [t3 _ _ (by omega), t3 _ _ (by omega)]; exact h10 i x y⟩
    · obtain ⟨B6, s1, s2, s3, s4, s5, s6⟩ := rfs B hB tm hm
      obtain ⟨s7, x, x1, x2, x3, x4, x5⟩ := s4
      obtain ⟨B7, t1, t2, t3⟩ := (m_end b4 to3 s2 s3 (cn := g' 11) (s7 11 (by omega) (by omega)) (by omega)).1 q2
      refine ⟨B7, s1.trans t1, x_mF (x_mw s2 (by omega)) t3, t2, ⟨fun j j0 j1 => ?_, x, x1, ?_, ?_, ?_, ?_⟩, x_omT (x_omW s5 (by omega)) (x_omG t3), by rw [t3 _ _ (by omega), p_rwn (by omega)]; exact s6⟩
      · rw [t3 _ _ (by omega)]
        by_cases z : j = 11
        · subst z
          rw [q_upe, show (72 : Int) + 11 = 83 from rfl, p_rwe, g11]
        · rw [q_upn z, p_rwn (by omega)]; exact s7 j j0 j1
      · rw [t3 _ _ (by omega), p_rwn (by omega)]; exact x2
      · rw [q_upn (by omega)]; exact x3
      · rw [q_upn (by omega)]; exact x4
      · rw [q_upn (by omega)]; exact x5
  · refine Or.inl ⟨x_ft kd2, f2, by omega, fun A hA tc gc => ?_, fun B hB tm hm => ?_⟩
    · obtain ⟨A10, s1, s2, s3, s4, s5, s6⟩ := cls A hA tc gc
      obtain ⟨A14, t1, t2⟩ := (c_stop to2 s2 s3).2 q2
      exact ⟨A14, by rw [s1, t1, k_bds, if_pos (Or.inl rfl)], x_FcT t2 s5⟩
    · obtain ⟨B6, s1, s2, s3, s4, s5, s6⟩ := rfs B hB tm hm
      obtain ⟨B7, t1, t2⟩ := (m_end b4 to3 s2 s3 (cn := g' 11) (s4.1 11 (by omega) (by omega)) (by omega)).2 q2
      exact ⟨B7, s1.trans t1, x_FmT t2 s5⟩
/-- the reference takes the word and looks at what follows -/
theorem m_begin {B : k_H} (hB : x_m T Ln B) (tm : x_tm B f kd n e w) (hm : x_hm g B) {k : Nat} (hk : k < 12) {f1 kd1 n1 e1 w1 : Int} (to1 : x_to T Ln e f1 kd1 n1 e1 w1) : ∃ (B5 : k_H) (x : Nat), gX9_next (k_wt B 120 41 (k_or (k_rd B 120 41) (k_shl 1 k))) = some (0, B5) ∧ x_m T Ln B5 ∧ x_tm B5 f1 kd1 n1 e1 w1 ∧ x_om B B5 ∧ k_rd B5 120 39 = k_rd B 120 39 ∧ (∀ i : Int, k_rd B5 150 i = k_rd B 150 i) ∧ x < 4096 ∧ k_rd B5 120 41 = x ∧ (x.testBit 0 = true ↔ (g 12 = 1 ∨ k = 0)) ∧ (x.testBit 8 = true ↔ (g 13 = 1 ∨ k = 8)) ∧ (x.testBit 10 = true ↔ (g 14 = 1 ∨ k = 10)) := by
  obtain ⟨y, y1, y2, y3, y4, y5⟩ := hm.2
  have bo := x_bit (x := y) (i := k) y1 hk
  rw [y2, bo.1]
  obtain ⟨B5, q1, q2, q3⟩ := to1.2.2 (k_wt B 120 41 ((y ||| 2 ^ k : Nat) : Int)) (x_mw hB (by omega)) (by rw [p_rwn (by omega)]; exact tm.2.2.1)
  refine ⟨B5, y ||| 2 ^ k, q1, x_mF (x_mw hB (by omega)) q3, q2, x_omT (x_omW x_omR (by omega)) (x_omG q3), by rw [q3 _ _ (by omega), p_rwn (by omega)], fun i => by rw [q3 _ _ (by omega), p_rwn (by omega)], bo.2, by rw [q3 _ _ (by omega), p_rwe], ?_, ?_, ?_⟩
  · rw [e_tb, Bool.or_eq_true, y3, decide_eq_true_eq]
  · rw [e_tb, Bool.or_eq_true, y4, decide_eq_true_eq]
  · rw [e_tb, Bool.or_eq_true, y5, decide_eq_true_eq]
/-- whether the term was told -/
theorem m_told {B : k_H} (hm : x_hm g B) {k : Nat} (hk : k < 12) : ∃ x : Nat, k_rd B 120 41 = x ∧ k_and (k_shr (k_rd B 120 41) k) 1 = (if x.testBit k = true then 1 else 0) ∧ (x.testBit 0 = true ↔ g 12 = 1) ∧ (x.testBit 8 = true ↔ g 13 = 1) ∧ (x.testBit 10 = true ↔ g 14 = 1) := by
  obtain ⟨y, y1, y2, y3, y4, y5⟩ := hm.2
  exact ⟨y, y2, by rw [y2, b_has (by omega) (by omega)], y3, y4, y5⟩
theorem x_fn2 {kd n lo hi : Int} (h : x_fn kd n lo hi = 0) : kd = 2 ∧ lo ≤ n ∧ n ≤ hi := by
  unfold x_fn x_ft at h
  by_cases z : kd = 2
  · rw [if_pos z] at h
    by_cases y : lo ≤ n ∧ n ≤ hi
    · exact ⟨z, y⟩
    · rw [if_neg y] at h; omega
  · rw [if_neg z] at h
    exfalso; revert h
    split <;> omega
theorem x_tFee (hT : x_T T Ln) (p0 : 0 ≤ p) (ok : x_ok T Ln p f kd n e w) (gv : x_gv g) : x_Res T Ln f kd n e w g gX7_readFee (fun B => gX9_term_b59 B 0) := by
  have hL := hT.2.1
  obtain ⟨o1, o2, o3, o4, o5, o6, o7, o8⟩ := ok
  obtain ⟨v0, v1, v8, v9, v10, v11, v12, v13, v14, vs⟩ := gv
  by_cases told : g 12 = 1
  · refine Or.inl ⟨4, f, by omega, fun A hA tc gc => ?_, fun B hB tm hm => ?_⟩
    · unfold gX7_readFee gX7_readFee_b0
      rw [gc.2.2.2.2.2.2.1, told, if_neg (by omega), h_ref, k_bds, if_pos (Or.inl rfl)]
      exact ⟨_, rfl, x_FcR (fun _ _ _ => rfl) tc.1⟩
    · obtain ⟨x, x1, x2, x3, x4, x5⟩ := m_told hm (k := 0) (by omega)
      show ∃ B', gX9_term_b59 B 0 = _ ∧ _
      unfold gX9_term_b59
      rw [if_neg (by omega), if_neg (by omega), show (0 : Int) = ((0 : Nat) : Int) from rfl, x2, if_pos (x3.2 told), if_pos rfl, m_often tm]
      exact ⟨_, rfl, x_FmR⟩
  · have g12 : g 12 = 0 := by omega
    obtain ⟨f1, kd1, n1, e1, w1, to1⟩ := x_tok hT (p := e) (by omega) o3
    have to1 : x_to T Ln e f1 kd1 n1 e1 w1 := to1
    obtain ⟨a1, a2, a3, a4, a5, a6, a7, a8⟩ := to1.1
    obtain ⟨f2, kd2, n2, e2, w2, to2⟩ := x_tok hT (p := e1) (by omega) a3
    have to2 : x_to T Ln e1 f2 kd2 n2 e2 w2 := to2
    have ref : ∀ B, x_m T Ln B → x_tm B f kd n e w → x_hm g B → ∃ B5, gX9_term_b59 B 0 = (k_bd (gX9_take B5 0 99999 (-1)) fun r53 A54 => gX9_term_b337 A54 r53) ∧ x_m T Ln B5 ∧ x_tm B5 f1 kd1 n1 e1 w1 ∧ x_om B B5 ∧ k_rd B5 120 39 = k_rd B 120 39 ∧ x_hm (q_up g 12 1) B5 := by
      intro B hB tm hm
      obtain ⟨y, z1, z2, z3, z4, z5⟩ := m_told hm (k := 0) (by omega)
      obtain ⟨B5, x, q1, q2, q3, q4, q5, q6, q7, q8, q9, q10, q11⟩ := m_begin hB tm hm (k := 0) (by omega) to1
      refine ⟨B5, ?_, q2, q3, q4, q5, fun j j0 j1 => by rw [q6, q_upn (by omega)]; exact hm.1 j j0 j1, x, q7, q8, ?_, ?_, ?_⟩
      · have e8 : ((0 : Nat) : Int) = 0 := rfl
        rw [e8] at z2 q1
        unfold gX9_term_b59
        rw [if_neg (by omega), if_neg (by omega), z2, if_neg (fun q => told (z3.1 q)), if_neg (by omega)]
        unfold gX9_term_b112
        rw [p_lt, q1, k_bds, if_pos rfl]
      · rw [q9, q_upe]; exact ⟨fun _ => rfl, fun _ => Or.inr rfl⟩
      · rw [q10, q_upn (by omega)]; omega
      · rw [q11, q_upn (by omega)]; omega
    by_cases q1 : x_fn kd1 n1 0 99999 = 0
    · have n1b := x_fn2 q1
      refine x_fin hT (by omega) (g' := q_up (q_up g 12 1) 0 n1) ?_ (by rw [q_upn (by omega), q_upn (by omega)]) (q := e1) (by omega) a3 to2 (fun A hA tc gc => ?_) (fun B hB tm hm => ?_)
      · unfold x_gv
        simp (disch := omega) only [q_upn, q_upe]
        refine ⟨n1b.2, v1, v8, v9, v10, v11, Or.inr trivial, v13, v14, fun i i0 i1 => ?_⟩
        simp (disch := omega) only [q_upn]
        exact vs i i0 i1
      · obtain ⟨A6, r1, r2, r3, r4⟩ := (c_num (A := k_wt A 18 5 1) to1 (x_cw hA (by omega)) (by rw [p_rwn (by omega)]; exact tc.2.2.1) 0 99999).1 q1
        obtain ⟨h1, h2, h3, h4, h5, h6, h7, h8, h9, h10⟩ := gc
        have rd : ∀ a i : Int, ¬ (a = 18 ∧ 8 ≤ i ∧ i ≤ 11) → (a ≠ 19 ∨ i ≠ 3) → (a ≠ 18 ∨ i ≠ 5) → k_rd (k_wt A6 19 3 n1) a i = k_rd A a i := fun a i x y z => by rw [p_rwn (by omega), r3 a i x, p_rwn (by omega)]
        refine ⟨k_wt A6 19 3 n1, ?_, x_cw (x_cF (x_cw hA (by omega)) r3) (by omega), by rw [p_rwn (by omega)]; exact r2.2.2.1, ?_, fun a i q => rd a i (by omega) (by omega) (by omega), rd _ _ (by omega) (by omega) (by omega)⟩
        · unfold gX7_readFee gX7_readFee_b0
          rw [h7, g12, if_pos rfl, p_lt, r1, k_bds, if_neg (by omega), p_lt, r4]
        · unfold x_gc
          simp (disch := omega) only [q_upn, q_upe]
          refine ⟨by rw [rd _ _ (by omega) (by omega) (by omega)]; exact h1, p_rwe, by rw [rd _ _ (by omega) (by omega) (by omega)]; exact h3, by rw [rd _ _ (by omega) (by omega) (by omega)]; exact h4, by rw [rd _ _ (by omega) (by omega) (by omega)]; exact h5, by rw [rd _ _ (by omega) (by omega) (by omega)]; exact h6, by rw [p_rwn (by omega), r3 _ _ (by omega), p_rwe], by rw [rd _ _ (by omega) (by omega) (by omega)]; exact h8, by rw [rd _ _ (by omega) (by omega) (by omega)]; exact h9, fun i i0 i1 => ?_⟩
          simp (disch := omega) only [q_upn]
          rw [rd _ _ (by omega) (by omega) (by omega), rd _ _ (by omega) (by omega) (by omega)]
          exact h10 i i0 i1
      · obtain ⟨B5, s1, s2, s3, s4, s5, s6⟩ := ref B hB tm hm
        obtain ⟨B6, t1, t2, t3⟩ := (m_take (A := B5) a4 to2 s2 s3 0 99999 0 (by omega)).1 q1
        obtain ⟨s7, x, x1, x2, x3, x4, x5⟩ := s6
        refine ⟨B6, ?_, x_mF (x_mw s2 (by omega)) t3, t2, ⟨fun j j0 j1 => ?_, x, x1, ?_, ?_, ?_, ?_⟩, x_omT (x_omW s4 (by omega)) (x_omG t3), by rw [t3 _ _ (by omega), p_rwn (by omega)]; exact s5⟩
        · show gX9_term_b59 B 0 = _
          rw [s1, show (-1 : Int) = 0 - 1 from rfl, t1, k_bds]
        · rw [t3 _ _ (by omega)]
          by_cases z : j = 0
          · subst z
            rw [q_upe]; exact p_rwe
          · rw [q_upn z, p_rwn (by omega)]; exact s7 j j0 j1
        · rw [t3 _ _ (by omega), p_rwn (by omega)]; exact x2
        · rw [q_upn (by omega)]; exact x3
        · rw [q_upn (by omega)]; exact x4
        · rw [q_upn (by omega)]; exact x5
    · refine Or.inl ⟨x_fn kd1 n1 0 99999, f1, by omega, fun A hA tc gc => ?_, fun B hB tm hm => ?_⟩
      · obtain ⟨A6, r1, r2⟩ := (c_num (A := k_wt A 18 5 1) to1 (x_cw hA (by omega)) (by rw [p_rwn (by omega)]; exact tc.2.2.1) 0 99999).2 q1
        refine ⟨A6, ?_, x_FcT r2 (fun a i q => p_rwn (by omega))⟩
        unfold gX7_readFee gX7_readFee_b0
        rw [gc.2.2.2.2.2.2.1, g12, if_pos rfl, p_lt, r1, k_bds, if_pos rfl]
      · obtain ⟨B5, s1, s2, s3, s4, s5, s6⟩ := ref B hB tm hm
        obtain ⟨B6, t1, t2⟩ := (m_take (A := B5) a4 to2 s2 s3 0 99999 0 (by omega)).2 q1
        refine ⟨B6, ?_, x_FmT t2 s4⟩
        show gX9_term_b59 B 0 = _
        rw [s1, show (-1 : Int) = 0 - 1 from rfl, t1, k_bds]
        unfold gX9_term_b337
        rw [if_pos rfl]
end
