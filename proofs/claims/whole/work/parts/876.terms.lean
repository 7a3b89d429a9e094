/-! terms, both sides -/
theorem m_fresh {B : k_H} {s : Int} : ∀ (d N : Nat) (C : k_H) (j : Int), j + d = 12 → 0 ≤ j → (∀ a i : Int, ¬ (a = 150 ∧ 72 ≤ i) → k_rd C a i = k_rd B a i) → (∀ i : Int, 0 ≤ i → i < j → k_rd C 150 (72 + i) = 0) → ∃ D, gX9_terms_h33 (N + d + 1) C s j = (k_bd (gX9_next D) fun _ A3 => gX9_terms_h59 k_FU A3 s) ∧ (∀ a i : Int, ¬ (a = 150 ∧ 72 ≤ i) → k_rd D a i = k_rd B a i) ∧ (∀ i : Int, 0 ≤ i → i ≤ 11 → k_rd D 150 (72 + i) = 0) := by
  intro d
  induction d with
  | zero =>
    intro N C j jd j0 h1 h2
    exact ⟨C, by rw [gX9_terms_h33, if_neg (by omega)], h1, fun i x y => h2 i x (by omega)⟩
  | succ d ih =>
    intro N C j jd j0 h1 h2
    show ∃ D, gX9_terms_h33 ((N + d + 1) + 1) C s j = _ ∧ _
    rw [gX9_terms_h33, if_pos (by omega), k_wr_of (x := 72 + j) (by omega) (by omega), if_pos (by omega), p_lt, k_wr_of (x := j + 1) (by omega) (by omega)]
    refine ih N _ (j + 1) (by omega) (by omega) (fun a i q => by rw [p_rwn (by omega)]; exact h1 a i q) (fun i x y => ?_)
    by_cases z : i = j
    · rw [z, p_rwe]
    · rw [p_rwn (by omega)]; exact h2 i x (by omega)
theorem m_over {B : k_H} {s : Int} {g : Int → Int} (hs : 0 ≤ s ∧ s < 6) (hg : ∀ j : Int, 0 ≤ j → j ≤ 11 → k_rd B 150 (72 + j) = g j) : ∀ (d N : Nat) (C : k_H) (j : Int), j + d = 12 → 0 ≤ j → (∀ a i : Int, ¬ (a = 150 ∧ 12 * s ≤ i ∧ i < 12 * s + 12) → k_rd C a i = k_rd B a i) → (∀ i : Int, 0 ≤ i → i < j → k_rd C 150 (12 * s + i) = g i) → ∃ D, gX9_terms_h82 (N + d + 1) C s j = some (g 11, D) ∧ (∀ a i : Int, ¬ (a = 150 ∧ 12 * s ≤ i ∧ i < 12 * s + 12) → k_rd D a i = k_rd B a i) ∧ (∀ i : Int, 0 ≤ i → i ≤ 11 → k_rd D 150 (12 * s + i) = g i) := by
  intro d
  induction d with
  | zero =>
    intro N C j jd j0 h1 h2
    refine ⟨C, ?_, h1, fun i x y => h2 i x (by omega)⟩
    rw [gX9_terms_h82, if_neg (by omega), h1 _ _ (by omega), show (83 : Int) = 72 + 11 from rfl, hg 11 (by omega) (by omega)]
  | succ d ih =>
    intro N C j jd j0 h1 h2
    show ∃ D, gX9_terms_h82 ((N + d + 1) + 1) C s j = _ ∧ _
    rw [gX9_terms_h82, if_pos (by omega), k_wr_of (x := 72 + j) (by omega) (by omega), if_pos (by omega), k_wr_of (x := 12 * s) (by omega) (by omega), k_wr_of (x := 12 * s + j) (by omega) (by omega), if_pos (by omega), p_lt, k_wr_of (x := j + 1) (by omega) (by omega), h1 150 (72 + j) (by omega), hg j j0 (by omega)]
    refine ih N _ (j + 1) (by omega) (by omega) (fun a i q => by rw [p_rwn (by omega)]; exact h1 a i q) (fun i x y => ?_)
    by_cases z : i = j
    · rw [z, p_rwe]
    · rw [p_rwn (by omega)]; exact h2 i x (by omega)
theorem c_copyT {A : k_H} {v : Int} {g : Int → Int} (hv : 24 ≤ v) (gc : x_gc g A) (gv : x_gv g) : ∃ C, gX6_copyFrom A v 19 = some (0, C) ∧ (∀ a i : Int, a < v ∨ v + 2 < a → k_rd C a i = k_rd A a i) ∧ k_rd C v 2 = g 1 ∧ k_rd C v 3 = g 0 ∧ k_rd C v 4 = g 8 ∧ k_rd C v 5 = g 9 ∧ k_rd C v 6 = g 10 ∧ ∀ i : Int, 0 ≤ i → i < g 1 → k_rd C (v + 1) i = g (2 + i) ∧ k_rd C (v + 2) i = g (5 + i) := by
  obtain ⟨h1, h2, h3, h4, h5, h6, h7, h8, h9, h10⟩ := gc
  have v10 := gv.2.2.2.2.1
  have v1 := gv.2.1
  have cp := fun b j => p_rcp A (19 + 1) 0 (v + 1) 0 3 b j
  have cp2 := fun b j => p_rcp (k_cp A (19 + 1) 0 (v + 1) 0 3) (19 + 2) 0 (v + 2) 0 3 b j
  unfold gX6_copyFrom gX6_copyFrom_b0
  rw [if_pos (by omega), p_lt, if_pos (by omega), p_lt, p_lt, p_lt, p_lt, p_lt]
  generalize k_cp A (19 + 1) 0 (v + 1) 0 3 = C1 at cp cp2
  generalize k_cp C1 (19 + 2) 0 (v + 2) 0 3 = C2 at cp2
  have r20 : ∀ i, k_rd C2 19 i = k_rd A 19 i := fun i => by rw [cp2, if_neg (by omega), cp, if_neg (by omega)]
  simp (disch := omega) only [p_rwn, r20, h1, h2, h3, h4, h5]
  rw [if_pos v10, p_lt]
  refine ⟨_, rfl, fun a i q => ?_, ?_, ?_, ?_, ?_, ?_, fun i x y => ⟨?_, ?_⟩⟩
  · simp (disch := omega) only [p_rwn]
    rw [cp2, if_neg (by omega), cp, if_neg (by omega)]
  · simp (disch := omega) only [p_rwn, p_rwe]
  · simp (disch := omega) only [p_rwn, p_rwe]
  · simp (disch := omega) only [p_rwn, p_rwe]
  · simp (disch := omega) only [p_rwn, p_rwe]
  · rw [p_rwe]
  · simp (disch := omega) only [p_rwn]
    rw [cp2, if_neg (by omega), cp, if_pos (by omega)]
    have := (h10 i x y).1
    rw [← this]; congr 1; omega
  · simp (disch := omega) only [p_rwn]
    rw [cp2, if_pos (by omega), cp, if_neg (by omega)]
    have := (h10 i x y).2
    rw [← this]; congr 1; omega
theorem o_terms {A : k_H} {s : Int} (r : Rel A) : p_ok A (fun A => gX8_terms A s) (fun A => gX9_terms A s) := by
  have eS := r.2.2.2.1.1
  have hS := r.2.2.2.1.2.2.1
  obtain ⟨t1, t2, t3, t4⟩ := r.1
  unfold p_ok
  by_cases h0 : 0 ≤ s ∧ s < k_rd A 120 21
  · have hT : x_T (k_rd A 2) (k_rd A 1 1) := ⟨by omega, by omega, fun i x y => by have := t4 i x (by omega); omega⟩
    obtain ⟨A0, c1, c2, c3, c4, c5, c6⟩ := c_start (A := A) (Ln := k_rd A 1 1) rfl
    obtain ⟨f, kd, n, e, w, to⟩ := x_tok hT (p := 0) (by omega) (by omega)
    have to : x_to (k_rd A 2) (k_rd A 1 1) 0 f kd n e w := to
    have gv0 : x_gv (fun _ => 0) := by
      unfold x_gv
      exact ⟨by decide, by decide, by decide, by decide, Or.inl rfl, by decide, Or.inl rfl, Or.inl rfl, Or.inl rfl, fun i x y => by have y2 : i < 0 := y; omega⟩
    obtain ⟨N, hN⟩ := p_FU 201 (by decide)
    have lp := x_lp hT 200 0 f kd n e w (fun _ => 0) (by omega) (by omega) (by omega) (by show (0 : Int) ≤ 0; omega) gv0 to
    -- what the class has done before its tape is emptied: X; the reference's way from there
    have cst : gX8_terms A s = (k_bd (gX7_readText_h7 k_FU A0 0) fun r6 A7 => if r6 = 0 then (gX8_terms_b66 A7 (k_wr ((-1) - (k_rd A7 18 3)))) else (k_bd (gX6_copyFrom A7 (72 + 8 * s + 5) 19) fun r12 A13 => gX8_terms_b66 A13 (k_rd A13 18 1))) := by
      unfold gX8_terms gX8_terms_b0
      rw [h_X8isShow, k_bds, eS, p_bt h0, if_neg (by omega)]
      unfold gX7_readText gX7_readText_b0
      rw [c1, k_bds]
      simp only [if_pos (show 0 ≤ s ∧ s < ((6 : Nat) : Int) by omega)]
    have ref : ∀ D, (∀ a i : Int, (121 ≤ a ∧ a ≤ 149) ∨ (a = 120) ∨ (a = 150) → k_rd D a i = k_rd A a i) → ∃ B3, gX9_terms D s = gX9_terms_h59 k_FU B3 s ∧ x_m (k_rd A 2) (k_rd A 1 1) B3 ∧ x_tm B3 f kd n e w ∧ x_hm (fun _ => 0) B3 ∧ k_rd B3 120 39 = 0 ∧ k_rd B3 120 2 = 0 ∧ (∀ a i : Int, ¬ (a = 150 ∧ 72 ≤ i) → a ≠ 120 → k_rd B3 a i = k_rd D a i) ∧ (∀ i : Int, i ≠ 0 → i ≠ 2 → i ≠ 3 → i ≠ 4 → ¬ (36 ≤ i ∧ i ≤ 42) → k_rd B3 120 i = k_rd D 120 i) := by
      intro D hD
      have mt := m_taken (A := D) (L := k_rd A 1 1) (by rw [hD _ _ (by omega)]; exact t1.symm)
      obtain ⟨M, hM⟩ := p_FU 13 (by decide)
      have tk : ∀ a i : Int, (a ≠ 120 ∨ (i ≠ 0 ∧ i ≠ 2 ∧ i ≠ 3 ∧ i ≠ 4)) → k_rd (k_tk D (k_rd A 1 1)) a i = k_rd D a i := fun a i q => by unfold k_tk; simp (disch := omega) only [p_rwn]
      have tk3 : k_rd (k_tk D (k_rd A 1 1)) 120 3 = k_rd A 1 1 := by unfold k_tk; simp (disch := omega) only [p_rwn, p_rwe]
      have tk4 : k_rd (k_tk D (k_rd A 1 1)) 120 4 = 0 := by unfold k_tk; rw [p_rwe]
      have tk2 : k_rd (k_tk D (k_rd A 1 1)) 120 2 = 0 := by unfold k_tk; simp (disch := omega) only [p_rwn, p_rwe]
      generalize k_tk D (k_rd A 1 1) = K at mt tk tk3 tk4 tk2
      obtain ⟨F, u1, u2, u3⟩ := m_fresh (B := k_wt (k_wt K 120 39 0) 120 41 0) (s := s) 12 M (k_wt (k_wt K 120 39 0) 120 41 0) 0 (by omega) (by omega) (fun _ _ _ => rfl) (fun i x y => by omega)
      have xF : x_m (k_rd A 2) (k_rd A 1 1) F := ⟨by rw [u2 _ _ (by omega), p_rwn (by omega), p_rwn (by omega)]; exact tk3, fun i x y => by rw [u2 _ _ (by omega), p_rwn (by omega), p_rwn (by omega), tk _ _ (by omega), hD _ _ (by omega)]; exact (t4 i x y).1.symm⟩
      obtain ⟨B3, w1, w2, w3⟩ := to.2.2 F xF (by rw [u2 _ _ (by omega), p_rwn (by omega), p_rwn (by omega)]; exact tk4)
      refine ⟨B3, ?_, x_mF xF w3, w2, ⟨fun j j0 j1 => by rw [w3 _ _ (by omega)]; exact u3 j j0 j1, 0, by decide, ?_, by decide, by decide, by decide⟩, ?_, ?_, fun a i q1 q2 => ?_, fun i i0 i2 i3 i4 i5 => ?_⟩
      · unfold gX9_terms gX9_terms_b0
        rw [p_lt, mt, k_bds, h_X9isShow, k_bds, tk _ _ (by omega), hD _ _ (by omega), p_bt h0, if_neg (by omega), p_lt, p_lt, hM]
        have u4 : gX9_terms_h33 (M + 13) (k_wt (k_wt K 120 39 0) 120 41 0) s 0 = (k_bd (gX9_next F) fun _ A3 => gX9_terms_h59 k_FU A3 s) := u1
        rw [u4, w1, k_bds, ← hM]
      · rw [w3 _ _ (by omega), u2 _ _ (by omega), p_rwe]; rfl
      · rw [w3 _ _ (by omega), u2 _ _ (by omega), p_rwn (by omega), p_rwe]
      · rw [w3 _ _ (by omega), u2 _ _ (by omega), p_rwn (by omega), p_rwn (by omega)]; exact tk2
      · rw [w3 _ _ (by omega), u2 _ _ q1, p_rwn (by omega), p_rwn (by omega), tk _ _ (by omega)]
      · rw [w3 _ _ (by omega), u2 _ _ (by omega), p_rwn (by omega), p_rwn (by omega), tk _ _ (by omega)]
    rcases lp with ⟨flt, pl, pb, na, nb⟩ | ⟨g, gv, na, nb⟩
    · obtain ⟨A7, d1, d2⟩ := na N A0 0 c2 c3 c4 (by omega) (by omega)
      have d1' : gX7_readText_h7 k_FU A0 0 = some (0, A7) := by rw [hN]; exact d1
      have out : ∀ a i : Int, a < 18 ∨ 23 < a → (a ≠ 1 ∨ i ≠ 1) → k_rd (k_wt A7 1 1 0) a i = k_rd A a i := fun a i q z => by rw [p_rwn z, d2.2.2 a i q, c5 a i q]
      obtain ⟨B3, b1, b2, b3, b4, b5, b6, b7, b8⟩ := ref (k_wt A7 1 1 0) (fun a i q => out a i (by omega) (by omega))
      obtain ⟨B', e1, e2⟩ := nb N B3 s b2 b3 b4
      have e1' : gX9_terms_h59 k_FU B3 s = some (k_wr (-1 - pl), B') := by rw [hN]; exact e1
      refine ⟨k_wr (-1 - pl), k_wt A7 1 1 0, B', ?_, b1.trans e1', ?_⟩
      · show gX8_terms A s = _
        rw [cst, d1', k_bds, if_pos rfl, d2.2.1]
        unfold gX8_terms_b66
        rw [p_lt]
      · have ag : ∀ {P : Int → Int → Prop}, (∀ a i, P a i → (a < 18 ∨ 23 < a) ∧ (a ≠ 1 ∨ i ≠ 1) ∧ (a ≠ 120 ∨ (i ≠ 0 ∧ i ≠ 2 ∧ i ≠ 3 ∧ i ≠ 4 ∧ ¬ (36 ≤ i ∧ i ≤ 42))) ∧ ¬ (a = 150 ∧ 72 ≤ i)) → p_ag P A B' := fun h a i q => by
          have z := h a i q
          rw [e2.2.2 a i (by omega) z.2.2.2]
          by_cases y : a = 120
          · subst y
            rw [b8 i (by omega) (by omega) (by omega) (by omega) (by omega), out _ _ z.1 z.2.1]
          · rw [b7 a i z.2.2.2 y, out _ _ z.1 z.2.1]
        refine ⟨r_Tz r.1 ?_ ?_ (fun i => ?_) (fun i => ?_), p_fH (ag (by unfold p_H; omega)) r.2.1, p_fG (ag (by unfold p_G; omega)) r.2.2.1, p_fS (ag (by unfold p_S; omega)) r.2.2.2.1, p_fL (ag (by unfold p_L; omega)) r.2.2.2.2.1, p_fM (ag (by unfold p_M; omega)) r.2.2.2.2.2.1, ?_⟩
        · rw [e2.2.2 _ _ (by omega) (by omega), b7 _ _ (by omega) (by omega), p_rwe]
        · rw [e2.2.2 _ _ (by omega) (by omega)]; exact b6
        · rw [e2.2.2 _ _ (by omega) (by omega), b7 _ _ (by omega) (by omega), out _ _ (by omega) (by omega)]
        · rw [e2.2.2 _ _ (by omega) (by omega), b7 _ _ (by omega) (by omega), out _ _ (by omega) (by omega)]
        · show k_rd B' 18 2 = k_rd B' 120 39
          rw [e2.1, e2.2.2 _ _ (by omega) (by omega), b7 _ _ (by omega) (by omega), p_rwn (by omega)]
          exact d2.1
    · obtain ⟨A7, d1, d2, d3, d4⟩ := na N A0 0 c2 c3 c4 (by omega) (by omega)
      have d1' : gX7_readText_h7 k_FU A0 0 = some (1, A7) := by rw [hN]; exact d1
      obtain ⟨C, f1, f2, f3, f4, f5, f6, f7, f8⟩ := c_copyT (v := 72 + 8 * s + 5) (by omega) d2 gv
      have out : ∀ a i : Int, a < 18 ∨ 23 < a → (a ≠ 1 ∨ i ≠ 1) → (a < 72 + 8 * s + 5 ∨ 72 + 8 * s + 7 < a) → k_rd (k_wt C 1 1 0) a i = k_rd A a i := fun a i q z y => by rw [p_rwn z, f2 a i (by omega), d3 a i q, c5 a i q]
      obtain ⟨B3, b1, b2, b3, b4, b5, b6, b7, b8⟩ := ref (k_wt C 1 1 0) (fun a i q => out a i (by omega) (by omega) (by omega))
      obtain ⟨B', e1, e2, e3, e4⟩ := nb N B3 s b2 b3 b4
      have e1' : gX9_terms_h59 k_FU B3 s = gX9_terms_h82 k_FU B' s 0 := by
        have hN2 : N + 200 + 1 = k_FU := hN.symm
        have e9 := e1
        rw [hN2] at e9
        exact e9
      obtain ⟨M, hM⟩ := p_FU 13 (by decide)
      obtain ⟨F, g1, g2, g3⟩ := m_over (s := s) (by omega) e2.1 12 M B' 0 (by omega) (by omega) (fun _ _ _ => rfl) (fun i x y => by omega)
      have g1' : gX9_terms_h82 k_FU B' s 0 = some (g 11, F) := by rw [hM]; exact g1
      refine ⟨g 11, k_wt C 1 1 0, F, ?_, b1.trans (e1'.trans g1'), ?_⟩
      · show gX8_terms A s = _
        rw [cst, d1', k_bds, if_neg (by omega), f1, k_bds]
        unfold gX8_terms_b66
        rw [p_lt, f2 _ _ (by omega), d2.2.2.2.2.2.1]
      · have rdF : ∀ a i : Int, ¬ (a = 150 ∧ 72 ≤ i) → ¬ (a = 150 ∧ 12 * s ≤ i ∧ i < 12 * s + 12) → (a ≠ 120 ∨ (i ≠ 0 ∧ i ≠ 2 ∧ i ≠ 3 ∧ i ≠ 4 ∧ ¬ (36 ≤ i ∧ i ≤ 42))) → k_rd F a i = k_rd (k_wt C 1 1 0) a i := fun a i y1 y2 y3 => by
          rw [g2 a i y2, e3 a i (by omega) y1]
          by_cases y : a = 120
          · subst y
            rw [b8 i (by omega) (by omega) (by omega) (by omega) (by omega)]
          · rw [b7 a i y1 y]
        have ag : ∀ {P : Int → Int → Prop}, (∀ a i, P a i → (a < 18 ∨ 23 < a) ∧ (a ≠ 1 ∨ i ≠ 1) ∧ (a ≠ 120 ∨ (i ≠ 0 ∧ i ≠ 2 ∧ i ≠ 3 ∧ i ≠ 4 ∧ ¬ (36 ≤ i ∧ i ≤ 42))) ∧ a ≠ 150 ∧ (a < 72 + 8 * s + 5 ∨ 72 + 8 * s + 7 < a)) → p_ag P A F := fun h a i q => by
          have z := h a i q
          rw [rdF a i (by omega) (by omega) z.2.2.1, out a i z.1 z.2.1 z.2.2.2.2]
        refine ⟨r_Tz r.1 ?_ ?_ (fun i => ?_) (fun i => ?_), p_fH (ag (by unfold p_H; omega)) r.2.1, p_fG (ag (by unfold p_G; omega)) r.2.2.1, p_fS (ag (by unfold p_S; omega)) r.2.2.2.1, p_fL (ag (by unfold p_L; omega)) r.2.2.2.2.1, ?_, ?_⟩
        · rw [rdF _ _ (by omega) (by omega) (by omega), p_rwe]
        · rw [g2 _ _ (by omega), e3 _ _ (by omega) (by omega)]; exact b6
        · rw [rdF _ _ (by omega) (by omega) (by omega), out _ _ (by omega) (by omega) (by omega)]
        · rw [rdF _ _ (by omega) (by omega) (by omega), out _ _ (by omega) (by omega) (by omega)]
        · intro t t0 t1'
          have z := r.2.2.2.2.2.1 t t0 t1'
          by_cases y : t = s
          · subst y
            obtain ⟨v0, v1, v8, v9, v10, v11, v12, v13, v14, vs⟩ := gv
            have k0 := g3 0 (by omega) (by omega)
            rw [Int.add_zero] at k0
            have ca : ∀ i : Int, k_rd F (72 + 8 * t + 5) i = k_rd C (72 + 8 * t + 5) i := fun i => by rw [rdF _ _ (by omega) (by omega) (by omega), p_rwn (by omega)]
            rw [ca, ca, ca, ca, ca, k0, g3 1 (by omega) (by omega), g3 8 (by omega) (by omega), g3 9 (by omega) (by omega), g3 10 (by omega) (by omega)]
            refine ⟨⟨f4, v0⟩, ⟨f3, v1⟩, ⟨f5, v8⟩, ⟨f6, v9⟩, ⟨f7, by omega⟩, fun k k0 k1 => ?_⟩
            have q1 := g3 (2 + k) (by omega) (by omega)
            have q2 := g3 (5 + k) (by omega) (by omega)
            rw [show 12 * t + (2 + k) = 12 * t + 2 + k by omega] at q1
            rw [show 12 * t + (5 + k) = 12 * t + 5 + k by omega] at q2
            have f8' := f8 k k0 k1
            rw [q1, q2, rdF _ _ (by omega) (by omega) (by omega), p_rwn (by omega), rdF _ _ (by omega) (by omega) (by omega), p_rwn (by omega)]
            have vv := vs k k0 k1
            exact ⟨⟨f8'.1, vv.1⟩, f8'.2, vv.2⟩
          · have ca : ∀ a i : Int, 72 + 8 * t + 5 ≤ a → a ≤ 72 + 8 * t + 7 → k_rd F a i = k_rd A a i := fun a i x1 x2 => by rw [rdF _ _ (by omega) (by omega) (by omega), out _ _ (by omega) (by omega) (by omega)]
            have cm : ∀ j : Int, 0 ≤ j → j < 12 → k_rd F 150 (12 * t + j) = k_rd A 150 (12 * t + j) := fun j x1 x2 => by rw [rdF _ _ (by omega) (by omega) (by omega), out _ _ (by omega) (by omega) (by omega)]
            have c0 := cm 0 (by omega) (by omega)
            rw [Int.add_zero] at c0
            have ca5 : ∀ i : Int, k_rd F (72 + 8 * t + 5) i = k_rd A (72 + 8 * t + 5) i := fun i => ca _ _ (by omega) (by omega)
            rw [ca5, ca5, ca5, ca5, ca5, c0, cm 1 (by omega) (by omega), cm 8 (by omega) (by omega), cm 9 (by omega) (by omega), cm 10 (by omega) (by omega)]
            refine ⟨z.1, z.2.1, z.2.2.1, z.2.2.2.1, z.2.2.2.2.1, fun k k0 k1 => ?_⟩
            have z3 := z.2.1
            have q1 := cm (2 + k) (by omega) (by omega)
            have q2 := cm (5 + k) (by omega) (by omega)
            rw [show 12 * t + (2 + k) = 12 * t + 2 + k by omega] at q1
            rw [show 12 * t + (5 + k) = 12 * t + 5 + k by omega] at q2
            rw [q1, q2, ca (72 + 8 * t + 5 + 1) k (by omega) (by omega), ca (72 + 8 * t + 5 + 2) k (by omega) (by omega)]
            exact z.2.2.2.2.2 k k0 k1
        · show k_rd F 18 2 = k_rd F 120 39
          rw [g2 120 39 (by omega), e4, b5, rdF _ _ (by omega) (by omega) (by omega), p_rwn (by omega), f2 _ _ (by omega), d4]
          exact c6
  · refine ⟨-300, k_wt A 1 1 0, k_tk (k_wt A 1 1 0) (k_rd A 120 2), ?_, ?_, p_fail r⟩
    · show gX8_terms A s = _
      unfold gX8_terms gX8_terms_b0 gX8_terms_b66
      rw [h_X8isShow, k_bds, eS, p_bf h0, if_pos rfl, p_lt]
    · show gX9_terms (k_wt A 1 1 0) s = _
      unfold gX9_terms gX9_terms_b0
      rw [p_lt, m_taken (L := k_rd A 120 2) (by rw [p_rwn (by omega)]), k_bds, h_X9isShow, k_bds]
      have : k_rd (k_tk (k_wt A 1 1 0) (k_rd A 120 2)) 120 21 = k_rd A 120 21 := by unfold k_tk; simp (disch := omega) only [p_rwn]
      rw [this, p_bf h0, if_pos rfl]
