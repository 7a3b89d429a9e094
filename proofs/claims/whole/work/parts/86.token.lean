/-! terms: one token, both sides -/
def x_tc (A : k_H) (f kd n e : Int) : Prop := k_rd A 18 9 = f ∧ k_rd A 18 10 = kd ∧ k_rd A 18 8 = e ∧ (kd = 2 → k_rd A 18 11 = n)
def x_tm (A : k_H) (f kd n e w : Int) : Prop := k_rd A 120 37 = f ∧ k_rd A 120 36 = (if kd = 0 then 4 else if kd = 4 then 0 else kd) ∧ k_rd A 120 4 = e ∧ (kd = 2 → k_rd A 120 38 = n) ∧ (kd = 1 → k_rd A 120 42 = w)
def x_fc (A B : k_H) : Prop := ∀ a i : Int, ¬ (a = 18 ∧ 8 ≤ i ∧ i ≤ 11) → k_rd B a i = k_rd A a i
def x_gm (A B : k_H) : Prop := ∀ a i : Int, ¬ (a = 120 ∧ (i = 4 ∨ i = 36 ∨ i = 37 ∨ i = 38 ∨ i = 42)) → k_rd B a i = k_rd A a i
def x_ok (T : Int → Int) (Ln p f kd n e w : Int) : Prop := p ≤ f ∧ f ≤ e ∧ e ≤ Ln ∧ (0 ≤ kd ∧ kd ≤ 4) ∧ (kd = 4 → f = Ln) ∧ (kd ≠ 4 → f < e) ∧ (kd = 2 → 0 ≤ n ∧ n ≤ 99999) ∧ (kd = 1 → (∀ i : Int, f ≤ i → i < e → 97 ≤ T i ∧ T i ≤ 122) ∧ w = if e - f ≤ 8 then x_pk T (e - f).toNat f 0 else 0)
theorem x_tok {T : Int → Int} {Ln : Int} (hT : x_T T Ln) {p : Int} (p0 : 0 ≤ p) (pL : p ≤ Ln) : ∃ f kd n e w : Int, x_ok T Ln p f kd n e w ∧ (∀ A, x_c T Ln A → k_rd A 18 8 = p → ∃ A', gX7_nextToken A = some (0, A') ∧ x_tc A' f kd n e ∧ x_fc A A') ∧ (∀ A, x_m T Ln A → k_rd A 120 4 = p → ∃ A', gX9_next A = some (0, A') ∧ x_tm A' f kd n e w ∧ x_gm A A') := by
  have hL := hT.2.1
  obtain ⟨f, f1, f2, f3, f4, f5⟩ := x_sk hT (Ln - p).toNat p p0 (by omega)
  have sc : ∀ A, x_c T Ln A → k_rd A 18 8 = p → gX7_nextToken A = gX7_nextToken_b44 (k_wt A 18 8 f) := by
    intro A hA h8
    obtain ⟨N, hN⟩ := p_FU ((Ln - p).toNat + 1) (by have : k_FU = 1073741824 := rfl; omega)
    unfold gX7_nextToken
    rw [hN]
    exact f4 N A hA h8
  have sm : ∀ A, x_m T Ln A → k_rd A 120 4 = p → gX9_next A = x_a (k_wt A 120 4 f) := by
    intro A hA h4
    obtain ⟨N, hN⟩ := p_FU ((Ln - p).toNat + 1) (by have : k_FU = 1073741824 := rfl; omega)
    unfold gX9_next
    rw [hN]
    exact f5 N A hA h4
  by_cases fe : f = Ln
  · -- the end of the text
    refine ⟨f, 4, 0, f, 0, ⟨f1, Int.le_refl _, f2, by omega, fun _ => fe, fun q => absurd rfl q, fun q => by omega, fun q => by omega⟩, fun A hA h8 => ?_, fun A hA h4 => ?_⟩
    · rw [sc A hA h8]
      unfold gX7_nextToken_b44
      rw [p_lt, p_rwe, p_rwn (by omega), p_rwe, h_byt hT (x_cw (x_cw hA (by omega)) (by omega)) (by omega), k_bds, if_neg (by omega : ¬ f < Ln), if_pos rfl, p_lt]
      refine ⟨_, rfl, ⟨?_, ?_, ?_, fun q => by omega⟩, fun a i q => ?_⟩
      · rw [p_rwn (by omega), p_rwe]
      · rw [p_rwe]
      · rw [p_rwn (by omega), p_rwn (by omega), p_rwe]
      · rw [p_rwn (by omega), p_rwn (by omega), p_rwn (by omega)]
    · rw [sm A hA h4]
      unfold x_a
      rw [p_lt, p_rwe, h_pk hT (x_mw (x_mw hA (by omega)) (by omega)) (p := f) (by rw [p_rwn (by omega), p_rwe]) (by omega), k_bds, if_neg (by omega : ¬ f < Ln), if_pos (by omega), p_lt]
      refine ⟨_, rfl, ⟨?_, ?_, ?_, fun q => by omega, fun q => by omega⟩, fun a i q => ?_⟩
      · rw [p_rwn (by omega), p_rwe]
      · rw [p_rwe]; rfl
      · rw [p_rwn (by omega), p_rwn (by omega), p_rwe]
      · rw [p_rwn (by omega), p_rwn (by omega), p_rwn (by omega)]
  · have fl : f < Ln := by omega
    have cb := hT.2.2 f (by omega) fl
    by_cases z : x_l (T f) = 0 ∧ x_d (T f) = 0
    · -- one sign
      refine ⟨f, if T f = 59 then 3 else 0, 0, f + 1, 0, ⟨f1, by omega, by omega, by split <;> omega, fun q => ?_, fun _ => by omega, fun q => ?_, fun q => ?_⟩, fun A hA h8 => ?_, fun A hA h4 => ?_⟩
      · exfalso; revert q; split <;> omega
      · exfalso; revert q; split <;> omega
      · exfalso; revert q; split <;> omega
      · rw [sc A hA h8]
        unfold gX7_nextToken_b44
        rw [p_lt, p_rwe, p_rwn (by omega), p_rwe, h_byt hT (x_cw (x_cw hA (by omega)) (by omega)) (by omega), k_bds, if_pos fl, if_neg (by omega), h_let, k_bds, if_pos z.1, h_dig, k_bds, if_pos z.2, p_lt, p_rwn (by omega), p_rwe, k_wr_of (x := f + 1) (by omega) (by omega)]
        simp only [gX7_nextToken_b120, p_lt]
        have fin : ∀ v : Int, v ≠ 2 → ∃ A', some (0, k_wt (k_wt (k_wt (k_wt A 18 8 f) 18 9 f) 18 8 (f + 1)) 18 10 v) = some ((0 : Int), A') ∧ x_tc A' f v 0 (f + 1) ∧ x_fc A A' := by
          intro v hv
          refine ⟨_, rfl, ⟨?_, ?_, ?_, fun q => absurd q hv⟩, fun a i q => ?_⟩
          · rw [p_rwn (by omega), p_rwn (by omega), p_rwe]
          · rw [p_rwe]
          · rw [p_rwn (by omega), p_rwe]
          · rw [p_rwn (by omega), p_rwn (by omega), p_rwn (by omega), p_rwn (by omega)]
        by_cases y : T f = 59
        · rw [if_pos y, if_pos y]; exact fin 3 (by omega)
        · rw [if_neg y, if_neg y]; exact fin 0 (by omega)
      · rw [sm A hA h4]
        unfold x_a
        rw [p_lt, p_rwe, h_pk hT (x_mw (x_mw hA (by omega)) (by omega)) (p := f) (by rw [p_rwn (by omega), p_rwe]) (by omega), k_bds, if_pos fl, if_neg (by omega), h_sml, k_bds, if_pos z.1, h_dgm, k_bds, if_pos z.2]
        simp only [gX9_next_b80, p_lt]
        have fin : ∀ v kd : Int, (v = if kd = 0 then 4 else if kd = 4 then 0 else kd) → kd ≠ 1 → kd ≠ 2 → ∃ A', some (0, k_wt (k_wt (k_wt (k_wt A 120 4 f) 120 37 f) 120 36 v) 120 4 (k_wr (k_rd (k_wt (k_wt (k_wt A 120 4 f) 120 37 f) 120 36 v) 120 4 + 1))) = some ((0 : Int), A') ∧ x_tm A' f kd 0 (f + 1) 0 ∧ x_gm A A' := by
          intro v kd hv k1 k2
          refine ⟨_, rfl, ⟨?_, ?_, ?_, fun q => absurd q k2, fun q => absurd q k1⟩, fun a i q => ?_⟩
          · rw [p_rwn (by omega), p_rwn (by omega), p_rwe]
          · rw [p_rwn (by omega), p_rwe, hv]
          · rw [p_rwe, p_rwn (by omega), p_rwn (by omega), p_rwe, k_wr_of (by omega) (by omega)]
          · rw [p_rwn (by omega), p_rwn (by omega), p_rwn (by omega), p_rwn (by omega)]
        by_cases y : T f = 59
        · rw [if_pos y, if_pos y]; exact fin 3 3 (by decide) (by omega) (by omega)
        · rw [if_neg y, if_neg y]; exact fin 4 0 (by decide) (by omega) (by omega)
    · -- a run
      have z2 : x_l (T f) ≠ 0 ∨ x_d (T f) ≠ 0 := by
        by_cases y : x_l (T f) = 0
        · exact Or.inr (fun w => z ⟨y, w⟩)
        · exact Or.inl y
      obtain ⟨k, k1, kp, k2, k3, k4⟩ := x_rn hT (Ln - f).toNat f (by omega) (by omega)
      have cB := x_lcB (T := T) k f
      have kpos := kp fl z2
      obtain ⟨N, hN⟩ := p_FU ((Ln - f).toNat + 1) (by have : k_FU = 1073741824 := rfl; omega)
      have ek : (f + (k : Int) - f).toNat = k := by omega
      have dg : q_af (x_lc T) k f = 0 → ∀ i : Int, f ≤ i → i < f + k → x_l (T i) = 0 ∧ 48 ≤ T i ∧ T i ≤ 57 := by
        intro c0 i x y
        have l0 := x_lcD k f c0 i x y
        rcases k2 i x y with h | h
        · exact absurd l0 h
        · exact ⟨l0, x_d1.1 h⟩
      refine ⟨f, if q_af (x_lc T) k f = k then 1 else if q_af (x_lc T) k f = 0 ∧ k ≤ 5 then 2 else 0, x_v T k f 0, f + k, if k ≤ 8 then x_w T k f 0 0 else 0, ⟨f1, by omega, k1, ?_, fun q => ?_, fun _ => by omega, fun q => ?_, fun q => ?_⟩, fun A hA h8 => ?_, fun A hA h4 => ?_⟩
      · split
        · omega
        · split <;> omega
      · exfalso; revert q
        split
        · omega
        · split <;> omega
      · by_cases y1 : q_af (x_lc T) k f = k
        · rw [if_pos y1] at q; omega
        · rw [if_neg y1] at q
          by_cases y2 : q_af (x_lc T) k f = 0 ∧ k ≤ 5
          · have pw : ∀ m : Nat, m ≤ 5 → (1 : Int) * 10 ^ m ≤ 100000 := by decide
            exact x_vB k f 0 1 (Int.le_refl _) (by omega) (pw k y2.2) (dg y2.1)
          · rw [if_neg y2] at q; omega
      · by_cases y1 : q_af (x_lc T) k f = k
        · have al := x_lcL k f y1
          have al2 : ∀ i : Int, f ≤ i → i < f + k → 97 ≤ T i ∧ T i ≤ 122 := fun i x y => x_l1.1 (by rw [al i x y]; omega)
          refine ⟨al2, ?_⟩
          rw [ek]
          by_cases k8 : k ≤ 8
          · rw [if_pos k8, if_pos (by omega), x_wE ⟨kpos, k8⟩ al2]
          · rw [if_neg k8, if_neg (by omega)]
        · rw [if_neg y1] at q
          exfalso; revert q
          split <;> omega
      · rw [sc A hA h8]
        unfold gX7_nextToken_b44
        rw [p_lt, p_rwe, p_rwn (by omega), p_rwe, h_byt hT (x_cw (x_cw hA (by omega)) (by omega)) (by omega), k_bds, if_pos fl, if_neg (by omega), h_let, k_bds, h_dig, k_bds]
        have rr : gX7_nextToken_b91 (k_wt (k_wt A 18 8 f) 18 9 f) = k_bd (gX7_readRun_b100 (k_wt (k_wt (k_wt A 18 8 f) 18 9 f) 18 8 (f + k)) (q_af (x_lc T) k f) (x_v T k f 0)) (fun _ A2 => some (0, A2)) := by
          unfold gX7_nextToken_b91 gX7_readRun gX7_readRun_b0
          have := k3 N (k_wt (k_wt A 18 8 f) 18 9 f) 0 0 (x_cw (x_cw hA (by omega)) (by omega)) (by rw [p_rwn (by omega), p_rwe]) (Int.le_refl _) (by omega)
          rw [Int.zero_add] at this
          rw [hN, ← this]
          rfl
        have res : ∃ A', gX7_nextToken_b91 (k_wt (k_wt A 18 8 f) 18 9 f) = some (0, A') ∧ x_tc A' f (if q_af (x_lc T) k f = k then 1 else if q_af (x_lc T) k f = 0 ∧ k ≤ 5 then 2 else 0) (x_v T k f 0) (f + k) ∧ x_fc A A' := by
          rw [rr]
          unfold gX7_readRun_b100
          simp only [gX7_readRun_b145, p_lt]
          rw [p_rwe, p_rwn (b := 18) (j := 9) (by omega), p_rwe, show f + (k : Int) - f = k by omega, k_wr_of (x := (k : Int)) (by omega) (by omega)]
          have fin : ∀ v : Int, v ≠ 2 → ∃ A', k_bd (some (0, k_wt (k_wt (k_wt (k_wt A 18 8 f) 18 9 f) 18 8 (f + k)) 18 10 v)) (fun _ A2 => some (0, A2)) = some ((0 : Int), A') ∧ x_tc A' f v (x_v T k f 0) (f + k) ∧ x_fc A A' := by
            intro v hv
            refine ⟨_, rfl, ⟨?_, ?_, ?_, fun q => absurd q hv⟩, fun a i q => ?_⟩
            · rw [p_rwn (by omega), p_rwn (by omega), p_rwe]
            · rw [p_rwe]
            · rw [p_rwn (by omega), p_rwe]
            · rw [p_rwn (by omega), p_rwn (by omega), p_rwn (by omega), p_rwn (by omega)]
          by_cases y1 : q_af (x_lc T) k f = k
          · rw [if_pos y1, if_pos y1]; exact fin 1 (by omega)
          · rw [if_neg y1, if_neg y1]
            by_cases y2 : q_af (x_lc T) k f = 0
            · rw [if_pos y2]
              by_cases y3 : k ≤ 5
              · rw [if_pos (by omega), if_pos ⟨y2, y3⟩]
                refine ⟨_, rfl, ⟨?_, ?_, ?_, fun _ => ?_⟩, fun a i q => ?_⟩
                · rw [p_rwn (by omega), p_rwn (by omega), p_rwn (by omega), p_rwe]
                · rw [p_rwn (by omega), p_rwe]
                · rw [p_rwn (by omega), p_rwn (by omega), p_rwe]
                · rw [p_rwe]
                · rw [p_rwn (by omega), p_rwn (by omega), p_rwn (by omega), p_rwn (by omega), p_rwn (by omega)]
              · rw [if_neg (by omega), if_neg (fun q => y3 q.2)]; exact fin 0 (by omega)
            · rw [if_neg y2, if_neg (fun q => y2 q.1)]; exact fin 0 (by omega)
        by_cases y : x_l (T f) = 0
        · rw [if_pos y, if_neg (fun w => z ⟨y, w⟩)]; exact res
        · rw [if_neg y]; exact res
      · rw [sm A hA h4]
        unfold x_a
        rw [p_lt, p_rwe, h_pk hT (x_mw (x_mw hA (by omega)) (by omega)) (p := f) (by rw [p_rwn (by omega), p_rwe]) (by omega), k_bds, if_pos fl, if_neg (by omega), h_sml, k_bds, h_dgm, k_bds]
        have rr : gX9_next_b94 (k_wt (k_wt A 120 4 f) 120 37 f) (T f) = (fun B => if 8 < (k : Int) then gX9_next_b232 (k_wt B 120 42 0) (x_l (T f)) (x_al T (x_l (T f)) k f 1) k else gX9_next_b232 B (x_l (T f)) (x_al T (x_l (T f)) k f 1) k) (k_wt (k_wt (k_wt (k_wt (k_wt (k_wt (k_wt A 120 4 f) 120 37 f) 120 42 0) 120 38 0) 120 42 (x_w T k f 0 0)) 120 38 (x_n T k f 0 0)) 120 4 (f + k)) := by
          unfold gX9_next_b94
          have := k4 N (k_wt (k_wt (k_wt (k_wt A 120 4 f) 120 37 f) 120 42 0) 120 38 0) (x_l (T f)) 1 0 0 0 (x_mw (x_mw (x_mw (x_mw hA (by omega)) (by omega)) (by omega)) (by omega)) (by rw [p_rwn (by omega), p_rwn (by omega), p_rwn (by omega), p_rwe]) (by rw [p_rwn (by omega), p_rwe]) p_rwe (Int.le_refl _) (by omega)
          rw [Int.zero_add] at this
          rw [h_sml, k_bds, p_lt, p_lt, hN, ← this]
          rfl
        have rd : ∀ (B : k_H) (i : Int), (i ≠ 42 ∧ i ≠ 38 ∧ i ≠ 4 ∧ i ≠ 37) → k_rd (k_wt (k_wt (k_wt (k_wt (k_wt (k_wt (k_wt A 120 4 f) 120 37 f) 120 42 0) 120 38 0) 120 42 (x_w T k f 0 0)) 120 38 (x_n T k f 0 0)) 120 4 (f + k)) 120 i = k_rd A 120 i := fun B i q => by
          rw [p_rwn (by omega), p_rwn (by omega), p_rwn (by omega), p_rwn (by omega), p_rwn (by omega), p_rwn (by omega), p_rwn (by omega)]
        have r4 : k_rd (k_wt (k_wt (k_wt (k_wt (k_wt (k_wt (k_wt A 120 4 f) 120 37 f) 120 42 0) 120 38 0) 120 42 (x_w T k f 0 0)) 120 38 (x_n T k f 0 0)) 120 4 (f + k)) 120 4 = f + k := p_rwe
        have r38 : k_rd (k_wt (k_wt (k_wt (k_wt (k_wt (k_wt (k_wt A 120 4 f) 120 37 f) 120 42 0) 120 38 0) 120 42 (x_w T k f 0 0)) 120 38 (x_n T k f 0 0)) 120 4 (f + k)) 120 38 = x_n T k f 0 0 := by rw [p_rwn (by omega), p_rwe]
        have r42 : k_rd (k_wt (k_wt (k_wt (k_wt (k_wt (k_wt (k_wt A 120 4 f) 120 37 f) 120 42 0) 120 38 0) 120 42 (x_w T k f 0 0)) 120 38 (x_n T k f 0 0)) 120 4 (f + k)) 120 42 = x_w T k f 0 0 := by rw [p_rwn (by omega), p_rwn (by omega), p_rwe]
        have r37 : k_rd (k_wt (k_wt (k_wt (k_wt (k_wt (k_wt (k_wt A 120 4 f) 120 37 f) 120 42 0) 120 38 0) 120 42 (x_w T k f 0 0)) 120 38 (x_n T k f 0 0)) 120 4 (f + k)) 120 37 = f := by rw [p_rwn (by omega), p_rwn (by omega), p_rwn (by omega), p_rwn (by omega), p_rwn (by omega), p_rwe]
        have rfr : x_gm A (k_wt (k_wt (k_wt (k_wt (k_wt (k_wt (k_wt A 120 4 f) 120 37 f) 120 42 0) 120 38 0) 120 42 (x_w T k f 0 0)) 120 38 (x_n T k f 0 0)) 120 4 (f + k)) := fun a i q => by
          rw [p_rwn (by omega), p_rwn (by omega), p_rwn (by omega), p_rwn (by omega), p_rwn (by omega), p_rwn (by omega), p_rwn (by omega)]
        generalize k_wt (k_wt (k_wt (k_wt (k_wt (k_wt (k_wt A 120 4 f) 120 37 f) 120 42 0) 120 38 0) 120 42 (x_w T k f 0 0)) 120 38 (x_n T k f 0 0)) 120 4 (f + k) = B at rr r4 r38 r42 r37 rfr
        -- the kind, as the reference finds it
        have kd : ∀ C, gX9_next_b232 C (x_l (T f)) (x_al T (x_l (T f)) k f 1) k = some (0, k_wt C 120 36 (if (if q_af (x_lc T) k f = k then (1 : Int) else if q_af (x_lc T) k f = 0 ∧ k ≤ 5 then 2 else 0) = 0 then 4 else if (if q_af (x_lc T) k f = k then (1 : Int) else if q_af (x_lc T) k f = 0 ∧ k ≤ 5 then 2 else 0) = 4 then 0 else (if q_af (x_lc T) k f = k then (1 : Int) else if q_af (x_lc T) k f = 0 ∧ k ≤ 5 then 2 else 0))) := by
          intro C
          unfold gX9_next_b232
          simp only [gX9_next_b247, gX9_next_b251, gX9_next_b260, p_lt]
          rcases x_l0 (T f) with l | l
          · have ne : ¬ q_af (x_lc T) k f = k := fun e => by
              have := x_lcL k f e f (Int.le_refl _) (by omega)
              omega
            by_cases y2 : q_af (x_lc T) k f = 0
            · by_cases y3 : k ≤ 5
              · have e : (if q_af (x_lc T) k f = k then (1 : Int) else if q_af (x_lc T) k f = 0 ∧ k ≤ 5 then 2 else 0) = 2 := by rw [if_neg ne, if_pos ⟨y2, y3⟩]
                rw [e, l, x_al0, if_pos y2, if_neg (by omega : ¬ (1 : Int) = 0), if_pos (rfl : (0 : Int) = 0), if_neg (by omega : ¬ 5 < (k : Int)), if_pos (rfl : (0 : Int) = 0), if_neg (by omega : ¬ (2 : Int) = 0), if_neg (by omega : ¬ (2 : Int) = 4)]
              · have e : (if q_af (x_lc T) k f = k then (1 : Int) else if q_af (x_lc T) k f = 0 ∧ k ≤ 5 then 2 else 0) = 0 := by rw [if_neg ne, if_neg (fun q => y3 q.2)]
                rw [e, l, x_al0, if_pos y2, if_neg (by omega : ¬ (1 : Int) = 0), if_pos (rfl : (0 : Int) = 0), if_pos (by omega : 5 < (k : Int)), if_pos (rfl : (0 : Int) = 0)]
            · have e : (if q_af (x_lc T) k f = k then (1 : Int) else if q_af (x_lc T) k f = 0 ∧ k ≤ 5 then 2 else 0) = 0 := by rw [if_neg ne, if_neg (fun q => y2 q.1)]
              rw [e, l, x_al0, if_neg y2, if_pos (rfl : (0 : Int) = 0), if_pos (rfl : (0 : Int) = 0)]
          · have ne : ¬ q_af (x_lc T) k f = 0 := fun e => by
              have := x_lcD k f e f (Int.le_refl _) (by omega)
              omega
            by_cases y1 : q_af (x_lc T) k f = k
            · have e : (if q_af (x_lc T) k f = k then (1 : Int) else if q_af (x_lc T) k f = 0 ∧ k ≤ 5 then 2 else 0) = 1 := by rw [if_pos y1]
              rw [e, l, x_al1, if_pos y1, if_neg (by omega : ¬ (1 : Int) = 0), if_neg (by omega : ¬ (1 : Int) = 0), if_neg (by omega : ¬ (1 : Int) = 0), if_neg (by omega : ¬ (1 : Int) = 4)]; rfl
            · have e : (if q_af (x_lc T) k f = k then (1 : Int) else if q_af (x_lc T) k f = 0 ∧ k ≤ 5 then 2 else 0) = 0 := by rw [if_neg y1, if_neg (fun q => ne q.1)]
              rw [e, l, x_al1, if_neg y1, if_pos (rfl : (0 : Int) = 0), if_pos (rfl : (0 : Int) = 0)]
        have res : ∃ A', gX9_next_b94 (k_wt (k_wt A 120 4 f) 120 37 f) (T f) = some (0, A') ∧ x_tm A' f (if q_af (x_lc T) k f = k then 1 else if q_af (x_lc T) k f = 0 ∧ k ≤ 5 then 2 else 0) (x_v T k f 0) (f + k) (if k ≤ 8 then x_w T k f 0 0 else 0) ∧ x_gm A A' := by
          rw [rr]
          have num : (if q_af (x_lc T) k f = k then (1 : Int) else if q_af (x_lc T) k f = 0 ∧ k ≤ 5 then 2 else 0) = 2 → x_n T k f 0 0 = x_v T k f 0 := by
            intro q
            by_cases y1 : q_af (x_lc T) k f = k
            · rw [if_pos y1] at q; omega
            · rw [if_neg y1] at q
              by_cases y2 : q_af (x_lc T) k f = 0 ∧ k ≤ 5
              · exact (x_vn k f 0 0 (by omega) (fun i x y => (dg y2.1 i x y).1)).symm
              · rw [if_neg y2] at q; omega
          show ∃ A', (if 8 < (k : Int) then gX9_next_b232 (k_wt B 120 42 0) (x_l (T f)) (x_al T (x_l (T f)) k f 1) k else gX9_next_b232 B (x_l (T f)) (x_al T (x_l (T f)) k f 1) k) = some (0, A') ∧ _
          rw [kd, kd]
          by_cases k8 : k ≤ 8
          · rw [if_neg (by omega), if_pos k8]
            refine ⟨_, rfl, ⟨?_, ?_, ?_, fun q => ?_, fun q => ?_⟩, fun a i q => ?_⟩
            · rw [p_rwn (by omega)]; exact r37
            · rw [p_rwe]
            · rw [p_rwn (by omega)]; exact r4
            · rw [p_rwn (by omega), r38]; exact num q
            · rw [p_rwn (by omega)]; exact r42
            · rw [p_rwn (by omega)]; exact rfr a i q
          · rw [if_pos (by omega), if_neg k8]
            refine ⟨_, rfl, ⟨?_, ?_, ?_, fun q => ?_, fun q => ?_⟩, fun a i q => ?_⟩
            · rw [p_rwn (by omega), p_rwn (by omega)]; exact r37
            · rw [p_rwe]
            · rw [p_rwn (by omega), p_rwn (by omega)]; exact r4
            · rw [p_rwn (by omega), p_rwn (by omega), r38]; exact num q
            · rw [p_rwn (by omega), p_rwe]
            · rw [p_rwn (by omega), p_rwn (by omega)]; exact rfr a i q
        by_cases y : x_l (T f) = 0
        · rw [if_pos y, if_neg (fun w => z ⟨y, w⟩)]; exact res
        · rw [if_neg y]; exact res
