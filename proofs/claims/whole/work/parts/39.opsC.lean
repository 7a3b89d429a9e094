/-! give -/
theorem p_sumZ {f : Int → Int} (m : Nat) : ∀ n : Nat, m ≤ n → (∀ i : Int, m ≤ i → i < n → f i = 0) → p_sum f n = p_sum f m := by
  intro n
  induction n with
  | zero => intro h _; have : m = 0 := by omega
            rw [this]
  | succ n ih =>
    intro h hz
    by_cases e : m = n + 1
    · rw [e]
    · show p_sum f n + f n = _
      rw [ih (by omega) (fun i a b => hz i a (by omega)), hz n (by omega) (by omega), Int.add_zero]
def g_c (A : k_H) (h s i : Int) : Int := if i = s then 0 else k_rd A (24 + 4 * h + 3) i
def g_m (A : k_H) (h s i : Int) : Int := if i = s then 0 else k_rd A 136 (6 * h + i)
theorem c_others {A : k_H} {h s : Int} (hG : ∀ i : Int, 0 ≤ i → i < 6 → 0 ≤ k_rd A (24 + 4 * h + 3) i ∧ k_rd A (24 + 4 * h + 3) i ≤ 10) : gX1_givenToOthers A (24 + 4 * h) s = some (p_sum (g_c A h s) 6, A) := by
  unfold gX1_givenToOthers gX1_givenToOthers_b0
  have b : ∀ k : Nat, k ≤ 6 → 0 ≤ p_sum (g_c A h s) k ∧ p_sum (g_c A h s) k ≤ k * 10 := fun k hk => p_sumB k (fun i i0 i1 => by
    unfold g_c; split
    · omega
    · exact hG _ i0 (by omega))
  obtain ⟨N, hN⟩ := p_FU 7 (by decide)
  have e : N + 7 = (N + 1) + 6 := rfl
  have st := p_it (fun N (p : Int × Int) => gX1_givenToOthers_h4 N A (24 + 4 * h) s p.1 p.2) (fun k => (p_sum (g_c A h s) k, (k : Int))) 6 (fun N k hk => by
    show gX1_givenToOthers_h4 (N + 1) A (24 + 4 * h) s (p_sum (g_c A h s) k) k = gX1_givenToOthers_h4 N A (24 + 4 * h) s (p_sum (g_c A h s) k + g_c A h s k) ((k + 1 : Nat) : Int)
    have b0 := b k (by omega)
    have b1 := b (k + 1) (by omega)
    have b2 : p_sum (g_c A h s) (k + 1) = p_sum (g_c A h s) k + g_c A h s k := rfl
    rw [b2] at b1
    rw [gX1_givenToOthers_h4, if_pos (by omega)]
    simp only [gX1_givenToOthers_b24]
    rw [k_wr_of (x := (k : Int) + 1) (by omega) (by omega)]
    by_cases q : (k : Int) = s
    · have w : g_c A h s k = 0 := if_pos q
      rw [if_pos q, w, Int.add_zero]; rfl
    · have w : g_c A h s k = k_rd A (24 + 4 * h + 3) k := if_neg q
      rw [if_neg q, if_pos (by omega), ← w, k_wr_of (by omega) (by omega)]; rfl) (N + 1)
  rw [hN, e]
  refine st.trans ?_
  show gX1_givenToOthers_h4 (N + 1) A (24 + 4 * h) s (p_sum (g_c A h s) 6) 6 = _
  rw [gX1_givenToOthers_h4, if_neg (by omega)]
theorem m_others {A : k_H} {h s v : Int} {n : Nat} (hn : (n : Int) = k_rd A 120 21) (hn6 : n ≤ 6) (hh : 0 ≤ h ∧ h < 12) (hG : ∀ i : Int, 0 ≤ i → i < 6 → 0 ≤ k_rd A 136 (6 * h + i) ∧ k_rd A 136 (6 * h + i) ≤ 10) : gX9_give_h39 k_FU A h s v 0 0 = (if 10 < k_wr (p_sum (g_m A h s) n + v) then (some (0, A)) else (if 0 ≤ k_wr (k_wr (6 * h) + s) ∧ k_wr (k_wr (6 * h) + s) < ((72 : Nat) : Int) then some (1, k_wt A 136 (k_wr (k_wr (6 * h) + s)) v) else none)) := by
  have b : ∀ k : Nat, k ≤ 6 → 0 ≤ p_sum (g_m A h s) k ∧ p_sum (g_m A h s) k ≤ k * 10 := fun k hk => p_sumB k (fun i i0 i1 => by
    unfold g_m; split
    · omega
    · exact hG _ i0 (by omega))
  obtain ⟨N, hN⟩ := p_FU (n + 1) (by have : k_FU = 1073741824 := rfl; omega)
  have e : N + (n + 1) = (N + 1) + n := by omega
  have st := p_it (fun N (p : Int × Int) => gX9_give_h39 N A h s v p.1 p.2) (fun k => (p_sum (g_m A h s) k, (k : Int))) n (fun N k hk => by
    show gX9_give_h39 (N + 1) A h s v (p_sum (g_m A h s) k) k = gX9_give_h39 N A h s v (p_sum (g_m A h s) k + g_m A h s k) ((k + 1 : Nat) : Int)
    have b0 := b k (by omega)
    have b1 := b (k + 1) (by omega)
    have b2 : p_sum (g_m A h s) (k + 1) = p_sum (g_m A h s) k + g_m A h s k := rfl
    rw [b2] at b1
    rw [gX9_give_h39, if_pos (by omega)]
    simp only [gX9_give_b72]
    rw [k_wr_of (x := (k : Int) + 1) (by omega) (by omega), k_wr_of (x := 6 * h) (by omega) (by omega), k_wr_of (x := 6 * h + k) (by omega) (by omega)]
    by_cases q : (k : Int) = s
    · have w : g_m A h s k = 0 := if_pos q
      rw [if_pos q, w, k_wr_of (by omega) (by omega)]; rfl
    · have w : g_m A h s k = k_rd A 136 (6 * h + k) := if_neg q
      rw [if_neg q, if_pos (by omega), ← w, k_wr_of (by omega) (by omega)]; rfl) (N + 1)
  rw [hN, e]
  refine st.trans ?_
  show gX9_give_h39 (N + 1) A h s v (p_sum (g_m A h s) n) n = _
  rw [gX9_give_h39, if_neg (by omega)]
  rfl
theorem o_give {A : k_H} {h s v : Int} (r : Rel A) : p_ok A (fun A => gX8_give A h s v) (fun A => gX9_give A h s v) := by
  have eS := r.2.2.2.1.1
  have hS := r.2.2.2.1.2.2.1
  have hS0 := r.2.2.2.1.2.1
  have hH1 := r.2.1.1
  have hH2 := r.2.1.2.2.1
  unfold p_ok
  simp only [gX8_give, gX8_give_b0, gX9_give, gX9_give_b0, p_lt, h_X8isShow, h_X9isShow, h_X8isHall, h_X9isHall, h_X8within, k_bds, p_b0]
  rw [eS, hH1]
  by_cases h0 : 0 ≤ h ∧ h < k_rd A 120 20
  · by_cases h1 : 0 ≤ s ∧ s < k_rd A 120 21
    · rw [if_neg (not_not_intro h0), if_neg (not_not_intro h1)]
      by_cases h2 : 0 ≤ v ∧ v ≤ 10
      · have G := fun i i0 i1 => r.2.2.1 h i h0.1 (by omega) i0 i1
        rw [if_neg (not_not_intro h2), if_pos (by omega), c_others (fun i i0 i1 => by have q := G i i0 i1; omega), k_bds]
        have hn : ((k_rd A 120 21).toNat : Int) = k_rd A 120 21 := by omega
        have mo : ∀ B : k_H, (∀ i : Int, k_rd B 136 i = k_rd A 136 i) → k_rd B 120 21 = k_rd A 120 21 → gX9_give_h39 k_FU B h s v 0 0 = (if 10 < k_wr (p_sum (g_c A h s) 6 + v) then (some (0, B)) else (if 0 ≤ k_wr (k_wr (6 * h) + s) ∧ k_wr (k_wr (6 * h) + s) < ((72 : Nat) : Int) then some (1, k_wt B 136 (k_wr (k_wr (6 * h) + s)) v) else none)) := by
          intro B e1 e2
          rw [m_others (n := (k_rd A 120 21).toNat) (by omega) (by omega) (by omega) (fun i i0 i1 => by rw [e1]; have q := G i i0 i1; omega)]
          rw [← p_sumZ (k_rd A 120 21).toNat 6 (by omega) (fun i i0 i1 => by
            unfold g_m; split
            · rfl
            · rw [e1]; exact (G i (by omega) i1).2.2.2 (by omega))]
          rw [p_sumE (g := g_c A h s) 6 (fun i i0 i1 => by
            unfold g_m g_c; split
            · rfl
            · rw [e1]; exact ((G i (by omega) i1).1).symm)]
        have bo := p_sumB (f := g_c A h s) (B := 10) 6 (fun i i0 i1 => by
          unfold g_c; split
          · omega
          · have q := G i i0 i1; omega)
        have hv : ¬ v < 0 := by omega
        have w1 : k_wr (6 * h) = 6 * h := k_wr_of (by omega) (by omega)
        have w2 : k_wr (6 * h + s) = 6 * h + s := k_wr_of (by omega) (by omega)
        rw [k_wr_of (x := v + _) (by omega) (by omega)]
        by_cases h3 : 10 < v + p_sum (g_c A h s) 6
        · refine ⟨0, A, k_wt A 120 0 0, by rw [if_pos h3], ?_, p_fr0 r⟩
          rw [p_rwn (by omega), p_rwn (by omega), if_neg (not_not_intro h0), if_neg (not_not_intro h1), if_pos h2.1, if_neg (by omega)]
          rw [mo _ (fun i => p_rwn (by omega)) (p_rwn (by omega)), k_wr_of (x := _ + v) (by omega) (by omega), if_pos (by omega)]
        · refine ⟨1, k_wt A (24 + 4 * h + 3) s v, k_wt (k_wt (k_wt A (24 + 4 * h + 3) s v) 120 0 0) 136 (6 * h + s) v, by rw [if_neg h3, if_pos (by omega)], ?_, ?_⟩
          · rw [p_rwn (by omega), p_rwn (by omega), p_rwn (by omega), p_rwn (by omega), if_neg (not_not_intro h0), if_neg (not_not_intro h1), if_pos h2.1, if_neg (by omega)]
            rw [mo _ (fun i => by rw [p_rwn (by omega), p_rwn (by omega)]) (by rw [p_rwn (by omega), p_rwn (by omega)]), k_wr_of (x := _ + v) (by omega) (by omega), if_neg (by omega), w1, w2, if_pos (by omega)]
          · have ag : ∀ {P : Int → Int → Prop}, ¬ P (24 + 4 * h + 3) s → ¬ P 120 0 → ¬ P 136 (6 * h + s) → p_ag P A (k_wt (k_wt (k_wt A (24 + 4 * h + 3) s v) 120 0 0) 136 (6 * h + s) v) := fun a b c => p_agw (p_agw (p_agw p_agr a) b) c
            refine ⟨p_fT (ag (by unfold p_T; omega) (by unfold p_T; omega) (by unfold p_T; omega)) r.1, p_fH (ag (by unfold p_H; omega) (by unfold p_H; omega) (by unfold p_H; omega)) r.2.1, ?_, p_fS (ag (by unfold p_S; omega) (by unfold p_S; omega) (by unfold p_S; omega)) r.2.2.2.1, p_fL (ag (by unfold p_L; omega) (by unfold p_L; omega) (by unfold p_L; omega)) r.2.2.2.2.1, p_fM (ag (by unfold p_M; omega) (by unfold p_M; omega) (by unfold p_M; omega)) r.2.2.2.2.2.1, p_fF (ag (by unfold p_F; omega) (by unfold p_F; omega) (by unfold p_F; omega)) r.2.2.2.2.2.2⟩
            intro t m t0 t1 m0 m1
            have z := r.2.2.1 t m t0 t1 m0 m1
            rw [p_rwn (a := 136) (b := 120) (by omega), p_rwn (a := 120) (b := 120) (by omega), p_rwn (b := 120) (by omega)]
            by_cases y : t = h ∧ m = s
            · rw [y.1, y.2] at z ⊢
              rw [p_rwe, p_rwn (a := 136) (by omega), p_rwn (a := 120) (by omega), p_rwe]
              exact ⟨rfl, h2.1, h2.2, fun w => absurd w (by omega)⟩
            · rw [p_rwn (a := 136) (b := 136) (by omega), p_rwn (a := 120) (b := 136) (by omega), p_rwn (b := 136) (by omega), p_rwn (a := 136) (by omega), p_rwn (a := 120) (by omega), p_rwn (by omega)]
              exact z
      · refine ⟨0, A, k_wt A 120 0 0, by rw [if_pos h2], ?_, p_fr0 r⟩
        rw [p_rwn (by omega), p_rwn (by omega), if_neg (not_not_intro h0), if_neg (not_not_intro h1)]
        split
        · rw [if_pos (by omega)]
        · rfl
    · exact ⟨0, A, k_wt A 120 0 0, by rw [if_neg (not_not_intro h0), if_pos h1], by rw [p_rwn (by omega), p_rwn (by omega), if_neg (not_not_intro h0), if_pos h1], p_fr0 r⟩
  · exact ⟨0, A, k_wt A 120 0 0, by rw [if_pos h0], by rw [p_rwn (by omega), if_pos h0], p_fr0 r⟩
