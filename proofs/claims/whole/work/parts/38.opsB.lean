/-! loops that count -/
theorem p_it {S R : Type} (H : Nat → S → R) (x : Nat → S) (L : Nat) (st : ∀ N k, k < L → H (N + 1) (x k) = H N (x (k + 1))) (N : Nat) : H (N + L) (x 0) = H N (x L) := by
  have : ∀ m, m ≤ L → H (N + L) (x 0) = H (N + (L - m)) (x m) := by
    intro m
    induction m with
    | zero => intro _; rfl
    | succ m ih =>
      intro hm
      rw [ih (by omega)]
      have e : N + (L - m) = (N + (L - (m + 1))) + 1 := by omega
      rw [e, st _ m (by omega)]
  have := this L (Nat.le_refl _)
  rwa [Nat.sub_self] at this
def p_sum (f : Int → Int) : Nat → Int
  | 0 => 0
  | n + 1 => p_sum f n + f n
theorem p_sumB {f : Int → Int} {B : Int} : ∀ n : Nat, (∀ i : Int, 0 ≤ i → i < n → 0 ≤ f i ∧ f i ≤ B) → 0 ≤ p_sum f n ∧ p_sum f n ≤ n * B := by
  intro n
  induction n with
  | zero => intro _; exact ⟨Int.le_refl _, by simp [p_sum]⟩
  | succ n ih =>
    intro h
    have h1 := ih (fun i a b => h i a (by omega))
    have h2 := h n (by omega) (by omega)
    have e : ((n + 1 : Nat) : Int) * B = n * B + B := by rw [Int.natCast_add, Int.add_mul]; simp
    rw [e]
    show 0 ≤ p_sum f n + f n ∧ p_sum f n + f n ≤ _
    omega
theorem p_sumE {f g : Int → Int} : ∀ n : Nat, (∀ i : Int, 0 ≤ i → i < n → f i = g i) → p_sum f n = p_sum g n := by
  intro n
  induction n with
  | zero => intro _; rfl
  | succ n ih =>
    intro h
    show p_sum f n + f n = p_sum g n + g n
    rw [ih (fun i a b => h i a (by omega)), h n (by omega) (by omega)]
/-! worth -/
def w_c (A : k_H) (s n : Int) : Int := if 0 ≤ k_rd A (72 + 8 * s + 3) n ∧ k_rd A (72 + 8 * s + 3) n < k_rd A 0 6 then k_rd A (24 + 4 * k_rd A (72 + 8 * s + 3) n + 3) s else 0
def w_m (A : k_H) (s n : Int) : Int := if k_rd A 139 (14 * s + n) < 0 then 0 else k_rd A 136 (6 * k_rd A 139 (14 * s + n) + s)
theorem c_worth {A : k_H} {s : Int} (hs : 0 ≤ s ∧ s < 6) (hH : k_rd A 0 6 ≤ 12) (hG : ∀ h : Int, 0 ≤ h → h < 12 → 0 ≤ k_rd A (24 + 4 * h + 3) s ∧ k_rd A (24 + 4 * h + 3) s ≤ 10) : gX8_worthOfTour A s = some (p_sum (w_c A s) 14, A) := by
  unfold gX8_worthOfTour gX8_worthOfTour_b0
  have b : ∀ k : Nat, k ≤ 14 → 0 ≤ p_sum (w_c A s) k ∧ p_sum (w_c A s) k ≤ k * 10 := fun k hk => p_sumB k (fun i i0 i1 => by
    unfold w_c; split
    · next q => exact hG _ q.1 (by omega)
    · omega)
  obtain ⟨N, hN⟩ := p_FU 15 (by decide)
  have e : N + 15 = (N + 1) + 14 := rfl
  have st := p_it (fun N (p : Int × Int) => gX8_worthOfTour_h4 N A s p.1 p.2) (fun k => (p_sum (w_c A s) k, (k : Int))) 14 (fun N k hk => by
    show gX8_worthOfTour_h4 (N + 1) A s (p_sum (w_c A s) k) k = gX8_worthOfTour_h4 N A s (p_sum (w_c A s) k + w_c A s k) ((k + 1 : Nat) : Int)
    have b0 := b k (by omega)
    have b1 := b (k + 1) (by omega)
    have b2 : p_sum (w_c A s) (k + 1) = p_sum (w_c A s) k + w_c A s k := rfl
    rw [b2] at b1
    rw [gX8_worthOfTour_h4, if_pos (by omega), if_pos (by omega), if_pos (by omega), h_X8isHall, k_bds]
    simp only [p_b0, gX8_worthOfTour_b47]
    rw [k_wr_of (x := (k : Int) + 1) (by omega) (by omega)]
    by_cases q : 0 ≤ k_rd A (72 + 8 * s + 3) k ∧ k_rd A (72 + 8 * s + 3) k < k_rd A 0 6
    · have w : w_c A s k = k_rd A (24 + 4 * k_rd A (72 + 8 * s + 3) k + 3) s := if_pos q
      rw [if_neg (not_not_intro q), if_pos (by omega), if_pos (by omega), ← w, k_wr_of (by omega) (by omega)]; rfl
    · have w : w_c A s k = 0 := if_neg q
      rw [if_pos q, w, Int.add_zero]; rfl) (N + 1)
  rw [hN, e]
  refine st.trans ?_
  show gX8_worthOfTour_h4 (N + 1) A s (p_sum (w_c A s) 14) 14 = _
  rw [gX8_worthOfTour_h4, if_neg (by omega)]
theorem m_worth {A : k_H} {s : Int} (hs : 0 ≤ s ∧ s < 6) (hL : ∀ n : Int, 0 ≤ n → n < 14 → k_rd A 139 (14 * s + n) < 12) (hG : ∀ h : Int, 0 ≤ h → h < 12 → 0 ≤ k_rd A 136 (6 * h + s) ∧ k_rd A 136 (6 * h + s) ≤ 10) : gX9_worth_h19 k_FU A s 0 0 = some (p_sum (w_m A s) 14, A) := by
  have b : ∀ k : Nat, k ≤ 14 → 0 ≤ p_sum (w_m A s) k ∧ p_sum (w_m A s) k ≤ k * 10 := fun k hk => p_sumB k (fun i i0 i1 => by
    unfold w_m; split
    · omega
    · exact hG _ (by omega) (hL i i0 (by omega)))
  obtain ⟨N, hN⟩ := p_FU 15 (by decide)
  have e : N + 15 = (N + 1) + 14 := rfl
  have st := p_it (fun N (p : Int × Int) => gX9_worth_h19 N A s p.1 p.2) (fun k => (p_sum (w_m A s) k, (k : Int))) 14 (fun N k hk => by
    show gX9_worth_h19 (N + 1) A s (p_sum (w_m A s) k) k = gX9_worth_h19 N A s (p_sum (w_m A s) k + w_m A s k) ((k + 1 : Nat) : Int)
    have b0 := b k (by omega)
    have b1 := b (k + 1) (by omega)
    have b2 : p_sum (w_m A s) (k + 1) = p_sum (w_m A s) k + w_m A s k := rfl
    rw [b2] at b1
    have l := hL k (by omega) (by omega)
    rw [gX9_worth_h19, if_pos (by omega), k_wr_of (x := 14 * s) (by omega) (by omega), k_wr_of (x := 14 * s + k) (by omega) (by omega), if_pos (by omega)]
    simp only [gX9_worth_b65]
    rw [k_wr_of (x := (k : Int) + 1) (by omega) (by omega)]
    by_cases q : k_rd A 139 (14 * s + k) < 0
    · have w : w_m A s k = 0 := if_pos q
      rw [if_pos q, w, k_wr_of (by omega) (by omega)]; rfl
    · have w : w_m A s k = k_rd A 136 (6 * k_rd A 139 (14 * s + k) + s) := if_neg q
      rw [if_neg q, k_wr_of (x := 6 * k_rd A 139 (14 * s + k)) (by omega) (by omega), k_wr_of (x := 6 * k_rd A 139 (14 * s + k) + s) (by omega) (by omega), if_pos (by omega), ← w, k_wr_of (by omega) (by omega)]; rfl) (N + 1)
  rw [hN, e]
  refine st.trans ?_
  show gX9_worth_h19 (N + 1) A s (p_sum (w_m A s) 14) 14 = _
  rw [gX9_worth_h19, if_neg (by omega)]
theorem w_eq {A : k_H} (r : Rel A) {s : Int} (hs : 0 ≤ s ∧ s < k_rd A 120 21) : p_sum (w_c A s) 14 = p_sum (w_m A s) 14 := by
  have hS := r.2.2.2.1.2.2.1
  have hH := r.2.1
  refine p_sumE 14 (fun i i0 i1 => ?_)
  have q := r.2.2.2.2.1 s i hs.1 (by omega) i0 (by omega)
  have q1 := q.1 hs.2
  have q2 := q.2.2.1
  have := hH.1
  have := hH.2.2.1
  unfold w_c w_m
  rw [← q1.1]
  by_cases z : k_rd A (72 + 8 * s + 3) i < 0
  · rw [if_pos z, if_neg (by omega)]
  · rw [if_neg z, if_pos (by omega)]
    exact (r.2.2.1 _ s (by omega) (by omega) hs.1 (by omega)).1
theorem o_worth {A : k_H} {s : Int} (r : Rel A) : p_ok A (fun A => gX8_worth A s) (fun A => gX9_worth A s) := by
  have eS := r.2.2.2.1.1
  have hS := r.2.2.2.1.2.2.1
  have hH := r.2.1
  have hH1 := hH.1
  have hH2 := hH.2.2.1
  unfold p_ok
  simp only [gX8_worth, gX8_worth_b0, gX9_worth, gX9_worth_b0, p_lt, h_X8isShow, h_X9isShow, k_bds, p_b0]
  rw [eS]
  by_cases h0 : 0 ≤ s ∧ s < k_rd A 120 21
  · refine ⟨p_sum (w_c A s) 14, A, k_wt A 120 0 0, ?_, ?_, p_fr0 r⟩
    · rw [if_neg (not_not_intro h0), c_worth ⟨h0.1, by omega⟩ (by omega) (fun h a b => by have q := r.2.2.1 h s a b h0.1 (by omega); omega), k_bds]
    · rw [p_rwn (by omega), if_neg (not_not_intro h0)]
      have r1 := p_fr0 r
      have r2 : k_rd (k_wt A 120 0 0) 120 20 = k_rd A 120 20 := p_rwn (by omega)
      rw [m_worth (A := k_wt A 120 0 0) ⟨h0.1, by omega⟩ (fun n a b => by
          have q := r1.2.2.2.2.1 s n h0.1 (by omega) a b
          rw [r2] at q
          have q1 := q.1 (by rw [p_rwn (by omega)]; exact h0.2)
          have := hH.2.2.1
          omega) (fun h a b => by have q := r1.2.2.1 h s a b h0.1 (by omega); omega)]
      rw [← w_eq r1 (by rw [p_rwn (by omega)]; exact h0), p_sumE (g := w_c A s) 14 (fun i i0 i1 => by unfold w_c; rw [p_rwn (by omega), p_rwn (by omega), p_rwn (by omega)])]
  · exact ⟨-1, A, k_wt A 120 0 0, by rw [if_pos h0], by rw [p_rwn (by omega), if_pos h0], p_fr0 r⟩
/-! door -/
theorem o_door {A : k_H} {s n v : Int} (r : Rel A) : p_ok A (fun A => gX8_door A s n v) (fun A => gX9_door A s n v) := by
  have eS := r.2.2.2.1.1
  have hS := r.2.2.2.1.2.2.1
  unfold p_ok
  simp only [gX8_door, gX8_door_b0, gX9_door, gX9_door_b0, p_lt, h_X8isShow, h_X9isShow, h_X8isNight, h_X9isIn, h_X8within, k_bds, p_b0]
  rw [eS]
  by_cases h0 : 0 ≤ s ∧ s < k_rd A 120 21
  · by_cases h1 : 0 ≤ n ∧ n ≤ 13
    · have q := r.2.2.2.2.1 s n h0.1 (by omega) h1.1 (by omega)
      have q1 := q.1 h0.2
      have q2 := q.2.2.1
      rw [if_neg (not_not_intro h0), if_neg (not_not_intro h1)]
      by_cases h2 : 0 ≤ v ∧ v ≤ 1000000
      · rw [if_neg (not_not_intro h2), if_pos (by omega), if_pos (by omega)]
        by_cases h3 : k_rd A (72 + 8 * s + 3) n = -1
        · refine ⟨0, A, k_wt A 120 0 0, by rw [if_pos h3], ?_, p_fr0 r⟩
          rw [p_rwn (by omega), if_neg (not_not_intro h0), if_neg (not_not_intro h1), k_wr_of (x := 14 * s) (by omega) (by omega), k_wr_of (x := 14 * s + n) (by omega) (by omega), if_pos (by omega), p_rwn (by omega), if_neg (by omega)]
        · refine ⟨1, k_wt A (72 + 8 * s + 4) n v, k_wt (k_wt (k_wt A (72 + 8 * s + 4) n v) 120 0 0) 140 (14 * s + n) v, by rw [if_neg h3, if_pos (by omega)], ?_, ?_⟩
          · rw [p_rwn (by omega), p_rwn (by omega), if_neg (not_not_intro h0), if_neg (not_not_intro h1), k_wr_of (x := 14 * s) (by omega) (by omega), k_wr_of (x := 14 * s + n) (by omega) (by omega), if_pos (by omega), p_rwn (by omega), p_rwn (by omega), if_pos (by omega), if_pos h2.1, if_neg (by omega), if_pos (by omega)]
          · have ag : ∀ {P : Int → Int → Prop}, ¬ P (72 + 8 * s + 4) n → ¬ P 120 0 → ¬ P 140 (14 * s + n) → p_ag P A (k_wt (k_wt (k_wt A (72 + 8 * s + 4) n v) 120 0 0) 140 (14 * s + n) v) := fun a b c => p_agw (p_agw (p_agw p_agr a) b) c
            refine ⟨p_fT (ag (by unfold p_T; omega) (by unfold p_T; omega) (by unfold p_T; omega)) r.1, p_fH (ag (by unfold p_H; omega) (by unfold p_H; omega) (by unfold p_H; omega)) r.2.1, p_fG (ag (by unfold p_G; omega) (by unfold p_G; omega) (by unfold p_G; omega)) r.2.2.1, p_fS (ag (by unfold p_S; omega) (by unfold p_S; omega) (by unfold p_S; omega)) r.2.2.2.1, ?_, p_fM (ag (by unfold p_M; omega) (by unfold p_M; omega) (by unfold p_M; omega)) r.2.2.2.2.2.1, p_fF (ag (by unfold p_F; omega) (by unfold p_F; omega) (by unfold p_F; omega)) r.2.2.2.2.2.2⟩
            intro t m t0 t1 m0 m1
            have z := r.2.2.2.2.1 t m t0 t1 m0 m1
            rw [p_rwn (a := 140) (b := 120) (by omega), p_rwn (a := 120) (b := 120) (j := 21) (by omega), p_rwn (b := 120) (j := 21) (by omega), p_rwn (a := 140) (b := 120) (j := 20) (by omega), p_rwn (a := 120) (b := 120) (j := 20) (by omega), p_rwn (b := 120) (j := 20) (by omega)]
            rw [p_rwn (a := 140) (b := 72 + 8 * t + 3) (by omega), p_rwn (a := 120) (b := 72 + 8 * t + 3) (by omega), p_rwn (b := 72 + 8 * t + 3) (by omega), p_rwn (a := 140) (b := 139) (by omega), p_rwn (a := 120) (b := 139) (by omega), p_rwn (b := 139) (by omega)]
            have z3 : ∀ t' : Int, 0 ≤ t' → t' < 6 → t' ≠ t → k_rd (k_wt (k_wt (k_wt A (72 + 8 * s + 4) n v) 120 0 0) 140 (14 * s + n) v) (72 + 8 * t' + 3) m = k_rd A (72 + 8 * t + 3) m → k_rd A (72 + 8 * t + 3) m = -1 := by
              intro t' a b c
              rw [p_rwn (by omega), p_rwn (by omega), p_rwn (by omega)]
              exact z.2.2.2 t' a b c
            by_cases y : t = s ∧ m = n
            · rw [y.1, y.2] at z z3 ⊢
              rw [p_rwe, p_rwn (a := 140) (by omega), p_rwn (a := 120) (by omega), p_rwe]
              exact ⟨fun w => ⟨(z.1 w).1, rfl⟩, fun w => absurd w (by omega), ⟨z.2.2.1.1, z.2.2.1.2.1, by omega, by omega⟩, z3⟩
            · rw [p_rwn (a := 140) (b := 140) (by omega), p_rwn (a := 120) (b := 140) (by omega), p_rwn (b := 140) (by omega), p_rwn (a := 140) (b := 72 + 8 * t + 4) (by omega), p_rwn (a := 120) (b := 72 + 8 * t + 4) (by omega), p_rwn (b := 72 + 8 * t + 4) (by omega)]
              exact ⟨z.1, z.2.1, z.2.2.1, z3⟩
      · refine ⟨0, A, k_wt A 120 0 0, by rw [if_pos h2], ?_, p_fr0 r⟩
        rw [p_rwn (by omega), if_neg (not_not_intro h0), if_neg (not_not_intro h1), k_wr_of (x := 14 * s) (by omega) (by omega), k_wr_of (x := 14 * s + n) (by omega) (by omega), if_pos (by omega)]
        split
        · split
          · rw [if_pos (by omega)]
          · rfl
        · rfl
    · exact ⟨0, A, k_wt A 120 0 0, by rw [if_neg (not_not_intro h0), if_pos h1], by rw [p_rwn (by omega), if_neg (not_not_intro h0), if_pos h1], p_fr0 r⟩
  · exact ⟨0, A, k_wt A 120 0 0, by rw [if_pos h0], by rw [p_rwn (by omega), if_pos h0], p_fr0 r⟩
