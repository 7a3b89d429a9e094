/-! the halls that are asked, the class's side -/
def a_c (ok : Int → Int) : Nat → Nat
  | 0 => 0
  | k + 1 => if ok k = 1 ∧ a_c ok k < 6 then a_c ok k + 1 else a_c ok k
def a_f (ok : Int → Int) : Nat → Int → Int
  | 0 => fun _ => 0
  | k + 1 => if ok k = 1 ∧ a_c ok k < 6 then q_up (a_f ok k) (a_c ok k) k else a_f ok k
theorem a_c6 {ok : Int → Int} : ∀ k, a_c ok k ≤ 6 := by
  intro k
  induction k with
  | zero => exact Nat.zero_le _
  | succ k ih => rw [a_c]; split <;> omega
theorem a_fB {ok : Int → Int} : ∀ (k i : Nat), i < a_c ok k → 0 ≤ a_f ok k i ∧ a_f ok k i < k := by
  intro k
  induction k with
  | zero => intro i h; rw [a_c] at h; omega
  | succ k ih =>
    intro i h
    rw [a_c] at h
    rw [a_f]
    by_cases q : ok k = 1 ∧ a_c ok k < 6
    · rw [if_pos q] at h ⊢
      by_cases z : (i : Int) = (a_c ok k : Int)
      · rw [z, q_upe]; omega
      · rw [q_upn z]
        have := ih i (by omega)
        omega
    · rw [if_neg q] at h ⊢
      have := ih i h
      omega
theorem a_fO {ok : Int → Int} : ∀ (k i : Nat), i < a_c ok k → ok (a_f ok k i) = 1 := by
  intro k
  induction k with
  | zero => intro i h; rw [a_c] at h; omega
  | succ k ih =>
    intro i h
    rw [a_c] at h
    rw [a_f]
    by_cases q : ok k = 1 ∧ a_c ok k < 6
    · rw [if_pos q] at h ⊢
      by_cases z : (i : Int) = (a_c ok k : Int)
      · rw [z, q_upe]; exact q.1
      · rw [q_upn z]; exact ih i (by omega)
    · rw [if_neg q] at h ⊢
      exact ih i h
def a_p (X Y : Int → Int) (mi g h : Int) : Int := Int.tdiv (z_d X Y g h + mi - 1) mi
theorem z_dB {X Y : Int → Int} {g h : Int} (bX : z_B X) (bY : z_B Y) (hg : 0 ≤ g ∧ g < 12) (hh : 0 ≤ h ∧ h < 12) : 0 ≤ z_d X Y g h ∧ z_d X Y g h ≤ 198 ∧ z_d X Y g h = z_d X Y h g := by
  have x1 := bX g hg.1 hg.2
  have x2 := bX h hh.1 hh.2
  have y1 := bY g hg.1 hg.2
  have y2 := bY h hh.1 hh.2
  unfold z_d
  omega
theorem a_pB {X Y : Int → Int} {mi g h : Int} (bX : z_B X) (bY : z_B Y) (hm : 1 ≤ mi ∧ mi ≤ 200) (hg : 0 ≤ g ∧ g < 12) (hh : 0 ≤ h ∧ h < 12) : 0 ≤ a_p X Y mi g h ∧ a_p X Y mi g h ≤ 198 := by
  have b := z_dB bX bY hg hh
  unfold a_p
  constructor
  · exact Int.tdiv_nonneg (by omega) (by omega)
  · refine (e_ceil b.1 hm.1).2 ?_
    have : 1 * 198 ≤ mi * 198 := Int.mul_le_mul_of_nonneg_right hm.1 (by omega)
    omega
theorem c_ask1 {B : k_H} {h g mi : Int} {c : Nat} {X Y f : Int → Int} (hc : k_rd B 12 5 = c) (c6 : c < 6) (hh : 0 ≤ h ∧ h < 12) (hmi : k_rd B 12 8 = mi) (bmi : 1 ≤ mi ∧ mi ≤ 200) (hf : ∀ i : Nat, i < c → k_rd B 13 i = f i ∧ 0 ≤ f i ∧ f i < 12) (hX : ∀ h : Int, 0 ≤ h → h < 12 → k_rd B (24 + 4 * h) 2 = X h) (hY : ∀ h : Int, 0 ≤ h → h < 12 → k_rd B (24 + 4 * h) 3 = Y h) (bX : z_B X) (bY : z_B Y) : ∃ B', gX2_ask B h g = some (0, B') ∧ k_rd B' 12 5 = (c : Int) + 1 ∧ (∀ a i : Int, a ≠ 13 → a ≠ 14 → a ≠ 15 → a ≠ 16 → (a ≠ 12 ∨ i ≠ 5) → k_rd B' a i = k_rd B a i) ∧ (∀ i : Int, k_rd B' 13 i = if i = c then h else k_rd B 13 i) ∧ (∀ i : Int, k_rd B' 14 i = if i = c then g else k_rd B 14 i) ∧ (∀ i : Int, k_rd B' 16 i = if i = c then 0 else k_rd B 16 i) ∧ (∀ i j : Nat, i < c → j < c → k_rd B' 15 ((i : Int) * 6 + j) = k_rd B 15 ((i : Int) * 6 + j)) ∧ (∀ i : Nat, i < c → k_rd B' 15 ((i : Int) * 6 + c) = a_p X Y mi (f i) h ∧ k_rd B' 15 ((c : Int) * 6 + i) = a_p X Y mi (f i) h) := by
  have lp : ∀ (d N i : Nat) (R : Int → Int), i + d = c → (∀ p q : Nat, p < c → q < c → R ((p : Int) * 6 + q) = k_rd B 15 ((p : Int) * 6 + q)) → (∀ p : Nat, p < i → R ((p : Int) * 6 + c) = a_p X Y mi (f p) h ∧ R ((c : Int) * 6 + p) = a_p X Y mi (f p) h) → ∃ R', gX2_ask_h41 (N + d + 1) (q_put (k_wt (k_wt (k_wt B 13 c h) 14 c g) 16 c 0) 15 R) h i = some (0, k_wt (q_put (k_wt (k_wt (k_wt B 13 c h) 14 c g) 16 c 0) 15 R') 12 5 ((c : Int) + 1)) ∧ (∀ p q : Nat, p < c → q < c → R' ((p : Int) * 6 + q) = k_rd B 15 ((p : Int) * 6 + q)) ∧ (∀ p : Nat, p < c → R' ((p : Int) * 6 + c) = a_p X Y mi (f p) h ∧ R' ((c : Int) * 6 + p) = a_p X Y mi (f p) h) := by
    intro d
    induction d with
    | zero =>
      intro N i R id h1 h2
      have : i = c := by omega
      subst this
      refine ⟨R, ?_, h1, h2⟩
      rw [gX2_ask_h41, q_pn (by omega), p_rwn (by omega), p_rwn (by omega), p_rwn (by omega), hc, if_neg (by omega), p_lt, k_wr_of (by omega) (by omega)]
    | succ d ih =>
      intro N i R id h1 h2
      show ∃ R', gX2_ask_h41 ((N + d + 1) + 1) (q_put (k_wt (k_wt (k_wt B 13 c h) 14 c g) 16 c 0) 15 R) h i = _ ∧ _
      have fi := hf i (by omega)
      have ab := a_pB (X := X) (Y := Y) bX bY bmi fi.2 hh
      have db := z_dB (X := X) (Y := Y) bX bY fi.2 hh
      have ml : gX1_milesTo (q_put (k_wt (k_wt (k_wt B 13 c h) 14 c g) 16 c 0) 15 R) (24 + 4 * f i) (24 + 4 * h) = some (z_d X Y (f i) h, q_put (k_wt (k_wt (k_wt B 13 c h) 14 c g) 16 c 0) 15 R) := c_miles (fun x x0 x1 => by rw [q_pn (by omega), p_rwn (by omega), p_rwn (by omega), p_rwn (by omega)]; exact hX x x0 x1) (fun x x0 x1 => by rw [q_pn (by omega), p_rwn (by omega), p_rwn (by omega), p_rwn (by omega)]; exact hY x x0 x1) bX bY fi.2 hh
      have r12 : ∀ R j, k_rd (q_put (k_wt (k_wt (k_wt B 13 c h) 14 c g) 16 c 0) 15 R) 12 j = k_rd B 12 j := fun R j => by rw [q_pn (by omega), p_rwn (by omega), p_rwn (by omega), p_rwn (by omega)]
      have ei : k_wr ((i : Int) + 1) = ((i + 1 : Nat) : Int) := by rw [k_wr_of (by omega) (by omega)]; omega
      have ap : Int.tdiv (z_d X Y (f i) h + mi - 1) mi = a_p X Y mi (f i) h := rfl
      rw [gX2_ask_h41, r12, hc, if_pos (by omega), if_pos (by omega), q_pn (b := 13) (by omega), p_rwn (b := 13) (by omega), p_rwn (b := 13) (by omega), p_rwn (b := 13) (by omega), fi.1, if_pos (by omega), if_pos (by omega), ml, k_bds, r12, hmi, if_pos (by omega), r12, hc, k_wr_of (x := (i : Int) * 6) (by omega) (by omega), k_wr_of (x := (i : Int) * 6 + c) (by omega) (by omega), if_pos (by omega), p_lt, q_pw, r12, hc, k_wr_of (x := (c : Int) * 6) (by omega) (by omega), k_wr_of (x := (c : Int) * 6 + i) (by omega) (by omega), if_pos (by omega), p_lt, q_pw, ei, k_wr_of (x := z_d X Y (f i) h + mi) (by omega) (by omega), k_wr_of (x := z_d X Y (f i) h + mi - 1) (by omega) (by omega), ap, k_wr_of (x := a_p X Y mi (f i) h) (by omega) (by omega)]
      refine ih N (i + 1) _ (by omega) (fun p q x y => ?_) (fun p x => ?_)
      · rw [q_upn (by omega), q_upn (by omega)]; exact h1 p q x y
      · by_cases z : p = i
        · subst z
          rw [q_upe, q_upn (by omega), q_upe]
          exact ⟨rfl, rfl⟩
        · rw [q_upn (by omega), q_upn (by omega), q_upn (by omega), q_upn (by omega)]
          exact h2 p (by omega)
  obtain ⟨N, hN⟩ := p_FU (c + 1) (by have : k_FU = 1073741824 := rfl; omega)
  obtain ⟨R', e1, e2, e3⟩ := lp c N 0 (k_rd B 15) (by omega) (fun _ _ _ _ => rfl) (fun p x => by omega)
  have id : q_put (k_wt (k_wt (k_wt B 13 c h) 14 c g) 16 c 0) 15 (k_rd B 15) = k_wt (k_wt (k_wt B 13 c h) 14 c g) 16 c 0 := by
    have : k_rd B 15 = k_rd (k_wt (k_wt (k_wt B 13 c h) 14 c g) 16 c 0) 15 := by funext j; rw [p_rwn (by omega), p_rwn (by omega), p_rwn (by omega)]
    rw [this, q_pid]
  rw [id] at e1
  refine ⟨k_wt (q_put (k_wt (k_wt (k_wt B 13 c h) 14 c g) 16 c 0) 15 R') 12 5 ((c : Int) + 1), ?_, p_rwe, fun a i x1 x2 x3 x4 x5 => ?_, fun i => ?_, fun i => ?_, fun i => ?_, fun i j x y => ?_, fun i x => ?_⟩
  · have e4 : gX2_ask_h41 (N + (c + 1)) (k_wt (k_wt (k_wt B 13 c h) 14 c g) 16 c 0) h 0 = some (0, k_wt (q_put (k_wt (k_wt (k_wt B 13 c h) 14 c g) 16 c 0) 15 R') 12 5 ((c : Int) + 1)) := e1
    unfold gX2_ask gX2_ask_b0 gX2_asksMore gX2_asksMore_b0
    rw [hc, if_pos (by omega), k_bds, if_neg (by omega), if_pos (by omega), p_lt, p_rwn (by omega), hc, if_pos (by omega), p_lt, p_rwn (by omega), p_rwn (by omega), hc, if_pos (by omega), p_lt, hN, e4]
  · rw [p_rwn (by omega), q_pn x3, p_rwn (Or.inl x4), p_rwn (Or.inl x2), p_rwn (Or.inl x1)]
  · rw [p_rwn (by omega), q_pn (by omega), p_rwn (by omega), p_rwn (by omega), p_rw]
    by_cases z : i = c
    · rw [if_pos ⟨rfl, z⟩, if_pos z]
    · rw [if_neg (fun q => z q.2), if_neg z]
  · rw [p_rwn (by omega), q_pn (by omega), p_rwn (by omega), p_rw, p_rwn (by omega)]
    by_cases z : i = c
    · rw [if_pos ⟨rfl, z⟩, if_pos z]
    · rw [if_neg (fun q => z q.2), if_neg z]
  · rw [p_rwn (by omega), q_pn (by omega), p_rw, p_rwn (by omega), p_rwn (by omega)]
    by_cases z : i = c
    · rw [if_pos ⟨rfl, z⟩, if_pos z]
    · rw [if_neg (fun q => z q.2), if_neg z]
  · rw [p_rwn (by omega), q_pe]; exact e2 i j x y
  · rw [p_rwn (by omega), q_pe, p_rwn (by omega), q_pe]; exact e3 i x
theorem c_at2 {A : k_H} {h n S : Int} (hS : k_rd A 0 7 = S) (hS6 : S ≤ 6) (hn : 0 ≤ n ∧ n < 14) : ∀ (m N : Nat) (i : Int), 0 ≤ i → i + m = S → ∃ r, gX8_showAt_h2 (N + m + 1) A h n i = some (r, A) ∧ (r = -1 ↔ ∀ t : Int, i ≤ t → t < S → k_rd A (72 + 8 * t + 3) n ≠ h) := by
  intro m
  induction m with
  | zero =>
    intro N i h0 h1
    exact ⟨-1, by rw [gX8_showAt_h2, if_neg (by omega)], fun _ t a b => by omega, fun _ => rfl⟩
  | succ m ih =>
    intro N i h0 h1
    show ∃ r, gX8_showAt_h2 ((N + m + 1) + 1) A h n i = _ ∧ _
    rw [gX8_showAt_h2, if_pos (by omega), if_pos (by omega), if_pos (by omega)]
    by_cases z : k_rd A (72 + 8 * i + 3) n = h
    · rw [if_pos z]
      exact ⟨i, rfl, fun e => by omega, fun q => absurd z (q i (by omega) (by omega))⟩
    · rw [if_neg z, k_wr_of (x := i + 1) (by omega) (by omega)]
      obtain ⟨r, e1, e2⟩ := ih N (i + 1) (by omega) (by omega)
      refine ⟨r, e1, fun e t a b => ?_, fun q => e2.2 (fun t a b => q t (by omega) b)⟩
      by_cases y : t = i
      · rw [y]; exact z
      · exact e2.1 e t (by omega) b
theorem c_close {B : k_H} {h S : Int} {c : Nat} (hc : k_rd B 12 5 = (c : Int) + 1) (c6 : c < 6) (h0 : k_rd B 16 c = 0) (hS : k_rd B 0 7 = S) (hS0 : 0 ≤ S) (hS6 : S ≤ 6) : ∃ x : Nat, x < 16384 ∧ gX8_closeTakenNights B h = some (0, k_wt B 16 c x) ∧ ∀ n : Nat, n < 14 → (x.testBit n = true ↔ ∃ t : Int, 0 ≤ t ∧ t < S ∧ k_rd B (72 + 8 * t + 3) n = h) := by
  have lp : ∀ (d N n x : Nat), n + d = 14 → x < 2 ^ n → (∀ m : Nat, m < n → (x.testBit m = true ↔ ∃ t : Int, 0 ≤ t ∧ t < S ∧ k_rd B (72 + 8 * t + 3) m = h)) → ∃ y : Nat, y < 16384 ∧ gX8_closeTakenNights_h2 (N + d + 1) (k_wt B 16 c x) h n = some (0, k_wt B 16 c y) ∧ ∀ m : Nat, m < 14 → (y.testBit m = true ↔ ∃ t : Int, 0 ≤ t ∧ t < S ∧ k_rd B (72 + 8 * t + 3) m = h) := by
    intro d
    induction d with
    | zero =>
      intro N n x nd xb hx
      have : n = 14 := by omega
      subst this
      exact ⟨x, xb, by rw [gX8_closeTakenNights_h2, if_neg (by omega)], hx⟩
    | succ d ih =>
      intro N n x nd xb hx
      show ∃ y : Nat, y < 16384 ∧ gX8_closeTakenNights_h2 ((N + d + 1) + 1) (k_wt B 16 c x) h n = _ ∧ _
      have x31 : x < 2147483648 := Nat.lt_of_lt_of_le xb (by
        have : 2 ^ n ≤ 2 ^ 31 := Nat.pow_le_pow_right (by omega) (by omega)
        exact this)
      obtain ⟨M, hM⟩ := p_FU (S.toNat + 1) (by have : k_FU = 1073741824 := rfl; omega)
      obtain ⟨r, e1, e2⟩ := c_at2 (A := k_wt B 16 c x) (h := h) (n := n) (S := S) (by rw [p_rwn (by omega)]; exact hS) hS6 (by omega) S.toNat M 0 (by omega) (by omega)
      have sh : gX8_showAt (k_wt B 16 c x) h n = some (r, k_wt B 16 c x) := by
        unfold gX8_showAt gX8_showAt_b0
        rw [hM]; exact e1
      have en : k_wr ((n : Int) + 1) = ((n + 1 : Nat) : Int) := by rw [k_wr_of (by omega) (by omega)]; omega
      rw [gX8_closeTakenNights_h2, if_pos (by omega), sh, k_bds]
      simp only [gX8_closeTakenNights_b26]
      rw [en]
      have rd : ∀ t : Int, 0 ≤ t → k_rd (k_wt B 16 c x) (72 + 8 * t + 3) n = k_rd B (72 + 8 * t + 3) n := fun t t0 => p_rwn (by omega)
      have xt : x.testBit n = false := Nat.testBit_lt_two_pow xb
      by_cases z : r = -1
      · rw [if_pos z]
        refine ih N (n + 1) x (by omega) (Nat.lt_trans xb (Nat.pow_lt_pow_right (by omega) (by omega))) (fun m hm => ?_)
        by_cases y : m = n
        · subst y
          rw [xt]
          refine ⟨fun q => (by cases q), fun ⟨t, t0, t1, t2⟩ => ?_⟩
          exact absurd (by rw [rd t t0]; exact t2) (e2.1 z t t0 t1)
        · exact hx m (by omega)
      · rw [if_neg z]
        unfold gX2_close gX2_close_b0
        rw [p_rwn (by omega), hc, if_pos (by omega), k_wr_of (x := (c : Int) + 1 - 1) (by omega) (by omega), show (c : Int) + 1 - 1 = c by omega, if_pos (by omega), p_lt, p_rwe, b_or x31 (by omega), p_wtw, k_bds]
        refine ih N (n + 1) (x ||| 2 ^ n) (by omega) (Nat.or_lt_two_pow (Nat.lt_trans xb (Nat.pow_lt_pow_right (by omega) (by omega))) (Nat.pow_lt_pow_right (by omega) (by omega))) (fun m hm => ?_)
        rw [e_tb]
        by_cases y : m = n
        · subst y
          refine ⟨fun _ => ?_, fun _ => by simp⟩
          refine Classical.byContradiction fun ne => z (e2.2 (fun t t0 t1 q => ne ⟨t, t0, t1, by rw [← rd t t0]; exact q⟩))
        · have : decide (n = m) = false := decide_eq_false (fun q => y q.symm)
          rw [this, Bool.or_false]
          exact hx m (by omega)
  obtain ⟨N, hN⟩ := p_FU 15 (by decide)
  obtain ⟨y, y1, y2, y3⟩ := lp 14 N 0 0 (by omega) (by decide) (fun m hm => by omega)
  refine ⟨y, y1, ?_, y3⟩
  have e : k_wt B 16 c ((0 : Nat) : Int) = B := by
    have := p_wtb (A := B) (a := 16) (i := c) (v := 5) (w := ((0 : Nat) : Int)) (by rw [h0]; rfl)
    rw [p_wtw] at this
    exact this
  rw [e] at y2
  unfold gX8_closeTakenNights gX8_closeTakenNights_b0
  rw [hN]
  exact y2
