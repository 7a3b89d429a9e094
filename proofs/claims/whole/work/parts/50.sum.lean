/-! sum -/
def u_v (A : k_H) (w s p : Int) : Int := if p = -1 then 0 else if w = 4 then 1 else y_A A s p w
theorem u_b {A : k_H} (r : r_M A) {w s p : Int} (hs : 0 ≤ s ∧ s < 6) (hp : -1 ≤ p ∧ p ≤ 1000000) : -9000000 ≤ u_v A w s p ∧ u_v A w s p ≤ 9000000 := by
  unfold u_v
  split
  · omega
  · split
    · omega
    · exact y_Ab r hs (by omega)
theorem c_sum1 {A : k_H} (r : r_M A) {w s acc : Int} (K : k_H → Int → Int → Int → Option (Int × k_H)) (hw : 0 ≤ w ∧ w ≤ 4) (hs : 0 ≤ s ∧ s < 6) (hd : ∀ n : Int, 0 ≤ n → n < 14 → -1 ≤ k_rd A (72 + 8 * s + 4) n ∧ k_rd A (72 + 8 * s + 4) n ≤ 1000000) (ha : -1000000000 ≤ acc ∧ acc ≤ 1000000000) : gX8_sum_h26 K k_FU A w acc s 0 = K A w (acc + p_sum (fun n => u_v A w s (k_rd A (72 + 8 * s + 4) n)) 14) (s + 1) := by
  generalize hf : (fun n => u_v A w s (k_rd A (72 + 8 * s + 4) n)) = f
  have fe : ∀ n, f n = u_v A w s (k_rd A (72 + 8 * s + 4) n) := fun n => by rw [← hf]
  have fb : ∀ n : Int, 0 ≤ n → n < 14 → -9000000 ≤ f n ∧ f n ≤ 9000000 := fun n a b => by rw [fe]; exact u_b r hs (hd n a b)
  have b : ∀ k : Nat, k ≤ 14 → -(k * 9000000) ≤ p_sum f k ∧ p_sum f k ≤ k * 9000000 := fun k hk => p_sumA k (fun i i0 i1 => fb i i0 (by omega))
  obtain ⟨N, hN⟩ := p_FU 15 (by decide)
  have e : N + 15 = (N + 1) + 14 := rfl
  have st := p_it (fun N (p : Int × Int) => gX8_sum_h26 K N A w p.1 s p.2) (fun k => (acc + p_sum f k, (k : Int))) 14 (fun N k hk => by
    show gX8_sum_h26 K (N + 1) A w (acc + p_sum f k) s k = gX8_sum_h26 K N A w (acc + (p_sum f k + f k)) s ((k + 1 : Nat) : Int)
    have b0 := b k (by omega)
    have b1 := fb k (by omega) (by omega)
    have d := hd k (by omega) (by omega)
    rw [gX8_sum_h26, if_pos (by omega), if_pos (by omega), if_pos (by omega)]
    unfold gX8_sum_b71 gX8_sum_b73
    rw [k_wr_of (x := (k : Int) + 1) (by omega) (by omega)]
    have w0 := fe k
    unfold u_v at w0
    by_cases q : k_rd A (72 + 8 * s + 4) k = -1
    · rw [if_pos q] at w0
      rw [if_pos q, w0, Int.add_zero]; rfl
    · rw [if_neg q] at w0
      rw [if_neg q]
      by_cases q2 : w = 4
      · rw [if_pos q2] at w0
        rw [if_pos q2, w0, ← Int.add_assoc, k_wr_of (by omega) (by omega)]; rfl
      · rw [if_neg q2] at w0
        rw [if_neg q2, c_partR r (by omega) hs (by omega) rfl (by omega), k_bds, ← w0, k_wr_of (by omega) (by omega), ← Int.add_assoc]; rfl) (N + 1)
  have st2 : gX8_sum_h26 K (N + 1 + 14) A w (acc + 0) s 0 = gX8_sum_h26 K (N + 1) A w (acc + p_sum f 14) s 14 := st
  rw [Int.add_zero] at st2
  rw [hN, e, st2, gX8_sum_h26, if_neg (by omega), k_wr_of (by omega) (by omega)]
theorem m_sum1 {A : k_H} (r : r_M A) {w s acc : Int} (K : k_H → Int → Int → Int → Option (Int × k_H)) (hw : 0 ≤ w ∧ w ≤ 4) (hs : 0 ≤ s ∧ s < 6) (hd : ∀ n : Int, 0 ≤ n → n < 14 → -1 ≤ k_rd A 140 (14 * s + n) ∧ k_rd A 140 (14 * s + n) ≤ 1000000) (ha : -1000000000 ≤ acc ∧ acc ≤ 1000000000) : gX9_sum_h31 K k_FU A w acc s 0 = K A w (acc + p_sum (fun n => u_v A w s (k_rd A 140 (14 * s + n))) 14) (s + 1) := by
  generalize hf : (fun n => u_v A w s (k_rd A 140 (14 * s + n))) = f
  have fe : ∀ n, f n = u_v A w s (k_rd A 140 (14 * s + n)) := fun n => by rw [← hf]
  have fb : ∀ n : Int, 0 ≤ n → n < 14 → -9000000 ≤ f n ∧ f n ≤ 9000000 := fun n a b => by rw [fe]; exact u_b r hs (hd n a b)
  have b : ∀ k : Nat, k ≤ 14 → -(k * 9000000) ≤ p_sum f k ∧ p_sum f k ≤ k * 9000000 := fun k hk => p_sumA k (fun i i0 i1 => fb i i0 (by omega))
  obtain ⟨N, hN⟩ := p_FU 15 (by decide)
  have e : N + 15 = (N + 1) + 14 := rfl
  have st := p_it (fun N (p : Int × Int) => gX9_sum_h31 K N A w p.1 s p.2) (fun k => (acc + p_sum f k, (k : Int))) 14 (fun N k hk => by
    show gX9_sum_h31 K (N + 1) A w (acc + p_sum f k) s k = gX9_sum_h31 K N A w (acc + (p_sum f k + f k)) s ((k + 1 : Nat) : Int)
    have b0 := b k (by omega)
    have b1 := fb k (by omega) (by omega)
    have d := hd k (by omega) (by omega)
    rw [gX9_sum_h31, if_pos (by omega), k_wr_of (x := 14 * s) (by omega) (by omega), k_wr_of (x := 14 * s + k) (by omega) (by omega), if_pos (by omega)]
    unfold gX9_sum_b81 gX9_sum_b83
    rw [k_wr_of (x := (k : Int) + 1) (by omega) (by omega)]
    have w0 := fe k
    unfold u_v at w0
    by_cases q : k_rd A 140 (14 * s + k) = -1
    · rw [if_pos q] at w0
      rw [if_neg (by omega), w0, Int.add_zero]; rfl
    · rw [if_neg q] at w0
      rw [if_pos (by omega)]
      by_cases q2 : w = 4
      · rw [if_pos q2] at w0
        rw [if_pos q2, w0, ← Int.add_assoc, k_wr_of (by omega) (by omega)]; rfl
      · rw [if_neg q2] at w0
        rw [if_neg q2, m_shareR r (by omega) hs (by omega), k_bds, ← w0, k_wr_of (by omega) (by omega), ← Int.add_assoc]; rfl) (N + 1)
  have st2 : gX9_sum_h31 K (N + 1 + 14) A w (acc + 0) s 0 = gX9_sum_h31 K (N + 1) A w (acc + p_sum f 14) s 14 := st
  rw [Int.add_zero] at st2
  rw [hN, e, st2, gX9_sum_h31, if_neg (by omega), k_wr_of (by omega) (by omega)]
