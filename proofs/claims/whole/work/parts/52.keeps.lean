/-! keeps -/
def v_v (A : k_H) (h s t p : Int) : Int := if t = h ∧ p ≠ -1 then y_A A s p 2 else 0
theorem v_b {A : k_H} (r : r_M A) {h s t p : Int} (hs : 0 ≤ s ∧ s < 6) (hp : -1 ≤ p ∧ p ≤ 1000000) : -9000000 ≤ v_v A h s t p ∧ v_v A h s t p ≤ 9000000 := by
  unfold v_v
  split
  · next z => exact y_Ab r hs (by omega)
  · omega
theorem c_keeps1 {A : k_H} (r : r_M A) {h s acc : Int} (K : k_H → Int → Int → Int → Option (Int × k_H)) (hs : 0 ≤ s ∧ s < 6) (hd : ∀ n : Int, 0 ≤ n → n < 14 → -1 ≤ k_rd A (72 + 8 * s + 4) n ∧ k_rd A (72 + 8 * s + 4) n ≤ 1000000) (ha : -1000000000 ≤ acc ∧ acc ≤ 1000000000) : gX8_keeps_h33 K k_FU A h acc s 0 = K A h (acc + p_sum (fun n => v_v A h s (k_rd A (72 + 8 * s + 3) n) (k_rd A (72 + 8 * s + 4) n)) 14) (s + 1) := by
  generalize hf : (fun n => v_v A h s (k_rd A (72 + 8 * s + 3) n) (k_rd A (72 + 8 * s + 4) n)) = f
  have fe : ∀ n, f n = v_v A h s (k_rd A (72 + 8 * s + 3) n) (k_rd A (72 + 8 * s + 4) n) := fun n => by rw [← hf]
  have fb : ∀ n : Int, 0 ≤ n → n < 14 → -9000000 ≤ f n ∧ f n ≤ 9000000 := fun n a b => by rw [fe]; exact v_b r hs (hd n a b)
  have b : ∀ k : Nat, k ≤ 14 → -(k * 9000000) ≤ p_sum f k ∧ p_sum f k ≤ k * 9000000 := fun k hk => p_sumA k (fun i i0 i1 => fb i i0 (by omega))
  obtain ⟨N, hN⟩ := p_FU 15 (by decide)
  have e : N + 15 = (N + 1) + 14 := rfl
  have st := p_it (fun N (p : Int × Int) => gX8_keeps_h33 K N A h p.1 s p.2) (fun k => (acc + p_sum f k, (k : Int))) 14 (fun N k hk => by
    show gX8_keeps_h33 K (N + 1) A h (acc + p_sum f k) s k = gX8_keeps_h33 K N A h (acc + (p_sum f k + f k)) s ((k + 1 : Nat) : Int)
    have b0 := b k (by omega)
    have b1 := fb k (by omega) (by omega)
    have d := hd k (by omega) (by omega)
    rw [gX8_keeps_h33, if_pos (by omega), if_pos (by omega), if_pos (by omega)]
    unfold gX8_keeps_b87
    rw [k_wr_of (x := (k : Int) + 1) (by omega) (by omega)]
    have w0 := fe k
    unfold v_v at w0
    by_cases q : k_rd A (72 + 8 * s + 3) k = h
    · rw [if_pos q, if_pos (by omega)]
      by_cases q2 : k_rd A (72 + 8 * s + 4) k = -1
      · rw [if_neg (by omega)] at w0
        rw [if_pos q2, w0, Int.add_zero]; rfl
      · rw [if_pos ⟨q, q2⟩] at w0
        rw [if_neg q2, c_partR r (by omega) hs (by omega) rfl (by omega), k_bds, ← w0, k_wr_of (by omega) (by omega), ← Int.add_assoc]; rfl
    · rw [if_neg (by omega)] at w0
      rw [if_neg q, w0, Int.add_zero]; rfl) (N + 1)
  have st2 : gX8_keeps_h33 K (N + 1 + 14) A h (acc + 0) s 0 = gX8_keeps_h33 K (N + 1) A h (acc + p_sum f 14) s 14 := st
  rw [Int.add_zero] at st2
  rw [hN, e, st2, gX8_keeps_h33, if_neg (by omega), k_wr_of (by omega) (by omega)]
theorem m_keeps1 {A : k_H} (r : r_M A) {h s acc : Int} (K : k_H → Int → Int → Int → Option (Int × k_H)) (hs : 0 ≤ s ∧ s < 6) (hd : ∀ n : Int, 0 ≤ n → n < 14 → -1 ≤ k_rd A 140 (14 * s + n) ∧ k_rd A 140 (14 * s + n) ≤ 1000000) (ha : -1000000000 ≤ acc ∧ acc ≤ 1000000000) : gX9_keeps_h37 K k_FU A h acc s 0 = K A h (acc + p_sum (fun n => v_v A h s (k_rd A 139 (14 * s + n)) (k_rd A 140 (14 * s + n))) 14) (s + 1) := by
  generalize hf : (fun n => v_v A h s (k_rd A 139 (14 * s + n)) (k_rd A 140 (14 * s + n))) = f
  have fe : ∀ n, f n = v_v A h s (k_rd A 139 (14 * s + n)) (k_rd A 140 (14 * s + n)) := fun n => by rw [← hf]
  have fb : ∀ n : Int, 0 ≤ n → n < 14 → -9000000 ≤ f n ∧ f n ≤ 9000000 := fun n a b => by rw [fe]; exact v_b r hs (hd n a b)
  have b : ∀ k : Nat, k ≤ 14 → -(k * 9000000) ≤ p_sum f k ∧ p_sum f k ≤ k * 9000000 := fun k hk => p_sumA k (fun i i0 i1 => fb i i0 (by omega))
  obtain ⟨N, hN⟩ := p_FU 15 (by decide)
  have e : N + 15 = (N + 1) + 14 := rfl
  have st := p_it (fun N (p : Int × Int) => gX9_keeps_h37 K N A h p.1 s p.2) (fun k => (acc + p_sum f k, (k : Int))) 14 (fun N k hk => by
    show gX9_keeps_h37 K (N + 1) A h (acc + p_sum f k) s k = gX9_keeps_h37 K N A h (acc + (p_sum f k + f k)) s ((k + 1 : Nat) : Int)
    have b0 := b k (by omega)
    have b1 := fb k (by omega) (by omega)
    have d := hd k (by omega) (by omega)
    rw [gX9_keeps_h37, if_pos (by omega), k_wr_of (x := 14 * s) (by omega) (by omega), k_wr_of (x := 14 * s + k) (by omega) (by omega), if_pos (by omega)]
    unfold gX9_keeps_b96
    rw [k_wr_of (x := (k : Int) + 1) (by omega) (by omega)]
    have w0 := fe k
    unfold v_v at w0
    by_cases q2 : k_rd A 140 (14 * s + k) = -1
    · rw [if_neg (by omega)] at w0
      rw [if_neg (by omega), w0, Int.add_zero]; rfl
    · rw [if_pos (by omega), if_pos (by omega)]
      by_cases q : k_rd A 139 (14 * s + k) = h
      · rw [if_pos ⟨q, q2⟩] at w0
        rw [if_pos q, m_shareR r (by omega) hs (by omega), k_bds, ← w0, k_wr_of (by omega) (by omega), ← Int.add_assoc]; rfl
      · rw [if_neg (by omega)] at w0
        rw [if_neg q, w0, Int.add_zero]; rfl) (N + 1)
  have st2 : gX9_keeps_h37 K (N + 1 + 14) A h (acc + 0) s 0 = gX9_keeps_h37 K (N + 1) A h (acc + p_sum f 14) s 14 := st
  rw [Int.add_zero] at st2
  rw [hN, e, st2, gX9_keeps_h37, if_neg (by omega), k_wr_of (by omega) (by omega)]
