theorem c_keeps {A : k_H} (r : r_M A) {h : Int} {n : Nat} (hn : (n : Int) = k_rd A 0 7) (hn6 : n ≤ 6) (hd : ∀ s n : Int, 0 ≤ s → s < 6 → 0 ≤ n → n < 14 → -1 ≤ k_rd A (72 + 8 * s + 4) n ∧ k_rd A (72 + 8 * s + 4) n ≤ 1000000) : gX8_keeps_h22 k_FU A h 0 0 = some (p_sum (fun s => p_sum (fun n => v_v A h s (k_rd A (72 + 8 * s + 3) n) (k_rd A (72 + 8 * s + 4) n)) 14) n, A) ∧ -1000000000 ≤ p_sum (fun s => p_sum (fun n => v_v A h s (k_rd A (72 + 8 * s + 3) n) (k_rd A (72 + 8 * s + 4) n)) 14) n ∧ p_sum (fun s => p_sum (fun n => v_v A h s (k_rd A (72 + 8 * s + 3) n) (k_rd A (72 + 8 * s + 4) n)) 14) n ≤ 1000000000 := by
  generalize hf : (fun s => p_sum (fun n => v_v A h s (k_rd A (72 + 8 * s + 3) n) (k_rd A (72 + 8 * s + 4) n)) 14) = f
  have fe : ∀ s, f s = p_sum (fun n => v_v A h s (k_rd A (72 + 8 * s + 3) n) (k_rd A (72 + 8 * s + 4) n)) 14 := fun n => by rw [← hf]
  have fb : ∀ s : Int, 0 ≤ s → s < 6 → -126000000 ≤ f s ∧ f s ≤ 126000000 := fun s a b => by
    rw [fe]
    have := p_sumA (f := fun n => v_v A h s (k_rd A (72 + 8 * s + 3) n) (k_rd A (72 + 8 * s + 4) n)) (B := 9000000) 14 (fun i i0 i1 => v_b r ⟨a, b⟩ (hd s i a b i0 i1))
    omega
  have b : ∀ k : Nat, k ≤ 6 → -(k * 126000000) ≤ p_sum f k ∧ p_sum f k ≤ k * 126000000 := fun k hk => p_sumA k (fun i i0 i1 => fb i i0 (by omega))
  obtain ⟨N, hN⟩ := p_FU (n + 1) (by have : k_FU = 1073741824 := rfl; omega)
  have e : N + (n + 1) = (N + 1) + n := by omega
  have st := p_it (fun N (p : Int × Int) => gX8_keeps_h22 N A h p.1 p.2) (fun k => (p_sum f k, (k : Int))) n (fun N k hk => by
    have b0 := b k (by omega)
    show gX8_keeps_h22 (N + 1) A h (p_sum f k) k = gX8_keeps_h22 N A h (p_sum f k + f k) ((k + 1 : Nat) : Int)
    rw [gX8_keeps_h22, if_pos (by omega), c_keeps1 r _ (by omega) (fun n a b => hd k n (by omega) (by omega) a b) (by omega), fe]
    rfl) (N + 1)
  have st2 : gX8_keeps_h22 (N + 1 + n) A h 0 0 = gX8_keeps_h22 (N + 1) A h (p_sum f n) n := st
  refine ⟨by rw [hN, e, st2, gX8_keeps_h22, if_neg (by omega)], ?_⟩
  have := b n hn6
  omega
theorem m_keeps {A : k_H} (r : r_M A) {h : Int} {n : Nat} (hn : (n : Int) = k_rd A 120 21) (hn6 : n ≤ 6) (hd : ∀ s i : Int, 0 ≤ s → s < n → 0 ≤ i → i < 14 → -1 ≤ k_rd A 140 (14 * s + i) ∧ k_rd A 140 (14 * s + i) ≤ 1000000) : gX9_keeps_h26 k_FU A h 0 0 = some (p_sum (fun s => p_sum (fun n => v_v A h s (k_rd A 139 (14 * s + n)) (k_rd A 140 (14 * s + n))) 14) n, A) := by
  generalize hf : (fun s => p_sum (fun n => v_v A h s (k_rd A 139 (14 * s + n)) (k_rd A 140 (14 * s + n))) 14) = f
  have fe : ∀ s, f s = p_sum (fun n => v_v A h s (k_rd A 139 (14 * s + n)) (k_rd A 140 (14 * s + n))) 14 := fun n => by rw [← hf]
  have fb : ∀ s : Int, 0 ≤ s → s < n → -126000000 ≤ f s ∧ f s ≤ 126000000 := fun s a b => by
    rw [fe]
    have := p_sumA (f := fun n => v_v A h s (k_rd A 139 (14 * s + n)) (k_rd A 140 (14 * s + n))) (B := 9000000) 14 (fun i i0 i1 => v_b r ⟨a, by omega⟩ (hd s i a b i0 i1))
    omega
  have b : ∀ k : Nat, k ≤ n → -(k * 126000000) ≤ p_sum f k ∧ p_sum f k ≤ k * 126000000 := fun k hk => p_sumA k (fun i i0 i1 => fb i i0 (by omega))
  obtain ⟨N, hN⟩ := p_FU (n + 1) (by have : k_FU = 1073741824 := rfl; omega)
  have e : N + (n + 1) = (N + 1) + n := by omega
  have st := p_it (fun N (p : Int × Int) => gX9_keeps_h26 N A h p.1 p.2) (fun k => (p_sum f k, (k : Int))) n (fun N k hk => by
    have b0 := b k (by omega)
    show gX9_keeps_h26 (N + 1) A h (p_sum f k) k = gX9_keeps_h26 N A h (p_sum f k + f k) ((k + 1 : Nat) : Int)
    rw [gX9_keeps_h26, if_pos (by omega), m_keeps1 r _ (by omega) (fun n a b => hd k n (by omega) (by omega) a b) (by omega), fe]
    rfl) (N + 1)
  have st2 : gX9_keeps_h26 (N + 1 + n) A h 0 0 = gX9_keeps_h26 (N + 1) A h (p_sum f n) n := st
  rw [hN, e, st2, gX9_keeps_h26, if_neg (by omega)]
