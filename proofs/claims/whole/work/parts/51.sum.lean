theorem c_sum {A : k_H} (r : r_M A) {w : Int} {n : Nat} (hn : (n : Int) = k_rd A 0 7) (hn6 : n ≤ 6) (hw : 0 ≤ w ∧ w ≤ 4) (hd : ∀ s n : Int, 0 ≤ s → s < 6 → 0 ≤ n → n < 14 → -1 ≤ k_rd A (72 + 8 * s + 4) n ∧ k_rd A (72 + 8 * s + 4) n ≤ 1000000) : gX8_sum_h15 k_FU A w 0 0 = some (p_sum (fun s => p_sum (fun n => u_v A w s (k_rd A (72 + 8 * s + 4) n)) 14) n, A) := by
  generalize hf : (fun s => p_sum (fun n => u_v A w s (k_rd A (72 + 8 * s + 4) n)) 14) = f
  have fe : ∀ s, f s = p_sum (fun n => u_v A w s (k_rd A (72 + 8 * s + 4) n)) 14 := fun n => by rw [← hf]
  have fb : ∀ s : Int, 0 ≤ s → s < 6 → -126000000 ≤ f s ∧ f s ≤ 126000000 := fun s a b => by
    rw [fe]
    have := p_sumA (f := fun n => u_v A w s (k_rd A (72 + 8 * s + 4) n)) (B := 9000000) 14 (fun i i0 i1 => u_b r ⟨a, b⟩ (hd s i a b i0 i1))
    omega
  have b : ∀ k : Nat, k ≤ 6 → -(k * 126000000) ≤ p_sum f k ∧ p_sum f k ≤ k * 126000000 := fun k hk => p_sumA k (fun i i0 i1 => fb i i0 (by omega))
  obtain ⟨N, hN⟩ := p_FU (n + 1) (by have : k_FU = 1073741824 := rfl; omega)
  have e : N + (n + 1) = (N + 1) + n := by omega
  have st := p_it (fun N (p : Int × Int) => gX8_sum_h15 N A w p.1 p.2) (fun k => (p_sum f k, (k : Int))) n (fun N k hk => by
    have b0 := b k (by omega)
    show gX8_sum_h15 (N + 1) A w (p_sum f k) k = gX8_sum_h15 N A w (p_sum f k + f k) ((k + 1 : Nat) : Int)
    rw [gX8_sum_h15, if_pos (by omega), c_sum1 r _ hw (by omega) (fun n a b => hd k n (by omega) (by omega) a b) (by omega), fe]
    rfl) (N + 1)
  have st2 : gX8_sum_h15 (N + 1 + n) A w 0 0 = gX8_sum_h15 (N + 1) A w (p_sum f n) n := st
  rw [hN, e, st2, gX8_sum_h15, if_neg (by omega)]
theorem m_sum {A : k_H} (r : r_M A) {w : Int} {n : Nat} (hn : (n : Int) = k_rd A 120 21) (hn6 : n ≤ 6) (hw : 0 ≤ w ∧ w ≤ 4) (hd : ∀ s i : Int, 0 ≤ s → s < n → 0 ≤ i → i < 14 → -1 ≤ k_rd A 140 (14 * s + i) ∧ k_rd A 140 (14 * s + i) ≤ 1000000) : gX9_sum_h20 k_FU A w 0 0 = some (p_sum (fun s => p_sum (fun n => u_v A w s (k_rd A 140 (14 * s + n))) 14) n, A) := by
  generalize hf : (fun s => p_sum (fun n => u_v A w s (k_rd A 140 (14 * s + n))) 14) = f
  have fe : ∀ s, f s = p_sum (fun n => u_v A w s (k_rd A 140 (14 * s + n))) 14 := fun n => by rw [← hf]
  have fb : ∀ s : Int, 0 ≤ s → s < n → -126000000 ≤ f s ∧ f s ≤ 126000000 := fun s a b => by
    rw [fe]
    have := p_sumA (f := fun n => u_v A w s (k_rd A 140 (14 * s + n))) (B := 9000000) 14 (fun i i0 i1 => u_b r ⟨a, by omega⟩ (hd s i a b i0 i1))
    omega
  have b : ∀ k : Nat, k ≤ n → -(k * 126000000) ≤ p_sum f k ∧ p_sum f k ≤ k * 126000000 := fun k hk => p_sumA k (fun i i0 i1 => fb i i0 (by omega))
  obtain ⟨N, hN⟩ := p_FU (n + 1) (by have : k_FU = 1073741824 := rfl; omega)
  have e : N + (n + 1) = (N + 1) + n := by omega
  have st := p_it (fun N (p : Int × Int) => gX9_sum_h20 N A w p.1 p.2) (fun k => (p_sum f k, (k : Int))) n (fun N k hk => by
    have b0 := b k (by omega)
    show gX9_sum_h20 (N + 1) A w (p_sum f k) k = gX9_sum_h20 N A w (p_sum f k + f k) ((k + 1 : Nat) : Int)
    rw [gX9_sum_h20, if_pos (by omega), m_sum1 r _ hw (by omega) (fun n a b => hd k n (by omega) (by omega) a b) (by omega), fe]
    rfl) (N + 1)
  have st2 : gX9_sum_h20 (N + 1 + n) A w 0 0 = gX9_sum_h20 (N + 1) A w (p_sum f n) n := st
  rw [hN, e, st2, gX9_sum_h20, if_neg (by omega)]
theorem o_sum {A : k_H} {w : Int} (r : Rel A) : p_ok A (fun A => gX8_sum A w) (fun A => gX9_sum A w) := by
  have eS := r.2.2.2.1.1
  have hS := r.2.2.2.1.2.2.1
  have hS0 := r.2.2.2.1.2.1
  have r1 := p_fr0 r
  unfold p_ok
  simp only [gX8_sum, gX8_sum_b0, gX9_sum, gX9_sum_b0, p_lt, h_X8within, h_X9isIn, k_bds, p_b0]
  by_cases h0 : 0 ≤ w ∧ w ≤ 4
  · refine ⟨p_sum (fun s => p_sum (fun n => u_v A w s (k_rd A (72 + 8 * s + 4) n)) 14) (k_rd A 120 21).toNat, A, k_wt A 120 0 0, ?_, ?_, r1⟩
    · rw [if_neg (not_not_intro h0), c_sum r.2.2.2.2.2.1 (n := (k_rd A 120 21).toNat) (by omega) (by omega) h0 (fun s n a b c d => by have q := r.2.2.2.2.1 s n a b c d; omega)]
    · rw [if_neg (not_not_intro h0), m_sum r1.2.2.2.2.2.1 (n := (k_rd A 120 21).toNat) (by rw [p_rwn (by omega)]; omega) (by omega) h0 (fun s n a b c d => by
        have q := r.2.2.2.2.1 s n a (by omega) c d
        have q1 := q.1 (by omega)
        rw [p_rwn (by omega)]; omega)]
      rw [p_sumE (g := fun s => p_sum (fun n => u_v A w s (k_rd A (72 + 8 * s + 4) n)) 14) _ (fun s s0 s1 => p_sumE 14 (fun i i0 i1 => by
        have q := r.2.2.2.2.1 s i s0 (by omega) i0 i1
        have q1 := q.1 (by omega)
        rw [p_rwn (by omega), ← q1.2]
        unfold u_v y_A y_sh y_ab
        simp (disch := omega) only [p_rwn]))]
  · exact ⟨-1, A, k_wt A 120 0 0, by rw [if_pos h0], by rw [if_pos h0], r1⟩
