/-! show -/
def p_G2 (a _i : Int) : Prop := (24 ≤ a ∧ a < 72 ∧ (a - 24) % 4 = 3) ∨ a = 136
theorem p_fG2 {A B : k_H} (h : p_ag p_G2 A B) (hm : k_rd A 120 21 ≤ k_rd B 120 21) (r : r_G A) : r_G B := by
  intro x s h0 h1 h2 h3
  have q := r x s h0 h1 h2 h3
  rw [h (24 + 4 * x + 3) s (by unfold p_G2; omega), h 136 (6 * x + s) (by unfold p_G2; omega)]
  exact ⟨q.1, q.2.1, q.2.2.1, fun w => q.2.2.2 (by omega)⟩
def tv_w (A : k_H) (o : Int) : Nat → k_H
  | 0 => A
  | n + 1 => k_wt (k_wt (tv_w A o n) 139 (o + n) (-1)) 140 (o + n) (-1)
theorem tv_r (A : k_H) (o : Int) (n : Nat) (b j : Int) : k_rd (tv_w A o n) b j = if (b = 139 ∨ b = 140) ∧ o ≤ j ∧ j < o + n then -1 else k_rd A b j := by
  induction n with
  | zero => rw [if_neg (by omega)]; rfl
  | succ n ih =>
    show k_rd (k_wt (k_wt (tv_w A o n) 139 (o + n) (-1)) 140 (o + n) (-1)) b j = _
    rw [p_rw, p_rw, ih]
    by_cases h : b = 140 ∧ j = o + n
    · rw [if_pos h, if_pos (by omega)]
    · rw [if_neg h]
      by_cases h' : b = 139 ∧ j = o + n
      · rw [if_pos h', if_pos (by omega)]
      · rw [if_neg h']
        by_cases k : (b = 139 ∨ b = 140) ∧ o ≤ j ∧ j < o + n
        · rw [if_pos k, if_pos (by omega)]
        · rw [if_neg k, if_neg (by omega)]
theorem tv_n {A : k_H} {o : Int} {n : Nat} {b j : Int} (h : (b ≠ 139 ∧ b ≠ 140) ∨ j < o ∨ o + n ≤ j) : k_rd (tv_w A o n) b j = k_rd A b j := by
  rw [tv_r, if_neg (by omega)]
theorem p_agv {P : Int → Int → Prop} {A B : k_H} {o : Int} (n : Nat) (h : p_ag P A B) (h0 : ∀ i, ¬ P 139 i) (h1 : ∀ i, ¬ P 140 i) : p_ag P A (tv_w B o n) := by
  intro b j q
  rw [tv_r, if_neg]
  · exact h b j q
  · rintro ⟨rfl | rfl, _⟩
    · exact h0 j q
    · exact h1 j q
def s_c (A : k_H) (s hi wi L : Int) : k_H := tw_w (k_wt (k_wt (k_wt A (72 + 8 * s) 4 hi) (72 + 8 * s) 5 wi) (72 + 8 * s + 1) 1 L) (72 + 8 * s + 1 + 1) 0 (k_rd (k_wt (k_wt A (72 + 8 * s) 4 hi) (72 + 8 * s) 5 wi) 2) L.toNat
theorem c_buildS {A : k_H} {h hi wi L : Int} (hh : 0 ≤ h ∧ h < 6) (hL : k_rd A 1 1 = L) (h0 : 0 ≤ L ∧ L ≤ 8) : gX4_build A (72 + 8 * h) hi wi 1 = some (0, s_c A h hi wi L) := by
  unfold gX4_build gX4_build_b0
  rw [p_lt, p_lt, c_take (L := L) (t_shpS h hh.1 hh.2) (by omega) (by rw [p_rwn (by omega), p_rwn (by omega)]; exact hL) (by omega) (by omega), k_bds]
  rfl
theorem c_plan (A : k_H) (v a b c d : Int) : gX4_plan A v a b c d = some (0, k_wt (k_wt (k_wt (k_wt A v 6 a) v 7 b) v 8 c) v 9 d) := rfl
theorem m_show2 {A : k_H} {s : Int} (hs : 0 ≤ s ∧ s < 6) (hS : k_rd A 120 21 = s) : gX9_show_h207 k_FU A s 0 = some (s, k_wt (tv_w A (14 * s) 14) 120 21 (s + 1)) := by
  obtain ⟨N, hN⟩ := p_FU 15 (by decide)
  have e : N + 15 = (N + 1) + 14 := rfl
  have st := p_it (fun N (p : k_H × Int) => gX9_show_h207 N p.1 s p.2) (fun k => (tv_w A (14 * s) k, (k : Int))) 14 (fun N k hk => by
    show gX9_show_h207 (N + 1) (tv_w A (14 * s) k) s k = gX9_show_h207 N (k_wt (k_wt (tv_w A (14 * s) k) 139 (14 * s + k) (-1)) 140 (14 * s + k) (-1)) s ((k + 1 : Nat) : Int)
    rw [gX9_show_h207, if_pos (by omega), k_wr_of (x := 14 * s) (by omega) (by omega), k_wr_of (x := 14 * s + k) (by omega) (by omega), if_pos (by omega), p_lt, if_pos (by omega), p_lt, k_wr_of (x := (k : Int) + 1) (by omega) (by omega)]
    rfl) (N + 1)
  rw [hN, e]
  refine st.trans ?_
  show gX9_show_h207 (N + 1) (tv_w A (14 * s) 14) s 14 = _
  rw [gX9_show_h207, if_neg (by omega), p_lt, tv_n (by omega), hS, k_wr_of (by omega) (by omega)]
theorem m_show1 {A : k_H} {s L : Int} (hs : 0 ≤ s ∧ s < 6) (hS : k_rd A 120 21 = s) (hL : k_rd A 120 3 = L) (h0 : 0 ≤ L ∧ L ≤ 8) : gX9_show_h165 k_FU A s 0 = some (s, k_wt (tv_w (tw_w A 131 (8 * s) (fun i => k_rd A 121 i % 256) L.toNat) (14 * s) 14) 120 21 (s + 1)) := by
  obtain ⟨N, hN⟩ := p_FU (L.toNat + 1) (by have : k_FU = 1073741824 := rfl; omega)
  have e : N + (L.toNat + 1) = (N + 1) + L.toNat := by omega
  have st := p_it (fun N (p : k_H × Int) => gX9_show_h165 N p.1 s p.2) (fun k => (tw_w A 131 (8 * s) (fun i => k_rd A 121 i % 256) k, (k : Int))) L.toNat (fun N k hk => by
    show gX9_show_h165 (N + 1) (tw_w A 131 (8 * s) (fun i => k_rd A 121 i % 256) k) s k = gX9_show_h165 N (k_wt (tw_w A 131 (8 * s) (fun i => k_rd A 121 i % 256) k) 131 (8 * s + k) (k_rd A 121 k % 256)) s ((k + 1 : Nat) : Int)
    rw [gX9_show_h165, tw_n (b := 120) (by omega), hL, if_pos (by omega), if_pos (by omega), k_wr_of (x := 8 * s) (by omega) (by omega), k_wr_of (x := 8 * s + k) (by omega) (by omega), if_pos (by omega), p_lt, p_and255, tw_n (b := 121) (by omega), k_wr_of (x := (k : Int) + 1) (by omega) (by omega)]
    rfl) (N + 1)
  have st2 : gX9_show_h165 (N + 1 + L.toNat) A s 0 = gX9_show_h165 (N + 1) (tw_w A 131 (8 * s) (fun i => k_rd A 121 i % 256) L.toNat) s (L.toNat : Int) := st
  have st3 : gX9_show_h165 k_FU A s 0 = gX9_show_h165 (N + 1) (tw_w A 131 (8 * s) (fun i => k_rd A 121 i % 256) L.toNat) s (L.toNat : Int) := by rw [hN, e]; exact st2
  rw [st3, gX9_show_h165, tw_n (b := 120) (by omega), hL, if_neg (by omega), m_show2 hs (by rw [tw_n (by omega)]; exact hS)]
