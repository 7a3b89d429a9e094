/-! the reference's sharing -/
def y_sh (A : k_H) (s k : Int) : Int := k_rd A 151 (12 * s + 2 + k)
def y_ab (A : k_H) (s k : Int) : Int := k_rd A 151 (12 * s + 5 + k)
theorem m_company {A : k_H} {s p : Int} {n : Nat} (hs : 0 ≤ s ∧ s < 6) (hn : k_rd A 151 (12 * s + 1) = n) (hn3 : n ≤ 3) (hf : 0 ≤ k_rd A 151 (12 * s) ∧ k_rd A 151 (12 * s) ≤ 99999) (h : y_ok (y_sh A s) (y_ab A s) n) (hp : 0 ≤ p ∧ p ≤ 1000000) : gX9_company A s p = some (k_rd A 151 (12 * s) + p_sum (y_f (y_sh A s) (y_ab A s) n p) n, A) := by
  unfold gX9_company gX9_company_b0
  rw [k_wr_of (x := 12 * s) (by omega) (by omega), k_wr_of (x := 12 * s + 0) (by omega) (by omega), if_pos (by omega), Int.add_zero]
  generalize hfe : k_rd A 151 (12 * s) = fee at *
  obtain ⟨N, hN⟩ := p_FU (n + 1) (by have : k_FU = 1073741824 := rfl; omega)
  have e : N + (n + 1) = (N + 1) + n := by omega
  have st := p_it (fun N (q : Int × Int) => gX9_company_h18 N A p (12 * s) q.1 q.2) (fun k => (fee + p_sum (y_f (y_sh A s) (y_ab A s) n p) k, (k : Int))) n (fun N k hk => by
    show gX9_company_h18 (N + 1) A p (12 * s) (fee + p_sum (y_f (y_sh A s) (y_ab A s) n p) k) k = gX9_company_h18 N A p (12 * s) (fee + (p_sum (y_f (y_sh A s) (y_ab A s) n p) k + y_f (y_sh A s) (y_ab A s) n p k)) ((k + 1 : Nat) : Int)
    have b0 := y_sB h hp k (by omega)
    have b1 := y_sB h hp (k + 1) (by omega)
    have b2 : p_sum (y_f (y_sh A s) (y_ab A s) n p) (k + 1) = p_sum (y_f (y_sh A s) (y_ab A s) n p) k + y_f (y_sh A s) (y_ab A s) n p k := rfl
    rw [b2] at b1
    have q := h k (by omega) (by omega)
    have yb := y_b (k := k) h hp (by omega) (by omega)
    have yp := y_part yb q.1
    have y0 : y_f (y_sh A s) (y_ab A s) n p k = max 0 (y_up (y_ab A s) n p k - y_ab A s k) * y_sh A s k / 100 := rfl
    have f97 : ∀ x, max 0 x = max 0 (y_up (y_ab A s) n p k - y_ab A s k) → gX9_company_b97 (gX9_company_h18 N) A p (12 * s) (fee + p_sum (y_f (y_sh A s) (y_ab A s) n p) k) k x = gX9_company_h18 N A p (12 * s) (fee + (p_sum (y_f (y_sh A s) (y_ab A s) n p) k + y_f (y_sh A s) (y_ab A s) n p k)) ((k + 1 : Nat) : Int) := by
      intro x hx
      unfold gX9_company_b97 gX9_company_b127
      rw [k_wr_of (x := (k : Int) + 1) (by omega) (by omega), k_wr_of (x := 12 * s + 2) (by omega) (by omega), k_wr_of (x := 12 * s + 2 + k) (by omega) (by omega)]
      by_cases z : 0 < x
      · have hx2 : x = max 0 (y_up (y_ab A s) n p k - y_ab A s k) := by omega
        have e5 : k_wr (Int.tdiv (k_wr (x * k_rd A 151 (12 * s + 2 + k))) 100) = y_f (y_sh A s) (y_ab A s) n p k := by rw [hx2]; exact yp.1
        rw [if_pos z, if_pos (by omega), e5, k_wr_of (by omega) (by omega), Int.add_assoc]; rfl
      · have hx2 : max 0 (y_up (y_ab A s) n p k - y_ab A s k) = 0 := by omega
        have e5 : y_f (y_sh A s) (y_ab A s) n p k = 0 := by rw [y0, hx2, Int.zero_mul]; rfl
        rw [if_neg z, e5, k_wr_of (by omega) (by omega), Int.add_assoc]; rfl
    have ea : k_rd A 151 (12 * s + 5 + k) = y_ab A s k := rfl
    have f77 : ∀ hi, (if (k : Int) + 1 < n then hi = y_ab A s (k + 1) else hi = 1000000) → gX9_company_b77 (gX9_company_h18 N) A p (12 * s) (fee + p_sum (y_f (y_sh A s) (y_ab A s) n p) k) k (y_ab A s k) hi = gX9_company_h18 N A p (12 * s) (fee + (p_sum (y_f (y_sh A s) (y_ab A s) n p) k + y_f (y_sh A s) (y_ab A s) n p k)) ((k + 1 : Nat) : Int) := by
      intro hi hh
      have hb : 0 ≤ hi ∧ hi ≤ 1000000 := by
        by_cases z : (k : Int) + 1 < n
        · rw [if_pos z] at hh; have := h (k + 1) (by omega) z; omega
        · rw [if_neg z] at hh; omega
      have hu : y_up (y_ab A s) n p k = min p hi := by
        unfold y_up
        by_cases z : (k : Int) + 1 < n
        · rw [if_pos z] at hh ⊢; rw [hh]
        · rw [if_neg z] at hh ⊢; omega
      unfold gX9_company_b77
      rw [k_wr_of (x := p - _) (by omega) (by omega), k_wr_of (x := hi - _) (by omega) (by omega)]
      by_cases z : p < hi
      · rw [if_pos z]; exact f97 _ (by rw [hu]; omega)
      · rw [if_neg z]; exact f97 _ (by rw [hu]; omega)
    rw [gX9_company_h18, k_wr_of (x := 12 * s + 1) (by omega) (by omega), if_pos (by omega), hn, if_pos (by omega), k_wr_of (x := 12 * s + 5) (by omega) (by omega), k_wr_of (x := 12 * s + 5 + k) (by omega) (by omega), if_pos (by omega), k_wr_of (x := (k : Int) + 1) (by omega) (by omega), k_wr_of (x := 12 * s + 5 + k + 1) (by omega) (by omega), ea]
    by_cases z : (k : Int) + 1 < n
    · rw [if_pos z, if_pos (by omega)]
      exact f77 _ (by rw [if_pos z]; unfold y_ab; rw [Int.add_assoc (12 * s + 5)])
    · rw [if_neg z]
      exact f77 _ (by rw [if_neg z])) (N + 1)
  have st2 : gX9_company_h18 (N + 1 + n) A p (12 * s) (fee + 0) 0 = gX9_company_h18 (N + 1) A p (12 * s) (fee + p_sum (y_f (y_sh A s) (y_ab A s) n p) n) n := st
  rw [Int.add_zero] at st2
  rw [hN, e, st2, gX9_company_h18, k_wr_of (x := 12 * s + 1) (by omega) (by omega), if_pos (by omega), hn, if_neg (by omega)]
