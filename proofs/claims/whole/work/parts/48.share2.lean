/-! the reference's sharing -/
def y_sh (A : k_H) (s k : Int) : Int := k_rd A 150 (12 * s + 2 + k)
def y_ab (A : k_H) (s k : Int) : Int := k_rd A 150 (12 * s + 5 + k)
theorem m_company {A : k_H} {s p : Int} {n : Nat} (hs : 0 ≤ s ∧ s < 6) (hn : k_rd A 150 (12 * s + 1) = n) (hn3 : n ≤ 3) (hf : 0 ≤ k_rd A 150 (12 * s) ∧ k_rd A 150 (12 * s) ≤ 99999) (h : y_ok (y_sh A s) (y_ab A s) n) (hp : 0 ≤ p ∧ p ≤ 1000000) : gX9_company A s p = some (k_rd A 150 (12 * s) + p_sum (y_f (y_sh A s) (y_ab A s) n p) n, A) := by
  unfold gX9_company gX9_company_b0
  rw [k_wr_of (x := 12 * s) (by omega) (by omega), k_wr_of (x := 12 * s + 0) (by omega) (by omega), if_pos (by omega), Int.add_zero]
  generalize hfe : k_rd A 150 (12 * s) = fee at *
  obtain ⟨N, hN⟩ := p_FU (n + 1) (by have : k_FU = 1073741824 := rfl; omega)
  have e : N + (n + 1) = (N + 1) + n := by omega
  have st := p_it (fun N (q : Int × Int) => gX9_company_h18 N A p (12 * s) q.1 q.2) (fun k => (fee + p_sum (y_f (y_sh A s) (y_ab A s) n p) k, (k : Int))) n (fun N k hk => by
    show gX9_company_h18 (N + 1) A p (12 * s) (fee + p_sum (y_f (y_sh A s) (y_ab A s) n p) k) k = gX9_company_h18 N A p (12 * s) (fee + (p_sum (y_f (y_sh A s) (y_ab A s) n p) k + y_f (y_sh A s) (y_ab A s) n p k)) ((k + 1 : Nat) : Int)
    have b0 := y_sB h hp k (by omega)
    have b1 := y_sB h hp (k + 1) (by omega)
    have b2 : p_sum (y_f (y_sh A s) (y_ab A s) n p) (k + 1) = p_sum (y_f (y_sh A s) (y_ab A s) n p) k + y_f (y_sh A s) (y_ab A s) n p k := rfl
    rw [b2] at b1
    have q := h k (by omega) (by omega)
    have yb := y_b (k := k) h hp (by omega) (by omega)
    have yp := y_part yb q.1
    have y0 : y_f (y_sh A s) (y_ab A s) n p k = max 0 (y_up (y_ab A s) n p k - y_ab A s k) * y_sh A s k / 100 := rfl
    have f97 : ∀ x, max 0 x = max 0 (y_up (y_ab A s) n p k - y_ab A s k) → gX9_company_b97 (gX9_company_h18 N) A p (12 * s) (fee + p_sum (y_f (y_sh A s) (y_ab A s) n p) k) k x = gX9_company_h18 N A p (12 * s) (fee + (p_sum (y_f (y_sh A s) (y_ab A s) n p) k + y_f (y_sh A s) (y_ab A s) n p k)) ((k + 1 : Nat) : Int) := by
      intro x hx
      unfold gX9_company_b97 gX9_company_b127
      rw [k_wr_of (x := (k : Int) + 1) (by omega) (by omega), k_wr_of (x := 12 * s + 2) (by omega) (by omega), k_wr_of (x := 12 * s + 2 + k) (by omega) (by omega)]
      by_cases z : 0 < x
      · have hx2 : x = max 0 (y_up (y_ab A s) n p k - y_ab A s k) := by omega
        have e5 : k_wr (Int.tdiv (k_wr (x * k_rd A 150 (12 * s + 2 + k))) 100) = y_f (y_sh A s) (y_ab A s) n p k := by rw [hx2]; exact yp.1
        rw [if_pos z, if_pos (by omega), e5, k_wr_of (by omega) (by omega), Int.add_assoc]; rfl
      · have hx2 : max 0 (y_up (y_ab A s) n p k - y_ab A s k) = 0 := by omega
        have e5 : y_f (y_sh A s) (y_ab A s) n p k = 0 := by rw [y0, hx2, Int.zero_mul]; rfl
        rw [if_neg z, e5, k_wr_of (by omega) (by omega), Int.add_assoc]; rfl
    have ea : k_rd A 150 (12 * s + 5 + k) = y_ab A s k := rfl
    have f77 : ∀ hi, (if (k : Int) + 1 < n then hi = y_ab A s (k + 1) else hi = 1000000) → gX9_company_b77 (gX9_company_h18 N) A p (12 * s) (fee + p_sum (y_f (y_sh A s) (y_ab A s) n p) k) k (y_ab A s k) hi = gX9_company_h18 N A p (12 * s) (fee + (p_sum (y_f (y_sh A s) (y_ab A s) n p) k + y_f (y_sh A s) (y_ab A s) n p k)) ((k + 1 : Nat) : Int) := by
      intro hi hh
      have hb : 0 ≤ hi ∧ hi ≤ 1000000 := by
        by_cases z : (k : Int) + 1 < n
        · rw [if_pos z] at hh; have := h (k + 1) (by omega) z; omega
        · rw [if_neg z] at hh; omega
      have hu : y_up (y_ab A s) n p k = min p hi := by
        unfold y_up
        by_cases z : (k : Int) + 1 < n
        · rw [if_pos z] at hh ⊢; rw [hh]
        · rw [if_neg z] at hh ⊢; omega
      unfold gX9_company_b77
      rw [k_wr_of (x := p - _) (by omega) (by omega), k_wr_of (x := hi - _) (by omega) (by omega)]
      by_cases z : p < hi
      · rw [if_pos z]; exact f97 _ (by rw [hu]; omega)
      · rw [if_neg z]; exact f97 _ (by rw [hu]; omega)
    rw [gX9_company_h18, k_wr_of (x := 12 * s + 1) (by omega) (by omega), if_pos (by omega), hn, if_pos (by omega), k_wr_of (x := 12 * s + 5) (by omega) (by omega), k_wr_of (x := 12 * s + 5 + k) (by omega) (by omega), if_pos (by omega), k_wr_of (x := (k : Int) + 1) (by omega) (by omega), k_wr_of (x := 12 * s + 5 + k + 1) (by omega) (by omega), ea]
    by_cases z : (k : Int) + 1 < n
    · rw [if_pos z, if_pos (by omega)]
      exact f77 _ (by rw [if_pos z]; unfold y_ab; rw [Int.add_assoc (12 * s + 5)])
    · rw [if_neg z]
      exact f77 _ (by rw [if_neg z])) (N + 1)
  have st2 : gX9_company_h18 (N + 1 + n) A p (12 * s) (fee + 0) 0 = gX9_company_h18 (N + 1) A p (12 * s) (fee + p_sum (y_f (y_sh A s) (y_ab A s) n p) n) n := st
  rw [Int.add_zero] at st2
  rw [hN, e, st2, gX9_company_h18, k_wr_of (x := 12 * s + 1) (by omega) (by omega), if_pos (by omega), hn, if_neg (by omega)]
theorem m_share {A : k_H} {s p w : Int} {n : Nat} (hw : 0 ≤ w ∧ w ≤ 3) (hs : 0 ≤ s ∧ s < 6) (hn : k_rd A 150 (12 * s + 1) = n) (hn3 : n ≤ 3) (hf : 0 ≤ k_rd A 150 (12 * s) ∧ k_rd A 150 (12 * s) ≤ 99999) (hu : 0 ≤ k_rd A 150 (12 * s + 8) ∧ k_rd A 150 (12 * s + 8) ≤ 100) (hm : 0 ≤ k_rd A 150 (12 * s + 9) ∧ k_rd A 150 (12 * s + 9) ≤ 99999) (hl : 0 ≤ k_rd A 150 (12 * s + 10) ∧ k_rd A 150 (12 * s + 10) ≤ 1) (h : y_ok (y_sh A s) (y_ab A s) n) (hp : 0 ≤ p ∧ p ≤ 1000000) : gX9_shareOf A s p w = some (y_an p (k_rd A 150 (12 * s) + p_sum (y_f (y_sh A s) (y_ab A s) n p) n) (y_g (k_rd A 150 (12 * s)) (k_rd A 150 (12 * s + 8)) (k_rd A 150 (12 * s + 9))) (k_rd A 150 (12 * s + 10)) w, A) := by
  have cc := m_company hs hn hn3 hf h hp
  have b := y_sB h hp n (by omega)
  have gp := y_part ⟨hf.1, (by omega : k_rd A 150 (12 * s) ≤ 1000000)⟩ hu
  have gb := gp.2
  unfold gX9_shareOf gX9_shareOf_b0
  rw [cc, k_bds, k_wr_of (x := 12 * s) (by omega) (by omega), k_wr_of (x := 12 * s + 0) (by omega) (by omega), k_wr_of (x := 12 * s + 8) (by omega) (by omega), k_wr_of (x := 12 * s + 9) (by omega) (by omega), if_pos (by omega), if_pos (by omega), if_pos (by omega), Int.add_zero, gp.1]
  generalize hS : p_sum (y_f (y_sh A s) (y_ab A s) n p) n = S at *
  have yg : y_g (k_rd A 150 (12 * s)) (k_rd A 150 (12 * s + 8)) (k_rd A 150 (12 * s + 9)) = min (k_rd A 150 (12 * s + 9)) (k_rd A 150 (12 * s) * k_rd A 150 (12 * s + 8) / 100) := rfl
  rw [yg]
  generalize k_rd A 150 (12 * s) * k_rd A 150 (12 * s + 8) / 100 = Q at *
  generalize k_rd A 150 (12 * s) = F at *
  have f69 : ∀ g, g = min (k_rd A 150 (12 * s + 9)) Q → gX9_shareOf_b69 A p w (12 * s) (F + S) g = some (y_an p (F + S) (min (k_rd A 150 (12 * s + 9)) Q) (k_rd A 150 (12 * s + 10)) w, A) := by
    intro g hg
    rw [← hg]
    have g0 : 0 ≤ g ∧ g ≤ 99999 := by omega
    unfold gX9_shareOf_b69 gX9_shareOf_b108
    rw [k_wr_of (x := p + g) (by omega) (by omega), k_wr_of (x := p + g - (F + S)) (by omega) (by omega), k_wr_of (x := 12 * s + 10) (by omega) (by omega), k_wr_of (x := 1 - (p + g - (F + S))) (by omega) (by omega)]
    have f109 : ∀ m, m = y_more (k_rd A 150 (12 * s + 10)) (p + g - (F + S)) → 0 ≤ m ∧ m ≤ 4000000 → gX9_shareOf_b109 A p w (F + S) g (p + g - (F + S)) m = some (y_an p (F + S) g (k_rd A 150 (12 * s + 10)) w, A) := by
      intro m hm2 hb
      unfold gX9_shareOf_b109 y_an
      rw [← hm2]
      by_cases w0 : w = 0
      · rw [if_pos w0, if_neg (by omega), if_neg (by omega), if_neg (by omega)]
      · rw [if_neg w0]
        by_cases w1 : w = 1
        · rw [if_pos w1, if_pos w1]
        · rw [if_neg w1, if_neg w1]
          by_cases w2 : w = 2
          · rw [if_pos w2, if_pos w2, k_wr_of (by omega) (by omega)]
            congr 2; omega
          · rw [if_neg w2, if_neg w2, if_pos (by omega), k_wr_of (by omega) (by omega)]
    by_cases z : p + g - (F + S) < 0
    · rw [if_pos z, if_pos (by omega)]
      by_cases z2 : k_rd A 150 (12 * s + 10) = 1
      · rw [if_pos z2, Int.tdiv_eq_ediv_of_nonneg (by omega), k_wr_of (x := (1 - (p + g - (F + S))) / 2) (by omega) (by omega)]
        exact f109 _ (by unfold y_more; rw [if_pos (by omega)]) (by omega)
      · rw [if_neg z2]
        exact f109 _ (by unfold y_more; rw [if_neg (by omega)]) (by omega)
    · rw [if_neg z]
      exact f109 _ (by unfold y_more; rw [if_neg (by omega)]) (by omega)
  by_cases z : Q < k_rd A 150 (12 * s + 9)
  · rw [if_pos z]; exact f69 _ (by omega)
  · rw [if_neg z]; exact f69 _ (by omega)
