/-! how a door is shared -/
theorem y_part {x y : Int} (hx : 0 ≤ x ∧ x ≤ 1000000) (hy : 0 ≤ y ∧ y ≤ 100) : k_wr (Int.tdiv (k_wr (x * y)) 100) = x * y / 100 ∧ 0 ≤ x * y / 100 ∧ x * y / 100 ≤ 1000000 := by
  have h1 : 0 ≤ x * y := Int.mul_nonneg hx.1 hy.1
  have h2 : x * y ≤ 1000000 * 100 := Int.mul_le_mul hx.2 hy.2 hy.1 (by decide)
  generalize x * y = z at *
  rw [k_wr_of (x := z) (by omega) (by omega), Int.tdiv_eq_ediv_of_nonneg h1, k_wr_of (by omega) (by omega)]
  omega
def y_up (ab : Int → Int) (n p k : Int) : Int := if k + 1 < n then min p (ab (k + 1)) else p
def y_f (sh ab : Int → Int) (n p k : Int) : Int := max 0 (y_up ab n p k - ab k) * sh k / 100
def y_ok (sh ab : Int → Int) (n : Nat) : Prop := ∀ k : Int, 0 ≤ k → k < n → (0 ≤ sh k ∧ sh k ≤ 100) ∧ 0 ≤ ab k ∧ ab k ≤ 99999
theorem y_b {sh ab : Int → Int} {n : Nat} {p k : Int} (h : y_ok sh ab n) (hp : 0 ≤ p ∧ p ≤ 1000000) (h0 : 0 ≤ k) (h1 : k < n) : 0 ≤ max 0 (y_up ab n p k - ab k) ∧ max 0 (y_up ab n p k - ab k) ≤ 1000000 := by
  have q := h k h0 h1
  unfold y_up
  split
  · omega
  · omega
theorem y_sB {sh ab : Int → Int} {n : Nat} {p : Int} (h : y_ok sh ab n) (hp : 0 ≤ p ∧ p ≤ 1000000) (m : Nat) (hm : m ≤ n) : 0 ≤ p_sum (y_f sh ab n p) m ∧ p_sum (y_f sh ab n p) m ≤ m * 1000000 :=
  p_sumB m (fun i i0 i1 => (y_part (y_b h hp i0 (by omega)) (h i i0 (by omega)).1).2)
theorem c_company {A : k_H} {v p : Int} {n : Nat} (hn : k_rd A v 2 = n) (hn3 : n ≤ 3) (hf : 0 ≤ k_rd A v 3 ∧ k_rd A v 3 ≤ 99999) (h : y_ok (k_rd A (v + 1)) (k_rd A (v + 2)) n) (hp : 0 ≤ p ∧ p ≤ 1000000) : gX6_companyHas A v p = some (k_rd A v 3 + p_sum (y_f (k_rd A (v + 1)) (k_rd A (v + 2)) n p) n, A) := by
  unfold gX6_companyHas gX6_companyHas_b0
  generalize hfe : k_rd A v 3 = fee at *
  obtain ⟨N, hN⟩ := p_FU (n + 1) (by have : k_FU = 1073741824 := rfl; omega)
  have e : N + (n + 1) = (N + 1) + n := by omega
  have st := p_it (fun N (q : Int × Int) => gX6_companyHas_h7 N A v p q.1 q.2) (fun k => (fee + p_sum (y_f (k_rd A (v + 1)) (k_rd A (v + 2)) n p) k, (k : Int))) n (fun N k hk => by
    show gX6_companyHas_h7 (N + 1) A v p (fee + p_sum (y_f (k_rd A (v + 1)) (k_rd A (v + 2)) n p) k) k = gX6_companyHas_h7 N A v p (fee + (p_sum (y_f (k_rd A (v + 1)) (k_rd A (v + 2)) n p) k + y_f (k_rd A (v + 1)) (k_rd A (v + 2)) n p k)) ((k + 1 : Nat) : Int)
    have b0 := y_sB h hp k (by omega)
    have b1 := y_sB h hp (k + 1) (by omega)
    have b2 : p_sum (y_f (k_rd A (v + 1)) (k_rd A (v + 2)) n p) (k + 1) = p_sum (y_f (k_rd A (v + 1)) (k_rd A (v + 2)) n p) k + y_f (k_rd A (v + 1)) (k_rd A (v + 2)) n p k := rfl
    rw [b2] at b1
    have q := h k (by omega) (by omega)
    have yb := y_b (k := k) h hp (by omega) (by omega)
    have yp := y_part yb q.1
    have ys : k_wr (y_up (k_rd A (v + 2)) n p k - k_rd A (v + 2) k) = y_up (k_rd A (v + 2)) n p k - k_rd A (v + 2) k := k_wr_of (by
      unfold y_up; split
      · next z => have := h (k + 1) (by omega) z
                  omega
      · omega) (by omega)
    have fin : ∀ u, u = y_up (k_rd A (v + 2)) n p k → gX6_companyHas_b41 (gX6_companyHas_h7 N) A v p (fee + p_sum (y_f (k_rd A (v + 1)) (k_rd A (v + 2)) n p) k) k u = gX6_companyHas_h7 N A v p (fee + (p_sum (y_f (k_rd A (v + 1)) (k_rd A (v + 2)) n p) k + y_f (k_rd A (v + 1)) (k_rd A (v + 2)) n p k)) ((k + 1 : Nat) : Int) := by
      intro u hu
      unfold gX6_companyHas_b41
      rw [if_pos (by omega), if_pos (by omega), hu, ys, yp.1, k_wr_of (x := (k : Int) + 1) (by omega) (by omega)]
      have y0 : y_f (k_rd A (v + 1)) (k_rd A (v + 2)) n p k = max 0 (y_up (k_rd A (v + 2)) n p k - k_rd A (v + 2) k) * k_rd A (v + 1) k / 100 := rfl
      rw [← y0, k_wr_of (by omega) (by omega), Int.add_assoc]
      rfl
    rw [gX6_companyHas_h7, hn, if_pos (by omega), k_wr_of (x := (k : Int) + 1) (by omega) (by omega)]
    by_cases z : (k : Int) + 1 < n
    · rw [if_pos z, if_pos (by omega)]
      exact fin _ (by unfold y_up; rw [if_pos z])
    · rw [if_neg z]
      exact fin _ (by unfold y_up; rw [if_neg z])) (N + 1)
  have st2 : gX6_companyHas_h7 (N + 1 + n) A v p (fee + 0) 0 = gX6_companyHas_h7 (N + 1) A v p (fee + p_sum (y_f (k_rd A (v + 1)) (k_rd A (v + 2)) n p) n) n := st
  rw [Int.add_zero] at st2
  rw [hN, e, st2, gX6_companyHas_h7, hn, if_neg (by omega)]
theorem c_subs {A : k_H} {v : Int} (hf : 0 ≤ k_rd A v 3 ∧ k_rd A v 3 ≤ 99999) (hs : 0 ≤ k_rd A v 4 ∧ k_rd A v 4 ≤ 100) : gX6_subsidyOfFee A v = some (min (k_rd A v 5) (k_rd A v 3 * k_rd A v 4 / 100), A) := by
  unfold gX6_subsidyOfFee gX6_subsidyOfFee_b0
  rw [(y_part ⟨hf.1, by omega⟩ hs).1]
def y_g (f s m : Int) : Int := min m (f * s / 100)
def y_more (l left : Int) : Int := if l ≠ 0 ∧ left < 0 then (1 - left) / 2 else 0
def y_an (p has gives l w : Int) : Int := if w = 1 then has else if w = 2 then p + (gives + y_more l (p + gives - has)) - has else if w = 3 then gives + y_more l (p + gives - has) else p
theorem c_part {A : k_H} {v p : Int} {n : Nat} {night w : Int} (hw : 0 ≤ w ∧ w ≤ 3) (hni : 0 ≤ night ∧ night < 14) (hd : k_rd A (v + 4) night = p) (hn : k_rd A (v + 5) 2 = n) (hn3 : n ≤ 3) (hf : 0 ≤ k_rd A (v + 5) 3 ∧ k_rd A (v + 5) 3 ≤ 99999) (hs : 0 ≤ k_rd A (v + 5) 4 ∧ k_rd A (v + 5) 4 ≤ 100) (hm : 0 ≤ k_rd A (v + 5) 5 ∧ k_rd A (v + 5) 5 ≤ 99999) (h : y_ok (k_rd A (v + 5 + 1)) (k_rd A (v + 5 + 2)) n) (hp : 0 ≤ p ∧ p ≤ 1000000) : gX4_partOfDoor A v night w = some (y_an p (k_rd A (v + 5) 3 + p_sum (y_f (k_rd A (v + 5 + 1)) (k_rd A (v + 5 + 2)) n p) n) (y_g (k_rd A (v + 5) 3) (k_rd A (v + 5) 4) (k_rd A (v + 5) 5)) (k_rd A (v + 5) 6) w, A) := by
  have cc := c_company hn hn3 hf h hp
  have cs := c_subs hf hs
  have b := y_sB h hp n (by omega)
  have gb := (y_part ⟨hf.1, (by omega : k_rd A (v + 5) 3 ≤ 1000000)⟩ hs).2
  unfold gX4_partOfDoor gX4_partOfDoor_b0
  rw [if_pos (by omega), hd]
  simp only [gX6_hallKeeps, gX6_hallKeeps_b0, gX6_schemeGives, gX6_schemeGives_b0, gX6_schemeGives_b25, gX6_schemeGives_b26, gX6_keptBeforeLoss, gX6_keptBeforeLoss_b0, cc, cs, k_bds]
  generalize hS : p_sum (y_f (k_rd A (v + 5 + 1)) (k_rd A (v + 5 + 2)) n p) n = S at *
  have yg : y_g (k_rd A (v + 5) 3) (k_rd A (v + 5) 4) (k_rd A (v + 5) 5) = min (k_rd A (v + 5) 5) (k_rd A (v + 5) 3 * k_rd A (v + 5) 4 / 100) := rfl
  rw [yg]
  generalize hG : min (k_rd A (v + 5) 5) (k_rd A (v + 5) 3 * k_rd A (v + 5) 4 / 100) = G at *
  have G0 : 0 ≤ G ∧ G ≤ 99999 := by omega
  generalize k_rd A (v + 5) 3 = F at *
  rw [k_wr_of (x := p + G) (by omega) (by omega), k_wr_of (x := p + G - (F + S)) (by omega) (by omega), k_wr_of (x := 1 - (p + G - (F + S))) (by omega) (by omega), k_wr_of (x := G + 0) (by omega) (by omega)]
  unfold y_an
  by_cases w0 : w = 0
  · rw [if_pos (by omega), if_neg (by omega), if_neg (by omega), if_neg (by omega)]
  · rw [if_neg (by omega)]
    by_cases w1 : w = 1
    · rw [if_pos w1, if_pos w1]
    · rw [if_neg w1, if_neg w1]
      by_cases z : k_rd A (v + 5) 6 = 0 ∨ ¬ p + G - (F + S) < 0
      · have ym : y_more (k_rd A (v + 5) 6) (p + G - (F + S)) = 0 := if_neg (by omega)
        have sg : (if k_rd A (v + 5) 6 = 0 then some (G + 0, A) else if p + G - (F + S) < 0 then some (k_wr (G + k_wr (Int.tdiv (1 - (p + G - (F + S))) 2)), A) else some (G + 0, A)) = some (G + 0, A) := by
          by_cases q : k_rd A (v + 5) 6 = 0
          · rw [if_pos q]
          · rw [if_neg q, if_neg (by omega)]
        rw [sg, k_bds, k_bds, ym]
        by_cases w2 : w = 2
        · rw [if_pos w2, if_pos w2, cc, k_bds, k_wr_of (x := p + (G + 0)) (by omega) (by omega), k_wr_of (by omega) (by omega), k_bds]
        · rw [if_neg w2, if_neg w2, if_pos (by omega)]
      · have ym : y_more (k_rd A (v + 5) 6) (p + G - (F + S)) = (1 - (p + G - (F + S))) / 2 := if_pos (by omega)
        have sg : (if k_rd A (v + 5) 6 = 0 then some (G + 0, A) else if p + G - (F + S) < 0 then some (k_wr (G + k_wr (Int.tdiv (1 - (p + G - (F + S))) 2)), A) else some (G + 0, A)) = some (G + (1 - (p + G - (F + S))) / 2, A) := by
          rw [if_neg (by omega), if_pos (by omega), Int.tdiv_eq_ediv_of_nonneg (by omega), k_wr_of (x := (1 - (p + G - (F + S))) / 2) (by omega) (by omega), k_wr_of (by omega) (by omega)]
        rw [sg, k_bds, k_bds, ym]
        by_cases w2 : w = 2
        · rw [if_pos w2, if_pos w2, cc, k_bds, k_wr_of (x := p + (G + _)) (by omega) (by omega), k_wr_of (by omega) (by omega), k_bds]
        · rw [if_neg w2, if_neg w2, if_pos (by omega)]
