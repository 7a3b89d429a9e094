/-! the class's tables -/
def q_G (A : k_H) (P : Int → Int) : k_H := q_put A 17 P
section
variable {A : k_H} {P : Int → Int} {j x v : Int}
theorem q_G7 : k_rd (q_G A P) 17 j = P j := by unfold q_G; rw [q_pe]
theorem q_Gn {a : Int} (h : a ≠ 17) : k_rd (q_G A P) a j = k_rd A a j := by unfold q_G; rw [q_pn h]
theorem q_Gw7 : k_wt (q_G A P) 17 x v = q_G A (q_up P x v) := by unfold q_G; rw [q_pw]
theorem q_Gid : q_G A (k_rd A 17) = A := by unfold q_G; rw [q_pid]
end
def e_lc (n : Int) (u i : Nat) : Int := (n * 64 + u) * 6 + i
theorem c_lc {A : k_H} {n : Int} {u i : Nat} (hn : 0 ≤ n ∧ n ≤ 13) (hu : u < 64) (hi : i < 6) : gX2_cell A n u i = some (e_lc n u i, A) := by
  unfold gX2_cell gX2_cell_b0 e_lc
  rw [k_wr_of (x := n * 64) (by omega) (by omega), k_wr_of (x := n * 64 + u) (by omega) (by omega), k_wr_of (x := (n * 64 + u) * 6) (by omega) (by omega), k_wr_of (by omega) (by omega)]
theorem e_lcB {n : Int} {u i : Nat} (hn : 0 ≤ n ∧ n ≤ 13) (hu : u < 64) (hi : i < 6) : 0 ≤ e_lc n u i ∧ e_lc n u i < ((5376 : Nat) : Int) := by unfold e_lc; omega
theorem c_gain {A : k_H} {n r : Int} {u i : Nat} (hn : 0 ≤ n ∧ n ≤ 13) (hu : u < 64) (hi : i < 6) : gX2_gain A n u i r = some (e_un (k_rd A 17 (e_lc n u i)) r, A) := by
  unfold gX2_gain gX2_gain_b0
  rw [c_lc hn hu hi, k_bds, if_pos (e_lcB hn hu hi)]
  rfl
def e_cx (A : k_H) (E : e_E) (to : Int) : Prop := k_rd A 12 5 = e_mn E ∧ e_mn E ≤ 6 ∧ k_rd A 12 7 = to ∧ 0 ≤ to ∧ to ≤ 13 ∧ k_rd A 12 9 = e_ro E ∧ 1 ≤ e_ro E ∧ e_ro E ≤ 14 ∧ (∀ i j : Nat, i < e_mn E → j < e_mn E → i ≠ j → k_rd A 15 ((i : Int) * 6 + j) = e_ap E i j ∧ 0 ≤ e_ap E i j ∧ e_ap E i j ≤ 198) ∧ (∀ i : Nat, i < e_mn E → k_rd A 14 i = e_pt E i ∧ 1 ≤ e_pt E i ∧ e_pt E i ≤ 10) ∧ (∀ i : Nat, i < e_mn E → ∃ x : Nat, x < 16384 ∧ k_rd A 16 i = x ∧ ∀ n : Nat, n < 14 → (x.testBit n = true ↔ e_cl E i n ≠ 0))
theorem e_pow {m : Nat} (h : m ≤ 6) : 2 ^ m ≤ 64 := by
  have : ∀ m : Nat, m ≤ 6 → 2 ^ m ≤ 64 := by decide
  exact this m h
theorem e_orM {u j m : Nat} (hu : u < 2 ^ m) (hj : j < m) : u ||| 2 ^ j < 2 ^ m := Nat.or_lt_two_pow hu (Nat.pow_lt_pow_right (by omega) hj)
section
variable {A : k_H} {P : Int → Int} {E : e_E} {to : Int}
theorem e_hp (c : e_cx A E to) : ∀ i : Int, 0 ≤ i → i < e_mn E → 0 ≤ e_pt E i := by
  intro i i0 i1
  obtain ⟨j, rfl⟩ : ∃ j : Nat, i = j := ⟨i.toNat, by omega⟩
  have := c.2.2.2.2.2.2.2.2.2.1 j (by omega)
  omega
theorem e_Vb (c : e_cx A E to) (k : Nat) (n : Int) (s : e_s) : 0 ≤ e_V E k n s ∧ e_V E k n s ≤ 60 := by
  have h1 := e_V0 E k n s
  have h2 := e_Vr (e_hp c) k n s
  have h3 := p_sumB (f := e_ur E (e_u s)) (B := 10) (e_mn E) (fun i i0 i1 => by
    obtain ⟨j, rfl⟩ : ∃ j : Nat, i = j := ⟨i.toNat, by omega⟩
    have := c.2.2.2.2.2.2.2.2.2.1 j (by omega)
    unfold e_ur; split <;> omega)
  have := c.2.1
  omega
theorem e_gB (c : e_cx A E to) {n : Int} {u i : Nat} (hi : i < e_mn E) (hui : u.testBit i = true) {ru : Int} : 0 ≤ e_g E to n u i ru ∧ e_g E to n u i ru ≤ 60 := by
  have hw : (u ^^^ 2 ^ i).testBit i = false := by rw [Nat.testBit_xor, hui, Nat.testBit_two_pow]; simp
  have hu : (u ^^^ 2 ^ i) ||| 2 ^ i = u := by
    apply Nat.eq_of_testBit_eq
    intro j
    rw [Nat.testBit_or, Nat.testBit_xor, Nat.testBit_two_pow]
    by_cases z : i = j
    · subst z; simp [hui]
    · simp [z]
  have h0 := c.2.2.2.2.2.2.2.2.2.1 i hi
  have h1 := e_V0 E (to - n).toNat (n + 1) ((u, (i : Int), n, ru) : e_s)
  have h2 : e_V E (to - n).toNat (n + 1) ((u, (i : Int), n, ru) : e_s) ≤ p_sum (e_ur E u) (e_mn E) := e_Vr (e_hp c) (to - n).toNat (n + 1) ((u, (i : Int), n, ru) : e_s)
  have h4 := e_urS (E := E) hw (e_mn E) hi
  rw [hu] at h4
  have h5 := p_sumB (f := e_ur E (u ^^^ 2 ^ i)) (B := 10) (e_mn E) (fun i i0 i1 => by
    obtain ⟨j, rfl⟩ : ∃ j : Nat, i = j := ⟨i.toNat, by omega⟩
    have := c.2.2.2.2.2.2.2.2.2.1 j (by omega)
    unfold e_ur; split <;> omega)
  have := c.2.1
  unfold e_g
  split <;> omega
theorem e_lgB (c : e_cx A E to) {u i : Nat} (hi : i < e_mn E) (hui : u.testBit i = true) : ∀ (k : Nat) (n : Int), 0 ≤ e_lg E to k n u i ∧ e_lg E to k n u i ≤ 60 := by
  intro k
  induction k with
  | zero => intro n; rw [e_lg]; omega
  | succ k ih =>
    intro n
    have h1 := ih (n + 1)
    have h2 := e_gB c (n := n) (u := u) hi hui (ru := 1)
    rw [e_lg]; omega
theorem c_rest (c : e_cx A E to) {n : Int} {u i : Nat} (hn : 0 ≤ n ∧ n ≤ to) (hu : u < 2 ^ e_mn E) (hi : i < e_mn E) (hui : u.testBit i = true) (hL : ∀ (n' : Int) (u' j : Nat), n < n' → n' ≤ to → u' < 2 ^ e_mn E → j < e_mn E → u'.testBit j = true → e_un (P (e_lc n' u' j)) 0 = e_L E to n' u' j) : gX2_gainRested (q_G A P) n u i = some (q_mx (e_Tr E to u (fun j => n + max 2 (e_ap E i j))) (e_mn E), q_G A P) := by
  obtain ⟨c1, c2, c3, c4, c5, c6, c7, c8, c9, c10, c11⟩ := c
  have u64 := e_pow c2
  have st := p_it (fun N (p : Int × Int) => gX2_gainRested_h6 N (q_G A P) n u i p.1 p.2) (fun k => (q_mx (e_Tr E to u (fun j => n + max 2 (e_ap E i j))) k, (k : Int))) (e_mn E) (fun N k hk => by
    show gX2_gainRested_h6 (N + 1) (q_G A P) n u i (q_mx (e_Tr E to u (fun j => n + max 2 (e_ap E i j))) k) k = gX2_gainRested_h6 N (q_G A P) n u i (max (q_mx (e_Tr E to u (fun j => n + max 2 (e_ap E i j))) k) (e_Tr E to u (fun j => n + max 2 (e_ap E i j)) k)) ((k + 1 : Nat) : Int)
    have m0 := q_mx0 (f := e_Tr E to u (fun j => n + max 2 (e_ap E i j))) k
    rw [gX2_gainRested_h6, q_Gn (by omega), c1, if_pos (by omega), k_wr_of (x := (i : Int) * 6) (by omega) (by omega), k_wr_of (x := (i : Int) * 6 + k) (by omega) (by omega), if_pos (by omega), c_has (by omega) (by omega), k_bds]
    simp only [gX2_gainRested_b75]
    rw [k_wr_of (x := (k : Int) + 1) (by omega) (by omega), q_Gn (a := 15) (by omega), q_Gn (a := 12) (by omega), c3]
    simp only [e_Tr, Int.toNat_natCast]
    by_cases z : u.testBit k = true
    · rw [if_pos z, if_neg (by omega), if_neg (by rw [z]; simp), show max (q_mx (e_Tr E to u (fun j => n + max 2 (e_ap E i j))) k) 0 = q_mx (e_Tr E to u (fun j => n + max 2 (e_ap E i j))) k by omega]
      rfl
    · have zf : u.testBit k = false := by simpa using z
      have ik : i ≠ k := fun e => by rw [e, zf] at hui; cases hui
      have ap := c9 i k hi hk ik
      rw [if_neg z, if_pos rfl, ap.1, k_wr_of (x := n + max 2 (e_ap E i k)) (by omega) (by omega)]
      by_cases y : n + max 2 (e_ap E i k) ≤ to
      · have o64 := e_orM hu hk
        rw [if_pos y, if_pos ⟨zf, y⟩, b_or (by omega) (by omega), c_gain (by omega) (by omega) (by omega), k_bds, q_G7, hL _ _ _ (by omega) y o64 hk (by rw [e_tb]; simp)]
        rfl
      · rw [if_neg y, if_neg (fun q => y q.2), show max (q_mx (e_Tr E to u (fun j => n + max 2 (e_ap E i j))) k) 0 = q_mx (e_Tr E to u (fun j => n + max 2 (e_ap E i j))) k by omega]
        rfl)
  obtain ⟨N, hN⟩ := p_FU (e_mn E + 1) (by have : k_FU = 1073741824 := rfl; omega)
  have e : N + (e_mn E + 1) = (N + 1) + e_mn E := by omega
  unfold gX2_gainRested gX2_gainRested_b0
  rw [hN, e]
  refine (st (N + 1)).trans ?_
  show gX2_gainRested_h6 (N + 1) (q_G A P) n u i (q_mx (e_Tr E to u (fun j => n + max 2 (e_ap E i j))) (e_mn E)) (e_mn E) = _
  rw [gX2_gainRested_h6, q_Gn (by omega), c1, if_neg (by omega)]
theorem c_next (c : e_cx A E to) {n r : Int} {u i : Nat} (hn : 0 ≤ n ∧ n ≤ to) (hu : u < 2 ^ e_mn E) (hi : i < e_mn E) (hui : u.testBit i = true) (hr : 1 ≤ r ∧ r ≤ e_pc u) (hG : ∀ (u' j : Nat) (r' : Int), n + 1 ≤ to → u' < 2 ^ e_mn E → j < e_mn E → u'.testBit j = true → 1 ≤ r' → r' ≤ e_pc u' → e_un (P (e_lc (n + 1) u' j)) r' = e_g E to (n + 1) u' j r') : gX2_gainNextNight (q_G A P) n u i r = some (if n < to then q_mx (e_Tn E to n u i r) (e_mn E) else 0, q_G A P) := by
  obtain ⟨c1, c2, c3, c4, c5, c6, c7, c8, c9, c10, c11⟩ := c
  have u64 := e_pow c2
  have pcb := e_pcB u
  unfold gX2_gainNextNight gX2_gainNextNight_b0
  by_cases nt : n < to
  · rw [if_pos nt]
    have st := p_it (fun N (p : Int × Int) => gX2_gainNextNight_h6 N (q_G A P) n u i r p.1 p.2) (fun k => (q_mx (e_Tn E to n u i r) k, (k : Int))) (e_mn E) (fun N k hk => by
      show gX2_gainNextNight_h6 (N + 1) (q_G A P) n u i r (q_mx (e_Tn E to n u i r) k) k = gX2_gainNextNight_h6 N (q_G A P) n u i r (max (q_mx (e_Tn E to n u i r) k) (e_Tn E to n u i r k)) ((k + 1 : Nat) : Int)
      have m0 := q_mx0 (f := e_Tn E to n u i r) k
      rw [gX2_gainNextNight_h6, q_Gn (by omega), c1, if_pos (by omega), q_Gn (by omega), c3, if_pos nt, c_has (by omega) (by omega), k_bds]
      simp only [gX2_gainNextNight_b74]
      rw [k_wr_of (x := (k : Int) + 1) (by omega) (by omega), k_wr_of (x := (i : Int) * 6) (by omega) (by omega), k_wr_of (x := (i : Int) * 6 + k) (by omega) (by omega), q_Gn (a := 15) (by omega), k_wr_of (x := n + 1) (by omega) (by omega), k_wr_of (x := r + 1) (by omega) (by omega)]
      simp only [e_Tn, Int.toNat_natCast]
      by_cases z : u.testBit k = true
      · rw [if_pos z, if_neg (by omega), if_neg (by rw [z]; simp), show max (q_mx (e_Tn E to n u i r) k) 0 = q_mx (e_Tn E to n u i r) k by omega]
        rfl
      · have zf : u.testBit k = false := by simpa using z
        have ik : i ≠ k := fun e => by rw [e, zf] at hui; cases hui
        have ap := c9 i k hi hk ik
        rw [if_neg z, if_pos rfl, if_pos (by omega), ap.1]
        by_cases y : e_ap E i k ≤ 1
        · have o64 := e_orM hu hk
          have pcs := e_pcS (u := u) (i := k) (by omega) (by omega) zf
          have pcb2 := e_pcB (u ||| 2 ^ k)
          rw [if_pos y, if_pos ⟨zf, y⟩, b_or (by omega) (by omega), c_gain (by omega) (by omega) (by omega), k_bds, q_G7, hG _ _ _ (by omega) o64 hk (by rw [e_tb]; simp) (by omega) (by omega)]
          rfl
        · rw [if_neg y, if_neg (fun q => y q.2), show max (q_mx (e_Tn E to n u i r) k) 0 = q_mx (e_Tn E to n u i r) k by omega]
          rfl)
    obtain ⟨N, hN⟩ := p_FU (e_mn E + 1) (by have : k_FU = 1073741824 := rfl; omega)
    have e : N + (e_mn E + 1) = (N + 1) + e_mn E := by omega
    rw [hN, e]
    refine (st (N + 1)).trans ?_
    show gX2_gainNextNight_h6 (N + 1) (q_G A P) n u i r (q_mx (e_Tn E to n u i r) (e_mn E)) (e_mn E) = _
    rw [gX2_gainNextNight_h6, q_Gn (by omega), c1, if_neg (by omega)]
  · rw [if_neg nt]
    obtain ⟨N, hN⟩ := p_FU 1 (by decide)
    rw [hN, gX2_gainNextNight_h6, q_Gn (by omega), c1, q_Gn (by omega), c3, if_neg nt]
    split <;> rfl
end
