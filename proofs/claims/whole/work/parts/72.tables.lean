/-! all cells of the tables -/
def e_ok (E : e_E) (to : Int) (P : Int → Int) (n : Int) (u i : Nat) : Prop := ∀ (n' : Int) (u' j : Nat), 0 ≤ n' → n' ≤ to → u' < 2 ^ e_mn E → j < e_mn E → u'.testBit j = true → (n < n' ∨ (n' = n ∧ (u' < u ∨ (u' = u ∧ j < i)))) → (∀ r : Int, 1 ≤ r → r ≤ e_pc u' → e_un (P (e_lc n' u' j)) r = e_g E to n' u' j r) ∧ e_un (P (e_lc n' u' j)) 0 = e_L E to n' u' j
section
variable {A : k_H} {E : e_E} {to : Int}
theorem c_t1 (c : e_cx A E to) {n : Int} {u : Nat} {v1 : Int} (K5 : k_H → Int → Int → Option (Int × k_H)) (K15 : k_H → Int → Int → Int → Option (Int × k_H)) (hn : 0 ≤ n ∧ n ≤ to) (hu : u < 2 ^ e_mn E) : ∀ (d N i : Nat) (P : Int → Int), i + d = e_mn E → e_ok E to P n u i → ∃ P', gX2_bookBest_h28 K5 K15 (N + d + 1) (q_G A P) v1 n u i = K15 (q_G A P') v1 n ((u : Int) + 1) ∧ e_ok E to P' n (u + 1) 0 := by
  have cc := c
  obtain ⟨c1, c2, c3, c4, c5, c6, c7, c8, c9, c10, c11⟩ := c
  have u64 := e_pow c2
  intro d
  induction d with
  | zero =>
    intro N i P hi ok
    refine ⟨P, by rw [gX2_bookBest_h28, q_Gn (by omega), c1, if_neg (by omega), k_wr_of (by omega) (by omega)], fun n' u' j a1 a2 a3 a4 a5 a6 => ok n' u' j a1 a2 a3 a4 a5 ?_⟩
    omega
  | succ d ih =>
    intro N i P hi ok
    show ∃ P', gX2_bookBest_h28 K5 K15 ((N + d + 1) + 1) (q_G A P) v1 n u i = _ ∧ _
    rw [gX2_bookBest_h28, q_Gn (by omega), c1, if_pos (by omega), c_has (by omega) (by omega), k_bds]
    simp only [gX2_bookBest_b54]
    have ei : k_wr ((i : Int) + 1) = ((i + 1 : Nat) : Int) := by rw [k_wr_of (by omega) (by omega)]; omega
    rw [ei]
    by_cases z : u.testBit i = true
    · obtain ⟨y, w1, w2, w3⟩ := c_weigh (P := P) cc hn hu (i := i) (by omega) z (fun n' u' j a1 a2 a3 a4 a5 => (ok n' u' j (by omega) a2 a3 a4 a5 (Or.inl a1)).2) (fun u' j r' a1 a2 a3 a4 a5 a6 => (ok (n + 1) u' j (by omega) a1 a2 a3 a4 (Or.inl (by omega))).1 r' a5 a6)
      rw [if_pos z, if_neg (by omega), w1, k_bds]
      refine ih N (i + 1) _ (by omega) (fun n' u' j a1 a2 a3 a4 a5 a6 => ?_)
      by_cases same : n' = n ∧ u' = u ∧ j = i
      · obtain ⟨rfl, rfl, rfl⟩ := same
        rw [q_upe]
        exact ⟨w2, w3⟩
      · have o := ok n' u' j a1 a2 a3 a4 a5 (by omega)
        rw [q_upn (by unfold e_lc; omega)]
        exact o
    · rw [if_neg z, if_pos rfl]
      refine ih N (i + 1) P (by omega) (fun n' u' j a1 a2 a3 a4 a5 a6 => ok n' u' j a1 a2 a3 a4 a5 ?_)
      rcases a6 with h | ⟨h1, h2 | ⟨h2, h3⟩⟩
      · exact Or.inl h
      · exact Or.inr ⟨h1, Or.inl h2⟩
      · refine Or.inr ⟨h1, Or.inr ⟨h2, ?_⟩⟩
        by_cases e : j = i
        · rw [e, h2] at a5; exact absurd a5 z
        · omega
theorem c_t2 (c : e_cx A E to) {n : Int} {v1 : Int} (K5 : k_H → Int → Int → Option (Int × k_H)) (hn : 0 ≤ n ∧ n ≤ to) : ∀ (d N u : Nat) (P : Int → Int), u + d = 2 ^ e_mn E → e_ok E to P n u 0 → ∃ P', gX2_bookBest_h15 K5 (N + d + 1) (q_G A P) v1 n u = K5 (q_G A P') v1 (n - 1) ∧ e_ok E to P' n (2 ^ e_mn E) 0 := by
  have cc := c
  obtain ⟨c1, c2, c3, c4, c5, c6, c7, c8, c9, c10, c11⟩ := c
  have u64 := e_pow c2
  intro d
  induction d with
  | zero =>
    intro N u P hu ok
    have e : u = 2 ^ e_mn E := by omega
    refine ⟨P, ?_, by rw [← e]; exact ok⟩
    rw [gX2_bookBest_h15, q_Gn (by omega), c1, b_shl (by omega), if_neg (by omega), k_wr_of (x := n + -1) (by omega) (by omega)]
    rfl
  | succ d ih =>
    intro N u P hu ok
    show ∃ P', gX2_bookBest_h15 K5 ((N + d + 1) + 1) (q_G A P) v1 n u = _ ∧ _
    obtain ⟨M, hM⟩ := p_FU (e_mn E + 1) (by have : k_FU = 1073741824 := rfl; omega)
    rw [gX2_bookBest_h15, q_Gn (by omega), c1, b_shl (by omega), if_pos (by omega), hM]
    obtain ⟨P1, e1, ok1⟩ := c_t1 cc (v1 := v1) K5 (gX2_bookBest_h15 K5 (N + d + 1)) hn (u := u) (by omega) (e_mn E) M 0 P (by omega) ok
    have e2 : gX2_bookBest_h28 K5 (gX2_bookBest_h15 K5 (N + d + 1)) (M + (e_mn E + 1)) (q_G A P) v1 n u 0 = gX2_bookBest_h15 K5 (N + d + 1) (q_G A P1) v1 n ((u : Int) + 1) := e1
    have e3 : ((u : Int) + 1) = ((u + 1 : Nat) : Int) := by omega
    rw [e2, e3]
    exact ih N (u + 1) P1 (by omega) ok1
theorem c_t3 (c : e_cx A E to) {fr v1 : Int} (hfr : k_rd A 12 6 = fr) (fr0 : 0 ≤ fr) : ∀ (d N : Nat) (n : Int) (P : Int → Int), n + 1 = fr + d → n ≤ to → e_ok E to P n 1 0 → ∃ P', gX2_bookBest_h5 (N + d + 1) (q_G A P) v1 n = k_bd (gX2_walk (q_G A P') v1) (fun _ A3 => some (0, A3)) ∧ e_ok E to P' (fr - 1) 1 0 := by
  have cc := c
  obtain ⟨c1, c2, c3, c4, c5, c6, c7, c8, c9, c10, c11⟩ := c
  have u64 := e_pow c2
  intro d
  induction d with
  | zero =>
    intro N n P hn nt ok
    have e : n = fr - 1 := by omega
    refine ⟨P, ?_, by rw [← e]; exact ok⟩
    rw [gX2_bookBest_h5, q_Gn (by omega), hfr, if_neg (by omega)]
  | succ d ih =>
    intro N n P hn nt ok
    show ∃ P', gX2_bookBest_h5 ((N + d + 1) + 1) (q_G A P) v1 n = _ ∧ _
    have p1 : 1 ≤ 2 ^ e_mn E := Nat.one_le_two_pow
    obtain ⟨M, hM⟩ := p_FU (2 ^ e_mn E - 1 + 1) (by have : k_FU = 1073741824 := rfl; omega)
    rw [gX2_bookBest_h5, q_Gn (by omega), hfr, if_pos (by omega), hM]
    obtain ⟨P1, e1, ok1⟩ := c_t2 cc (n := n) (v1 := v1) (gX2_bookBest_h5 (N + d + 1)) (by omega) (2 ^ e_mn E - 1) M 1 P (by omega) ok
    have e2 : gX2_bookBest_h15 (gX2_bookBest_h5 (N + d + 1)) (M + (2 ^ e_mn E - 1 + 1)) (q_G A P) v1 n 1 = gX2_bookBest_h5 (N + d + 1) (q_G A P1) v1 (n - 1) := e1
    rw [e2]
    refine ih N (n - 1) P1 (by omega) (by omega) (fun n' u' j a1 a2 a3 a4 a5 a6 => ok1 n' u' j a1 a2 a3 a4 a5 ?_)
    rcases a6 with h | ⟨h1, h2 | ⟨h2, h3⟩⟩
    · by_cases e : n' = n
      · exact Or.inr ⟨e, Or.inl a3⟩
      · exact Or.inl (by omega)
    · have : u' = 0 := by omega
      rw [this] at a5
      simp at a5
    · omega
theorem c_tables (c : e_cx A E to) {fr v1 : Int} (hfr : k_rd A 12 6 = fr) (fr0 : 0 ≤ fr) (ft : fr ≤ to) : ∃ P, gX2_bookBest A v1 = k_bd (gX2_walk (q_G A P) v1) (fun _ A3 => some (0, A3)) ∧ e_ok E to P (fr - 1) 1 0 := by
  have c3 := c.2.2.1
  have c5 := c.2.2.2.2.1
  obtain ⟨N, hN⟩ := p_FU ((to + 1 - fr).toNat + 1) (by have : k_FU = 1073741824 := rfl; omega)
  obtain ⟨P, e1, ok⟩ := c_t3 c (v1 := v1) hfr fr0 (to + 1 - fr).toNat N to (k_rd A 17) (by omega) (Int.le_refl _) (fun n' u' j a1 a2 a3 a4 a5 a6 => by
    rcases a6 with h | ⟨h1, h2 | ⟨h2, h3⟩⟩
    · omega
    · have : u' = 0 := by omega
      rw [this] at a5
      simp at a5
    · omega)
  rw [q_Gid] at e1
  refine ⟨P, ?_, ok⟩
  unfold gX2_bookBest gX2_bookBest_b0
  rw [c3, hN]
  exact e1
end
