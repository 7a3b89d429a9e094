/-! one cell of the tables -/
def e_fl (G : Int → Int) (o : Int) (f : Int → Int) (k : Nat) (y : Int) : Int := if o ≤ y ∧ y < o + k then f (y - o) else G y
theorem e_flS {G : Int → Int} {o : Int} {f : Int → Int} {k : Nat} : q_up (e_fl G o f k) (o + k) (f k) = e_fl G o f (k + 1) := by
  funext y
  unfold q_up e_fl
  by_cases h : y = o + k
  · rw [if_pos h, if_pos (by omega), h]; congr 1; omega
  · rw [if_neg h]
    by_cases q : o ≤ y ∧ y < o + k
    · rw [if_pos q, if_pos (by omega)]
    · rw [if_neg q, if_neg (by omega)]
theorem e_fl0 {G : Int → Int} {o : Int} {f : Int → Int} : e_fl G o f 0 = G := by
  funext y; unfold e_fl; rw [if_neg (by omega)]
theorem e_fln {G : Int → Int} {o : Int} {f : Int → Int} {k : Nat} {y : Int} (h : y < o ∨ o + k ≤ y) : e_fl G o f k y = G y := if_neg (by omega)
theorem e_fle {G : Int → Int} {o : Int} {f : Int → Int} {k : Nat} {y : Int} (h : o ≤ y ∧ y < o + k) : e_fl G o f k y = f (y - o) := if_pos h
section
variable {A : k_H} {G L : Int → Int} {E : e_E} {to : Int}
theorem c_weigh (c : e_cx A E to) {n : Int} {u i : Nat} (hn : 0 ≤ n ∧ n ≤ to) (hu : u < 2 ^ e_mn E) (hi : i < e_mn E) (hui : u.testBit i = true) (hL : ∀ (n' : Int) (u' j : Nat), n < n' → n' ≤ to → u' < 2 ^ e_mn E → j < e_mn E → u'.testBit j = true → L (e_lc n' u' j) = e_L E to n' u' j) (hG : ∀ (u' j : Nat) (r' : Int), n + 1 ≤ to → u' < 2 ^ e_mn E → j < e_mn E → u'.testBit j = true → 1 ≤ r' → r' ≤ e_pc u' → G (e_gc (n + 1) u' j r') = e_g E to (n + 1) u' j r') : gX2_weigh (q_G A G L) n u i = some (0, q_G A (e_fl G (e_gc n u i 1) (fun r => e_g E to n u i (r + 1)) (e_pc u).toNat) (q_up L (e_lc n u i) (e_L E to n u i))) := by
  have cr := fun G => c_rest (A := A) (G := G) (L := L) c hn hu hi hui hL
  have cc := c
  obtain ⟨c1, c2, c3, c4, c5, c6, c7, c8, c9, c10, c11⟩ := c
  have u64 := e_pow c2
  have pcb := e_pcB u
  have pc1 := e_pc1 (u := u) (i := i) (by omega) (by omega) hui
  obtain ⟨x, x1, x2, x3⟩ := c11 i hi
  obtain ⟨m, rfl⟩ : ∃ m : Nat, n = m := ⟨n.toNat, by omega⟩
  have x4 := x3 m (by omega)
  have pt := c10 i hi
  have st := p_it (fun N (p : k_H × Int) => gX2_weigh_h12 N p.1 m u i (q_mx (e_Tr E to u (fun j => m + max 2 (e_ap E i j))) (e_mn E)) p.2) (fun k => (q_G A (e_fl G (e_gc m u i 1) (fun r => e_g E to m u i (r + 1)) k) L, (k : Int) + 1)) (e_pc u).toNat (fun N k hk => by
    show gX2_weigh_h12 (N + 1) (q_G A (e_fl G (e_gc m u i 1) (fun r => e_g E to m u i (r + 1)) k) L) m u i (q_mx (e_Tr E to u (fun j => m + max 2 (e_ap E i j))) (e_mn E)) ((k : Int) + 1) = gX2_weigh_h12 N (q_G A (e_fl G (e_gc m u i 1) (fun r => e_g E to m u i (r + 1)) (k + 1)) L) m u i (q_mx (e_Tr E to u (fun j => m + max 2 (e_ap E i j))) (e_mn E)) (((k + 1 : Nat) : Int) + 1)
    rw [gX2_weigh_h12, c_bitc (by omega), k_bds, if_pos (by omega), c_next cc hn hu hi hui (by omega) (fun u' j r' a1 a2 a3 a4 a5 a6 => by
      have := e_pcB u'
      rw [e_fln (by unfold e_gc; omega)]; exact hG u' j r' a1 a2 a3 a4 a5 a6), k_bds]
    have vb := e_Vb cc (to - m).toNat ((m : Int) + 1) ((u, (i : Int), (m : Int), (k : Int) + 1) : e_s)
    rw [e_B (e_hp cc) hn.1 hn.2] at vb
    have ge : e_g E to m u i ((k : Int) + 1) = if ((k : Int) + 1 ≤ e_ro E ∧ e_cl E i m = 0) then e_pt E i + max (q_mx (e_Tr E to u (fun j => m + max 2 (e_ap E i j))) (e_mn E)) (if (m : Int) < to then q_mx (e_Tn E to m u i ((k : Int) + 1)) (e_mn E) else 0) else 0 := by
      unfold e_g
      rw [e_B (e_hp cc) hn.1 hn.2]
    generalize (if (m : Int) < to then q_mx (e_Tn E to m u i ((k : Int) + 1)) (e_mn E) else 0) = X at vb ge ⊢
    generalize q_mx (e_Tr E to u (fun j => m + max 2 (e_ap E i j))) (e_mn E) = R at vb ge ⊢
    simp only [gX2_weigh_b63, gX2_weigh_b64, gX2_weigh_b96]
    rw [c_cell (by omega) (by omega) (by omega) (by omega), k_bds, q_Gn (a := 12) (by omega), c6, q_Gn (a := 16) (by omega), x2, c_has (by omega) (by omega), k_bds]
    simp only [c_cell (A := q_G A (e_fl G (e_gc m u i 1) (fun r => e_g E to m u i (r + 1)) k) L) (n := (m : Int)) (r := (k : Int) + 1) (u := u) (i := i) (by omega) (by omega) (by omega) (by omega), k_bds]
    have gb : 0 ≤ e_gc m u i ((k : Int) + 1) ∧ e_gc m u i ((k : Int) + 1) < ((32256 : Nat) : Int) := by unfold e_gc; omega
    have go : e_gc m u i ((k : Int) + 1) = e_gc m u i 1 + k := by unfold e_gc; omega
    have fin : ∀ v, v = e_g E to m u i ((k : Int) + 1) → k_wt (q_G A (e_fl G (e_gc m u i 1) (fun r => e_g E to m u i (r + 1)) k) L) 17 (e_gc m u i ((k : Int) + 1)) v = q_G A (e_fl G (e_gc m u i 1) (fun r => e_g E to m u i (r + 1)) (k + 1)) L := by
      intro v hv
      rw [q_Gw7, hv, go, ← e_flS]
    have kk : k_wr ((k : Int) + 1 + 1) = ((k + 1 : Nat) : Int) + 1 := by rw [k_wr_of (by omega) (by omega)]; omega
    rw [if_pos gb, if_pos gb, if_pos (by omega : 0 ≤ (i : Int) ∧ (i : Int) < ((6 : Nat) : Int)), if_pos (by omega : 0 ≤ (i : Int) ∧ (i : Int) < ((6 : Nat) : Int)), p_lt, p_lt, kk, q_Gn (a := 14) (by omega), pt.1]
    by_cases y1 : (k : Int) + 1 ≤ e_ro E
    · rw [if_pos y1]
      by_cases y2 : x.testBit m = true
      · rw [if_pos y2, if_neg (by omega), if_pos trivial, fin 0 (by rw [ge, if_neg (fun q => x4.1 y2 q.2)])]
      · rw [if_neg y2, if_pos rfl, if_neg (by omega), fin _ (by
          rw [ge, if_pos ⟨y1, by
            by_cases q : e_cl E i m = 0
            · exact q
            · exact absurd (x4.2 q) y2⟩, k_wr_of (by omega) (by omega)])]
    · rw [if_neg y1, if_pos trivial, fin 0 (by rw [ge, if_neg (fun q => y1 q.1)])])
  unfold gX2_weigh gX2_weigh_b0
  rw [cr G, k_bds]
  obtain ⟨N, hN⟩ := p_FU ((e_pc u).toNat + 1) (by have : k_FU = 1073741824 := rfl; omega)
  have e : N + ((e_pc u).toNat + 1) = (N + 1) + (e_pc u).toNat := by omega
  have st2 := st (N + 1)
  have st3 : gX2_weigh_h12 (N + 1 + (e_pc u).toNat) (q_G A (e_fl G (e_gc m u i 1) (fun r => e_g E to m u i (r + 1)) 0) L) m u i (q_mx (e_Tr E to u (fun j => m + max 2 (e_ap E i j))) (e_mn E)) 1 = gX2_weigh_h12 (N + 1) (q_G A (e_fl G (e_gc m u i 1) (fun r => e_g E to m u i (r + 1)) (e_pc u).toNat) L) m u i (q_mx (e_Tr E to u (fun j => m + max 2 (e_ap E i j))) (e_mn E)) (((e_pc u).toNat : Int) + 1) := st2
  rw [e_fl0] at st3
  rw [hN, e, st3, gX2_weigh_h12, c_bitc (by omega), k_bds, if_neg (by omega), q_Gn (a := 12) (by omega), c3]
  have g1 : e_fl G (e_gc m u i 1) (fun r => e_g E to m u i (r + 1)) (e_pc u).toNat (e_gc m u i 1) = e_g E to m u i 1 := by
    rw [e_fle (by omega), Int.sub_self]; rfl
  have lcb : 0 ≤ e_lc m u i ∧ e_lc m u i < ((5376 : Nat) : Int) := by unfold e_lc; omega
  have gcb : 0 ≤ e_gc m u i 1 ∧ e_gc m u i 1 < ((32256 : Nat) : Int) := by unfold e_gc; omega
  obtain ⟨kk, ek⟩ : ∃ kk : Nat, (to - m + 1).toNat = kk + 1 := ⟨(to - m + 1).toNat - 1, by omega⟩
  have le : e_L E to m u i = max (e_lg E to kk ((m : Int) + 1) u i) (e_g E to m u i 1) := by unfold e_L; rw [ek, e_lg]
  have w : ∀ v, v = e_lg E to kk ((m : Int) + 1) u i → gX2_weigh_b128 (q_G A (e_fl G (e_gc m u i 1) (fun r => e_g E to m u i (r + 1)) (e_pc u).toNat) L) m u i v = some (0, q_G A (e_fl G (e_gc m u i 1) (fun r => e_g E to m u i (r + 1)) (e_pc u).toNat) (q_up L (e_lc m u i) (e_L E to m u i))) := by
    intro v hv
    unfold gX2_weigh_b128
    rw [c_lc (by omega) (by omega) (by omega), k_bds, c_cell (by omega) (by omega) (by omega) (by omega), k_bds, if_pos gcb, if_pos lcb, p_lt, q_G7, g1, q_Gw8, hv, ← le]
  by_cases nt : (m : Int) < to
  · have l2b : 0 ≤ e_lc ((m : Int) + 1) u i ∧ e_lc ((m : Int) + 1) u i < ((5376 : Nat) : Int) := by unfold e_lc; omega
    rw [if_pos nt, k_wr_of (x := (m : Int) + 1) (by omega) (by omega), c_lc (by omega) (by omega) (by omega), k_bds, if_pos l2b, q_G8, hL _ _ _ (by omega) (by omega) hu hi hui]
    refine w _ ?_
    unfold e_L
    have : (to - ((m : Int) + 1) + 1).toNat = kk := by omega
    rw [this]
  · rw [if_neg nt]
    refine w _ ?_
    have : kk = 0 := by omega
    subst this; rfl
end
