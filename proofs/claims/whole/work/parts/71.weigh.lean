/-! one cell of the table -/
section
variable {A : k_H} {P : Int → Int} {E : e_E} {to : Int}
/-- what the class has put together ahead of LATER -/
def e_wx (E : e_E) (to n : Int) (u i : Nat) (X : Nat) : Prop := X < 4611686018427387904 ∧ e_d X 0 = 0 ∧ ∀ r : Nat, 1 ≤ r → (r : Int) ≤ e_pc u → ((e_d X r : Nat) : Int) = e_g E to n u i r
theorem c_weigh1 (c : e_cx A E to) {m u i : Nat} (hn : (0 : Int) ≤ m ∧ (m : Int) ≤ to) (hu : u < 2 ^ e_mn E) (hi : i < e_mn E) (hui : u.testBit i = true) (hL : ∀ (n' : Int) (u' j : Nat), (m : Int) < n' → n' ≤ to → u' < 2 ^ e_mn E → j < e_mn E → u'.testBit j = true → e_un (P (e_lc n' u' j)) 0 = e_L E to n' u' j) (hG : ∀ (u' j : Nat) (r' : Int), (m : Int) + 1 ≤ to → u' < 2 ^ e_mn E → j < e_mn E → u'.testBit j = true → 1 ≤ r' → r' ≤ e_pc u' → e_un (P (e_lc ((m : Int) + 1) u' j)) r' = e_g E to ((m : Int) + 1) u' j r') : ∃ X : Nat, gX2_weigh (q_G A P) m u i = gX2_weigh_b87 (q_G A P) m u i X ∧ e_wx E to m u i X := by
  have cr := c_rest (A := A) (P := P) c hn hu hi hui hL
  have cc := c
  obtain ⟨c1, c2, c3, c4, c5, c6, c7, c8, c9, c10, c11⟩ := c
  have u64 := e_pow c2
  have pcb := e_pcB u
  have pc1 := e_pc1 (u := u) (i := i) (by omega) (by omega) hui
  obtain ⟨x, x1, x2, x3⟩ := c11 i hi
  have x4 := x3 m (by omega)
  have pt := c10 i hi
  unfold gX2_weigh gX2_weigh_b0
  rw [if_pos (by omega : 0 ≤ (i : Int) ∧ (i : Int) < ((6 : Nat) : Int)), q_Gn (a := 16) (by omega), x2, c_has (by omega) (by omega), k_bds]
  by_cases y2 : x.testBit m = true
  · have cl : ¬ e_cl E i m = 0 := x4.1 y2
    rw [if_pos y2, if_neg (by omega)]
    refine ⟨0, rfl, by decide, by decide, fun r _ _ => ?_⟩
    have e0 := e_d0 r
    have eg : e_g E to m u i r = 0 := by unfold e_g; exact if_neg (fun q => cl q.2)
    omega
  · have cl : e_cl E i m = 0 := by
      by_cases q : e_cl E i m = 0
      · exact q
      · exact absurd (x4.2 q) y2
    rw [if_neg y2, if_pos rfl, cr, k_bds]
    obtain ⟨f, hf⟩ : ∃ f : Nat → Nat, f = fun (r : Nat) => (e_g E to m u i r).toNat := ⟨_, rfl⟩
    have fb : ∀ j, 1 ≤ j → j ≤ 6 → f j < 64 := by
      intro j _ _
      have := e_gB cc (n := m) (u := u) hi hui (ru := j)
      rw [hf]
      show (e_g E to m u i j).toNat < 64
      omega
    have fe : ∀ r : Nat, ((f r : Nat) : Int) = e_g E to m u i r := by
      intro r
      have := e_gB cc (n := m) (u := u) hi hui (ru := r)
      rw [hf]
      show ((e_g E to m u i r).toNat : Int) = _
      omega
    obtain ⟨K, hK⟩ : ∃ K : Nat, (K : Int) = min (e_ro E) (e_pc u) := ⟨(min (e_ro E) (e_pc u)).toNat, by omega⟩
    have st := p_it (fun N (p : Int × Int) => gX2_weigh_h28 N (q_G A P) m u i p.1 (q_mx (e_Tr E to u (fun j => m + max 2 (e_ap E i j))) (e_mn E)) p.2) (fun k => (((e_pk f k : Nat) : Int), (k : Int) + 1)) K (fun N k hk => by
      show gX2_weigh_h28 (N + 1) (q_G A P) m u i ((e_pk f k : Nat) : Int) (q_mx (e_Tr E to u (fun j => m + max 2 (e_ap E i j))) (e_mn E)) ((k : Int) + 1) = gX2_weigh_h28 N (q_G A P) m u i ((e_pk f (k + 1) : Nat) : Int) (q_mx (e_Tr E to u (fun j => m + max 2 (e_ap E i j))) (e_mn E)) (((k + 1 : Nat) : Int) + 1)
      have pk := e_pkD fb k (by omega)
      have fk := fb (k + 1) (by omega) (by omega)
      have fek := fe (k + 1)
      have e1 : ((k + 1 : Nat) : Int) = (k : Int) + 1 := by omega
      rw [gX2_weigh_h28, q_Gn (a := 12) (by omega), c6, if_pos (by omega), c_bitc (by omega), k_bds, if_pos (by omega), c_next cc hn hu hi hui (by omega) hG, k_bds, if_pos (by omega : 0 ≤ (i : Int) ∧ (i : Int) < ((6 : Nat) : Int)), q_Gn (a := 14) (by omega), pt.1]
      have vb := e_Vb cc (to - m).toNat ((m : Int) + 1) ((u, (i : Int), (m : Int), (k : Int) + 1) : e_s)
      rw [e_B (e_hp cc) hn.1 hn.2] at vb
      have ge : e_g E to m u i ((k : Int) + 1) = e_pt E i + max (q_mx (e_Tr E to u (fun j => m + max 2 (e_ap E i j))) (e_mn E)) (if (m : Int) < to then q_mx (e_Tn E to m u i ((k : Int) + 1)) (e_mn E) else 0) := by
        unfold e_g
        rw [if_pos ⟨by omega, cl⟩, e_B (e_hp cc) hn.1 hn.2]
      have ep : e_pk f (k + 1) = e_pk f k ||| f (k + 1) * 2 ^ (6 * (k + 1)) := rfl
      rw [ep]
      generalize (if (m : Int) < to then q_mx (e_Tn E to m u i ((k : Int) + 1)) (e_mn E) else 0) = X at vb ge ⊢
      generalize q_mx (e_Tr E to u (fun j => m + max 2 (e_ap E i j))) (e_mn E) = R at vb ge ⊢
      rw [k_wr_of (x := e_pt E i + max R X) (by omega) (by omega), ← ge, ← e1, ← fek]
      unfold gX2_pack gX2_pack_b0
      rw [b_pk fk (by omega), k_bds, b_lor pk.1 (b_pkB fk (by omega)), k_wr_of (x := ((k + 1 : Nat) : Int) + 1) (by omega) (by omega)])
    obtain ⟨N, hN⟩ := p_FU (K + 1) (by have : k_FU = 1073741824 := rfl; omega)
    have e : N + (K + 1) = (N + 1) + K := by omega
    have st3 : gX2_weigh_h28 (N + 1 + K) (q_G A P) m u i 0 (q_mx (e_Tr E to u (fun j => m + max 2 (e_ap E i j))) (e_mn E)) 1 = gX2_weigh_h28 (N + 1) (q_G A P) m u i ((e_pk f K : Nat) : Int) (q_mx (e_Tr E to u (fun j => m + max 2 (e_ap E i j))) (e_mn E)) ((K : Int) + 1) := st (N + 1)
    rw [hN, e, st3]
    have pk := e_pkD fb K (by omega)
    refine ⟨e_pk f K, ?_, pk.1, by rw [pk.2 0 (by omega), if_neg (by omega)], fun r r1 r2 => ?_⟩
    · rw [gX2_weigh_h28, q_Gn (a := 12) (by omega), c6]
      by_cases z : (K : Int) + 1 ≤ e_ro E
      · rw [if_pos z, c_bitc (by omega), k_bds, if_neg (by omega)]
      · rw [if_neg z]
    · have h1 := pk.2 r (by omega)
      have h2 := fe r
      by_cases z : r ≤ K
      · rw [if_pos ⟨r1, z⟩] at h1
        omega
      · rw [if_neg (fun q => z q.2)] at h1
        have eg : e_g E to m u i r = 0 := by unfold e_g; exact if_neg (fun q => by have := q.1; omega)
        omega
theorem c_weigh (c : e_cx A E to) {n : Int} {u i : Nat} (hn : 0 ≤ n ∧ n ≤ to) (hu : u < 2 ^ e_mn E) (hi : i < e_mn E) (hui : u.testBit i = true) (hL : ∀ (n' : Int) (u' j : Nat), n < n' → n' ≤ to → u' < 2 ^ e_mn E → j < e_mn E → u'.testBit j = true → e_un (P (e_lc n' u' j)) 0 = e_L E to n' u' j) (hG : ∀ (u' j : Nat) (r' : Int), n + 1 ≤ to → u' < 2 ^ e_mn E → j < e_mn E → u'.testBit j = true → 1 ≤ r' → r' ≤ e_pc u' → e_un (P (e_lc (n + 1) u' j)) r' = e_g E to (n + 1) u' j r') : ∃ y : Int, gX2_weigh (q_G A P) n u i = some (0, q_G A (q_up P (e_lc n u i) y)) ∧ (∀ r : Int, 1 ≤ r → r ≤ e_pc u → e_un y r = e_g E to n u i r) ∧ e_un y 0 = e_L E to n u i := by
  obtain ⟨m, rfl⟩ : ∃ m : Nat, n = m := ⟨n.toNat, by omega⟩
  obtain ⟨X, hX, x1, x2, x3⟩ := c_weigh1 c hn hu hi hui hL hG
  have cc := c
  obtain ⟨c1, c2, c3, c4, c5, c6, c7, c8, c9, c10, c11⟩ := c
  have u64 := e_pow c2
  have pcb := e_pcB u
  have pc1 := e_pc1 (u := u) (i := i) (by omega) (by omega) hui
  obtain ⟨kk, ek⟩ : ∃ kk : Nat, (to - m + 1).toNat = kk + 1 := ⟨(to - m + 1).toNat - 1, by omega⟩
  have le : e_L E to m u i = max (e_lg E to kk ((m : Int) + 1) u i) (e_g E to m u i 1) := by unfold e_L; rw [ek, e_lg]
  have lb := e_lgB cc (u := u) hi hui kk ((m : Int) + 1)
  have gb := e_gB cc (n := m) (u := u) hi hui (ru := 1)
  obtain ⟨l, hl⟩ : ∃ l : Nat, (l : Int) = e_L E to m u i := ⟨(e_L E to m u i).toNat, by omega⟩
  have l64 : l < 64 := by omega
  have pB := b_pkB (g := l) (r := 0) l64 (by omega)
  have yB := b_lorB x1 pB
  have w : ∀ v, v = e_lg E to kk ((m : Int) + 1) u i → gX2_weigh_b109 (q_G A P) m u i X v = some (0, q_G A (q_up P (e_lc m u i) ((X ||| l * 2 ^ (6 * 0) : Nat) : Int))) := by
    intro v hv
    have u1 : e_un X 1 = e_g E to m u i 1 := (b_un (j := 1) x1 (by omega)).trans (x3 1 (by omega) (by omega))
    have u2 : gX2_unpack (q_G A P) X 1 = some (e_un X 1, q_G A P) := rfl
    have u3 : gX2_pack (q_G A P) (max v (e_g E to m u i 1)) 0 = some (((l * 2 ^ (6 * 0) : Nat) : Int), q_G A P) := by
      unfold gX2_pack gX2_pack_b0
      have e1 : max v (e_g E to m u i 1) = ((l : Nat) : Int) := by rw [hl, le, hv]
      have e2 : k_lshl (l : Int) (k_wr (6 * 0)) = ((l * 2 ^ (6 * 0) : Nat) : Int) := b_pk (r := 0) l64 (by omega)
      rw [e1, e2]
    unfold gX2_weigh_b109
    rw [u2, k_bds, u1, u3, k_bds, c_lc (by omega) (by omega) (by omega), k_bds, if_pos (e_lcB (by omega) (by omega) (by omega)), p_lt, b_lor x1 pB, q_Gw7]
  refine ⟨((X ||| l * 2 ^ (6 * 0) : Nat) : Int), ?_, fun r r1 r2 => ?_, ?_⟩
  · rw [hX]
    unfold gX2_weigh_b87
    rw [q_Gn (a := 12) (by omega), c3]
    by_cases nt : (m : Int) < to
    · rw [if_pos nt, k_wr_of (x := (m : Int) + 1) (by omega) (by omega), c_gain (by omega) (by omega) (by omega), k_bds, q_G7, hL _ _ _ (by omega) (by omega) hu hi hui]
      refine w _ ?_
      unfold e_L
      have : (to - ((m : Int) + 1) + 1).toNat = kk := by omega
      rw [this]
    · rw [if_neg nt]
      refine w _ ?_
      have : kk = 0 := by omega
      subst this; rfl
  · obtain ⟨q, rfl⟩ : ∃ q : Nat, r = q := ⟨r.toNat, by omega⟩
    rw [b_un yB (by omega), e_dor, e_dpk l64 (by omega) (by omega), if_neg (by omega), Nat.or_zero]
    exact x3 q (by omega) r2
  · have e0 := b_un (j := 0) yB (by omega)
    have e1 : e_un ((X ||| l * 2 ^ (6 * 0) : Nat) : Int) 0 = ((e_d (X ||| l * 2 ^ (6 * 0)) 0 : Nat) : Int) := e0
    rw [e1, e_dor, e_dpk l64 (by omega) (by omega), if_pos rfl, x2, Nat.zero_or, hl]
end
