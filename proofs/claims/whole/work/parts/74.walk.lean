/-! the class's walk, whole -/
def e_as (A : k_H) (E : e_E) (o : Nat) : Int := if o < e_mn E then k_rd A 13 o else -1
section
variable {A : k_H} {E : e_E} {to : Int}
theorem c_walk1 (c : e_cx A E to) {P : Int → Int} {fr v : Int} (hv : 24 ≤ v) (ok : e_ok E to P (fr - 1) 1 0) (fr0 : 0 ≤ fr) : ∀ (k N : Nat) (n la ln v5 v6 ru : Int) (u : Nat) (T : Int → Int), fr ≤ n → n + k = to + 1 → u < 2 ^ e_mn E → (la = -1 ∨ (0 ≤ la ∧ la < e_mn E ∧ u.testBit la.toNat = true)) → (0 ≤ la → v5 = ln ∧ 0 ≤ ln ∧ ln < n) → (-1 ≤ v5 ∧ v5 ≤ 14) → (ru = if 0 ≤ la ∧ ln = n - 1 then v6 else 0) → (0 ≤ ru ∧ ru ≤ e_pc u) → (∀ j : Int, n ≤ j → j ≤ to → T j = -1) → ∃ T', gX2_walk_h22 (N + k + 1) (q_W A P (v + 3) T) v (e_V E k n ((u, la, ln, ru) : e_s)) u la v5 v6 n = some (0, q_W A P (v + 3) T') ∧ ∀ j : Int, T' j = if n ≤ j ∧ j ≤ to then e_as A E (e_pa E k n ((u, la, ln, ru) : e_s) j) else T j := by
  have cc := c
  obtain ⟨c1, c2, c3, c4, c5, c6, c7, c8, c9, c10, c11⟩ := c
  have u64 := e_pow c2
  intro k
  induction k with
  | zero =>
    intro N n la ln v5 v6 ru u T h1 h2 h3 h4 h5 h6 h7 h8 hT
    refine ⟨T, by rw [gX2_walk_h22, q_Wn (by omega), c3, if_neg (by omega)], fun j => by rw [if_neg (by omega)]⟩
  | succ k ih =>
    intro N n la ln v5 v6 ru u T h1 h2 h3 h4 h5 h6 h7 h8 hT
    show ∃ T', gX2_walk_h22 ((N + k + 1) + 1) (q_W A P (v + 3) T) v (e_V E (k + 1) n ((u, la, ln, ru) : e_s)) u la v5 v6 n = _ ∧ _
    have vb := e_Vb cc (k + 1) n ((u, la, ln, ru) : e_s)
    have pcb := e_pcB u
    by_cases lp : 0 < e_V E (k + 1) n ((u, la, ln, ru) : e_s)
    · rw [gX2_walk_h22, q_Wn (by omega), c3, if_pos (by omega), if_pos lp]
      simp only [gX2_walk_b57]
      rw [k_wr_of (x := n - 1) (by omega) (by omega)]
      have run : (if la = -1 then gX2_walk_b58 (gX2_walk_h22 (N + k + 1)) (q_W A P (v + 3) T) v (e_V E (k + 1) n ((u, la, ln, ru) : e_s)) u la v5 n 1 else if v5 = n - 1 then gX2_walk_b58 (gX2_walk_h22 (N + k + 1)) (q_W A P (v + 3) T) v (e_V E (k + 1) n ((u, la, ln, ru) : e_s)) u la v5 n (k_wr (v6 + 1)) else gX2_walk_b58 (gX2_walk_h22 (N + k + 1)) (q_W A P (v + 3) T) v (e_V E (k + 1) n ((u, la, ln, ru) : e_s)) u la v5 n 1) = gX2_walk_b58 (gX2_walk_h22 (N + k + 1)) (q_W A P (v + 3) T) v (e_V E (k + 1) n ((u, la, ln, ru) : e_s)) u la v5 n (ru + 1) := by
        by_cases z : la = -1
        · rw [if_neg (by omega)] at h7
          rw [if_pos z, h7]; rfl
        · have la0 : 0 ≤ la := by omega
          have h5' := h5 la0
          rw [if_neg z]
          by_cases y : v5 = n - 1
          · rw [if_pos ⟨la0, by omega⟩] at h7
            rw [if_pos y, ← h7, k_wr_of (x := ru + 1) (by omega) (by omega)]
          · rw [if_neg (by omega)] at h7
            rw [if_neg y, h7]; rfl
      rw [run]
      unfold gX2_walk_b58
      rw [k_wr_of (x := n - v5) (by omega) (by omega), c_fb cc (by omega) ok fr0 ⟨h1, by omega⟩ h3 h4 h5 h8 (n - v5) (fun q => by rw [(h5 q).1]) (by omega) lp, k_bds]
      simp only [gX2_walk_b124]
      rw [k_wr_of (x := n + 1) (by omega) (by omega)]
      rcases e_oX (e_hp1 cc) (k := k) (n := n) (s := ((u, la, ln, ru) : e_s)) with ⟨a, b, d⟩ | ⟨a, b, d, f⟩
      · rw [if_neg (by omega : ¬ e_o E k n ((u, la, ln, ru) : e_s) < e_mn E), if_pos rfl, b]
        have e1 : e_rs ((u, la, ln, ru) : e_s) = ((u, la, ln, 0) : e_s) := rfl
        rw [e1]
        obtain ⟨T', t1, t2⟩ := ih N (n + 1) la ln v5 (ru + 1) 0 u T (by omega) (by omega) h3 h4 (fun q => by have := h5 q; omega) h6 (by
          by_cases q : 0 ≤ la
          · have := h5 q
            rw [if_neg (by omega)]
          · rw [if_neg (by omega)]) (by omega) (fun j x y => hT j (by omega) y)
        refine ⟨T', t1, fun j => ?_⟩
        rw [t2 j]
        by_cases z : j = n
        · rw [if_neg (by omega), if_pos (by omega), e_pa, if_pos z, a, z, hT n (by omega) (by omega)]
          unfold e_as
          rw [if_neg (by omega)]
        · by_cases y : n + 1 ≤ j ∧ j ≤ to
          · rw [if_pos y, if_pos (by omega), e_pa, if_neg z, a]
            unfold e_st
            rw [if_pos rfl, e1]
          · rw [if_neg y, if_neg (by omega)]
      · have cu := e_canU b
        have pto := c10 (e_o E k n ((u, la, ln, ru) : e_s)) a
        have ou : e_u ((u, la, ln, ru) : e_s) = u := rfl
        rw [ou] at cu
        rw [if_pos a, if_neg (by omega), if_pos (by omega), if_pos (by omega), p_lt, if_pos (by omega)]
        have w1 : ∀ x, k_wt (q_W A P (v + 3) T) (v + 3) n x = q_W A P (v + 3) (q_up T n x) := fun x => by unfold q_W; rw [q_pw]
        rw [q_Wn (a := 13) (by omega), w1, q_Wn (a := 14) (by omega), pto.1, b_or (by omega) (by omega)]
        have e1 : e_nx n ((u, la, ln, ru) : e_s) (e_o E k n ((u, la, ln, ru) : e_s)) = ((u ||| 2 ^ e_o E k n ((u, la, ln, ru) : e_s), ((e_o E k n ((u, la, ln, ru) : e_s) : Nat) : Int), n, ru + 1) : e_s) := rfl
        have ev : e_V E (k + 1) n ((u, la, ln, ru) : e_s) - e_pt E (e_o E k n ((u, la, ln, ru) : e_s)) = e_V E k (n + 1) ((u ||| 2 ^ e_o E k n ((u, la, ln, ru) : e_s), ((e_o E k n ((u, la, ln, ru) : e_s) : Nat) : Int), n, ru + 1) : e_s) := by
          rw [d]
          unfold e_vl
          rw [e1]; omega
        have pcs := e_pcS (u := u) (i := e_o E k n ((u, la, ln, ru) : e_s)) (by omega) (by omega) cu.1
        rw [ev, k_wr_of (x := e_V E k (n + 1) ((u ||| 2 ^ e_o E k n ((u, la, ln, ru) : e_s), ((e_o E k n ((u, la, ln, ru) : e_s) : Nat) : Int), n, ru + 1) : e_s)) (by have := e_Vb cc k (n + 1) ((u ||| 2 ^ e_o E k n ((u, la, ln, ru) : e_s), ((e_o E k n ((u, la, ln, ru) : e_s) : Nat) : Int), n, ru + 1) : e_s); omega) (by have := e_Vb cc k (n + 1) ((u ||| 2 ^ e_o E k n ((u, la, ln, ru) : e_s), ((e_o E k n ((u, la, ln, ru) : e_s) : Nat) : Int), n, ru + 1) : e_s); omega)]
        obtain ⟨T', t1, t2⟩ := ih N (n + 1) ((e_o E k n ((u, la, ln, ru) : e_s) : Nat) : Int) n n (ru + 1) (ru + 1) (u ||| 2 ^ e_o E k n ((u, la, ln, ru) : e_s)) (q_up T n (k_rd A 13 ((e_o E k n ((u, la, ln, ru) : e_s) : Nat) : Int))) (by omega) (by omega) (e_orM h3 a) (Or.inr ⟨by omega, by omega, by rw [Int.toNat_natCast, e_tb]; simp⟩) (fun _ => by omega) (by omega) (by rw [if_pos (by omega)]) (by omega) (fun j x y => by rw [q_upn (by omega)]; exact hT j (by omega) y)
        refine ⟨T', t1, fun j => ?_⟩
        rw [t2 j]
        by_cases z : j = n
        · rw [if_neg (by omega), if_pos (by omega), e_pa, if_pos z, z, q_upe]
          unfold e_as
          rw [if_pos a]
        · by_cases y : n + 1 ≤ j ∧ j ≤ to
          · rw [if_pos y, if_pos (by omega), e_pa, if_neg z]
            unfold e_st
            rw [if_neg (by omega), e1]
          · rw [if_neg y, if_neg (by omega), q_upn z]
    · refine ⟨T, by rw [gX2_walk_h22, q_Wn (by omega), c3, if_pos (by omega), if_neg lp], fun j => ?_⟩
      by_cases y : n ≤ j ∧ j ≤ to
      · rw [if_pos y, e_pa0 (e_hp1 cc) (k + 1) n ((u, la, ln, ru) : e_s) (by omega) j, hT j y.1 y.2]
        unfold e_as
        rw [if_neg (by omega)]
      · rw [if_neg y]
theorem c_most (c : e_cx A E to) {P : Int → Int} {fr : Int} (hfr : k_rd A 12 6 = fr) (ok : e_ok E to P (fr - 1) 1 0) (fr0 : 0 ≤ fr) (ft : fr ≤ to) (ln : Int) {k : Nat} (hk : fr + k = to + 1) : gX2_mostPoints (q_G A P) = some (e_V E k fr ((0, -1, ln, 0) : e_s), q_G A P) := by
  have cc := c
  obtain ⟨c1, c2, c3, c4, c5, c6, c7, c8, c9, c10, c11⟩ := c
  have u64 := e_pow c2
  have ea := e_A (E := E) (to := to) (e_hp cc) (u := 0) (la := -1) (ln := ln) (a := fun _ => -1) (fun j _ n n0 => by
    constructor
    · intro _; show (-1 : Int) ≤ n; omega
    · intro _; exact Or.inl (by omega)) k fr fr0 hk
  have st := p_it (fun N (p : Int × Int) => gX2_mostPoints_h4 N (q_G A P) p.1 p.2) (fun k => (q_mx (e_Tr E to 0 (fun _ => max fr (-1))) k, (k : Int))) (e_mn E) (fun N k hk => by
    show gX2_mostPoints_h4 (N + 1) (q_G A P) (q_mx (e_Tr E to 0 (fun _ => max fr (-1))) k) k = gX2_mostPoints_h4 N (q_G A P) (max (q_mx (e_Tr E to 0 (fun _ => max fr (-1))) k) (e_Tr E to 0 (fun _ => max fr (-1)) k)) ((k + 1 : Nat) : Int)
    have p2 : 2 ^ k < 2 ^ e_mn E := Nat.pow_lt_pow_right (by omega) hk
    have mf : max fr (-1) = fr := by omega
    have p64 : 2 ^ k < 64 := by omega
    have ez : k_wr ((k : Int) + 1) = ((k + 1 : Nat) : Int) := by rw [k_wr_of (by omega) (by omega)]; omega
    rw [gX2_mostPoints_h4, q_Gn (by omega), c1, if_pos (by omega), q_Gn (by omega), hfr, b_shl (by omega), c_gain (by omega) p64 (by omega), k_bds, q_G7, (ok fr (2 ^ k) k fr0 ft p2 hk (by rw [Nat.testBit_two_pow]; simp) (Or.inl (by omega))).2, ez]
    simp only [e_Tr, Int.toNat_natCast, mf]
    rw [if_pos ⟨by simp, ft⟩, Nat.zero_or])
  obtain ⟨N, hN⟩ := p_FU (e_mn E + 1) (by have : k_FU = 1073741824 := rfl; omega)
  have e : N + (e_mn E + 1) = (N + 1) + e_mn E := by omega
  unfold gX2_mostPoints gX2_mostPoints_b0
  rw [hN, e]
  refine (st (N + 1)).trans ?_
  show gX2_mostPoints_h4 (N + 1) (q_G A P) (q_mx (e_Tr E to 0 (fun _ => max fr (-1))) (e_mn E)) (e_mn E) = _
  rw [gX2_mostPoints_h4, q_Gn (by omega), c1, if_neg (by omega), ea]
/-- the class books -/
theorem c_bookBest (c : e_cx A E to) {fr v : Int} (hv : 24 ≤ v) (hfr : k_rd A 12 6 = fr) (fr0 : 0 ≤ fr) (ft : fr ≤ to) (hT : ∀ j : Int, 0 ≤ j → j < 14 → k_rd A (v + 3) j = -1) {k : Nat} (hk : fr + k = to + 1) : ∃ B, gX2_bookBest A v = some (0, B) ∧ (∀ a i : Int, a ≠ 17 ∧ a ≠ v + 3 → k_rd B a i = k_rd A a i) ∧ ∀ j : Int, k_rd B (v + 3) j = if fr ≤ j ∧ j ≤ to then e_as A E (e_pa E k fr ((0, -1, 0, 0) : e_s) j) else k_rd A (v + 3) j := by
  have c5 := c.2.2.2.2.1
  obtain ⟨P, e1, ok⟩ := c_tables c (v1 := v) hfr fr0 ft
  obtain ⟨N, hN⟩ := p_FU (k + 1) (by have : k_FU = 1073741824 := rfl; omega)
  obtain ⟨T', t1, t2⟩ := c_walk1 c hv ok fr0 k N fr (-1) 0 (-1) 0 0 0 (k_rd A (v + 3)) (Int.le_refl _) hk (Nat.pow_pos (by omega)) (Or.inl rfl) (by omega) (by omega) (by rw [if_neg (by omega)]) (by have := e_pcB 0; omega) (fun j x y => hT j (by omega) (by omega))
  have w0 : q_W A P (v + 3) (k_rd A (v + 3)) = q_G A P := by
    unfold q_W
    have : k_rd A (v + 3) = k_rd (q_G A P) (v + 3) := by funext j; rw [q_Gn (by omega)]
    rw [this, q_pid]
  rw [w0] at t1
  refine ⟨q_W A P (v + 3) T', ?_, fun a i q => q_Wn q, fun j => ?_⟩
  · rw [e1]
    unfold gX2_walk gX2_walk_b0
    rw [c_most c hfr ok fr0 ft 0 hk, k_bds, q_Gn (by omega), hfr, hN]
    have t3 : gX2_walk_h22 (N + (k + 1)) (q_G A P) v (e_V E k fr ((0, -1, 0, 0) : e_s)) 0 (-1) (-1) 0 fr = some (0, q_W A P (v + 3) T') := t1
    rw [t3, k_bds]
  · unfold q_W
    rw [q_pe, t2 j]
end
/-! what the tour is worth -/
theorem q_afP {f : Int → Int} : ∀ (k l : Nat), q_af f k l + p_sum f l = p_sum f (l + k) := by
  intro k
  induction k with
  | zero => intro l; rw [q_af]; show 0 + p_sum f l = p_sum f l; omega
  | succ k ih =>
    intro l
    have h := ih (l + 1)
    have e1 : ((l + 1 : Nat) : Int) = (l : Int) + 1 := by omega
    have e2 : l + 1 + k = l + (k + 1) := by omega
    rw [e1, e2] at h
    have e3 : p_sum f (l + 1) = p_sum f l + f l := rfl
    rw [q_af, ← h, e3]; omega
theorem q_afE {f g : Int → Int} : ∀ (k : Nat) (l : Int), (∀ j : Int, l ≤ j → j < l + k → f j = g j) → q_af f k l = q_af g k l := by
  intro k
  induction k with
  | zero => intro l _; rfl
  | succ k ih =>
    intro l h
    rw [q_af, q_af, ih (l + 1) (fun j x y => h j (by omega) (by omega)), h l (by omega) (by omega)]
theorem e_paV {E : e_E} (hp : ∀ i : Int, 0 ≤ i → i < e_mn E → 1 ≤ e_pt E i) : ∀ (k : Nat) (n : Int) (s : e_s), q_af (fun j => if e_pa E k n s j < e_mn E then e_pt E (e_pa E k n s j) else 0) k n = e_V E k n s := by
  intro k
  induction k with
  | zero => intro n s; rfl
  | succ k ih =>
    intro n s
    rw [q_af]
    have e1 : q_af (fun j => if e_pa E (k + 1) n s j < e_mn E then e_pt E (e_pa E (k + 1) n s j) else 0) k (n + 1) = e_V E k (n + 1) (e_st E n s (e_o E k n s)) := by
      rw [← ih (n + 1) (e_st E n s (e_o E k n s))]
      refine q_afE k (n + 1) (fun j x y => ?_)
      have : e_pa E (k + 1) n s j = e_pa E k (n + 1) (e_st E n s (e_o E k n s)) j := by rw [e_pa, if_neg (by omega)]
      show (if e_pa E (k + 1) n s j < e_mn E then e_pt E (e_pa E (k + 1) n s j) else 0) = _
      rw [this]
    have e2 : e_pa E (k + 1) n s n = e_o E k n s := by rw [e_pa, if_pos rfl]
    rw [e1]
    simp only [e2]
    unfold e_st
    rcases e_oX hp (k := k) (n := n) (s := s) with ⟨a, b, d⟩ | ⟨a, b, d, f⟩
    · rw [if_pos a, if_neg (by omega), b]; omega
    · rw [if_neg (by omega), if_pos a, d]
      unfold e_vl
      omega
