/-! the reference's search: its steps -/
def e_sd (A : k_H) (n a b c d e : Int) : k_H := k_wt (k_wt (k_wt (k_wt (k_wt A 143 n a) 144 n b) 145 n c) 146 n d) 147 n e
theorem m_stand {A : k_H} {n a b c d e : Int} (h : 0 ≤ n ∧ n < 15) : gX9_stand A n a b c d e = some (0, e_sd A n a b c d e) := by
  have h2 : 0 ≤ n ∧ n < ((15 : Nat) : Int) := by omega
  unfold gX9_stand gX9_stand_b0
  rw [if_pos h2, p_lt, if_pos h2, p_lt, if_pos h2, p_lt, if_pos h2, p_lt, if_pos h2, p_lt]
  rfl
theorem e_sdn {A : k_H} {n a b c d e x i : Int} (h : x < 143 ∨ 147 < x ∨ i ≠ n) : k_rd (e_sd A n a b c d e) x i = k_rd A x i := by
  unfold e_sd
  rw [p_rwn (by omega), p_rwn (by omega), p_rwn (by omega), p_rwn (by omega), p_rwn (by omega)]
theorem e_sd4 {A : k_H} {n a b c d e : Int} : k_rd (e_sd A n a b c d e) 143 n = a ∧ k_rd (e_sd A n a b c d e) 144 n = b ∧ k_rd (e_sd A n a b c d e) 145 n = c ∧ k_rd (e_sd A n a b c d e) 146 n = d ∧ k_rd (e_sd A n a b c d e) 147 n = e := by
  unfold e_sd
  refine ⟨?_, ?_, ?_, ?_, ?_⟩
  · rw [p_rwn (by omega), p_rwn (by omega), p_rwn (by omega), p_rwn (by omega), p_rwe]
  · rw [p_rwn (by omega), p_rwn (by omega), p_rwn (by omega), p_rwe]
  · rw [p_rwn (by omega), p_rwn (by omega), p_rwe]
  · rw [p_rwn (by omega), p_rwe]
  · rw [p_rwe]
def e_cm (A : k_H) (E : e_E) (s fr to : Int) : Prop := (0 ≤ s ∧ s < 6) ∧ (k_rd A 132 s = fr ∧ k_rd A 133 s = to ∧ 0 ≤ fr ∧ fr ≤ to ∧ to ≤ 13) ∧ (1 ≤ k_rd A 134 s ∧ k_rd A 134 s ≤ 200) ∧ (k_rd A 135 s = e_ro E ∧ 1 ≤ e_ro E ∧ e_ro E ≤ 14) ∧ e_mn E ≤ 6 ∧ (∀ i : Nat, i < e_mn E → (0 ≤ k_rd A 141 i ∧ k_rd A 141 i < 12) ∧ k_rd A 136 (6 * k_rd A 141 i + s) = e_pt E i ∧ 1 ≤ e_pt E i ∧ e_pt E i ≤ 10) ∧ (∀ i j : Nat, i < e_mn E → j < e_mn E → i ≠ j → ∀ t : Int, 0 ≤ t → t ≤ 14 → (z_d (k_rd A 122) (k_rd A 123) (k_rd A 141 i) (k_rd A 141 j) ≤ k_rd A 134 s * t ↔ e_ap E i j ≤ t)) ∧ z_B (k_rd A 122) ∧ z_B (k_rd A 123) ∧ (0 ≤ k_rd A 120 21 ∧ k_rd A 120 21 ≤ 6) ∧ (∀ i : Nat, i < e_mn E → ∀ n : Int, 0 ≤ n → n < 14 → (e_cl E i n = 0 ↔ ∀ t : Int, 0 ≤ t → t < k_rd A 120 21 → t ≠ s → k_rd A 139 (14 * t + n) ≠ k_rd A 141 i))
theorem e_cmF {A B : k_H} {E : e_E} {s fr to : Int} (h : e_cm A E s fr to) (f : ∀ a i : Int, a < 142 → k_rd B a i = k_rd A a i) : e_cm B E s fr to := by
  have f123 : k_rd B 122 = k_rd A 122 := funext fun i => f 122 i (by omega)
  have f124 : k_rd B 123 = k_rd A 123 := funext fun i => f 123 i (by omega)
  have f142 : k_rd B 141 = k_rd A 141 := funext fun i => f 141 i (by omega)
  have f137 : k_rd B 136 = k_rd A 136 := funext fun i => f 136 i (by omega)
  have f140 : k_rd B 139 = k_rd A 139 := funext fun i => f 139 i (by omega)
  unfold e_cm
  rw [f123, f124, f142, f137, f140, f 132 s (by omega), f 133 s (by omega), f 134 s (by omega), f 135 s (by omega), f 120 21 (by omega)]
  exact h
section
variable {A : k_H} {E : e_E} {s fr to : Int}
theorem e_hpm (c : e_cm A E s fr to) : ∀ i : Int, 0 ≤ i → i < e_mn E → 1 ≤ e_pt E i := by
  intro i i0 i1
  obtain ⟨j, rfl⟩ : ∃ j : Nat, i = j := ⟨i.toNat, by omega⟩
  exact (c.2.2.2.2.2.1 j (by omega)).2.2.1
theorem e_Vm (c : e_cm A E s fr to) (k : Nat) (n : Int) (s' : e_s) : 0 ≤ e_V E k n s' ∧ e_V E k n s' ≤ 60 ∧ e_V E k n s' ≤ p_sum (e_ur E (e_u s')) (e_mn E) := by
  have h1 := e_V0 E k n s'
  have h2 := e_Vr (fun i a b => by have := e_hpm c i a b; omega) k n s'
  have h3 := p_sumB (f := e_ur E (e_u s')) (B := 10) (e_mn E) (fun i i0 i1 => by
    obtain ⟨j, rfl⟩ : ∃ j : Nat, i = j := ⟨i.toNat, by omega⟩
    have := c.2.2.2.2.2.1 j (by omega)
    unfold e_ur; split <;> omega)
  have := c.2.2.2.2.1
  omega
/-- a node of the search -/
def e_nd (A : k_H) (E : e_E) (n : Int) (u : Nat) (la ln ru wo : Int) : Prop := k_rd A 143 n = u ∧ k_rd A 144 n = la ∧ k_rd A 145 n = ln ∧ k_rd A 146 n = ru ∧ k_rd A 147 n = wo ∧ u < 2 ^ e_mn E ∧ ((la = -1 ∧ ln = 0) ∨ (0 ≤ la ∧ la < e_mn E ∧ u.testBit la.toNat = true ∧ 0 ≤ ln ∧ ln < n)) ∧ 0 ≤ ru ∧ ru ≤ e_ro E ∧ wo = p_sum (e_ur E 0) (e_mn E) - p_sum (e_ur E u) (e_mn E)
theorem e_woB (c : e_cm A E s fr to) (u : Nat) : 0 ≤ p_sum (e_ur E u) (e_mn E) ∧ p_sum (e_ur E u) (e_mn E) ≤ 60 ∧ 0 ≤ p_sum (e_ur E 0) (e_mn E) - p_sum (e_ur E u) (e_mn E) := by
  have h3 := fun u => p_sumB (f := e_ur E u) (B := 10) (e_mn E) (fun i i0 i1 => by
    obtain ⟨j, rfl⟩ : ∃ j : Nat, i = j := ⟨i.toNat, by omega⟩
    have := c.2.2.2.2.2.1 j (by omega)
    unfold e_ur; split <;> omega)
  have h4 : ∀ m : Nat, m ≤ e_mn E → p_sum (e_ur E u) m ≤ p_sum (e_ur E 0) m := by
    intro m
    induction m with
    | zero => intro _; exact Int.le_refl _
    | succ m ih =>
      intro hm
      show p_sum (e_ur E u) m + e_ur E u m ≤ p_sum (e_ur E 0) m + e_ur E 0 m
      have h5 := ih (by omega)
      have h6 : e_ur E u m ≤ e_ur E 0 m := by
        have := c.2.2.2.2.2.1 m (by omega)
        unfold e_ur
        rw [Nat.zero_testBit, if_neg (by simp : ¬ (false = true))]
        split <;> omega
      omega
  have h7 := h3 u
  have h8 := h4 (e_mn E) (Nat.le_refl _)
  have := c.2.2.2.2.1
  omega
theorem m_go (c : e_cm A E s fr to) {n la ln ru wo : Int} {u o : Nat} (hn : 0 ≤ n ∧ n ≤ to) (nd : e_nd A E n u la ln ru wo) (ho : k_rd A 142 n = o) (oM : o ≤ e_mn E) : (o = e_mn E → gX9_go A s n (e_mn E) = some (1, e_sd A (n + 1) u la ln 0 wo)) ∧ (o < e_mn E → e_can E n ((u, la, ln, ru) : e_s) o = true → gX9_go A s n (e_mn E) = some (1, e_sd A (n + 1) ((u ||| 2 ^ o : Nat) : Int) o n (ru + 1) (wo + e_pt E o))) ∧ (o < e_mn E → ¬ e_can E n ((u, la, ln, ru) : e_s) o = true → gX9_go A s n (e_mn E) = some (0, A)) := by
  have wb := e_woB c u
  have wb0 := e_woB c 0
  obtain ⟨cs, ⟨c33, c34, cf0, cft, ct⟩, cmi, ⟨c36, cr1, cr2⟩, cm6, cpt, cap, cbx, cby, cS, ccl⟩ := c
  obtain ⟨d1, d2, d3, d4, d5, d6, d7, d8, d9, d10⟩ := nd
  have u64 := e_pow cm6
  have n15 : 0 ≤ n ∧ n < ((15 : Nat) : Int) := by omega
  unfold gX9_go gX9_go_b0
  rw [if_pos n15, ho, k_wr_of (x := n + 1) (by omega) (by omega), d1, d2, d3, d5]
  refine ⟨fun e => ?_, ?_⟩
  · rw [if_pos (by omega), if_pos n15, if_pos n15, if_pos n15, if_pos n15, m_stand (by omega), k_bds]
  · have main : o < e_mn E → (if 0 ≤ la then (if 0 ≤ la ∧ la < ((6 : Nat) : Int) then (k_bd (gX9_milesOf A (k_rd A 141 la) (k_rd A 141 (o : Int))) fun r7 A8 => if 0 ≤ s ∧ s < ((6 : Nat) : Int) then (if 0 ≤ n ∧ n < ((15 : Nat) : Int) then (if k_wr ((k_rd A8 134 s) * k_wr (n - (k_rd A8 145 n))) < r7 then (gX9_go_b106 A8 s n o (k_rd A 141 (o : Int)) 1) else (gX9_go_b105 A8 s n o (k_rd A 141 (o : Int)))) else none) else none) else none) else (gX9_go_b105 A s n o (k_rd A 141 (o : Int)))) = if e_can E n ((u, la, ln, ru) : e_s) o = true then some (1, e_sd A (n + 1) ((u ||| 2 ^ o : Nat) : Int) o n (ru + 1) (wo + e_pt E o)) else some (0, A) := by
      intro hlt
      have po := cpt o hlt
      have fr1 := m_free (A := A) (s := s) (h := k_rd A 141 (o : Int)) (n := n) (S := k_rd A 120 21) rfl cS.1 cS.2 (by omega)
      have b106 : ∀ x : Int, x = 0 ∨ x = 1 → gX9_go_b106 A s n o (k_rd A 141 (o : Int)) x = if u.testBit o = false ∧ ru + 1 ≤ e_ro E ∧ x = 0 ∧ e_cl E o n = 0 then some (1, e_sd A (n + 1) ((u ||| 2 ^ o : Nat) : Int) o n (ru + 1) (wo + e_pt E o)) else some (0, A) := by
        intro x hx
        unfold gX9_go_b106
        rw [if_pos n15, d1, b_has (by omega) (by omega)]
        by_cases z : u.testBit o = true
        · rw [if_pos z, if_pos rfl, if_neg (by rw [z]; simp)]
        · have zf : u.testBit o = false := by simpa using z
          rw [if_neg z, if_neg (by omega), if_pos n15, if_pos (by omega), d4, c36]
          by_cases y : ru = e_ro E
          · rw [if_pos y, if_neg (by omega)]
          · rw [if_neg y]
            by_cases x0 : x = 0
            · rw [if_pos x0]
              by_cases q : e_cl E o n = 0
              · rw [fr1.1 ((ccl o hlt n hn.1 (by omega)).1 q), k_bds, if_neg (by omega), if_pos n15, k_wr_of (x := 6 * k_rd A 141 (o : Int)) (by omega) (by omega), k_wr_of (x := 6 * k_rd A 141 (o : Int) + s) (by omega) (by omega), if_pos (by omega), po.2.1, d5, d4, d1, b_or (x := u) (i := o) (by omega) (by omega), k_wr_of (x := n + 1) (by omega) (by omega), k_wr_of (x := ru + 1) (by omega) (by omega), k_wr_of (x := wo + e_pt E o) (by omega) (by omega), m_stand (by omega), k_bds, if_pos ⟨zf, by omega, x0, q⟩]
              · have ex : ∃ t : Int, 0 ≤ t ∧ t < k_rd A 120 21 ∧ t ≠ s ∧ k_rd A 139 (14 * t + n) = k_rd A 141 (o : Int) := by
                  refine Classical.byContradiction fun ne => q ((ccl o hlt n hn.1 (by omega)).2 (fun t t0 t1 t2 e => ne ⟨t, t0, t1, t2, e⟩))
                rw [fr1.2 ex, k_bds, if_pos rfl, if_neg (fun w => q w.2.2.2)]
            · rw [if_neg x0, if_neg (fun w => x0 w.2.2.1)]
      simp only [gX9_go_b105]
      have cani : e_can E n ((u, la, ln, ru) : e_s) o = true ↔ u.testBit o = false ∧ ru + 1 ≤ e_ro E ∧ (la < 0 ∨ e_ap E la o ≤ n - ln) ∧ e_cl E o n = 0 := ⟨fun q => e_canU q, fun q => e_canI (s := ((u, la, ln, ru) : e_s)) q.1 q.2.1 q.2.2.1 q.2.2.2⟩
      rcases d7 with ⟨l1, l2⟩ | ⟨l1, l2, l3, l4, l5⟩
      · rw [if_neg (by omega), b106 0 (Or.inl rfl)]
        by_cases q : e_can E n ((u, la, ln, ru) : e_s) o = true
        · have q2 := cani.1 q
          rw [if_pos q, if_pos ⟨q2.1, q2.2.1, rfl, q2.2.2.2⟩]
        · rw [if_neg q, if_neg (fun w => q (cani.2 ⟨w.1, w.2.1, Or.inl (by omega), w.2.2.2⟩))]
      · have e1 : ((la.toNat : Nat) : Int) = la := by omega
        have pl := cpt la.toNat (by omega)
        rw [e1] at pl
        rw [if_pos l1, if_pos (by omega), m_miles (X := k_rd A 122) (Y := k_rd A 123) (fun _ _ _ => rfl) (fun _ _ _ => rfl) cbx cby pl.1 po.1, k_bds, if_pos (by omega), if_pos n15, d3, k_wr_of (x := n - ln) (by omega) (by omega)]
        have b1 : 0 ≤ k_rd A 134 s * (n - ln) := Int.mul_nonneg (by omega) (by omega)
        have b2 : k_rd A 134 s * (n - ln) ≤ 200 * 14 := Int.mul_le_mul (by omega) (by omega) (by omega) (by omega)
        rw [k_wr_of (x := k_rd A 134 s * (n - ln)) (by omega) (by omega), b106 1 (Or.inr rfl), b106 0 (Or.inl rfl)]
        by_cases z : u.testBit o = true
        · have nf : ¬ u.testBit o = false := by rw [z]; simp
          rw [if_neg (show ¬ (e_can E n ((u, la, ln, ru) : e_s) o = true) from fun w => nf (cani.1 w).1)]
          split <;> rw [if_neg (fun w => nf w.1)]
        · have ne : la.toNat ≠ o := fun e => by rw [e] at l3; exact z l3
          have ap := cap la.toNat o (by omega) hlt ne (n - ln) (by omega) (by omega)
          rw [e1] at ap
          rw [if_neg (fun w => by omega : ¬ (u.testBit o = false ∧ ru + 1 ≤ e_ro E ∧ (1 : Int) = 0 ∧ e_cl E o n = 0))]
          by_cases y : k_rd A 134 s * (n - ln) < z_d (k_rd A 122) (k_rd A 123) (k_rd A 141 la) (k_rd A 141 (o : Int))
          · rw [if_pos y, if_neg (fun w => by
              rcases (cani.1 w).2.2.1 with h | h
              · omega
              · have := ap.2 h; omega)]
          · rw [if_neg y]
            by_cases q : e_can E n ((u, la, ln, ru) : e_s) o = true
            · have q2 := cani.1 q
              rw [if_pos q, if_pos ⟨q2.1, q2.2.1, rfl, q2.2.2.2⟩]
            · rw [if_neg q, if_neg (fun w => q (cani.2 ⟨w.1, w.2.1, Or.inr (ap.1 (by omega)), w.2.2.2⟩))]
    refine ⟨fun hlt q => ?_, fun hlt q => ?_⟩
    · rw [if_neg (by omega), if_pos (by omega), if_pos n15, main hlt, if_pos q]
    · rw [if_neg (by omega), if_pos (by omega), if_pos n15, main hlt, if_neg q]
theorem m_rst (c : e_cm A E s fr to) {n : Int} {u : Nat} (hn : 0 ≤ n ∧ n < 15) (hu : u < 2 ^ e_mn E) (h4 : k_rd A 143 n = u) : gX9_rest A s n (e_mn E) = some (p_sum (e_ur E u) (e_mn E), A) := by
  have wb := fun m (hm : m ≤ e_mn E) => p_sumB (f := e_ur E u) (B := 10) m (fun i i0 i1 => by
    obtain ⟨j, rfl⟩ : ∃ j : Nat, i = j := ⟨i.toNat, by omega⟩
    have := c.2.2.2.2.2.1 j (by omega)
    unfold e_ur; split <;> omega)
  obtain ⟨cs, ⟨c33, c34, cf0, cft, ct⟩, cmi, ⟨c36, cr1, cr2⟩, cm6, cpt, cap, cbx, cby, cS, ccl⟩ := c
  have u64 := e_pow cm6
  have st := p_it (fun N (p : Int × Int) => gX9_rest_h6 N A s n (e_mn E) p.1 p.2) (fun k => (p_sum (e_ur E u) k, (k : Int))) (e_mn E) (fun N k hk => by
    show gX9_rest_h6 (N + 1) A s n (e_mn E) (p_sum (e_ur E u) k) k = gX9_rest_h6 N A s n (e_mn E) (p_sum (e_ur E u) k + e_ur E u k) ((k + 1 : Nat) : Int)
    have b0 := wb k (by omega)
    have pk := cpt k hk
    have ez : k_wr ((k : Int) + 1) = ((k + 1 : Nat) : Int) := by rw [k_wr_of (by omega) (by omega)]; omega
    rw [gX9_rest_h6, if_pos (by omega), if_pos (by omega), h4, b_has (by omega) (by omega)]
    simp only [gX9_rest_b50]
    have ek : e_ur E u k = if u.testBit k = true then 0 else e_pt E k := by unfold e_ur; rw [Int.toNat_natCast]
    rw [ez, ek]
    by_cases z : u.testBit k = true
    · rw [if_pos z, if_pos rfl, if_pos z, k_wr_of (by omega) (by omega)]
    · rw [if_neg z, if_neg (by omega), if_neg z, if_pos (by omega), k_wr_of (x := 6 * k_rd A 141 (k : Int)) (by omega) (by omega), k_wr_of (x := 6 * k_rd A 141 (k : Int) + s) (by omega) (by omega), if_pos (by omega), pk.2.1]
      have e2 : k_wr (p_sum (e_ur E u) k + e_pt E k) = p_sum (e_ur E u) k + e_pt E k := k_wr_of (by omega) (by omega)
      exact congrArg (fun x => gX9_rest_h6 N A s n (e_mn E) x ((k + 1 : Nat) : Int)) e2)
  obtain ⟨N, hN⟩ := p_FU (e_mn E + 1) (by have : k_FU = 1073741824 := rfl; omega)
  have e : N + (e_mn E + 1) = (N + 1) + e_mn E := by omega
  unfold gX9_rest gX9_rest_b0
  rw [hN, e]
  refine (st (N + 1)).trans ?_
  show gX9_rest_h6 (N + 1) A s n (e_mn E) (p_sum (e_ur E u) (e_mn E)) (e_mn E) = _
  rw [gX9_rest_h6, if_neg (by omega)]
end
