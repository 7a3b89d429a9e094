/-! book, both sides -/
theorem e_Wb : ∀ k : Nat, k ≤ 13 → e_W k 6 ≤ 500000000 := by decide +kernel
section
variable {A : k_H} {s : Int} {v : Int → Int}
theorem m_bk (r : Rel A) (hs : 0 ≤ s ∧ s < k_rd A 120 21) (hv : a_v A s v) {k : Nat} (hk : k_rd A 132 s + k = k_rd A 133 s + 1) {D : k_H} (hD : ∀ a i : Int, 120 ≤ a → k_rd D a i = k_rd A a i) (aH : p_ag p_H A D) (aS : p_ag p_S A D) : ∃ F, gX9_book D s = some (e_V (a_E A s v) k (k_rd A 132 s) ((0, -1, 0, 0) : e_s), F) ∧ (∀ a i : Int, a < 137 ∨ 149 < a → (a ≠ 120 ∨ i ≠ 0) → k_rd F a i = k_rd D a i) ∧ (∀ j : Int, 0 ≤ j → j < 14 → k_rd F 139 (14 * s + j) = if k_rd A 132 s ≤ j ∧ j ≤ k_rd A 133 s then a_al A s v (e_pa (a_E A s v) k (k_rd A 132 s) ((0, -1, 0, 0) : e_s) j) else -1) ∧ (∀ j : Int, 0 ≤ j → j < 14 → k_rd F 140 (14 * s + j) = -1) ∧ (∀ i : Int, i < 14 * s ∨ 14 * s + 14 ≤ i → k_rd F 139 i = k_rd D 139 i ∧ k_rd F 140 i = k_rd D 140 i) := by
  have hS0 := r.2.2.2.1.2.1
  have hS := r.2.2.2.1.2.2.1
  have hH0 := r.2.1.2.1
  have hH := r.2.1.2.2.1
  have qH := r.2.1.2.2.2
  have qS := (r.2.2.2.1.2.2.2 s hs.1 (by omega)).2.2.2.2 hs.2
  have rG := r.2.2.1
  have rL := r.2.2.2.2.1
  have ptB := fun i hi => a_ptB (v := v) r (s := s) (by omega) (i := i) hi
  obtain ⟨q1, q2, q3, q4, q5, q6, q7, q8, q9, q10, q11⟩ := qS
  have bX : z_B (k_rd A 122) := fun h x y => (qH h x y).1.2
  have bY : z_B (k_rd A 123) := fun h x y => (qH h x y).2.1.2
  -- forget the tour
  have st := p_it (fun N (p : k_H × Int) => gX9_book_h17 N p.1 s p.2) (fun n => (tv_w (k_wt D 120 0 0) (14 * s) n, (n : Int))) 14 (fun N n hn => by
    show gX9_book_h17 (N + 1) (tv_w (k_wt D 120 0 0) (14 * s) n) s n = gX9_book_h17 N (k_wt (k_wt (tv_w (k_wt D 120 0 0) (14 * s) n) 139 (14 * s + n) (-1)) 140 (14 * s + n) (-1)) s ((n + 1 : Nat) : Int)
    rw [gX9_book_h17, if_pos (by omega), k_wr_of (x := 14 * s) (by omega) (by omega), k_wr_of (x := 14 * s + n) (by omega) (by omega), if_pos (by omega), p_lt, if_pos (by omega), p_lt, k_wr_of (x := (n : Int) + 1) (by omega) (by omega)]
    rfl)
  obtain ⟨N0, hN0⟩ := p_FU 15 (by decide)
  have go1 : gX9_book D s = gX9_book_h57 k_FU (tv_w (k_wt D 120 0 0) (14 * s) 14) s 0 0 := by
    have s1 : gX9_book_h17 ((N0 + 1) + 14) (k_wt D 120 0 0) s 0 = gX9_book_h17 (N0 + 1) (tv_w (k_wt D 120 0 0) (14 * s) 14) s 14 := st (N0 + 1)
    have e : k_FU = (N0 + 1) + 14 := hN0
    have s2 : gX9_book_h17 k_FU (k_wt D 120 0 0) s 0 = gX9_book_h57 k_FU (tv_w (k_wt D 120 0 0) (14 * s) 14) s 0 0 := by
      have : gX9_book_h17 (N0 + 1) (tv_w (k_wt D 120 0 0) (14 * s) 14) s 14 = gX9_book_h57 k_FU (tv_w (k_wt D 120 0 0) (14 * s) 14) s 0 0 := by rw [gX9_book_h17, if_neg (by omega)]
      rw [← this, ← s1, ← e]
    unfold gX9_book gX9_book_b0
    rw [p_lt, h_X9isShow, k_bds, p_rwn (by omega), hD _ _ (by omega), p_bt hs, if_neg (by omega), s2]
  generalize hB : tv_w (k_wt D 120 0 0) (14 * s) 14 = B at go1
  have Bn : ∀ a i : Int, a ≠ 139 → a ≠ 140 → (a ≠ 120 ∨ i ≠ 0) → k_rd B a i = k_rd D a i := fun a i x y z => by rw [← hB, tv_n (by omega), p_rwn z]
  have Bt : ∀ j : Int, 0 ≤ j → j < 14 → k_rd B 139 (14 * s + j) = -1 ∧ k_rd B 140 (14 * s + j) = -1 := fun j x y => by
    rw [← hB, tv_r, if_pos (by omega), tv_r, if_pos (by omega)]; exact ⟨rfl, rfl⟩
  have Bo : ∀ i : Int, i < 14 * s ∨ 14 * s + 14 ≤ i → k_rd B 139 i = k_rd D 139 i ∧ k_rd B 140 i = k_rd D 140 i := fun i q => by
    rw [← hB, tv_n (by omega), p_rwn (by omega), tv_n (by omega), p_rwn (by omega)]; exact ⟨rfl, rfl⟩
  -- ask
  obtain ⟨N1, hN1⟩ := p_FU ((k_rd A 120 20).toNat + 1) (by have : k_FU = 1073741824 := rfl; omega)
  obtain ⟨B2, a1, a2, a3⟩ := m_askL (A := B) (s := s) (G := a_G A s) (v := v) (ok := a_ok A s v) (H := (k_rd A 120 20).toNat) (by omega) (by omega) (by rw [Bn _ _ (by omega) (by omega) (by omega), hD _ _ (by omega)]; omega) (fun h x y => by
      rw [Bn _ _ (by omega) (by omega) (by omega), hD _ _ (by omega)]
      exact ⟨rfl, (rG h s x y hs.1 (by omega)).2.1⟩) (fun h x y => rfl) (fun h x y B' ag => (hv h x y B' (fun a i q => by
      rw [ag a i (by unfold p_H at q; omega), Bn a i (by unfold p_H at q; omega) (by unfold p_H at q; omega) (by unfold p_H at q; omega)]; exact aH a i q) (fun a i q => by
      rw [ag a i (by unfold p_S at q; omega), Bn a i (by unfold p_S at q; omega) (by unfold p_S at q; omega) (by unfold p_S at q; omega)]; exact aS a i q)).2) (k_rd A 120 20).toNat N1 0 B (by omega) (fun _ _ _ => rfl) (fun i q => by rw [a_c] at q; omega)
  have go2 : gX9_book_h57 k_FU B s 0 0 = gX9_book_b114 B2 s (a_c (a_ok A s v) (k_rd A 120 20).toNat) := by rw [hN1]; exact a1
  have B2n : ∀ a i : Int, 120 ≤ a → a < 137 → (a ≠ 120 ∨ i ≠ 0) → k_rd B2 a i = k_rd A a i := fun a i x y z => by rw [a2 a i (by omega), Bn a i (by omega) (by omega) z, hD a i x]
  -- the search
  have go3 := m_gone (B := B2) (s := s) (mn := (a_c (a_ok A s v) (k_rd A 120 20).toNat : Nat)) (fr := k_rd A 132 s) (by omega) (B2n _ _ (by omega) (by omega) (by omega)) (by omega) (L := 22050) rfl
  have Zr : ∀ a i : Int, k_rd (tw_w B2 149 0 (fun _ => 0) 22050) a i = if a = 149 ∧ 0 ≤ i ∧ i < 0 + ((22050 : Nat) : Int) then 0 else k_rd B2 a i := fun a i => tw_r B2 149 0 (fun _ => 0) 22050 a i
  generalize tw_w B2 149 0 (fun _ => 0) 22050 = Z at go3 Zr
  have sd := e_sd4 (A := Z) (n := k_rd A 132 s) (a := 0) (b := -1) (c := 0) (d := 0) (e := 0)
  have sdn := fun a i (q : a < 143 ∨ 147 < a ∨ i ≠ k_rd A 132 s) => e_sdn (A := Z) (n := k_rd A 132 s) (a := 0) (b := -1) (c := 0) (d := 0) (e := 0) (x := a) (i := i) q
  generalize e_sd Z (k_rd A 132 s) 0 (-1) 0 0 0 = Y at go3 sd sdn
  have Yn : ∀ a i : Int, a < 142 → k_rd (k_wt Y 142 (k_rd A 132 s) (-1)) a i = k_rd B2 a i := fun a i q => by rw [p_rwn (by omega), sdn a i (by omega), Zr, if_neg (by omega)]
  have Yb : ∀ x : Int, 0 ≤ x → x < 1411200 → m_bit (k_wt Y 142 (k_rd A 132 s) (-1)) x = false := fun x x0 x1 => by
    unfold m_bit
    rw [p_rwn (by omega), sdn _ _ (by omega), Zr, if_pos (by omega), b_l0]
  have Y149 : ∀ a i : Int, 149 < a → k_rd (k_wt Y 142 (k_rd A 132 s) (-1)) a i = k_rd B2 a i := fun a i q => by rw [p_rwn (by omega), sdn a i (by omega), Zr, if_neg (by omega)]
  have cm : e_cm (k_wt Y 142 (k_rd A 132 s) (-1)) (a_E A s v) s (k_rd A 132 s) (k_rd A 133 s) := by
    have y123 : k_rd (k_wt Y 142 (k_rd A 132 s) (-1)) 122 = k_rd A 122 := funext fun i => by rw [Yn _ _ (by omega), B2n _ _ (by omega) (by omega) (by omega)]
    have y124 : k_rd (k_wt Y 142 (k_rd A 132 s) (-1)) 123 = k_rd A 123 := funext fun i => by rw [Yn _ _ (by omega), B2n _ _ (by omega) (by omega) (by omega)]
    have yr : ∀ a i : Int, 120 ≤ a → a < 137 → (a ≠ 120 ∨ i ≠ 0) → k_rd (k_wt Y 142 (k_rd A 132 s) (-1)) a i = k_rd A a i := fun a i x y z => by rw [Yn _ _ (by omega), B2n _ _ x y z]
    have y142 : ∀ i : Nat, i < e_mn (a_E A s v) → k_rd (k_wt Y 142 (k_rd A 132 s) (-1)) 141 i = a_f (a_ok A s v) (k_rd A 120 20).toNat i := fun i hi => by rw [Yn _ _ (by omega)]; exact a3 i hi
    unfold e_cm
    rw [y123, y124, yr _ _ (by omega) (by omega) (by omega), yr _ _ (by omega) (by omega) (by omega), yr _ _ (by omega) (by omega) (by omega), yr _ _ (by omega) (by omega) (by omega), yr _ _ (by omega) (by omega) (by omega)]
    refine ⟨by omega, ⟨rfl, rfl, q5, q6, q7⟩, by omega, ⟨rfl, q10, q11⟩, a_c6 _, fun i hi => ?_, fun i j hi hj ij t t0 t1 => ?_, bX, bY, by omega, fun i hi n n0 n1 => ?_⟩
    · have b := ptB i hi
      rw [y142 i hi, yr _ _ (by omega) (by omega) (by omega)]
      exact ⟨by omega, rfl, b.2⟩
    · have bi := ptB i hi
      have bj := ptB j hj
      rw [y142 i hi, y142 j hj]
      exact (e_ceil (z_dB bX bY (by omega) (by omega)).1 (by omega)).symm
    · have bi := ptB i hi
      rw [y142 i hi]
      show @ite Int _ (Classical.propDecidable _) 1 0 = 0 ↔ _
      have tr : ∀ t : Int, 0 ≤ t → t < k_rd A 120 21 → t ≠ s → k_rd (k_wt Y 142 (k_rd A 132 s) (-1)) 139 (14 * t + n) = k_rd A (72 + 8 * t + 3) n := fun t x y z => by
        rw [Yn _ _ (by omega), a2 _ _ (by omega), (Bo _ (by omega)).1, hD _ _ (by omega)]
        exact ((rL t n x (by omega) n0 n1).1 y).1.symm
      by_cases z : ∃ t : Int, 0 ≤ t ∧ t < k_rd A 120 21 ∧ t ≠ s ∧ k_rd A (72 + 8 * t + 3) n = a_f (a_ok A s v) (k_rd A 120 20).toNat i
      · rw [if_pos z]
        refine ⟨fun q => by omega, fun q => ?_⟩
        obtain ⟨t, x0, x1, x2, x3⟩ := z
        exact absurd (by rw [tr t x0 x1 x2]; exact x3) (q t x0 x1 x2)
      · rw [if_neg z]
        exact ⟨fun _ t x0 x1 x2 e => z ⟨t, x0, x1, x2, by rw [← tr t x0 x1 x2]; exact e⟩, fun _ => rfl⟩
  obtain ⟨k', hk'⟩ : ∃ k', k = k' + 1 := ⟨k - 1, by omega⟩
  subst hk'
  obtain ⟨J, A', M', j1, j2, j3, j4, j5, j6⟩ := m_all (E := a_E A s v) (s := s) (fr := k_rd A 132 s) (to := k_rd A 133 s) (al := e_al (k_wt Y 142 (k_rd A 132 s) (-1)) (a_E A s v)) k' (k_rd A 132 s) (k_wt Y 142 (k_rd A 132 s) (-1)) (-1) (-1) 0 0 0 0 (Int.le_refl _) (by omega) cm (fun _ => rfl) ⟨by rw [p_rwn (by omega)]; exact sd.1, by rw [p_rwn (by omega)]; exact sd.2.1, by rw [p_rwn (by omega)]; exact sd.2.2.1, by rw [p_rwn (by omega)]; exact sd.2.2.2.1, by rw [p_rwn (by omega)]; exact sd.2.2.2.2, Nat.pow_pos (by omega), Or.inl ⟨rfl, rfl⟩, Int.le_refl _, by
      have : 1 ≤ e_ro (a_E A s v) := q10
      omega, (Int.sub_self _).symm⟩ p_rwe (fun j x y => by omega) (fun m u la ln ru a b va q => by
      have cb := e_cdB va
      rw [Yb _ cb.1 cb.2] at q
      cases q) (by omega) (by omega)
  have vb := e_V0 (a_E A s v) (k' + 1) (k_rd A 132 s) ((0, -1, 0, 0) : e_s)
  have Mv : M' = e_V (a_E A s v) (k' + 1) (k_rd A 132 s) ((0, -1, 0, 0) : e_s) := by omega
  have c66 : (6 - e_pc 0).toNat = 6 := by decide
  rw [c66] at j1
  have wb := e_Wb k' (by omega)
  obtain ⟨N2, hN2⟩ := p_FU (1 + J) (by have : k_FU = 1073741824 := rfl; omega)
  have e3 : k_FU = (N2 + 1) + J := by omega
  obtain ⟨N3, hN3⟩ := p_FU (k' + 1 + 1) (by have : k_FU = 1073741824 := rfl; omega)
  obtain ⟨F, f1, f2, f3, f4⟩ := m_out (s := s) (M := M') (fr := k_rd A 132 s) (to := k_rd A 133 s) (by omega) q5 q7 (k' + 1) N3 A' (k_rd A 132 s) (by omega) (Int.le_refl _) (by rw [j3.1 _ _ (by omega), Yn _ _ (by omega), B2n _ _ (by omega) (by omega) (by omega)])
  have go4 : gX9_book_h165 k_FU (k_wt Y 142 (k_rd A 132 s) (-1)) s (a_c (a_ok A s v) (k_rd A 120 20).toNat : Nat) (-1) (k_rd A 132 s) = some (M', F) := by
    have e4 := j2 (N2 + 1)
    have e5 : gX9_book_h165 (N2 + 1) A' s (e_mn (a_E A s v)) M' (k_rd A 132 s - 1) = some (M', F) := by
      rw [gX9_book_h165, if_pos (by omega), j3.1 _ _ (by omega), Yn _ _ (by omega), B2n _ _ (by omega) (by omega) (by omega), if_neg (by omega), hN3]
      exact f1
    rw [e5, ← e3] at e4
    exact e4
  have frA : ∀ a i : Int, a < 137 ∨ 149 < a → (a ≠ 120 ∨ i ≠ 0) → k_rd F a i = k_rd D a i := by
    intro a i x z
    rw [f2 a i (by omega), j3.1 a i (by omega)]
    by_cases y : a < 142
    · rw [Yn a i y, a2 a i (by omega), Bn a i (by omega) (by omega) z]
    · rw [Y149 a i (by omega), a2 a i (by omega), Bn a i (by omega) (by omega) z]
  refine ⟨F, ?_, frA, fun j x y => ?_, fun j x y => ?_, fun i q => ?_⟩
  · rw [go1, go2, go3, go4, Mv]
  · by_cases z : k_rd A 132 s ≤ j ∧ j ≤ k_rd A 133 s
    · rw [if_pos z, f4 j z.1 z.2]
      rcases j6 with ⟨w, _⟩ | ⟨_, w⟩
      · omega
      · rw [w j z.1 z.2, if_neg (by omega)]
        generalize e_pa (a_E A s v) (k' + 1) (k_rd A 132 s) ((0, -1, 0, 0) : e_s) j = o
        unfold e_al a_al
        by_cases y2 : o < e_mn (a_E A s v)
        · rw [if_pos (by omega), if_pos y2, Yn _ _ (by omega)]; exact a3 o y2
        · rw [if_neg (by omega), if_neg y2]
    · rw [if_neg z, f3 _ (by omega), j3.1 _ _ (by omega), Yn _ _ (by omega), a2 _ _ (by omega)]
      exact (Bt j x y).1
  · rw [f2 _ _ (by omega), j3.1 _ _ (by omega), Yn _ _ (by omega), a2 _ _ (by omega)]
    exact (Bt j x y).2
  · have o := Bo i q
    constructor
    · rw [f3 _ (by omega), j3.1 _ _ (by omega), Yn _ _ (by omega), a2 _ _ (by omega)]
      exact o.1
    · rw [f2 _ _ (by omega), j3.1 _ _ (by omega), Yn _ _ (by omega), a2 _ _ (by omega)]
      exact o.2
end
theorem e_paC {E : e_E} (hp : ∀ i : Int, 0 ≤ i → i < e_mn E → 1 ≤ e_pt E i) : ∀ (k : Nat) (n : Int) (s : e_s) (j : Int), n ≤ j → j < n + k → e_pa E k n s j < e_mn E → e_cl E (e_pa E k n s j) j = 0 := by
  intro k
  induction k with
  | zero => intro n s j a b; exfalso; omega
  | succ k ih =>
    intro n s j a b
    rw [e_pa]
    by_cases z : j = n
    · rw [if_pos z, z]
      intro h
      rcases e_oX hp (k := k) (n := n) (s := s) with ⟨x, _⟩ | ⟨_, x, _⟩
      · omega
      · exact (e_canU x).2.2.2
    · rw [if_neg z]
      exact ih (n + 1) _ j (by omega) (by omega)
theorem o_book {A : k_H} {s : Int} (r : Rel A) : p_ok A (fun A => gX8_book A s) (fun A => gX9_book A s) := by
  have eS := r.2.2.2.1.1
  have hS := r.2.2.2.1.2.2.1
  have hH0 := r.2.1.2.1
  have rL := r.2.2.2.2.1
  by_cases h0 : 0 ≤ s ∧ s < k_rd A 120 21
  · have qS := (r.2.2.2.1.2.2.2 s h0.1 (by omega)).2.2.2.2 h0.2
    obtain ⟨v, hv⟩ := a_vE r (s := s) (by omega)
    obtain ⟨k, hk⟩ : ∃ k : Nat, k_rd A 132 s + k = k_rd A 133 s + 1 := ⟨(k_rd A 133 s + 1 - k_rd A 132 s).toNat, by omega⟩
    obtain ⟨C, c1, c2, c3, c4⟩ := c_bk r h0 hv hk
    obtain ⟨F, f1, f2, f3, f4, f5⟩ := m_bk r h0 hv hk (D := C) (fun a i q => c2 a i (by omega) (by omega) (by omega)) (fun a i q => c2 a i (by unfold p_H at q; omega) (by unfold p_H at q; omega) (by unfold p_H at q; omega)) (fun a i q => c2 a i (by unfold p_S at q; omega) (by unfold p_S at q; omega) (by unfold p_S at q; omega))
    refine ⟨_, C, F, c1, f1, ?_⟩
    have ag : ∀ {P : Int → Int → Prop}, (∀ a i, P a i → (a < 5 ∨ 17 < a) ∧ a ≠ 72 + 8 * s + 3 ∧ a ≠ 72 + 8 * s + 4 ∧ (a < 137 ∨ 149 < a) ∧ (a ≠ 120 ∨ i ≠ 0)) → p_ag P A F := fun h a i q => by
      have w := h a i q
      rw [f2 a i w.2.2.2.1 w.2.2.2.2, c2 a i w.1 w.2.1 w.2.2.1]
    refine ⟨p_fT (ag (by unfold p_T; omega)) r.1, p_fH (ag (by unfold p_H; omega)) r.2.1, p_fG (ag (by unfold p_G; omega)) r.2.2.1, p_fS (ag (by unfold p_S; omega)) r.2.2.2.1, ?_, p_fM (ag (by unfold p_M; omega)) r.2.2.2.2.2.1, p_fF (ag (by unfold p_F; omega)) r.2.2.2.2.2.2⟩
    have e20 : k_rd F 120 20 = k_rd A 120 20 := by rw [f2 _ _ (by omega) (by omega), c2 _ _ (by omega) (by omega) (by omega)]
    have e21 : k_rd F 120 21 = k_rd A 120 21 := by rw [f2 _ _ (by omega) (by omega), c2 _ _ (by omega) (by omega) (by omega)]
    have ct : ∀ t m : Int, 0 ≤ t → t < 6 → t ≠ s → k_rd F (72 + 8 * t + 3) m = k_rd A (72 + 8 * t + 3) m ∧ k_rd F (72 + 8 * t + 4) m = k_rd A (72 + 8 * t + 4) m := fun t m x y z => by
      rw [f2 _ _ (by omega) (by omega), f2 _ _ (by omega) (by omega), c2 _ _ (by omega) (by omega) (by omega), c2 _ _ (by omega) (by omega) (by omega)]; exact ⟨rfl, rfl⟩
    have cs : ∀ m : Int, 0 ≤ m → m < 14 → k_rd F (72 + 8 * s + 3) m = k_rd F 139 (14 * s + m) ∧ k_rd F (72 + 8 * s + 4) m = -1 := fun m x y => by
      rw [f3 m x y, f2 (72 + 8 * s + 3) m (by omega) (by omega), f2 (72 + 8 * s + 4) m (by omega) (by omega), c3 m x y, c4 m x y]; exact ⟨rfl, rfl⟩
    have mt : ∀ t m : Int, 0 ≤ t → t < 6 → t ≠ s → 0 ≤ m → m < 14 → k_rd F 139 (14 * t + m) = k_rd A 139 (14 * t + m) ∧ k_rd F 140 (14 * t + m) = k_rd A 140 (14 * t + m) := fun t m x y z m0 m1 => by
      have := f5 (14 * t + m) (by omega)
      rw [this.1, this.2, c2 _ _ (by omega) (by omega) (by omega), c2 _ _ (by omega) (by omega) (by omega)]; exact ⟨rfl, rfl⟩
    -- a hall of the new tour is taken by no other show
    have new : ∀ m : Int, 0 ≤ m → m < 14 → (-1 ≤ k_rd F (72 + 8 * s + 3) m ∧ k_rd F (72 + 8 * s + 3) m < k_rd A 120 20) ∧ ∀ t : Int, 0 ≤ t → t < 6 → t ≠ s → k_rd A (72 + 8 * t + 3) m = k_rd F (72 + 8 * s + 3) m → k_rd F (72 + 8 * s + 3) m = -1 := by
      intro m m0 m1
      rw [(cs m m0 m1).1, f3 m m0 m1]
      by_cases z : k_rd A 132 s ≤ m ∧ m ≤ k_rd A 133 s
      · rw [if_pos z]
        have pc := e_paC (E := a_E A s v) (fun i i0 i1 => by
          obtain ⟨j, rfl⟩ : ∃ j : Nat, i = j := ⟨i.toNat, by omega⟩
          exact (a_ptB r (s := s) (v := v) (by omega) (i := j) (by
            have : j < e_mn (a_E A s v) := by omega
            exact this)).2.1) k (k_rd A 132 s) ((0, -1, 0, 0) : e_s) m z.1 (by omega)
        generalize e_pa (a_E A s v) k (k_rd A 132 s) ((0, -1, 0, 0) : e_s) m = o at pc
        unfold a_al
        by_cases w : o < e_mn (a_E A s v)
        · have b := a_ptB r (s := s) (v := v) (by omega) (i := o) w
          rw [if_pos w]
          refine ⟨by omega, fun t t0 t1 ts e => ?_⟩
          exfalso
          by_cases tS : t < k_rd A 120 21
          · have cl := pc w
            have cl2 : @ite Int (∃ t : Int, 0 ≤ t ∧ t < k_rd A 120 21 ∧ t ≠ s ∧ k_rd A (72 + 8 * t + 3) m = a_f (a_ok A s v) (k_rd A 120 20).toNat o) (Classical.propDecidable _) 1 0 = 0 := cl
            rw [if_pos ⟨t, t0, tS, ts, e⟩] at cl2
            omega
          · have := (rL t m t0 t1 m0 m1).2.1 (by omega)
            omega
        · rw [if_neg w]
          exact ⟨by omega, fun _ _ _ _ _ => rfl⟩
      · rw [if_neg z]
        exact ⟨by omega, fun _ _ _ _ _ => rfl⟩
    intro t m t0 t1 m0 m1
    have z := rL t m t0 t1 m0 m1
    rw [e20, e21]
    by_cases y : t = s
    · subst y
      have w := cs m m0 m1
      have nw := new m m0 m1
      refine ⟨fun _ => ⟨w.1, by rw [w.2, f4 m m0 m1]⟩, fun q => by omega, by rw [w.2]; omega, fun t' a b c e => ?_⟩
      rw [(ct t' m a b c).1] at e
      exact nw.2 t' a b c e
    · have w := ct t m t0 t1 y
      have w2 := mt t m t0 t1 y m0 m1
      rw [w.1, w.2, w2.1, w2.2]
      refine ⟨z.1, z.2.1, z.2.2.1, fun t' a b c e => ?_⟩
      by_cases ts : t' = s
      · subst ts
        have nw := new m m0 m1
        have := nw.2 t t0 t1 y e.symm
        omega
      · rw [(ct t' m a b ts).1] at e
        exact z.2.2.2 t' a b c e
  · refine ⟨-1, A, k_wt A 120 0 0, ?_, ?_, p_fr0 r⟩
    · show gX8_book A s = _
      unfold gX8_book gX8_book_b0
      rw [h_X8isShow, k_bds, eS, p_bf h0, if_pos rfl]
    · show gX9_book A s = _
      unfold gX9_book gX9_book_b0
      rw [p_lt, h_X9isShow, k_bds, p_rwn (by omega), p_bf h0, if_pos rfl]
