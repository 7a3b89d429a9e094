/-! count -/
def n_c (A : k_H) (s n : Int) : Int := if k_rd A (72 + 8 * s + 3) n = -1 then 0 else 1
def n_m (A : k_H) (s n : Int) : Int := if 0 ≤ k_rd A 139 (14 * s + n) then 1 else 0
theorem c_nights1 {A : k_H} {s acc : Int} (K : k_H → Int → Int → Option (Int × k_H)) (hs : 0 ≤ s ∧ s < 6) (ha : 0 ≤ acc ∧ acc ≤ 1000) : gX8_nightsOnTours_h14 K k_FU A acc s 0 = K A (acc + p_sum (n_c A s) 14) (s + 1) := by
  have b : ∀ k : Nat, k ≤ 14 → 0 ≤ p_sum (n_c A s) k ∧ p_sum (n_c A s) k ≤ k * 1 := fun k hk => p_sumB k (fun i i0 i1 => by
    unfold n_c; split <;> omega)
  obtain ⟨N, hN⟩ := p_FU 15 (by decide)
  have e : N + 15 = (N + 1) + 14 := rfl
  have st := p_it (fun N (p : Int × Int) => gX8_nightsOnTours_h14 K N A p.1 s p.2) (fun k => (acc + p_sum (n_c A s) k, (k : Int))) 14 (fun N k hk => by
    show gX8_nightsOnTours_h14 K (N + 1) A (acc + p_sum (n_c A s) k) s k = gX8_nightsOnTours_h14 K N A (acc + (p_sum (n_c A s) k + n_c A s k)) s ((k + 1 : Nat) : Int)
    have b0 := b k (by omega)
    rw [gX8_nightsOnTours_h14, if_pos (by omega), if_pos (by omega), if_pos (by omega)]
    simp only [gX8_nightsOnTours_b38]
    rw [k_wr_of (x := (k : Int) + 1) (by omega) (by omega), k_wr_of (x := acc + _ + 1) (by omega) (by omega)]
    by_cases q : k_rd A (72 + 8 * s + 3) k = -1
    · have w : n_c A s k = 0 := if_pos q
      rw [if_pos q, w, Int.add_zero]; rfl
    · have w : n_c A s k = 1 := if_neg q
      rw [if_neg q, w, ← Int.add_assoc]; rfl) (N + 1)
  rw [hN, e]
  have z : acc = acc + p_sum (n_c A s) 0 := by show acc = acc + 0; omega
  have st2 : gX8_nightsOnTours_h14 K (N + 1 + 14) A (acc + p_sum (n_c A s) 0) s 0 = gX8_nightsOnTours_h14 K (N + 1) A (acc + p_sum (n_c A s) 14) s 14 := st
  rw [← z] at st2
  rw [st2, gX8_nightsOnTours_h14, if_neg (by omega), k_wr_of (by omega) (by omega)]
theorem c_nights {A : k_H} {n : Nat} (hn : (n : Int) = k_rd A 0 7) (hn6 : n ≤ 6) : gX8_nightsOnTours A = some (p_sum (fun s => p_sum (n_c A s) 14) n, A) := by
  unfold gX8_nightsOnTours gX8_nightsOnTours_b0
  have b : ∀ k : Nat, k ≤ 6 → 0 ≤ p_sum (fun s => p_sum (n_c A s) 14) k ∧ p_sum (fun s => p_sum (n_c A s) 14) k ≤ k * 14 := fun k hk => p_sumB k (fun s i0 i1 => by
    have := p_sumB (f := n_c A s) (B := 1) 14 (fun i i0 i1 => by unfold n_c; split <;> omega)
    omega)
  obtain ⟨N, hN⟩ := p_FU (n + 1) (by have : k_FU = 1073741824 := rfl; omega)
  have e : N + (n + 1) = (N + 1) + n := by omega
  have st := p_it (fun N (p : Int × Int) => gX8_nightsOnTours_h4 N A p.1 p.2) (fun k => (p_sum (fun s => p_sum (n_c A s) 14) k, (k : Int))) n (fun N k hk => by
    have b0 := b k (by omega)
    show gX8_nightsOnTours_h4 (N + 1) A (p_sum (fun s => p_sum (n_c A s) 14) k) k = gX8_nightsOnTours_h4 N A (p_sum (fun s => p_sum (n_c A s) 14) k + p_sum (n_c A k) 14) ((k + 1 : Nat) : Int)
    rw [gX8_nightsOnTours_h4, if_pos (by omega), c_nights1 _ (by omega) (by omega)]
    rfl) (N + 1)
  rw [hN, e]
  refine st.trans ?_
  show gX8_nightsOnTours_h4 (N + 1) A (p_sum (fun s => p_sum (n_c A s) 14) n) n = _
  rw [gX8_nightsOnTours_h4, if_neg (by omega)]
theorem m_nights1 {A : k_H} {s acc : Int} (K : k_H → Int → Int → Option (Int × k_H)) (hs : 0 ≤ s ∧ s < 6) (ha : 0 ≤ acc ∧ acc ≤ 1000) : gX9_count_h63 K k_FU A acc s 0 = K A (acc + p_sum (n_m A s) 14) (s + 1) := by
  have b : ∀ k : Nat, k ≤ 14 → 0 ≤ p_sum (n_m A s) k ∧ p_sum (n_m A s) k ≤ k * 1 := fun k hk => p_sumB k (fun i i0 i1 => by
    unfold n_m; split <;> omega)
  obtain ⟨N, hN⟩ := p_FU 15 (by decide)
  have e : N + 15 = (N + 1) + 14 := rfl
  have st := p_it (fun N (p : Int × Int) => gX9_count_h63 K N A p.1 s p.2) (fun k => (acc + p_sum (n_m A s) k, (k : Int))) 14 (fun N k hk => by
    show gX9_count_h63 K (N + 1) A (acc + p_sum (n_m A s) k) s k = gX9_count_h63 K N A (acc + (p_sum (n_m A s) k + n_m A s k)) s ((k + 1 : Nat) : Int)
    have b0 := b k (by omega)
    rw [gX9_count_h63, if_pos (by omega), k_wr_of (x := 14 * s) (by omega) (by omega), k_wr_of (x := 14 * s + k) (by omega) (by omega), if_pos (by omega)]
    simp only [gX9_count_b91]
    rw [k_wr_of (x := (k : Int) + 1) (by omega) (by omega), k_wr_of (x := acc + _ + 1) (by omega) (by omega), k_wr_of (x := acc + _ + 0) (by omega) (by omega)]
    by_cases q : 0 ≤ k_rd A 139 (14 * s + k)
    · have w : n_m A s k = 1 := if_pos q
      rw [if_pos q, w, ← Int.add_assoc]; rfl
    · have w : n_m A s k = 0 := if_neg q
      rw [if_neg q, w, ← Int.add_assoc]; rfl) (N + 1)
  rw [hN, e]
  have z : acc = acc + p_sum (n_m A s) 0 := by show acc = acc + 0; omega
  have st2 : gX9_count_h63 K (N + 1 + 14) A (acc + p_sum (n_m A s) 0) s 0 = gX9_count_h63 K (N + 1) A (acc + p_sum (n_m A s) 14) s 14 := st
  rw [← z] at st2
  rw [st2, gX9_count_h63, if_neg (by omega), k_wr_of (by omega) (by omega)]
theorem m_nights {A : k_H} {n : Nat} (hn : (n : Int) = k_rd A 120 21) (hn6 : n ≤ 6) : gX9_count_h52 k_FU A 0 0 = some (p_sum (fun s => p_sum (n_m A s) 14) n, A) := by
  have b : ∀ k : Nat, k ≤ 6 → 0 ≤ p_sum (fun s => p_sum (n_m A s) 14) k ∧ p_sum (fun s => p_sum (n_m A s) 14) k ≤ k * 14 := fun k hk => p_sumB k (fun s i0 i1 => by
    have := p_sumB (f := n_m A s) (B := 1) 14 (fun i i0 i1 => by unfold n_m; split <;> omega)
    omega)
  obtain ⟨N, hN⟩ := p_FU (n + 1) (by have : k_FU = 1073741824 := rfl; omega)
  have e : N + (n + 1) = (N + 1) + n := by omega
  have st := p_it (fun N (p : Int × Int) => gX9_count_h52 N A p.1 p.2) (fun k => (p_sum (fun s => p_sum (n_m A s) 14) k, (k : Int))) n (fun N k hk => by
    have b0 := b k (by omega)
    show gX9_count_h52 (N + 1) A (p_sum (fun s => p_sum (n_m A s) 14) k) k = gX9_count_h52 N A (p_sum (fun s => p_sum (n_m A s) 14) k + p_sum (n_m A k) 14) ((k + 1 : Nat) : Int)
    rw [gX9_count_h52, if_pos (by omega), m_nights1 _ (by omega) (by omega)]
    rfl) (N + 1)
  rw [hN, e]
  refine st.trans ?_
  show gX9_count_h52 (N + 1) A (p_sum (fun s => p_sum (n_m A s) 14) n) n = _
  rw [gX9_count_h52, if_neg (by omega)]
theorem o_count {A : k_H} {w : Int} (r : Rel A) : p_ok A (fun A => gX8_count A w) (fun A => gX9_count A w) := by
  have eS := r.2.2.2.1.1
  have hS := r.2.2.2.1.2.2.1
  have hS0 := r.2.2.2.1.2.1
  have hH1 := r.2.1.1
  have hT1 := r.1.1
  unfold p_ok
  simp only [gX8_count, gX8_count_b0, gX9_count, gX9_count_b0, p_lt]
  have hn : ((k_rd A 120 21).toNat : Int) = k_rd A 120 21 := by omega
  by_cases h0 : w < 0 ∨ 3 < w
  · exact ⟨-1, A, k_wt A 120 0 0, by rw [if_pos h0], by rw [if_pos h0], p_fr0 r⟩
  · simp only [if_neg h0]
    by_cases h1 : w = 0
    · exact ⟨k_rd A 120 20, A, k_wt A 120 0 0, by rw [if_pos h1, hH1], by rw [if_pos h1, p_rwn (by omega)], p_fr0 r⟩
    · simp only [if_neg h1]
      by_cases h2 : w = 1
      · exact ⟨k_rd A 120 21, A, k_wt A 120 0 0, by rw [if_pos h2, eS], by rw [if_pos h2, p_rwn (by omega)], p_fr0 r⟩
      · simp only [if_neg h2]
        by_cases h3 : w = 2
        · refine ⟨p_sum (fun s => p_sum (n_c A s) 14) (k_rd A 120 21).toNat, A, k_wt A 120 0 0, ?_, ?_, p_fr0 r⟩
          · rw [if_pos h3, c_nights (n := (k_rd A 120 21).toNat) (by omega) (by omega), k_bds]
          · rw [if_pos h3, m_nights (n := (k_rd A 120 21).toNat) (by rw [p_rwn (by omega)]; omega) (by omega)]
            rw [p_sumE (g := fun s => p_sum (n_c A s) 14) _ (fun s s0 s1 => p_sumE 14 (fun i i0 i1 => by
              have q := r.2.2.2.2.1 s i s0 (by omega) i0 i1
              have q1 := q.1 (by omega)
              unfold n_m n_c
              rw [p_rwn (by omega), ← q1.1]
              by_cases z : k_rd A (72 + 8 * s + 3) i = -1
              · rw [if_pos z, if_neg (by omega)]
              · rw [if_neg z, if_pos (by omega)]))]
        · exact ⟨k_rd A 120 2, A, k_wt A 120 0 0, by rw [if_neg h3, hT1], by rw [if_neg h3, p_rwn (by omega)], p_fr0 r⟩
/-! feed -/
def t_c (x : Int × Int) : Int := k_and (k_ushr x.1 x.2) 255
def t_m (x : Int × Int) : Int := k_b8 (k_b8 (k_shr x.1 x.2))
def t_ap (f : Int → Int) (L : Int) : List Int → Int → Int
  | [] => f
  | b :: bs => t_ap (fun i => if i = L then b else f i) (L + 1) bs
def t_4 (v : Int) : List (Int × Int) := [(v, 24), (v, 16), (v, 8), (v, 0)]
theorem c_step {A : k_H} {v s L : Int} (N : Nat) (hL : k_rd A 1 1 = L) (h0 : 0 ≤ L ∧ L < 200) (hs : 0 ≤ s ∧ s ≤ 24) : gX5_append_h3 (N + 1) A 1 v s = gX5_append_h3 N (k_wt (k_wt A 2 L (t_c (v, s))) 1 1 (L + 1)) 1 v (s - 8) := by
  rw [gX5_append_h3, if_pos hs.1, hL, if_pos h0.2, if_pos (by omega)]
  simp only [p_lt]
  rw [p_rwn (by omega), hL, k_wr_of (x := L + 1) (by omega) (by omega), k_wr_of (x := s + -8) (by omega) (by omega)]
  rfl
theorem c_app {A : k_H} {v L : Int} (hL : k_rd A 1 1 = L) (h0 : 0 ≤ L ∧ L + 4 ≤ 200) : ∃ W, gX5_append A 1 v = some (0, W) ∧ k_rd W 1 1 = L + 4 ∧ k_rd W 2 = t_ap (k_rd A 2) L ((t_4 v).map t_c) ∧ ∀ a i, a ≠ 1 → a ≠ 2 → k_rd W a i = k_rd A a i := by
  obtain ⟨N, hN⟩ := p_FU 5 (by decide)
  refine ⟨k_wt (k_wt (k_wt (k_wt (k_wt (k_wt (k_wt (k_wt A 2 L (t_c (v, 24))) 1 1 (L + 1)) 2 (L + 1) (t_c (v, 16))) 1 1 (L + 1 + 1)) 2 (L + 1 + 1) (t_c (v, 8))) 1 1 (L + 1 + 1 + 1)) 2 (L + 1 + 1 + 1) (t_c (v, 0))) 1 1 (L + 1 + 1 + 1 + 1), ?_, ?_, ?_, ?_⟩
  · unfold gX5_append gX5_append_b0
    rw [hN, show N + 5 = N + 1 + 1 + 1 + 1 + 1 from rfl, c_step _ hL (by omega) (by omega), c_step _ p_rwe (by omega) (by omega), c_step _ p_rwe (by omega) (by omega), c_step _ p_rwe (by omega) (by omega), gX5_append_h3, if_neg (by omega)]; rfl
  · rw [p_rwe]; omega
  · funext i
    simp only [t_4, List.map, t_ap, p_rw]
    simp
  · intro a i h1 h2
    rw [p_rwn (by omega), p_rwn (by omega), p_rwn (by omega), p_rwn (by omega), p_rwn (by omega), p_rwn (by omega), p_rwn (by omega), p_rwn (by omega)]
theorem m_step {A : k_H} {v s L : Int} (N : Nat) (hL : k_rd A 120 2 = L) (h0 : 0 ≤ L ∧ L < 200) (hs : 0 ≤ s ∧ s ≤ 24) : gX9_four_h3 (N + 1) A v s = gX9_four_h3 N (k_wt (k_wt A 121 L (t_m (v, s))) 120 2 (L + 1)) v (s - 8) := by
  rw [gX9_four_h3, if_pos hs.1, hL, if_pos (by omega)]
  simp only [p_lt]
  rw [p_rwn (by omega), hL, k_wr_of (x := L + 1) (by omega) (by omega), k_wr_of (x := s + -8) (by omega) (by omega)]
  rfl
theorem m_app {A : k_H} {v L : Int} (hL : k_rd A 120 2 = L) (h0 : 0 ≤ L ∧ L + 4 ≤ 200) : ∃ W, gX9_four A v = some (0, W) ∧ k_rd W 120 2 = L + 4 ∧ k_rd W 121 = t_ap (k_rd A 121) L ((t_4 v).map t_m) ∧ ∀ a i, a ≠ 121 → (a ≠ 120 ∨ i ≠ 2) → k_rd W a i = k_rd A a i := by
  obtain ⟨N, hN⟩ := p_FU 5 (by decide)
  refine ⟨k_wt (k_wt (k_wt (k_wt (k_wt (k_wt (k_wt (k_wt A 121 L (t_m (v, 24))) 120 2 (L + 1)) 121 (L + 1) (t_m (v, 16))) 120 2 (L + 1 + 1)) 121 (L + 1 + 1) (t_m (v, 8))) 120 2 (L + 1 + 1 + 1)) 121 (L + 1 + 1 + 1) (t_m (v, 0))) 120 2 (L + 1 + 1 + 1 + 1), ?_, ?_, ?_, ?_⟩
  · unfold gX9_four gX9_four_b0
    rw [hN, show N + 5 = N + 1 + 1 + 1 + 1 + 1 from rfl, m_step _ hL (by omega) (by omega), m_step _ p_rwe (by omega) (by omega), m_step _ p_rwe (by omega) (by omega), m_step _ p_rwe (by omega) (by omega), gX9_four_h3, if_neg (by omega)]; rfl
  · rw [p_rwe]; omega
  · funext i
    simp only [t_4, List.map, t_ap, p_rw]
    simp
  · intro a i h1 h2
    rw [p_rwn (by omega), p_rwn (by omega), p_rwn (by omega), p_rwn (by omega), p_rwn (by omega), p_rwn (by omega), p_rwn (by omega), p_rwn (by omega)]
def t_P (b m : Int) : Prop := b = m % 256 ∧ (m = 0 ↔ b = 0)
theorem t_apP {f g : Int → Int} : ∀ (xs : List (Int × Int)) (f g : Int → Int) (L : Int), 0 ≤ L → L + xs.length ≤ 200 → (∀ i : Int, 0 ≤ i → i < 200 → t_P (f i) (g i)) → (∀ x ∈ xs, t_P (t_c x) (t_m x)) → ∀ i : Int, 0 ≤ i → i < 200 → t_P (t_ap f L (xs.map t_c) i) (t_ap g L (xs.map t_m) i) := by
  intro xs
  induction xs with
  | nil => intro f g L _ _ h _ i i0 i1; exact h i i0 i1
  | cons x xs ih =>
    intro f g L hL hl h hx i i0 i1
    refine ih _ _ (L + 1) (by omega) (by have : ((x :: xs).length : Int) = xs.length + 1 := by simp
                                         omega) (fun j j0 j1 => ?_) (fun y hy => hx y (List.mem_cons_of_mem _ hy)) i i0 i1
    by_cases e : j = L
    · simp only [if_pos e]; exact hx x (List.mem_cons_self ..)
    · simp only [if_neg e]; exact h j j0 j1
theorem t_app (xs ys : List Int) : ∀ (f : Int → Int) (L : Int), t_ap (t_ap f L xs) (L + xs.length) ys = t_ap f L (xs ++ ys) := by
  induction xs with
  | nil => intro f L; simp [t_ap]
  | cons x xs ih =>
    intro f L
    show t_ap (t_ap (fun i => if i = L then x else f i) (L + 1) xs) (L + ((xs.length + 1 : Nat) : Int)) ys = t_ap (fun i => if i = L then x else f i) (L + 1) (xs ++ ys)
    rw [← ih]
    congr 1
    omega
theorem t_4P {v : Int} (hv : -2147483648 ≤ v ∧ v < 2147483648) : ∀ x ∈ t_4 v, t_P (t_c x) (t_m x) := by
  intro x hx
  have hs : x = (v, 24) ∨ x = (v, 16) ∨ x = (v, 8) ∨ x = (v, 0) := by simpa [t_4] using hx
  rcases hs with h | h | h | h <;> subst h <;> exact p_ub hv (by omega)
theorem o_feed {A : k_H} {a b c d e : Int} (r : Rel A) (ha : -2147483648 ≤ a ∧ a < 2147483648) (hb : -2147483648 ≤ b ∧ b < 2147483648) (hc : -2147483648 ≤ c ∧ c < 2147483648) (hd : -2147483648 ≤ d ∧ d < 2147483648) (he : -2147483648 ≤ e ∧ e < 2147483648) : p_ok A (fun A => gX8_feed A a b c d e) (fun A => gX9_feed A a b c d e) := by
  have hT := r.1
  have e1 := hT.1
  have e2 := hT.2.1
  have e3 := hT.2.2.1
  unfold p_ok
  simp only [gX8_feed, gX8_feed_b0, gX9_feed, gX9_feed_b0, p_lt]
  rw [e1, k_wr_of (x := k_rd A 120 2 + 20) (by omega) (by omega)]
  by_cases h0 : 200 < k_rd A 120 2 + 20
  · exact ⟨-1, A, k_wt A 120 0 0, by rw [if_pos h0], by rw [p_rwn (by omega), k_wr_of (by omega) (by omega), if_pos h0], p_fr0 r⟩
  · rw [if_neg h0]
    obtain ⟨B1, b1, l1, f1, g1⟩ := c_app (v := a) e1 (by omega)
    obtain ⟨B2, b2, l2, f2, g2⟩ := c_app (v := b) l1 (by omega)
    obtain ⟨B3, b3, l3, f3, g3⟩ := c_app (v := c) l2 (by omega)
    obtain ⟨B4, b4, l4, f4, g4⟩ := c_app (v := d) l3 (by omega)
    obtain ⟨B5, b5, l5, f5, g5⟩ := c_app (v := e) l4 (by omega)
    have g : ∀ x i, x ≠ 1 → x ≠ 2 → k_rd B5 x i = k_rd A x i := fun x i p q => by rw [g5 x i p q, g4 x i p q, g3 x i p q, g2 x i p q, g1 x i p q]
    have q0 : k_rd (k_wt B5 120 0 0) 120 2 = k_rd A 120 2 := by rw [p_rwn (by omega), g _ _ (by omega) (by omega)]
    obtain ⟨C1, c1, m1, n1, o1⟩ := m_app (v := a) q0 (by omega)
    obtain ⟨C2, c2, m2, n2, o2⟩ := m_app (v := b) m1 (by omega)
    obtain ⟨C3, c3, m3, n3, o3⟩ := m_app (v := c) m2 (by omega)
    obtain ⟨C4, c4, m4, n4, o4⟩ := m_app (v := d) m3 (by omega)
    obtain ⟨C5, c5, m5, n5, o5⟩ := m_app (v := e) m4 (by omega)
    have o : ∀ x i, x ≠ 121 → (x ≠ 120 ∨ i ≠ 2) → k_rd C5 x i = k_rd (k_wt B5 120 0 0) x i := fun x i p q => by rw [o5 x i p q, o4 x i p q, o3 x i p q, o2 x i p q, o1 x i p q]
    refine ⟨k_rd A 120 2 + 20, B5, C5, ?_, ?_, ?_⟩
    · rw [b1, k_bds, b2, k_bds, b3, k_bds, b4, k_bds, b5, k_bds, l5]
      congr 2; omega
    · rw [q0, k_wr_of (by omega) (by omega), if_neg h0, c1, k_bds, c2, k_bds, c3, k_bds, c4, k_bds, c5, k_bds, m5]
      congr 2; omega
    · have ag : ∀ {P : Int → Int → Prop}, (∀ i, ¬ P 1 i) → (∀ i, ¬ P 2 i) → (∀ i, ¬ P 121 i) → ¬ P 120 2 → ¬ P 120 0 → p_ag P A C5 := by
        intro P h1 h2 h3 h4 h5 x i p
        rw [o x i (by rintro rfl; exact h3 i p) (by by_cases z : x = 120
                                                    · right; rintro rfl; exact h4 (z ▸ p)
                                                    · left; exact z), p_rw, if_neg (by rintro ⟨rfl, rfl⟩; exact h5 p), g x i (by rintro rfl; exact h1 i p) (by rintro rfl; exact h2 i p)]
      refine ⟨?_, p_fH (ag (by unfold p_H; omega) (by unfold p_H; omega) (by unfold p_H; omega) (by unfold p_H; omega) (by unfold p_H; omega)) r.2.1, p_fG (ag (by unfold p_G; omega) (by unfold p_G; omega) (by unfold p_G; omega) (by unfold p_G; omega) (by unfold p_G; omega)) r.2.2.1, p_fS (ag (by unfold p_S; omega) (by unfold p_S; omega) (by unfold p_S; omega) (by unfold p_S; omega) (by unfold p_S; omega)) r.2.2.2.1, p_fL (ag (by unfold p_L; omega) (by unfold p_L; omega) (by unfold p_L; omega) (by unfold p_L; omega) (by unfold p_L; omega)) r.2.2.2.2.1, p_fM (ag (by unfold p_M; omega) (by unfold p_M; omega) (by unfold p_M; omega) (by unfold p_M; omega) (by unfold p_M; omega)) r.2.2.2.2.2.1, p_fF (ag (by unfold p_F; omega) (by unfold p_F; omega) (by unfold p_F; omega) (by unfold p_F; omega) (by unfold p_F; omega)) r.2.2.2.2.2.2⟩
      refine ⟨?_, by omega, by omega, ?_⟩
      · rw [m5, o 1 1 (by omega) (by omega), p_rwn (by omega), l5]
      · have y0 : k_rd C5 2 = k_rd B5 2 := by funext i; rw [o 2 i (by omega) (by omega), p_rwn (by omega)]
        have y1 : k_rd (k_wt B5 120 0 0) 121 = k_rd A 121 := by funext i; rw [p_rwn (by omega), g _ _ (by omega) (by omega)]
        have l4 : ∀ v, ((t_4 v).map t_c).length = 4 := fun v => rfl
        have l4' : ∀ v, ((t_4 v).map t_m).length = 4 := fun v => rfl
        have P0 : ∀ i : Int, 0 ≤ i → i < 200 → t_P (k_rd A 2 i) (k_rd A 121 i) := hT.2.2.2
        have P1 := t_apP (f := id) (g := id) (t_4 a) _ _ (k_rd A 120 2) e2 (by show k_rd A 120 2 + 4 ≤ 200; omega) P0 (t_4P ha)
        rw [← f1, ← y1, ← n1] at P1
        have P2 := t_apP (f := id) (g := id) (t_4 b) _ _ (k_rd A 120 2 + 4) (by omega) (by show k_rd A 120 2 + 4 + 4 ≤ 200; omega) P1 (t_4P hb)
        rw [← f2, ← n2] at P2
        have P3 := t_apP (f := id) (g := id) (t_4 c) _ _ (k_rd A 120 2 + 4 + 4) (by omega) (by show k_rd A 120 2 + 4 + 4 + 4 ≤ 200; omega) P2 (t_4P hc)
        rw [← f3, ← n3] at P3
        have P4 := t_apP (f := id) (g := id) (t_4 d) _ _ (k_rd A 120 2 + 4 + 4 + 4) (by omega) (by show k_rd A 120 2 + 4 + 4 + 4 + 4 ≤ 200; omega) P3 (t_4P hd)
        rw [← f4, ← n4] at P4
        have P5 := t_apP (f := id) (g := id) (t_4 e) _ _ (k_rd A 120 2 + 4 + 4 + 4 + 4) (by omega) (by show k_rd A 120 2 + 4 + 4 + 4 + 4 + 4 ≤ 200; omega) P4 (t_4P he)
        rw [← f5, ← n5] at P5
        rw [y0]
        exact P5
